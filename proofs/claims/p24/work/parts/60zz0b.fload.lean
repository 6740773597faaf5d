/-! what reading a text writes (printed) -/
def SLc (k _ : Nat) : Prop := k = 2 ∨ k = 3 ∨ (13 ≤ k ∧ k ≤ 20)
section FFldc
variable {M0 : Mem}
theorem wX1_putSheet {k0 : Nat} {x1 : Int32} {x2 : Int32} {x3 : Int32} {M : Mem} (wk0 : k0 = 13) (hM : KS SLc M0 M) : Fr SLc M0 (mX1_putSheet k0 x1 x2 x3 M) := by
  unfold mX1_putSheet
  exact (Fr.bw (by unfold SLc; omega) hM (fun M1 hM1 => (Fr.bw (by unfold SLc; omega) hM1 (fun M3 hM3 => (Fr.bw (by unfold SLc; omega) hM3 (fun M5 hM5 => (Fr.ok hM5)))))))
theorem wX1_putTool {k0 : Nat} {x1 : Int32} {x2 : Int32} {x3 : Int32} {M : Mem} (wk0 : k0 = 13) (hM : KS SLc M0 M) : Fr SLc M0 (mX1_putTool k0 x1 x2 x3 M) := by
  unfold mX1_putTool
  exact (Fr.i (Fr.ok hM) (Fr.i (Fr.ok hM) (Fr.k (Fr.bw (by unfold SLc; omega) hM (fun M5 hM5 => (Fr.k (Fr.bw (by unfold SLc; omega) hM5 (fun M8 hM8 => (Fr.ok hM8)))))))))
theorem wX1_putCosts {k0 : Nat} {x1 : Int32} {x2 : Int32} {x3 : Int32} {M : Mem} (wk0 : k0 = 13) (hM : KS SLc M0 M) : Fr SLc M0 (mX1_putCosts k0 x1 x2 x3 M) := by
  unfold mX1_putCosts
  exact (Fr.bw (by unfold SLc; omega) hM (fun M1 hM1 => (Fr.bw (by unfold SLc; omega) hM1 (fun M3 hM3 => (Fr.bw (by unfold SLc; omega) hM3 (fun M5 hM5 => (Fr.ok hM5)))))))
theorem wX1_dropSteps {k0 : Nat} {M : Mem} (wk0 : k0 = 13) (hM : KS SLc M0 M) : Fr SLc M0 (mX1_dropSteps k0 M) := by
  unfold mX1_dropSteps
  exact (Fr.bw (by unfold SLc; omega) hM (fun M1 hM1 => (Fr.bw (by unfold SLc; omega) hM1 (fun M3 hM3 => (Fr.ok hM3)))))
theorem wX1_clear {k0 : Nat} {M : Mem} (wk0 : k0 = 13) (hM : KS SLc M0 M) : Fr SLc M0 (mX1_clear k0 M) := by
  unfold mX1_clear
  exact (Fr.bw (by unfold SLc; omega) hM (fun M1 hM1 => (Fr.bw (by unfold SLc; omega) hM1 (fun M3 hM3 => (Fr.bw (by unfold SLc; omega) hM3 (fun M5 hM5 => (Fr.m (wX1_putSheet (by omega) hM5) (fun M9 _ hM9 => (Fr.m (wX1_putTool (by omega) hM9) (fun M12 _ hM12 => (Fr.m (wX1_putTool (by omega) hM12) (fun M15 _ hM15 => (Fr.m (wX1_putTool (by omega) hM15) (fun M18 _ hM18 => (Fr.m (wX1_putTool (by omega) hM18) (fun M21 _ hM21 => (Fr.m (wX1_putTool (by omega) hM21) (fun M24 _ hM24 => (Fr.m (wX1_putCosts (by omega) hM24) (fun M27 _ hM27 => (Fr.m (wX1_dropSteps (by omega) hM27) (fun M30 _ hM30 => (Fr.ok hM30)))))))))))))))))))))))
theorem wX1_addBack {k0 : Nat} {x1 : Int32} {x2 : Int32} {M : Mem} (wk0 : k0 = 13) (hM : KS SLc M0 M) : Fr SLc M0 (mX1_addBack k0 x1 x2 M) := by
  unfold mX1_addBack
  exact (Fr.i (Fr.ok hM) (Fr.k (Fr.bw (by unfold SLc; omega) hM (fun M4 hM4 => (Fr.k (Fr.bw (by unfold SLc; omega) hM4 (fun M7 hM7 => (Fr.bw (by unfold SLc; omega) hM7 (fun M8 hM8 => (Fr.ok hM8))))))))))
theorem wX1_addLeg_b47 {k0 : Nat} {M : Mem} (wk0 : k0 = 13) (hM : KS SLc M0 M) : Fr SLc M0 (mX1_addLeg_b47 k0 M) := by
  unfold mX1_addLeg_b47
  exact (Fr.bw (by unfold SLc; omega) hM (fun M6 hM6 => (Fr.ok hM6)))
theorem wX1_addLeg {k0 : Nat} {x1 : Int32} {x2 : Int32} {M : Mem} (wk0 : k0 = 13) (hM : KS SLc M0 M) : Fr SLc M0 (mX1_addLeg k0 x1 x2 M) := by
  unfold mX1_addLeg
  exact (Fr.i (Fr.ok hM) (Fr.k (Fr.bw (by unfold SLc; omega) hM (fun M4 hM4 => (Fr.i (wX1_addLeg_b47 (by omega) hM4) (Fr.i (wX1_addLeg_b47 (by omega) hM4) (Fr.bw (by unfold SLc; omega) hM4 (fun M9 hM9 => (wX1_addLeg_b47 (by omega) hM9)))))))))
theorem wX4_takeWord_b39 {k0 : Nat} {M : Mem} (wk0 : k0 = 2) (hM : KS SLc M0 M) : Fr SLc M0 (mX4_takeWord_b39 k0 M) := by
  unfold mX4_takeWord_b39
  exact (Fr.i (Fr.bw (by unfold SLc; omega) hM (fun M3 hM3 => (Fr.ok hM3))) (Fr.bw (by unfold SLc; omega) hM (fun M5 hM5 => (Fr.ok hM5))))
theorem wX4_takeWord_b0 {k0 : Nat} {ih0 : Mem → Option (Mem × Unit)} {M : Mem} (wk0 : k0 = 2) (hih0 : ∀ (v0 : Mem), KS SLc M0 v0 → Fr SLc M0 (ih0 v0)) (hM : KS SLc M0 M) : Fr SLc M0 (mX4_takeWord_b0 k0 ih0 M) := by
  unfold mX4_takeWord_b0
  exact (Fr.i (wX4_takeWord_b39 (by omega) hM) (Fr.k (Fr.k (Fr.c (fun r10 => (Fr.i (wX4_takeWord_b39 (by omega) hM) (Fr.bw (by unfold SLc; omega) hM (fun M13 hM13 => (hih0 _ hM13)))))))))
theorem wX4_takeWord_l0_n {k0 : Nat} (wk0 : k0 = 2) : ∀ (n : Nat) (v0 : Mem), KS SLc M0 v0 → Fr SLc M0 (mX4_takeWord_l0 k0 n v0) := by
  intro n
  induction n with
  | zero => intro v0 h; exact Fr.n
  | succ n IH => intro v0 h; exact wX4_takeWord_b0 (by omega) IH h
theorem wX4_takeWord_l0 {k0 : Nat} {v0 : Mem} (wk0 : k0 = 2) {n : Nat} (h : KS SLc M0 v0) : Fr SLc M0 (mX4_takeWord_l0 k0 n v0) := wX4_takeWord_l0_n wk0  n v0 h
theorem wX4_takeWord {k0 : Nat} {M : Mem} (wk0 : k0 = 2) (hM : KS SLc M0 M) : Fr SLc M0 (mX4_takeWord k0 M) := by
  unfold mX4_takeWord
  exact (wX4_takeWord_l0 (by omega) hM)
theorem wX4_takeNumber_b76 {k0 : Nat} {M : Mem} (wk0 : k0 = 2) (hM : KS SLc M0 M) : Fr SLc M0 (mX4_takeNumber_b76 k0 M) := by
  unfold mX4_takeNumber_b76
  exact (Fr.i (Fr.bw (by unfold SLc; omega) hM (fun M3 hM3 => (Fr.ok hM3))) (Fr.bw (by unfold SLc; omega) hM (fun M5 hM5 => (Fr.ok hM5))))
theorem wX4_takeNumber_b63 {k0 : Nat} {ih0 : Mem → Option (Mem × Unit)} {M : Mem} (wk0 : k0 = 2) (hih0 : ∀ (v0 : Mem), KS SLc M0 v0 → Fr SLc M0 (ih0 v0)) (hM : KS SLc M0 M) : Fr SLc M0 (mX4_takeNumber_b63 k0 ih0 M) := by
  unfold mX4_takeNumber_b63
  exact (Fr.bw (by unfold SLc; omega) hM (fun M14 hM14 => (hih0 _ hM14)))
theorem wX4_takeNumber_b0 {k0 : Nat} {ih0 : Mem → Option (Mem × Unit)} {M : Mem} (wk0 : k0 = 2) (hih0 : ∀ (v0 : Mem), KS SLc M0 v0 → Fr SLc M0 (ih0 v0)) (hM : KS SLc M0 M) : Fr SLc M0 (mX4_takeNumber_b0 k0 ih0 M) := by
  unfold mX4_takeNumber_b0
  exact (Fr.i (wX4_takeNumber_b76 (by omega) hM) (Fr.k (Fr.k (Fr.c (fun r10 => (Fr.i (wX4_takeNumber_b76 (by omega) hM) (Fr.i (wX4_takeNumber_b63 (by omega) hih0 hM) (Fr.k (Fr.k (Fr.bw (by unfold SLc; omega) hM (fun M18 hM18 => (wX4_takeNumber_b63 (by omega) hih0 hM18))))))))))))
theorem wX4_takeNumber_l0_n {k0 : Nat} (wk0 : k0 = 2) : ∀ (n : Nat) (v0 : Mem), KS SLc M0 v0 → Fr SLc M0 (mX4_takeNumber_l0 k0 n v0) := by
  intro n
  induction n with
  | zero => intro v0 h; exact Fr.n
  | succ n IH => intro v0 h; exact wX4_takeNumber_b0 (by omega) IH h
theorem wX4_takeNumber_l0 {k0 : Nat} {v0 : Mem} (wk0 : k0 = 2) {n : Nat} (h : KS SLc M0 v0) : Fr SLc M0 (mX4_takeNumber_l0 k0 n v0) := wX4_takeNumber_l0_n wk0  n v0 h
theorem wX4_takeNumber {k0 : Nat} {M : Mem} (wk0 : k0 = 2) (hM : KS SLc M0 M) : Fr SLc M0 (mX4_takeNumber k0 M) := by
  unfold mX4_takeNumber
  exact (wX4_takeNumber_l0 (by omega) hM)
theorem wX4_nextToken_b143 {k0 : Nat} {y1 : Int32} {M : Mem} (wk0 : k0 = 2) (hM : KS SLc M0 M) : Fr SLc M0 (mX4_nextToken_b143 k0 y1 M) := by
  unfold mX4_nextToken_b143
  exact (Fr.bw (by unfold SLc; omega) hM (fun M24 hM24 => (Fr.bw (by unfold SLc; omega) hM24 (fun M26 hM26 => (Fr.ok hM26)))))
theorem wX4_nextToken_b47 {k0 : Nat} {M : Mem} (wk0 : k0 = 2) (hM : KS SLc M0 M) : Fr SLc M0 (mX4_nextToken_b47 k0 M) := by
  unfold mX4_nextToken_b47
  exact (Fr.bw (by unfold SLc; omega) hM (fun M4 hM4 => (Fr.bw (by unfold SLc; omega) hM4 (fun M6 hM6 => (Fr.i (Fr.k (Fr.k (Fr.c (fun r12 => (Fr.i (Fr.k (Fr.k (Fr.c (fun r18 => (Fr.i (Fr.k (Fr.k (Fr.i (wX4_nextToken_b143 (by omega) hM6) (wX4_nextToken_b143 (by omega) hM6)))) (Fr.m (wX4_takeNumber (by omega) hM6) (fun M30 _ hM30 => (Fr.ok hM30)))))))) (Fr.m (wX4_takeWord (by omega) hM6) (fun M33 _ hM33 => (Fr.ok hM33)))))))) (Fr.bw (by unfold SLc; omega) hM6 (fun M34 hM34 => (Fr.ok hM34))))))))
theorem wX4_nextToken_b8 {k0 : Nat} {ih8 : Mem → Option (Mem × Unit)} {M : Mem} (wk0 : k0 = 2) (hih8 : ∀ (v0 : Mem), KS SLc M0 v0 → Fr SLc M0 (ih8 v0)) (hM : KS SLc M0 M) : Fr SLc M0 (mX4_nextToken_b8 k0 ih8 M) := by
  unfold mX4_nextToken_b8
  exact (Fr.i (wX4_nextToken_b47 (by omega) hM) (Fr.k (Fr.k (Fr.c (fun r39 => (Fr.i (wX4_nextToken_b47 (by omega) hM) (Fr.bw (by unfold SLc; omega) hM (fun M42 hM42 => (hih8 _ hM42)))))))))
theorem wX4_nextToken_l8_n {k0 : Nat} (wk0 : k0 = 2) : ∀ (n : Nat) (v0 : Mem), KS SLc M0 v0 → Fr SLc M0 (mX4_nextToken_l8 k0 n v0) := by
  intro n
  induction n with
  | zero => intro v0 h; exact Fr.n
  | succ n IH => intro v0 h; exact wX4_nextToken_b8 (by omega) IH h
theorem wX4_nextToken_l8 {k0 : Nat} {v0 : Mem} (wk0 : k0 = 2) {n : Nat} (h : KS SLc M0 v0) : Fr SLc M0 (mX4_nextToken_l8 k0 n v0) := wX4_nextToken_l8_n wk0  n v0 h
theorem wX4_nextToken {k0 : Nat} {M : Mem} (wk0 : k0 = 2) (hM : KS SLc M0 M) : Fr SLc M0 (mX4_nextToken k0 M) := by
  unfold mX4_nextToken
  exact (Fr.bw (by unfold SLc; omega) hM (fun M1 hM1 => (wX4_nextToken_l8 (by omega) hM1)))
theorem wX4_accept_b139 {k0 : Nat} {k1 : Nat} {k2 : Nat} {y1 : Int32} {y2 : Int32} {M : Mem} (wk2 : k2 = 13) (hM : KS SLc M0 M) : Fr SLc M0 (mX4_accept_b139 k0 k1 k2 y1 y2 M) := by
  unfold mX4_accept_b139
  exact (Fr.m (wX1_addLeg (by omega) hM) (fun M12 _ hM12 => (Fr.ok hM12)))
theorem wX4_accept {k0 : Nat} {k1 : Nat} {k2 : Nat} {M : Mem} (wk2 : k2 = 13) (hM : KS SLc M0 M) : Fr SLc M0 (mX4_accept k0 k1 k2 M) := by
  unfold mX4_accept
  exact (Fr.c (fun r2 => (Fr.i (Fr.i (Fr.k (Fr.k (Fr.k (Fr.m (wX1_putSheet (by omega) hM) (fun M29 _ hM29 => (Fr.ok hM29)))))) (Fr.i (Fr.k (Fr.k (Fr.k (Fr.m (wX1_putCosts (by omega) hM) (fun M23 _ hM23 => (Fr.ok hM23)))))) (Fr.i (Fr.k (Fr.k (Fr.m (wX1_addBack (by omega) hM) (fun M17 _ hM17 => (Fr.ok hM17))))) (Fr.k (Fr.i (wX4_accept_b139 (by omega) hM) (wX4_accept_b139 (by omega) hM)))))) (Fr.k (Fr.k (Fr.m (wX1_putTool (by omega) hM) (fun M34 _ hM34 => (Fr.ok hM34))))))))
theorem wX4_readStatement_b148 {k0 : Nat} {k1 : Nat} {x3 : Int32} {M : Mem} (wk0 : k0 = 2) (hM : KS SLc M0 M) : Fr SLc M0 (mX4_readStatement_b148 k0 k1 x3 M) := by
  unfold mX4_readStatement_b148
  exact (Fr.bw (by unfold SLc; omega) hM (fun M8 hM8 => (Fr.bw (by unfold SLc; omega) hM8 (fun M10 hM10 => (Fr.ok hM10)))))
theorem wX4_readStatement_b131 {k0 : Nat} {k1 : Nat} {x3 : Int32} {M : Mem} (wk0 : k0 = 2) (hM : KS SLc M0 M) : Fr SLc M0 (mX4_readStatement_b131 k0 k1 x3 M) := by
  unfold mX4_readStatement_b131
  exact (Fr.i (wX4_readStatement_b148 (by omega) hM) (wX4_readStatement_b148 (by omega) hM))
theorem wX4_readStatement_b110 {k0 : Nat} {k1 : Nat} {ih55 : Int32 → Int32 → Mem → Option (Mem × Unit)} {x3 : Int32} {x4 : Int32} {M : Mem} (hih55 : ∀ (v0 : Int32) (v1 : Int32) (v2 : Mem), KS SLc M0 v2 → Fr SLc M0 (ih55 v0 v1 v2)) (hM : KS SLc M0 M) : Fr SLc M0 (mX4_readStatement_b110 k0 k1 ih55 x3 x4 M) := by
  unfold mX4_readStatement_b110
  exact (Fr.b (fun x4_110 => (hih55 _ _ _ hM)))
theorem wX4_readStatement_b55 {k0 : Nat} {k1 : Nat} {ih55 : Int32 → Int32 → Mem → Option (Mem × Unit)} {x3 : Int32} {x4 : Int32} {M : Mem} (wk0 : k0 = 2) (hih55 : ∀ (v0 : Int32) (v1 : Int32) (v2 : Mem), KS SLc M0 v2 → Fr SLc M0 (ih55 v0 v1 v2)) (hM : KS SLc M0 M) : Fr SLc M0 (mX4_readStatement_b55 k0 k1 ih55 x3 x4 M) := by
  unfold mX4_readStatement_b55
  exact (Fr.i (Fr.i (Fr.m (wX4_nextToken (by omega) hM) (fun M14 _ hM14 => (Fr.c (fun r16 => (wX4_readStatement_b131 (by omega) hM14))))) (wX4_readStatement_b131 (by omega) hM)) (Fr.k (Fr.bw (by unfold SLc; omega) hM (fun M20 hM20 => (Fr.i (wX4_readStatement_b110 hih55 hM20) (wX4_readStatement_b110 hih55 hM20))))))
theorem wX4_readStatement_l55_n {k0 : Nat} {k1 : Nat} (wk0 : k0 = 2) : ∀ (n : Nat) (v0 : Int32) (v1 : Int32) (v2 : Mem), KS SLc M0 v2 → Fr SLc M0 (mX4_readStatement_l55 k0 k1 n v0 v1 v2) := by
  intro n
  induction n with
  | zero => intro v0 v1 v2 h; exact Fr.n
  | succ n IH => intro v0 v1 v2 h; exact wX4_readStatement_b55 (by omega) IH h
theorem wX4_readStatement_l55 {k0 : Nat} {k1 : Nat} {v0 : Int32} {v1 : Int32} {v2 : Mem} (wk0 : k0 = 2) {n : Nat} (h : KS SLc M0 v2) : Fr SLc M0 (mX4_readStatement_l55 k0 k1 n v0 v1 v2) := wX4_readStatement_l55_n wk0  n v0 v1 v2 h
theorem wX4_readStatement_b51 {k0 : Nat} {k1 : Nat} {y0 : Int32} {M : Mem} (wk0 : k0 = 2) (hM : KS SLc M0 M) : Fr SLc M0 (mX4_readStatement_b51 k0 k1 y0 M) := by
  unfold mX4_readStatement_b51
  exact (wX4_readStatement_l55 (by omega) hM)
theorem wX4_readStatement_b32 {k0 : Nat} {k1 : Nat} {M : Mem} (wk0 : k0 = 2) (hM : KS SLc M0 M) : Fr SLc M0 (mX4_readStatement_b32 k0 k1 M) := by
  unfold mX4_readStatement_b32
  exact (Fr.c (fun r3 => (wX4_readStatement_b51 (by omega) hM)))
theorem wX4_readStatement_b131v1 {k0 : Nat} {k1 : Nat} {w2 : Nat} {x3 : Int32} {M : Mem} (wk0 : k0 = 2) (wk1 : k1 = 13) (hM : KS SLc M0 M) : Fr SLc M0 (mX4_readStatement_b131v1 k0 k1 w2 x3 M) := by
  unfold mX4_readStatement_b131v1
  exact (Fr.i (Fr.m (wX4_accept (by omega) hM) (fun M37 _ hM37 => (Fr.ok hM37))) (wX4_readStatement_b148 (by omega) hM))
theorem wX4_readStatement_b110v1 {k0 : Nat} {k1 : Nat} {w2 : Nat} {ih55v1 : Int32 → Int32 → Mem → Option (Mem × Unit)} {x3 : Int32} {x4 : Int32} {M : Mem} (hih55v1 : ∀ (v0 : Int32) (v1 : Int32) (v2 : Mem), KS SLc M0 v2 → Fr SLc M0 (ih55v1 v0 v1 v2)) (hM : KS SLc M0 M) : Fr SLc M0 (mX4_readStatement_b110v1 k0 k1 w2 ih55v1 x3 x4 M) := by
  unfold mX4_readStatement_b110v1
  exact (Fr.b (fun x4_110 => (hih55v1 _ _ _ hM)))
theorem wX4_readStatement_b55v1 {k0 : Nat} {k1 : Nat} {w2 : Nat} {ih55v1 : Int32 → Int32 → Mem → Option (Mem × Unit)} {x3 : Int32} {x4 : Int32} {M : Mem} (wk0 : k0 = 2) (wk1 : k1 = 13) (hih55v1 : ∀ (v0 : Int32) (v1 : Int32) (v2 : Mem), KS SLc M0 v2 → Fr SLc M0 (ih55v1 v0 v1 v2)) (hM : KS SLc M0 M) : Fr SLc M0 (mX4_readStatement_b55v1 k0 k1 w2 ih55v1 x3 x4 M) := by
  unfold mX4_readStatement_b55v1
  exact (Fr.i (Fr.i (Fr.m (wX4_nextToken (by omega) hM) (fun M40 _ hM40 => (Fr.c (fun r42 => (wX4_readStatement_b131v1 (by omega) (by omega) hM40))))) (wX4_readStatement_b131v1 (by omega) (by omega) hM)) (Fr.k (Fr.bw (by unfold SLc; omega) hM (fun M46 hM46 => (Fr.i (Fr.c (fun r50 => (Fr.i (wX4_readStatement_b110v1 hih55v1 hM46) (Fr.m (wX4_nextToken (by omega) hM46) (fun M55 _ hM55 => (Fr.c (fun r57 => (Fr.k (Fr.bw (by unfold SLc; omega) hM55 (fun M61 hM61 => (wX4_readStatement_b110v1 hih55v1 hM61))))))))))) (wX4_readStatement_b110v1 hih55v1 hM46))))))
theorem wX4_readStatement_l55v1_n {k0 : Nat} {k1 : Nat} {w2 : Nat} (wk0 : k0 = 2) (wk1 : k1 = 13) : ∀ (n : Nat) (v0 : Int32) (v1 : Int32) (v2 : Mem), KS SLc M0 v2 → Fr SLc M0 (mX4_readStatement_l55v1 k0 k1 w2 n v0 v1 v2) := by
  intro n
  induction n with
  | zero => intro v0 v1 v2 h; exact Fr.n
  | succ n IH => intro v0 v1 v2 h; exact wX4_readStatement_b55v1 (by omega) (by omega) IH h
theorem wX4_readStatement_l55v1 {k0 : Nat} {k1 : Nat} {w2 : Nat} {v0 : Int32} {v1 : Int32} {v2 : Mem} (wk0 : k0 = 2) (wk1 : k1 = 13) {n : Nat} (h : KS SLc M0 v2) : Fr SLc M0 (mX4_readStatement_l55v1 k0 k1 w2 n v0 v1 v2) := wX4_readStatement_l55v1_n wk0 wk1  n v0 v1 v2 h
theorem wX4_readStatement_b51v1 {k0 : Nat} {k1 : Nat} {w2 : Nat} {y0 : Int32} {M : Mem} (wk0 : k0 = 2) (wk1 : k1 = 13) (hM : KS SLc M0 M) : Fr SLc M0 (mX4_readStatement_b51v1 k0 k1 w2 y0 M) := by
  unfold mX4_readStatement_b51v1
  exact (wX4_readStatement_l55v1 (by omega) (by omega) hM)
theorem wX4_readStatement_b32v1 {k0 : Nat} {k1 : Nat} {ws0 : Nat} {M : Mem} (wk0 : k0 = 2) (wk1 : k1 = 13) (hM : KS SLc M0 M) : Fr SLc M0 (mX4_readStatement_b32v1 k0 k1 ws0 M) := by
  unfold mX4_readStatement_b32v1
  exact (Fr.c (fun r30 => (wX4_readStatement_b51v1 (by omega) (by omega) hM)))
theorem wX4_readStatement {k0 : Nat} {k1 : Nat} {M : Mem} (wk0 : k0 = 2) (wk1 : k1 = 13) (hM : KS SLc M0 M) : Fr SLc M0 (mX4_readStatement k0 k1 M) := by
  unfold mX4_readStatement
  exact (Fr.i (Fr.k (Fr.c (fun r25 => (Fr.o (wX4_readStatement_b32 (by omega) hM) (fun w27 => (Fr.k (wX4_readStatement_b32v1 (by omega) (by omega) hM))))))) (wX4_readStatement_b32 (by omega) hM))
theorem wX4_readText_b84 {k0 : Nat} {k1 : Nat} {k2 : Nat} {M : Mem} (hM : KS SLc M0 M) : Fr SLc M0 (mX4_readText_b84 k0 k1 k2 M) := by
  unfold mX4_readText_b84
  exact (Fr.i (Fr.ok hM) (Fr.ok hM))
theorem wX4_readText_b47 {k0 : Nat} {k1 : Nat} {k2 : Nat} {ih47 : Int32 → Mem → Option (Mem × Int32)} {x4 : Int32} {M : Mem} (wk0 : k0 = 2) (wk2 : k2 = 13) (hih47 : ∀ (v0 : Int32) (v1 : Mem), KS SLc M0 v1 → Fr SLc M0 (ih47 v0 v1)) (hM : KS SLc M0 M) : Fr SLc M0 (mX4_readText_b47 k0 k1 k2 ih47 x4 M) := by
  unfold mX4_readText_b47
  exact (Fr.i (wX4_readText_b84 hM) (Fr.i (wX4_readText_b84 hM) (Fr.i (Fr.m (wX4_readStatement (by omega) (by omega) hM) (fun M25 _ hM25 => (Fr.m (wX4_nextToken (by omega) hM25) (fun M28 _ hM28 => (Fr.b (fun x4_78 => (hih47 _ _ hM28))))))) (wX4_readText_b84 hM))))
theorem wX4_readText_l47_n {k0 : Nat} {k1 : Nat} {k2 : Nat} (wk0 : k0 = 2) (wk2 : k2 = 13) : ∀ (n : Nat) (v0 : Int32) (v1 : Mem), KS SLc M0 v1 → Fr SLc M0 (mX4_readText_l47 k0 k1 k2 n v0 v1) := by
  intro n
  induction n with
  | zero => intro v0 v1 h; exact Fr.n
  | succ n IH => intro v0 v1 h; exact wX4_readText_b47 (by omega) (by omega) IH h
theorem wX4_readText_l47 {k0 : Nat} {k1 : Nat} {k2 : Nat} {v0 : Int32} {v1 : Mem} (wk0 : k0 = 2) (wk2 : k2 = 13) {n : Nat} (h : KS SLc M0 v1) : Fr SLc M0 (mX4_readText_l47 k0 k1 k2 n v0 v1) := wX4_readText_l47_n wk0 wk2  n v0 v1 h
theorem wX4_readText_b18 {k0 : Nat} {k1 : Nat} {k2 : Nat} {y1 : Int32} {M : Mem} (wk0 : k0 = 2) (wk2 : k2 = 13) (hM : KS SLc M0 M) : Fr SLc M0 (mX4_readText_b18 k0 k1 k2 y1 M) := by
  unfold mX4_readText_b18
  exact (Fr.bw (by unfold SLc; omega) hM (fun M5 hM5 => (Fr.bw (by unfold SLc; omega) hM5 (fun M7 hM7 => (Fr.bw (by unfold SLc; omega) hM7 (fun M9 hM9 => (Fr.bw (by unfold SLc; omega) hM9 (fun M11 hM11 => (Fr.m (wX1_clear (by omega) hM11) (fun M15 _ hM15 => (Fr.m (wX4_nextToken (by omega) hM15) (fun M18 _ hM18 => (wX4_readText_l47 (by omega) (by omega) hM18)))))))))))))
theorem wX4_readText {k0 : Nat} {k1 : Nat} {k2 : Nat} {x2 : Int32} {M : Mem} (wk0 : k0 = 2) (wk2 : k2 = 13) (hM : KS SLc M0 M) : Fr SLc M0 (mX4_readText k0 k1 k2 x2 M) := by
  unfold mX4_readText
  exact (Fr.k (Fr.bw (by unfold SLc; omega) hM (fun M1 hM1 => (Fr.i (wX4_readText_b18 (by omega) (by omega) hM1) (wX4_readText_b18 (by omega) (by omega) hM1)))))
end FFldc
def SLr (k j : Nat) : Prop := k = 137 ∨ (k = 135 ∧ j ≠ 4)
section FFldr
variable {M0 : Mem}
theorem wX7_lay {x1 : Int32} {x2 : Int32} {x3 : Int32} {x4 : Int32} {M : Mem} (hM : KS SLr M0 M) : Fr SLr M0 (mX7_lay 135 x1 x2 x3 x4 M) := by
  unfold mX7_lay
  exact (Fr.k (Fr.bw (by unfold SLr; omega) hM (fun M3 hM3 => (Fr.k (Fr.bw (by unfold SLr; omega) hM3 (fun M6 hM6 => (Fr.k (Fr.bw (by unfold SLr; omega) hM6 (fun M9 hM9 => (Fr.ok hM9))))))))))
theorem wX7_reset_b2 {ih2 : Int32 → Mem → Option (Mem × Unit)} {x1 : Int32} {M : Mem} (hih2 : ∀ (v0 : Int32) (v1 : Mem), KS SLr M0 v1 → Fr SLr M0 (ih2 v0 v1)) (hM : KS SLr M0 M) : Fr SLr M0 (mX7_reset_b2 135 ih2 x1 M) := by
  unfold mX7_reset_b2
  exact (Fr.i (Fr.m (wX7_lay hM) (fun M4 _ hM4 => (Fr.m (wX7_lay hM4) (fun M7 _ hM7 => (Fr.m (wX7_lay hM7) (fun M10 _ hM10 => (Fr.m (wX7_lay hM10) (fun M13 _ hM13 => (Fr.m (wX7_lay hM13) (fun M16 _ hM16 => (Fr.ok hM16))))))))))) (Fr.k (Fr.bw (by unfold SLr; omega) hM (fun M19 hM19 => (Fr.b (fun x1_15 => (hih2 _ _ hM19)))))))
theorem wX7_reset_l2_n  : ∀ (n : Nat) (v0 : Int32) (v1 : Mem), KS SLr M0 v1 → Fr SLr M0 (mX7_reset_l2 135 n v0 v1) := by
  intro n
  induction n with
  | zero => intro v0 v1 h; exact Fr.n
  | succ n IH => intro v0 v1 h; exact wX7_reset_b2  IH h
theorem wX7_reset_l2  {v0 : Int32} {v1 : Mem} {n : Nat} (h : KS SLr M0 v1) : Fr SLr M0 (mX7_reset_l2 135 n v0 v1) := wX7_reset_l2_n   n v0 v1 h
theorem wX7_reset {M : Mem} (hM : KS SLr M0 M) : Fr SLr M0 (mX7_reset 135 M) := by
  unfold mX7_reset
  exact (wX7_reset_l2 hM)
theorem wX7_advance_b26 {ih0 : Mem → Option (Mem × Int32)} {M : Mem} (hih0 : ∀ (v0 : Mem), KS SLr M0 v0 → Fr SLr M0 (ih0 v0)) (hM : KS SLr M0 M) : Fr SLr M0 (mX7_advance_b26 135 ih0 M) := by
  unfold mX7_advance_b26
  exact (Fr.bw (by unfold SLr; omega) hM (fun M5 hM5 => (hih0 _ hM5)))
theorem wX7_advance_b230 {y1 : Int32} {M : Mem} (hM : KS SLr M0 M) : Fr SLr M0 (mX7_advance_b230 135 y1 M) := by
  unfold mX7_advance_b230
  exact (Fr.bw (by unfold SLr; omega) hM (fun M42 hM42 => (Fr.ok hM42)))
theorem wX7_advance_b195 {ih141 : Mem → Option (Mem × Int32)} {y1 : Int32} {M : Mem} (hih141 : ∀ (v0 : Mem), KS SLr M0 v0 → Fr SLr M0 (ih141 v0)) (hM : KS SLr M0 M) : Fr SLr M0 (mX7_advance_b195 135 ih141 y1 M) := by
  unfold mX7_advance_b195
  exact (Fr.bw (by unfold SLr; omega) hM (fun M45 hM45 => (Fr.bw (by unfold SLr; omega) hM45 (fun M47 hM47 => (hih141 _ hM47)))))
theorem wX7_advance_b141 {ih141 : Mem → Option (Mem × Int32)} {M : Mem} (hih141 : ∀ (v0 : Mem), KS SLr M0 v0 → Fr SLr M0 (ih141 v0)) (hM : KS SLr M0 M) : Fr SLr M0 (mX7_advance_b141 135 ih141 M) := by
  unfold mX7_advance_b141
  exact (Fr.c (fun r35 => (Fr.c (fun r38 => (Fr.i (Fr.i (wX7_advance_b230 hM) (wX7_advance_b230 hM)) (Fr.i (wX7_advance_b195 hih141 hM) (Fr.c (fun r50 => (wX7_advance_b195 hih141 hM)))))))))
theorem wX7_advance_l141_n  : ∀ (n : Nat) (v0 : Mem), KS SLr M0 v0 → Fr SLr M0 (mX7_advance_l141 135 n v0) := by
  intro n
  induction n with
  | zero => intro v0 h; exact Fr.n
  | succ n IH => intro v0 h; exact wX7_advance_b141  IH h
theorem wX7_advance_l141  {v0 : Mem} {n : Nat} (h : KS SLr M0 v0) : Fr SLr M0 (mX7_advance_l141 135 n v0) := wX7_advance_l141_n   n v0 h
theorem wX7_advance_b123 {y1 : Int32} {M : Mem} (hM : KS SLr M0 M) : Fr SLr M0 (mX7_advance_b123 135 y1 M) := by
  unfold mX7_advance_b123
  exact (Fr.bw (by unfold SLr; omega) hM (fun M60 hM60 => (Fr.ok hM60)))
theorem wX7_advance_b76 {ih76 : Mem → Option (Mem × Int32)} {M : Mem} (hih76 : ∀ (v0 : Mem), KS SLr M0 v0 → Fr SLr M0 (ih76 v0)) (hM : KS SLr M0 M) : Fr SLr M0 (mX7_advance_b76 135 ih76 M) := by
  unfold mX7_advance_b76
  exact (Fr.c (fun r53 => (Fr.c (fun r56 => (Fr.i (Fr.i (wX7_advance_b123 hM) (wX7_advance_b123 hM)) (Fr.bw (by unfold SLr; omega) hM (fun M62 hM62 => (hih76 _ hM62))))))))
theorem wX7_advance_l76_n  : ∀ (n : Nat) (v0 : Mem), KS SLr M0 v0 → Fr SLr M0 (mX7_advance_l76 135 n v0) := by
  intro n
  induction n with
  | zero => intro v0 h; exact Fr.n
  | succ n IH => intro v0 h; exact wX7_advance_b76  IH h
theorem wX7_advance_l76  {v0 : Mem} {n : Nat} (h : KS SLr M0 v0) : Fr SLr M0 (mX7_advance_l76 135 n v0) := wX7_advance_l76_n   n v0 h
theorem wX7_advance_b0 {ih0 : Mem → Option (Mem × Int32)} {M : Mem} (hih0 : ∀ (v0 : Mem), KS SLr M0 v0 → Fr SLr M0 (ih0 v0)) (hM : KS SLr M0 M) : Fr SLr M0 (mX7_advance_b0 135 ih0 M) := by
  unfold mX7_advance_b0
  exact (Fr.c (fun r2 => (Fr.i (wX7_advance_b26 hih0 hM) (Fr.c (fun r8 => (Fr.i (wX7_advance_b26 hih0 hM) (Fr.bw (by unfold SLr; omega) hM (fun M11 hM11 => (Fr.c (fun r14 => (Fr.i (Fr.bw (by unfold SLr; omega) hM11 (fun M64 hM64 => (Fr.ok hM64))) (Fr.c (fun r18 => (Fr.i (Fr.c (fun r22 => (Fr.i (Fr.bw (by unfold SLr; omega) hM11 (fun M25 hM25 => (Fr.i (Fr.bw (by unfold SLr; omega) hM25 (fun M30 hM30 => (Fr.ok hM30))) (Fr.bw (by unfold SLr; omega) hM25 (fun M28 hM28 => (Fr.ok hM28)))))) (Fr.bw (by unfold SLr; omega) hM11 (fun M32 hM32 => (wX7_advance_l141 hM32)))))) (wX7_advance_l76 hM11)))))))))))))))
theorem wX7_advance_l0_n  : ∀ (n : Nat) (v0 : Mem), KS SLr M0 v0 → Fr SLr M0 (mX7_advance_l0 135 n v0) := by
  intro n
  induction n with
  | zero => intro v0 h; exact Fr.n
  | succ n IH => intro v0 h; exact wX7_advance_b0  IH h
theorem wX7_advance_l0  {v0 : Mem} {n : Nat} (h : KS SLr M0 v0) : Fr SLr M0 (mX7_advance_l0 135 n v0) := wX7_advance_l0_n   n v0 h
theorem wX7_advance {M : Mem} (hM : KS SLr M0 M) : Fr SLr M0 (mX7_advance 135 M) := by
  unfold mX7_advance
  exact (wX7_advance_l0 hM)
theorem wX7_fail_b14 {y1 : Int32} {M : Mem} (hM : KS SLr M0 M) : Fr SLr M0 (mX7_fail_b14 135 y1 M) := by
  unfold mX7_fail_b14
  exact (Fr.bw (by unfold SLr; omega) hM (fun M2 hM2 => (Fr.bw (by unfold SLr; omega) hM2 (fun M4 hM4 => (Fr.ok hM4)))))
theorem wX7_fail {x1 : Int32} {M : Mem} (hM : KS SLr M0 M) : Fr SLr M0 (mX7_fail 135 x1 M) := by
  unfold mX7_fail
  exact (Fr.i (wX7_fail_b14 hM) (wX7_fail_b14 hM))
theorem wX7_number {x1 : Int32} {x2 : Int32} {x3 : Int32} {M : Mem} (hM : KS SLr M0 M) : Fr SLr M0 (mX7_number 135 x1 x2 x3 M) := by
  unfold mX7_number
  exact (Fr.i (Fr.c (fun r3 => (Fr.i (Fr.m (wX7_fail hM) (fun M15 r14 hM15 => (Fr.k (Fr.ok hM15)))) (Fr.k (Fr.bw (by unfold SLr; omega) hM (fun M8 hM8 => (Fr.m (wX7_advance hM8) (fun M11 r10 hM11 => (Fr.k (Fr.ok hM11)))))))))) (Fr.m (wX7_fail hM) (fun M19 r18 hM19 => (Fr.k (Fr.ok hM19)))))
theorem wX7_closed {M : Mem} (hM : KS SLr M0 M) : Fr SLr M0 (mX7_closed 135 M) := by
  unfold mX7_closed
  exact (Fr.i (Fr.m (wX7_advance hM) (fun M4 r3 hM4 => (Fr.k (Fr.ok hM4)))) (Fr.m (wX7_fail hM) (fun M8 r7 hM8 => (Fr.k (Fr.ok hM8)))))
theorem wX7_sheetStatement {M : Mem} (hM : KS SLr M0 M) : Fr SLr M0 (mX7_sheetStatement 135 M) := by
  unfold mX7_sheetStatement
  exact (Fr.m (wX7_advance hM) (fun M3 r2 hM3 => (Fr.m (wX7_number hM3) (fun M6 r5 hM6 => (Fr.i (Fr.ok hM6) (Fr.m (wX7_number hM6) (fun M10 r9 hM10 => (Fr.i (Fr.ok hM10) (Fr.m (wX7_number hM10) (fun M14 r13 hM14 => (Fr.i (Fr.ok hM14) (Fr.ok hM14))))))))))))
theorem wX7_legStatement {M : Mem} (hM : KS SLr M0 M) : Fr SLr M0 (mX7_legStatement 135 M) := by
  unfold mX7_legStatement
  exact (Fr.k (Fr.i (Fr.m (wX7_advance hM) (fun M5 r4 hM5 => (Fr.m (wX7_number hM5) (fun M8 r7 hM8 => (Fr.i (Fr.ok hM8) (Fr.k (Fr.bw (by unfold SLr; omega) hM8 (fun M12 hM12 => (Fr.ok hM12))))))))) (Fr.m (wX7_fail hM) (fun M15 r14 hM15 => (Fr.k (Fr.ok hM15))))))
theorem wX7_bendStatement_b74 {y1 : Int32} {y2 : Int32} {M : Mem} (hM : KS SLr M0 M) : Fr SLr M0 (mX7_bendStatement_b74 135 y1 y2 M) := by
  unfold mX7_bendStatement_b74
  exact (Fr.k (Fr.bw (by unfold SLr; omega) hM (fun M16 hM16 => (Fr.k (Fr.k (Fr.bw (by unfold SLr; omega) hM16 (fun M20 hM20 => (Fr.k (Fr.k (Fr.bw (by unfold SLr; omega) hM20 (fun M24 hM24 => (Fr.ok hM24))))))))))))
theorem wX7_bendStatement {x1 : Int32} {M : Mem} (hM : KS SLr M0 M) : Fr SLr M0 (mX7_bendStatement 135 x1 M) := by
  unfold mX7_bendStatement
  exact (Fr.k (Fr.i (Fr.m (wX7_fail hM) (fun M31 r30 hM31 => (Fr.k (Fr.ok hM31)))) (Fr.k (Fr.b (fun x2_21 => (Fr.i (Fr.m (wX7_fail hM) (fun M27 r26 hM27 => (Fr.k (Fr.ok hM27)))) (Fr.m (wX7_advance hM) (fun M8 r7 hM8 => (Fr.m (wX7_number hM8) (fun M11 r10 hM11 => (Fr.i (Fr.ok hM11) (Fr.i (wX7_bendStatement_b74 hM11) (wX7_bendStatement_b74 hM11)))))))))))))
theorem wX7_backStatement_b48 {x1 : Int32} {y0 : Int32} {M : Mem} (hM : KS SLr M0 M) : Fr SLr M0 (mX7_backStatement_b48 135 x1 y0 M) := by
  unfold mX7_backStatement_b48
  exact (Fr.m (wX7_number hM) (fun M11 r10 hM11 => (Fr.i (Fr.ok hM11) (Fr.m (wX7_number hM11) (fun M15 r14 hM15 => (Fr.i (Fr.ok hM15) (Fr.k (Fr.k (Fr.bw (by unfold SLr; omega) hM15 (fun M20 hM20 => (Fr.ok hM20)))))))))))
theorem wX7_backStatement {M : Mem} (hM : KS SLr M0 M) : Fr SLr M0 (mX7_backStatement 135 M) := by
  unfold mX7_backStatement
  exact (Fr.k (Fr.b (fun x1_7 => (Fr.i (Fr.m (wX7_fail hM) (fun M23 r22 hM23 => (Fr.k (Fr.ok hM23)))) (Fr.m (wX7_advance hM) (fun M6 r5 hM6 => (Fr.i (wX7_backStatement_b48 hM6) (Fr.k (wX7_backStatement_b48 hM6)))))))))
theorem wX7_toolStatement_b59 {M : Mem} (hM : KS SLr M0 M) : Fr SLr M0 (mX7_toolStatement_b59 135 M) := by
  unfold mX7_toolStatement_b59
  exact (Fr.ok hM)
theorem wX7_toolStatement_b50 {y1 : Int32} {y2 : Int32} {M : Mem} (hM : KS SLr M0 M) : Fr SLr M0 (mX7_toolStatement_b50 135 y1 y2 M) := by
  unfold mX7_toolStatement_b50
  exact (Fr.m (wX7_number hM) (fun M13 r12 hM13 => (Fr.i (Fr.ok hM13) (wX7_toolStatement_b59 hM13))))
theorem wX7_toolStatement {x1 : Int32} {M : Mem} (hM : KS SLr M0 M) : Fr SLr M0 (mX7_toolStatement 135 x1 M) := by
  unfold mX7_toolStatement
  exact (Fr.m (wX7_advance hM) (fun M3 r2 hM3 => (Fr.b (fun x2_11 => (Fr.m (wX7_number hM3) (fun M7 r6 hM7 => (Fr.i (Fr.ok hM7) (Fr.i (wX7_toolStatement_b59 hM7) (Fr.i (Fr.k (wX7_toolStatement_b50 hM7)) (wX7_toolStatement_b50 hM7))))))))))
theorem wX7_costStatement {M : Mem} (hM : KS SLr M0 M) : Fr SLr M0 (mX7_costStatement 135 M) := by
  unfold mX7_costStatement
  exact (Fr.m (wX7_advance hM) (fun M3 r2 hM3 => (Fr.m (wX7_number hM3) (fun M6 r5 hM6 => (Fr.i (Fr.ok hM6) (Fr.m (wX7_number hM6) (fun M10 r9 hM10 => (Fr.i (Fr.ok hM10) (Fr.m (wX7_number hM10) (fun M14 r13 hM14 => (Fr.i (Fr.ok hM14) (Fr.ok hM14))))))))))))
theorem wX7_statement_b46 {M : Mem} (hM : KS SLr M0 M) : Fr SLr M0 (mX7_statement_b46 135 M) := by
  unfold mX7_statement_b46
  exact (Fr.c (fun r14 => (Fr.m (wX7_bendStatement hM) (fun M18 r17 hM18 => (Fr.k (Fr.ok hM18))))))
theorem wX7_statement {M : Mem} (hM : KS SLr M0 M) : Fr SLr M0 (mX7_statement 135 M) := by
  unfold mX7_statement
  exact (Fr.c (fun r2 => (Fr.i (Fr.c (fun r6 => (Fr.i (Fr.c (fun r10 => (Fr.i (Fr.c (fun r21 => (Fr.i (Fr.c (fun r25 => (Fr.i (Fr.c (fun r29 => (Fr.i (Fr.c (fun r33 => (Fr.i (Fr.m (wX7_fail hM) (fun M42 r41 hM42 => (Fr.k (Fr.ok hM42)))) (Fr.m (wX7_toolStatement hM) (fun M38 r37 hM38 => (Fr.k (Fr.ok hM38))))))) (Fr.m (wX7_costStatement hM) (fun M46 r45 hM46 => (Fr.k (Fr.ok hM46))))))) (Fr.m (wX7_backStatement hM) (fun M50 r49 hM50 => (Fr.k (Fr.ok hM50))))))) (wX7_statement_b46 hM)))) (wX7_statement_b46 hM)))) (Fr.m (wX7_legStatement hM) (fun M54 r53 hM54 => (Fr.k (Fr.ok hM54))))))) (Fr.m (wX7_sheetStatement hM) (fun M58 r57 hM58 => (Fr.k (Fr.ok hM58)))))))
end FFldr
/-! reading a text makes no step (printed) -/
def SLx (k j : Nat) : Prop := k = 2 ∨ k = 3 ∨ (14 ≤ k ∧ k ≤ 20) ∨ (k = 13 ∧ j ≠ 14)
section FFldx
variable {M0 : Mem}
theorem xX1_putSheet {k0 : Nat} {x1 : Int32} {x2 : Int32} {x3 : Int32} {M : Mem} (wk0 : k0 = 13) (hM : KS SLx M0 M) : Fr SLx M0 (mX1_putSheet k0 x1 x2 x3 M) := by
  unfold mX1_putSheet
  exact (Fr.bw (by unfold SLx; omega) hM (fun M1 hM1 => (Fr.bw (by unfold SLx; omega) hM1 (fun M3 hM3 => (Fr.bw (by unfold SLx; omega) hM3 (fun M5 hM5 => (Fr.ok hM5)))))))
theorem xX1_putTool {k0 : Nat} {x1 : Int32} {x2 : Int32} {x3 : Int32} {M : Mem} (wk0 : k0 = 13) (hM : KS SLx M0 M) : Fr SLx M0 (mX1_putTool k0 x1 x2 x3 M) := by
  unfold mX1_putTool
  exact (Fr.i (Fr.ok hM) (Fr.i (Fr.ok hM) (Fr.k (Fr.bw (by unfold SLx; omega) hM (fun M5 hM5 => (Fr.k (Fr.bw (by unfold SLx; omega) hM5 (fun M8 hM8 => (Fr.ok hM8)))))))))
theorem xX1_putCosts {k0 : Nat} {x1 : Int32} {x2 : Int32} {x3 : Int32} {M : Mem} (wk0 : k0 = 13) (hM : KS SLx M0 M) : Fr SLx M0 (mX1_putCosts k0 x1 x2 x3 M) := by
  unfold mX1_putCosts
  exact (Fr.bw (by unfold SLx; omega) hM (fun M1 hM1 => (Fr.bw (by unfold SLx; omega) hM1 (fun M3 hM3 => (Fr.bw (by unfold SLx; omega) hM3 (fun M5 hM5 => (Fr.ok hM5)))))))
theorem xX1_addBack {k0 : Nat} {x1 : Int32} {x2 : Int32} {M : Mem} (wk0 : k0 = 13) (hM : KS SLx M0 M) : Fr SLx M0 (mX1_addBack k0 x1 x2 M) := by
  unfold mX1_addBack
  exact (Fr.i (Fr.ok hM) (Fr.k (Fr.bw (by unfold SLx; omega) hM (fun M4 hM4 => (Fr.k (Fr.bw (by unfold SLx; omega) hM4 (fun M7 hM7 => (Fr.bw (by unfold SLx; omega) hM7 (fun M8 hM8 => (Fr.ok hM8))))))))))
theorem xX1_addLeg_b47 {k0 : Nat} {M : Mem} (wk0 : k0 = 13) (hM : KS SLx M0 M) : Fr SLx M0 (mX1_addLeg_b47 k0 M) := by
  unfold mX1_addLeg_b47
  exact (Fr.bw (by unfold SLx; omega) hM (fun M6 hM6 => (Fr.ok hM6)))
theorem xX1_addLeg {k0 : Nat} {x1 : Int32} {x2 : Int32} {M : Mem} (wk0 : k0 = 13) (hM : KS SLx M0 M) : Fr SLx M0 (mX1_addLeg k0 x1 x2 M) := by
  unfold mX1_addLeg
  exact (Fr.i (Fr.ok hM) (Fr.k (Fr.bw (by unfold SLx; omega) hM (fun M4 hM4 => (Fr.i (xX1_addLeg_b47 (by omega) hM4) (Fr.i (xX1_addLeg_b47 (by omega) hM4) (Fr.bw (by unfold SLx; omega) hM4 (fun M9 hM9 => (xX1_addLeg_b47 (by omega) hM9)))))))))
theorem xX4_takeWord_b39 {k0 : Nat} {M : Mem} (wk0 : k0 = 2) (hM : KS SLx M0 M) : Fr SLx M0 (mX4_takeWord_b39 k0 M) := by
  unfold mX4_takeWord_b39
  exact (Fr.i (Fr.bw (by unfold SLx; omega) hM (fun M3 hM3 => (Fr.ok hM3))) (Fr.bw (by unfold SLx; omega) hM (fun M5 hM5 => (Fr.ok hM5))))
theorem xX4_takeWord_b0 {k0 : Nat} {ih0 : Mem → Option (Mem × Unit)} {M : Mem} (wk0 : k0 = 2) (hih0 : ∀ (v0 : Mem), KS SLx M0 v0 → Fr SLx M0 (ih0 v0)) (hM : KS SLx M0 M) : Fr SLx M0 (mX4_takeWord_b0 k0 ih0 M) := by
  unfold mX4_takeWord_b0
  exact (Fr.i (xX4_takeWord_b39 (by omega) hM) (Fr.k (Fr.k (Fr.c (fun r10 => (Fr.i (xX4_takeWord_b39 (by omega) hM) (Fr.bw (by unfold SLx; omega) hM (fun M13 hM13 => (hih0 _ hM13)))))))))
theorem xX4_takeWord_l0_n {k0 : Nat} (wk0 : k0 = 2) : ∀ (n : Nat) (v0 : Mem), KS SLx M0 v0 → Fr SLx M0 (mX4_takeWord_l0 k0 n v0) := by
  intro n
  induction n with
  | zero => intro v0 h; exact Fr.n
  | succ n IH => intro v0 h; exact xX4_takeWord_b0 (by omega) IH h
theorem xX4_takeWord_l0 {k0 : Nat} {v0 : Mem} (wk0 : k0 = 2) {n : Nat} (h : KS SLx M0 v0) : Fr SLx M0 (mX4_takeWord_l0 k0 n v0) := xX4_takeWord_l0_n wk0  n v0 h
theorem xX4_takeWord {k0 : Nat} {M : Mem} (wk0 : k0 = 2) (hM : KS SLx M0 M) : Fr SLx M0 (mX4_takeWord k0 M) := by
  unfold mX4_takeWord
  exact (xX4_takeWord_l0 (by omega) hM)
theorem xX4_takeNumber_b76 {k0 : Nat} {M : Mem} (wk0 : k0 = 2) (hM : KS SLx M0 M) : Fr SLx M0 (mX4_takeNumber_b76 k0 M) := by
  unfold mX4_takeNumber_b76
  exact (Fr.i (Fr.bw (by unfold SLx; omega) hM (fun M3 hM3 => (Fr.ok hM3))) (Fr.bw (by unfold SLx; omega) hM (fun M5 hM5 => (Fr.ok hM5))))
theorem xX4_takeNumber_b63 {k0 : Nat} {ih0 : Mem → Option (Mem × Unit)} {M : Mem} (wk0 : k0 = 2) (hih0 : ∀ (v0 : Mem), KS SLx M0 v0 → Fr SLx M0 (ih0 v0)) (hM : KS SLx M0 M) : Fr SLx M0 (mX4_takeNumber_b63 k0 ih0 M) := by
  unfold mX4_takeNumber_b63
  exact (Fr.bw (by unfold SLx; omega) hM (fun M14 hM14 => (hih0 _ hM14)))
theorem xX4_takeNumber_b0 {k0 : Nat} {ih0 : Mem → Option (Mem × Unit)} {M : Mem} (wk0 : k0 = 2) (hih0 : ∀ (v0 : Mem), KS SLx M0 v0 → Fr SLx M0 (ih0 v0)) (hM : KS SLx M0 M) : Fr SLx M0 (mX4_takeNumber_b0 k0 ih0 M) := by
  unfold mX4_takeNumber_b0
  exact (Fr.i (xX4_takeNumber_b76 (by omega) hM) (Fr.k (Fr.k (Fr.c (fun r10 => (Fr.i (xX4_takeNumber_b76 (by omega) hM) (Fr.i (xX4_takeNumber_b63 (by omega) hih0 hM) (Fr.k (Fr.k (Fr.bw (by unfold SLx; omega) hM (fun M18 hM18 => (xX4_takeNumber_b63 (by omega) hih0 hM18))))))))))))
theorem xX4_takeNumber_l0_n {k0 : Nat} (wk0 : k0 = 2) : ∀ (n : Nat) (v0 : Mem), KS SLx M0 v0 → Fr SLx M0 (mX4_takeNumber_l0 k0 n v0) := by
  intro n
  induction n with
  | zero => intro v0 h; exact Fr.n
  | succ n IH => intro v0 h; exact xX4_takeNumber_b0 (by omega) IH h
theorem xX4_takeNumber_l0 {k0 : Nat} {v0 : Mem} (wk0 : k0 = 2) {n : Nat} (h : KS SLx M0 v0) : Fr SLx M0 (mX4_takeNumber_l0 k0 n v0) := xX4_takeNumber_l0_n wk0  n v0 h
theorem xX4_takeNumber {k0 : Nat} {M : Mem} (wk0 : k0 = 2) (hM : KS SLx M0 M) : Fr SLx M0 (mX4_takeNumber k0 M) := by
  unfold mX4_takeNumber
  exact (xX4_takeNumber_l0 (by omega) hM)
theorem xX4_nextToken_b143 {k0 : Nat} {y1 : Int32} {M : Mem} (wk0 : k0 = 2) (hM : KS SLx M0 M) : Fr SLx M0 (mX4_nextToken_b143 k0 y1 M) := by
  unfold mX4_nextToken_b143
  exact (Fr.bw (by unfold SLx; omega) hM (fun M24 hM24 => (Fr.bw (by unfold SLx; omega) hM24 (fun M26 hM26 => (Fr.ok hM26)))))
theorem xX4_nextToken_b47 {k0 : Nat} {M : Mem} (wk0 : k0 = 2) (hM : KS SLx M0 M) : Fr SLx M0 (mX4_nextToken_b47 k0 M) := by
  unfold mX4_nextToken_b47
  exact (Fr.bw (by unfold SLx; omega) hM (fun M4 hM4 => (Fr.bw (by unfold SLx; omega) hM4 (fun M6 hM6 => (Fr.i (Fr.k (Fr.k (Fr.c (fun r12 => (Fr.i (Fr.k (Fr.k (Fr.c (fun r18 => (Fr.i (Fr.k (Fr.k (Fr.i (xX4_nextToken_b143 (by omega) hM6) (xX4_nextToken_b143 (by omega) hM6)))) (Fr.m (xX4_takeNumber (by omega) hM6) (fun M30 _ hM30 => (Fr.ok hM30)))))))) (Fr.m (xX4_takeWord (by omega) hM6) (fun M33 _ hM33 => (Fr.ok hM33)))))))) (Fr.bw (by unfold SLx; omega) hM6 (fun M34 hM34 => (Fr.ok hM34))))))))
theorem xX4_nextToken_b8 {k0 : Nat} {ih8 : Mem → Option (Mem × Unit)} {M : Mem} (wk0 : k0 = 2) (hih8 : ∀ (v0 : Mem), KS SLx M0 v0 → Fr SLx M0 (ih8 v0)) (hM : KS SLx M0 M) : Fr SLx M0 (mX4_nextToken_b8 k0 ih8 M) := by
  unfold mX4_nextToken_b8
  exact (Fr.i (xX4_nextToken_b47 (by omega) hM) (Fr.k (Fr.k (Fr.c (fun r39 => (Fr.i (xX4_nextToken_b47 (by omega) hM) (Fr.bw (by unfold SLx; omega) hM (fun M42 hM42 => (hih8 _ hM42)))))))))
theorem xX4_nextToken_l8_n {k0 : Nat} (wk0 : k0 = 2) : ∀ (n : Nat) (v0 : Mem), KS SLx M0 v0 → Fr SLx M0 (mX4_nextToken_l8 k0 n v0) := by
  intro n
  induction n with
  | zero => intro v0 h; exact Fr.n
  | succ n IH => intro v0 h; exact xX4_nextToken_b8 (by omega) IH h
theorem xX4_nextToken_l8 {k0 : Nat} {v0 : Mem} (wk0 : k0 = 2) {n : Nat} (h : KS SLx M0 v0) : Fr SLx M0 (mX4_nextToken_l8 k0 n v0) := xX4_nextToken_l8_n wk0  n v0 h
theorem xX4_nextToken {k0 : Nat} {M : Mem} (wk0 : k0 = 2) (hM : KS SLx M0 M) : Fr SLx M0 (mX4_nextToken k0 M) := by
  unfold mX4_nextToken
  exact (Fr.bw (by unfold SLx; omega) hM (fun M1 hM1 => (xX4_nextToken_l8 (by omega) hM1)))
theorem xX4_accept_b139 {k0 : Nat} {k1 : Nat} {k2 : Nat} {y1 : Int32} {y2 : Int32} {M : Mem} (wk2 : k2 = 13) (hM : KS SLx M0 M) : Fr SLx M0 (mX4_accept_b139 k0 k1 k2 y1 y2 M) := by
  unfold mX4_accept_b139
  exact (Fr.m (xX1_addLeg (by omega) hM) (fun M12 _ hM12 => (Fr.ok hM12)))
theorem xX4_accept {k0 : Nat} {k1 : Nat} {k2 : Nat} {M : Mem} (wk2 : k2 = 13) (hM : KS SLx M0 M) : Fr SLx M0 (mX4_accept k0 k1 k2 M) := by
  unfold mX4_accept
  exact (Fr.c (fun r2 => (Fr.i (Fr.i (Fr.k (Fr.k (Fr.k (Fr.m (xX1_putSheet (by omega) hM) (fun M29 _ hM29 => (Fr.ok hM29)))))) (Fr.i (Fr.k (Fr.k (Fr.k (Fr.m (xX1_putCosts (by omega) hM) (fun M23 _ hM23 => (Fr.ok hM23)))))) (Fr.i (Fr.k (Fr.k (Fr.m (xX1_addBack (by omega) hM) (fun M17 _ hM17 => (Fr.ok hM17))))) (Fr.k (Fr.i (xX4_accept_b139 (by omega) hM) (xX4_accept_b139 (by omega) hM)))))) (Fr.k (Fr.k (Fr.m (xX1_putTool (by omega) hM) (fun M34 _ hM34 => (Fr.ok hM34))))))))
theorem xX4_readStatement_b148 {k0 : Nat} {k1 : Nat} {x3 : Int32} {M : Mem} (wk0 : k0 = 2) (hM : KS SLx M0 M) : Fr SLx M0 (mX4_readStatement_b148 k0 k1 x3 M) := by
  unfold mX4_readStatement_b148
  exact (Fr.bw (by unfold SLx; omega) hM (fun M8 hM8 => (Fr.bw (by unfold SLx; omega) hM8 (fun M10 hM10 => (Fr.ok hM10)))))
theorem xX4_readStatement_b131 {k0 : Nat} {k1 : Nat} {x3 : Int32} {M : Mem} (wk0 : k0 = 2) (hM : KS SLx M0 M) : Fr SLx M0 (mX4_readStatement_b131 k0 k1 x3 M) := by
  unfold mX4_readStatement_b131
  exact (Fr.i (xX4_readStatement_b148 (by omega) hM) (xX4_readStatement_b148 (by omega) hM))
theorem xX4_readStatement_b110 {k0 : Nat} {k1 : Nat} {ih55 : Int32 → Int32 → Mem → Option (Mem × Unit)} {x3 : Int32} {x4 : Int32} {M : Mem} (hih55 : ∀ (v0 : Int32) (v1 : Int32) (v2 : Mem), KS SLx M0 v2 → Fr SLx M0 (ih55 v0 v1 v2)) (hM : KS SLx M0 M) : Fr SLx M0 (mX4_readStatement_b110 k0 k1 ih55 x3 x4 M) := by
  unfold mX4_readStatement_b110
  exact (Fr.b (fun x4_110 => (hih55 _ _ _ hM)))
theorem xX4_readStatement_b55 {k0 : Nat} {k1 : Nat} {ih55 : Int32 → Int32 → Mem → Option (Mem × Unit)} {x3 : Int32} {x4 : Int32} {M : Mem} (wk0 : k0 = 2) (hih55 : ∀ (v0 : Int32) (v1 : Int32) (v2 : Mem), KS SLx M0 v2 → Fr SLx M0 (ih55 v0 v1 v2)) (hM : KS SLx M0 M) : Fr SLx M0 (mX4_readStatement_b55 k0 k1 ih55 x3 x4 M) := by
  unfold mX4_readStatement_b55
  exact (Fr.i (Fr.i (Fr.m (xX4_nextToken (by omega) hM) (fun M14 _ hM14 => (Fr.c (fun r16 => (xX4_readStatement_b131 (by omega) hM14))))) (xX4_readStatement_b131 (by omega) hM)) (Fr.k (Fr.bw (by unfold SLx; omega) hM (fun M20 hM20 => (Fr.i (xX4_readStatement_b110 hih55 hM20) (xX4_readStatement_b110 hih55 hM20))))))
theorem xX4_readStatement_l55_n {k0 : Nat} {k1 : Nat} (wk0 : k0 = 2) : ∀ (n : Nat) (v0 : Int32) (v1 : Int32) (v2 : Mem), KS SLx M0 v2 → Fr SLx M0 (mX4_readStatement_l55 k0 k1 n v0 v1 v2) := by
  intro n
  induction n with
  | zero => intro v0 v1 v2 h; exact Fr.n
  | succ n IH => intro v0 v1 v2 h; exact xX4_readStatement_b55 (by omega) IH h
theorem xX4_readStatement_l55 {k0 : Nat} {k1 : Nat} {v0 : Int32} {v1 : Int32} {v2 : Mem} (wk0 : k0 = 2) {n : Nat} (h : KS SLx M0 v2) : Fr SLx M0 (mX4_readStatement_l55 k0 k1 n v0 v1 v2) := xX4_readStatement_l55_n wk0  n v0 v1 v2 h
theorem xX4_readStatement_b51 {k0 : Nat} {k1 : Nat} {y0 : Int32} {M : Mem} (wk0 : k0 = 2) (hM : KS SLx M0 M) : Fr SLx M0 (mX4_readStatement_b51 k0 k1 y0 M) := by
  unfold mX4_readStatement_b51
  exact (xX4_readStatement_l55 (by omega) hM)
theorem xX4_readStatement_b32 {k0 : Nat} {k1 : Nat} {M : Mem} (wk0 : k0 = 2) (hM : KS SLx M0 M) : Fr SLx M0 (mX4_readStatement_b32 k0 k1 M) := by
  unfold mX4_readStatement_b32
  exact (Fr.c (fun r3 => (xX4_readStatement_b51 (by omega) hM)))
theorem xX4_readStatement_b131v1 {k0 : Nat} {k1 : Nat} {w2 : Nat} {x3 : Int32} {M : Mem} (wk0 : k0 = 2) (wk1 : k1 = 13) (hM : KS SLx M0 M) : Fr SLx M0 (mX4_readStatement_b131v1 k0 k1 w2 x3 M) := by
  unfold mX4_readStatement_b131v1
  exact (Fr.i (Fr.m (xX4_accept (by omega) hM) (fun M37 _ hM37 => (Fr.ok hM37))) (xX4_readStatement_b148 (by omega) hM))
theorem xX4_readStatement_b110v1 {k0 : Nat} {k1 : Nat} {w2 : Nat} {ih55v1 : Int32 → Int32 → Mem → Option (Mem × Unit)} {x3 : Int32} {x4 : Int32} {M : Mem} (hih55v1 : ∀ (v0 : Int32) (v1 : Int32) (v2 : Mem), KS SLx M0 v2 → Fr SLx M0 (ih55v1 v0 v1 v2)) (hM : KS SLx M0 M) : Fr SLx M0 (mX4_readStatement_b110v1 k0 k1 w2 ih55v1 x3 x4 M) := by
  unfold mX4_readStatement_b110v1
  exact (Fr.b (fun x4_110 => (hih55v1 _ _ _ hM)))
theorem xX4_readStatement_b55v1 {k0 : Nat} {k1 : Nat} {w2 : Nat} {ih55v1 : Int32 → Int32 → Mem → Option (Mem × Unit)} {x3 : Int32} {x4 : Int32} {M : Mem} (wk0 : k0 = 2) (wk1 : k1 = 13) (hih55v1 : ∀ (v0 : Int32) (v1 : Int32) (v2 : Mem), KS SLx M0 v2 → Fr SLx M0 (ih55v1 v0 v1 v2)) (hM : KS SLx M0 M) : Fr SLx M0 (mX4_readStatement_b55v1 k0 k1 w2 ih55v1 x3 x4 M) := by
  unfold mX4_readStatement_b55v1
  exact (Fr.i (Fr.i (Fr.m (xX4_nextToken (by omega) hM) (fun M40 _ hM40 => (Fr.c (fun r42 => (xX4_readStatement_b131v1 (by omega) (by omega) hM40))))) (xX4_readStatement_b131v1 (by omega) (by omega) hM)) (Fr.k (Fr.bw (by unfold SLx; omega) hM (fun M46 hM46 => (Fr.i (Fr.c (fun r50 => (Fr.i (xX4_readStatement_b110v1 hih55v1 hM46) (Fr.m (xX4_nextToken (by omega) hM46) (fun M55 _ hM55 => (Fr.c (fun r57 => (Fr.k (Fr.bw (by unfold SLx; omega) hM55 (fun M61 hM61 => (xX4_readStatement_b110v1 hih55v1 hM61))))))))))) (xX4_readStatement_b110v1 hih55v1 hM46))))))
theorem xX4_readStatement_l55v1_n {k0 : Nat} {k1 : Nat} {w2 : Nat} (wk0 : k0 = 2) (wk1 : k1 = 13) : ∀ (n : Nat) (v0 : Int32) (v1 : Int32) (v2 : Mem), KS SLx M0 v2 → Fr SLx M0 (mX4_readStatement_l55v1 k0 k1 w2 n v0 v1 v2) := by
  intro n
  induction n with
  | zero => intro v0 v1 v2 h; exact Fr.n
  | succ n IH => intro v0 v1 v2 h; exact xX4_readStatement_b55v1 (by omega) (by omega) IH h
theorem xX4_readStatement_l55v1 {k0 : Nat} {k1 : Nat} {w2 : Nat} {v0 : Int32} {v1 : Int32} {v2 : Mem} (wk0 : k0 = 2) (wk1 : k1 = 13) {n : Nat} (h : KS SLx M0 v2) : Fr SLx M0 (mX4_readStatement_l55v1 k0 k1 w2 n v0 v1 v2) := xX4_readStatement_l55v1_n wk0 wk1  n v0 v1 v2 h
theorem xX4_readStatement_b51v1 {k0 : Nat} {k1 : Nat} {w2 : Nat} {y0 : Int32} {M : Mem} (wk0 : k0 = 2) (wk1 : k1 = 13) (hM : KS SLx M0 M) : Fr SLx M0 (mX4_readStatement_b51v1 k0 k1 w2 y0 M) := by
  unfold mX4_readStatement_b51v1
  exact (xX4_readStatement_l55v1 (by omega) (by omega) hM)
theorem xX4_readStatement_b32v1 {k0 : Nat} {k1 : Nat} {ws0 : Nat} {M : Mem} (wk0 : k0 = 2) (wk1 : k1 = 13) (hM : KS SLx M0 M) : Fr SLx M0 (mX4_readStatement_b32v1 k0 k1 ws0 M) := by
  unfold mX4_readStatement_b32v1
  exact (Fr.c (fun r30 => (xX4_readStatement_b51v1 (by omega) (by omega) hM)))
theorem xX4_readStatement {k0 : Nat} {k1 : Nat} {M : Mem} (wk0 : k0 = 2) (wk1 : k1 = 13) (hM : KS SLx M0 M) : Fr SLx M0 (mX4_readStatement k0 k1 M) := by
  unfold mX4_readStatement
  exact (Fr.i (Fr.k (Fr.c (fun r25 => (Fr.o (xX4_readStatement_b32 (by omega) hM) (fun w27 => (Fr.k (xX4_readStatement_b32v1 (by omega) (by omega) hM))))))) (xX4_readStatement_b32 (by omega) hM))
theorem xX4_readText_b84 {k0 : Nat} {k1 : Nat} {k2 : Nat} {M : Mem} (hM : KS SLx M0 M) : Fr SLx M0 (mX4_readText_b84 k0 k1 k2 M) := by
  unfold mX4_readText_b84
  exact (Fr.i (Fr.ok hM) (Fr.ok hM))
theorem xX4_readText_b47 {k0 : Nat} {k1 : Nat} {k2 : Nat} {ih47 : Int32 → Mem → Option (Mem × Int32)} {x4 : Int32} {M : Mem} (wk0 : k0 = 2) (wk2 : k2 = 13) (hih47 : ∀ (v0 : Int32) (v1 : Mem), KS SLx M0 v1 → Fr SLx M0 (ih47 v0 v1)) (hM : KS SLx M0 M) : Fr SLx M0 (mX4_readText_b47 k0 k1 k2 ih47 x4 M) := by
  unfold mX4_readText_b47
  exact (Fr.i (xX4_readText_b84 hM) (Fr.i (xX4_readText_b84 hM) (Fr.i (Fr.m (xX4_readStatement (by omega) (by omega) hM) (fun M25 _ hM25 => (Fr.m (xX4_nextToken (by omega) hM25) (fun M28 _ hM28 => (Fr.b (fun x4_78 => (hih47 _ _ hM28))))))) (xX4_readText_b84 hM))))
theorem xX4_readText_l47_n {k0 : Nat} {k1 : Nat} {k2 : Nat} (wk0 : k0 = 2) (wk2 : k2 = 13) : ∀ (n : Nat) (v0 : Int32) (v1 : Mem), KS SLx M0 v1 → Fr SLx M0 (mX4_readText_l47 k0 k1 k2 n v0 v1) := by
  intro n
  induction n with
  | zero => intro v0 v1 h; exact Fr.n
  | succ n IH => intro v0 v1 h; exact xX4_readText_b47 (by omega) (by omega) IH h
theorem xX4_readText_l47 {k0 : Nat} {k1 : Nat} {k2 : Nat} {v0 : Int32} {v1 : Mem} (wk0 : k0 = 2) (wk2 : k2 = 13) {n : Nat} (h : KS SLx M0 v1) : Fr SLx M0 (mX4_readText_l47 k0 k1 k2 n v0 v1) := xX4_readText_l47_n wk0 wk2  n v0 v1 h
end FFldx
def Sfdc (k _ : Nat) : Prop := k ≤ 1
section FFfdc
variable {M0 : Mem}
theorem xX6_append_b40 {ih3 : Int32 → Int32 → Mem → Option (Mem × Unit)} {x1 : Int32} {x2 : Int32} {M : Mem} (hih3 : ∀ (v0 : Int32) (v1 : Int32) (v2 : Mem), KS Sfdc M0 v2 → Fr Sfdc M0 (ih3 v0 v1 v2)) (hM : KS Sfdc M0 M) : Fr Sfdc M0 (mX6_append_b40 0 ih3 x1 x2 M) := by
  unfold mX6_append_b40
  exact (Fr.b (fun x2_40 => (hih3 _ _ _ hM)))
theorem xX6_append_b3 {ih3 : Int32 → Int32 → Mem → Option (Mem × Unit)} {x1 : Int32} {x2 : Int32} {M : Mem} (hih3 : ∀ (v0 : Int32) (v1 : Int32) (v2 : Mem), KS Sfdc M0 v2 → Fr Sfdc M0 (ih3 v0 v1 v2)) (hM : KS Sfdc M0 M) : Fr Sfdc M0 (mX6_append_b3 0 ih3 x1 x2 M) := by
  unfold mX6_append_b3
  exact (Fr.i (Fr.ok hM) (Fr.i (xX6_append_b40 hih3 hM) (Fr.k (Fr.bw (by unfold Sfdc; omega) hM (fun M6 hM6 => (Fr.bw (by unfold Sfdc; omega) hM6 (fun M7 hM7 => (xX6_append_b40 hih3 hM7))))))))
theorem xX6_append_l3_n  : ∀ (n : Nat) (v0 : Int32) (v1 : Int32) (v2 : Mem), KS Sfdc M0 v2 → Fr Sfdc M0 (mX6_append_l3 0 n v0 v1 v2) := by
  intro n
  induction n with
  | zero => intro v0 v1 v2 h; exact Fr.n
  | succ n IH => intro v0 v1 v2 h; exact xX6_append_b3  IH h
theorem xX6_append_l3  {v0 : Int32} {v1 : Int32} {v2 : Mem} {n : Nat} (h : KS Sfdc M0 v2) : Fr Sfdc M0 (mX6_append_l3 0 n v0 v1 v2) := xX6_append_l3_n   n v0 v1 v2 h
theorem xX6_append {x1 : Int32} {M : Mem} (hM : KS Sfdc M0 M) : Fr Sfdc M0 (mX6_append 0 x1 M) := by
  unfold mX6_append
  exact (xX6_append_l3 hM)
theorem xX6_feed {x1 : Int32} {x2 : Int32} {x3 : Int32} {x4 : Int32} {x5 : Int32} {M : Mem} (hM : KS Sfdc M0 M) : Fr Sfdc M0 (mX6_feed 0 x1 x2 x3 x4 x5 M) := by
  unfold mX6_feed
  exact (Fr.i (Fr.m (xX6_append hM) (fun M4 _ hM4 => (Fr.m (xX6_append hM4) (fun M7 _ hM7 => (Fr.m (xX6_append hM7) (fun M10 _ hM10 => (Fr.m (xX6_append hM10) (fun M13 _ hM13 => (Fr.m (xX6_append hM13) (fun M16 _ hM16 => (Fr.ok hM16))))))))))) (Fr.ok hM))
end FFfdc
def Sfdr (k j : Nat) : Prop := k = 140 ∨ (k = 135 ∧ j ≠ 4)
section FFfdr
variable {M0 : Mem}
theorem xX7_append_b3 {ih3 : Int32 → Int32 → Mem → Option (Mem × Unit)} {x1 : Int32} {x2 : Int32} {M : Mem} (hih3 : ∀ (v0 : Int32) (v1 : Int32) (v2 : Mem), KS Sfdr M0 v2 → Fr Sfdr M0 (ih3 v0 v1 v2)) (hM : KS Sfdr M0 M) : Fr Sfdr M0 (mX7_append_b3 135 ih3 x1 x2 M) := by
  unfold mX7_append_b3
  exact (Fr.i (Fr.ok hM) (Fr.k (Fr.bw (by unfold Sfdr; omega) hM (fun M4 hM4 => (Fr.bw (by unfold Sfdr; omega) hM4 (fun M5 hM5 => (Fr.b (fun x2_33 => (hih3 _ _ _ hM5)))))))))
theorem xX7_append_l3_n  : ∀ (n : Nat) (v0 : Int32) (v1 : Int32) (v2 : Mem), KS Sfdr M0 v2 → Fr Sfdr M0 (mX7_append_l3 135 n v0 v1 v2) := by
  intro n
  induction n with
  | zero => intro v0 v1 v2 h; exact Fr.n
  | succ n IH => intro v0 v1 v2 h; exact xX7_append_b3  IH h
theorem xX7_append_l3  {v0 : Int32} {v1 : Int32} {v2 : Mem} {n : Nat} (h : KS Sfdr M0 v2) : Fr Sfdr M0 (mX7_append_l3 135 n v0 v1 v2) := xX7_append_l3_n   n v0 v1 v2 h
theorem xX7_append {x1 : Int32} {M : Mem} (hM : KS Sfdr M0 M) : Fr Sfdr M0 (mX7_append 135 x1 M) := by
  unfold mX7_append
  exact (xX7_append_l3 hM)
theorem xX7_feed {x1 : Int32} {x2 : Int32} {x3 : Int32} {x4 : Int32} {x5 : Int32} {M : Mem} (hM : KS Sfdr M0 M) : Fr Sfdr M0 (mX7_feed 135 x1 x2 x3 x4 x5 M) := by
  unfold mX7_feed
  exact (Fr.bw (by unfold Sfdr; omega) hM (fun M1 hM1 => (Fr.i (Fr.m (xX7_append hM1) (fun M6 _ hM6 => (Fr.m (xX7_append hM6) (fun M9 _ hM9 => (Fr.m (xX7_append hM9) (fun M12 _ hM12 => (Fr.m (xX7_append hM12) (fun M15 _ hM15 => (Fr.m (xX7_append hM15) (fun M18 _ hM18 => (Fr.ok hM18))))))))))) (Fr.ok hM1))))
end FFfdr
