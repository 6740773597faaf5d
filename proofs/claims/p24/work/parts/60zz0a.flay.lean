/-! what laying writes (printed) -/
def SLy (k j : Nat) : Prop := (k = 135 ∧ (j = 21 ∨ j = 22)) ∨ (141 ≤ k ∧ k ≤ 150)
section FFlay
variable {M0 : Mem}
theorem vX7_layLeg {x1 : Int32} {x2 : Int32} {M : Mem} (hM : KS SLy M0 M) : Fr SLy M0 (mX7_layLeg 135 x1 x2 M) := by
  unfold mX7_layLeg
  exact (Fr.k (Fr.bw (Or.inr ⟨by decide, by decide⟩) hM (fun M3 hM3 => (Fr.k (Fr.bw (Or.inr ⟨by decide, by decide⟩) hM3 (fun M6 hM6 => (Fr.c (fun r8 => (Fr.k (Fr.bw (Or.inl ⟨rfl, by decide⟩) hM6 (fun M11 hM11 => (Fr.c (fun r14 => (Fr.k (Fr.bw (Or.inl ⟨rfl, by decide⟩) hM11 (fun M17 hM17 => (Fr.k (Fr.bw (Or.inr ⟨by decide, by decide⟩) hM17 (fun M21 hM21 => (Fr.k (Fr.bw (Or.inr ⟨by decide, by decide⟩) hM21 (fun M24 hM24 => (Fr.ok hM24)))))))))))))))))))))))
theorem vX7_laySide_b136 {ih16 : Int32 → Int32 → Int32 → Int32 → Int32 → Int32 → Mem → Option (Mem × Unit)} {x2 : Int32} {x4 : Int32} {x5 : Int32} {x6 : Int32} {x7 : Int32} {x8 : Int32} {M : Mem} (hih16 : ∀ (v0 : Int32) (v1 : Int32) (v2 : Int32) (v3 : Int32) (v4 : Int32) (v5 : Int32) (v6 : Mem), KS SLy M0 v6 → Fr SLy M0 (ih16 v0 v1 v2 v3 v4 v5 v6)) (hM : KS SLy M0 M) : Fr SLy M0 (mX7_laySide_b136 135 ih16 x2 x4 x5 x6 x7 x8 M) := by
  unfold mX7_laySide_b136
  exact (Fr.b (fun x8_140 => (hih16 _ _ _ _ _ _ _ hM)))
theorem vX7_laySide_b131 {ih16 : Int32 → Int32 → Int32 → Int32 → Int32 → Int32 → Mem → Option (Mem × Unit)} {x2 : Int32} {x4 : Int32} {x5 : Int32} {x6 : Int32} {x8 : Int32} {y0 : Int32} {y1 : Int32} {M : Mem} (hih16 : ∀ (v0 : Int32) (v1 : Int32) (v2 : Int32) (v3 : Int32) (v4 : Int32) (v5 : Int32) (v6 : Mem), KS SLy M0 v6 → Fr SLy M0 (ih16 v0 v1 v2 v3 v4 v5 v6)) (hM : KS SLy M0 M) : Fr SLy M0 (mX7_laySide_b131 135 ih16 x2 x4 x5 x6 x8 y0 y1 M) := by
  unfold mX7_laySide_b131
  exact (Fr.b (fun x7_134 => (vX7_laySide_b136 hih16 hM)))
theorem vX7_laySide_b113 {ih16 : Int32 → Int32 → Int32 → Int32 → Int32 → Int32 → Mem → Option (Mem × Unit)} {x2 : Int32} {x4 : Int32} {x5 : Int32} {x6 : Int32} {x7 : Int32} {x8 : Int32} {y0 : Int32} {M : Mem} (hih16 : ∀ (v0 : Int32) (v1 : Int32) (v2 : Int32) (v3 : Int32) (v4 : Int32) (v5 : Int32) (v6 : Mem), KS SLy M0 v6 → Fr SLy M0 (ih16 v0 v1 v2 v3 v4 v5 v6)) (hM : KS SLy M0 M) : Fr SLy M0 (mX7_laySide_b113 135 ih16 x2 x4 x5 x6 x7 x8 y0 M) := by
  unfold mX7_laySide_b113
  exact (Fr.i (vX7_laySide_b131 hih16 hM) (vX7_laySide_b131 hih16 hM))
theorem vX7_laySide_b103 {ih16 : Int32 → Int32 → Int32 → Int32 → Int32 → Int32 → Mem → Option (Mem × Unit)} {x2 : Int32} {x4 : Int32} {x5 : Int32} {x6 : Int32} {x7 : Int32} {x8 : Int32} {y0 : Int32} {M : Mem} (hih16 : ∀ (v0 : Int32) (v1 : Int32) (v2 : Int32) (v3 : Int32) (v4 : Int32) (v5 : Int32) (v6 : Mem), KS SLy M0 v6 → Fr SLy M0 (ih16 v0 v1 v2 v3 v4 v5 v6)) (hM : KS SLy M0 M) : Fr SLy M0 (mX7_laySide_b103 135 ih16 x2 x4 x5 x6 x7 x8 y0 M) := by
  unfold mX7_laySide_b103
  exact (Fr.i (vX7_laySide_b113 hih16 hM) (vX7_laySide_b113 hih16 hM))
theorem vX7_laySide_b53 {ih16 : Int32 → Int32 → Int32 → Int32 → Int32 → Int32 → Mem → Option (Mem × Unit)} {x2 : Int32} {x4 : Int32} {x5 : Int32} {x6 : Int32} {x7 : Int32} {x8 : Int32} {y0 : Int32} {M : Mem} (hih16 : ∀ (v0 : Int32) (v1 : Int32) (v2 : Int32) (v3 : Int32) (v4 : Int32) (v5 : Int32) (v6 : Mem), KS SLy M0 v6 → Fr SLy M0 (ih16 v0 v1 v2 v3 v4 v5 v6)) (hM : KS SLy M0 M) : Fr SLy M0 (mX7_laySide_b53 135 ih16 x2 x4 x5 x6 x7 x8 y0 M) := by
  unfold mX7_laySide_b53
  exact (Fr.k (Fr.c (fun r14 => (Fr.i (vX7_laySide_b136 hih16 hM) (Fr.c (fun r19 => (Fr.i (vX7_laySide_b136 hih16 hM) (Fr.k (Fr.i (vX7_laySide_b103 hih16 hM) (vX7_laySide_b103 hih16 hM))))))))))
theorem vX7_laySide_b16 {ih16 : Int32 → Int32 → Int32 → Int32 → Int32 → Int32 → Mem → Option (Mem × Unit)} {x2 : Int32} {x4 : Int32} {x5 : Int32} {x6 : Int32} {x7 : Int32} {x8 : Int32} {M : Mem} (hih16 : ∀ (v0 : Int32) (v1 : Int32) (v2 : Int32) (v3 : Int32) (v4 : Int32) (v5 : Int32) (v6 : Mem), KS SLy M0 v6 → Fr SLy M0 (ih16 v0 v1 v2 v3 v4 v5 v6)) (hM : KS SLy M0 M) : Fr SLy M0 (mX7_laySide_b16 135 ih16 x2 x4 x5 x6 x7 x8 M) := by
  unfold mX7_laySide_b16
  exact (Fr.i (Fr.ok hM) (Fr.k (Fr.i (Fr.ok hM) (Fr.m (vX7_layLeg hM) (fun M10 _ hM10 => (Fr.i (vX7_laySide_b53 hih16 hM10) (vX7_laySide_b53 hih16 hM10)))))))
theorem vX7_laySide_l16_n  : ∀ (n : Nat) (v0 : Int32) (v1 : Int32) (v2 : Int32) (v3 : Int32) (v4 : Int32) (v5 : Int32) (v6 : Mem), KS SLy M0 v6 → Fr SLy M0 (mX7_laySide_l16 135 n v0 v1 v2 v3 v4 v5 v6) := by
  intro n
  induction n with
  | zero => intro v0 v1 v2 v3 v4 v5 v6 h; exact Fr.n
  | succ n IH => intro v0 v1 v2 v3 v4 v5 v6 h; exact vX7_laySide_b16  IH h
theorem vX7_laySide_l16  {v0 : Int32} {v1 : Int32} {v2 : Int32} {v3 : Int32} {v4 : Int32} {v5 : Int32} {v6 : Mem} {n : Nat} (h : KS SLy M0 v6) : Fr SLy M0 (mX7_laySide_l16 135 n v0 v1 v2 v3 v4 v5 v6) := vX7_laySide_l16_n   n v0 v1 v2 v3 v4 v5 v6 h
theorem vX7_laySide {x1 : Int32} {x2 : Int32} {x3 : Int32} {x4 : Int32} {x5 : Int32} {x6 : Int32} {M : Mem} (hM : KS SLy M0 M) : Fr SLy M0 (mX7_laySide 135 x1 x2 x3 x4 x5 x6 M) := by
  unfold mX7_laySide
  exact (Fr.bw (Or.inl ⟨rfl, by decide⟩) hM (fun M1 hM1 => (Fr.bw (Or.inl ⟨rfl, by decide⟩) hM1 (fun M3 hM3 => (vX7_laySide_l16 hM3)))))
theorem vX7_laySheet_b69 {x3 : Int32} {x4 : Int32} {y1 : Int32} {y2 : Int32} {y3 : Int32} {y4 : Int32} {M : Mem} (hM : KS SLy M0 M) : Fr SLy M0 (mX7_laySheet_b69 135 x3 x4 y1 y2 y3 y4 M) := by
  unfold mX7_laySheet_b69
  exact (Fr.m (vX7_laySide hM) (fun M12 _ hM12 => (Fr.ok hM12)))
theorem vX7_laySheet_b60 {x2 : Int32} {x3 : Int32} {x4 : Int32} {y1 : Int32} {y2 : Int32} {y3 : Int32} {M : Mem} (hM : KS SLy M0 M) : Fr SLy M0 (mX7_laySheet_b60 135 x2 x3 x4 y1 y2 y3 M) := by
  unfold mX7_laySheet_b60
  exact (Fr.i (vX7_laySheet_b69 hM) (vX7_laySheet_b69 hM))
theorem vX7_laySheet_b40 {x1 : Int32} {x2 : Int32} {x3 : Int32} {x4 : Int32} {y1 : Int32} {y2 : Int32} {y3 : Int32} {y4 : Int32} {M : Mem} (hM : KS SLy M0 M) : Fr SLy M0 (mX7_laySheet_b40 135 x1 x2 x3 x4 y1 y2 y3 y4 M) := by
  unfold mX7_laySheet_b40
  exact (Fr.m (vX7_laySide hM) (fun M7 _ hM7 => (Fr.i (vX7_laySheet_b60 hM7) (vX7_laySheet_b60 hM7))))
theorem vX7_laySheet_b31 {x1 : Int32} {x2 : Int32} {x3 : Int32} {x4 : Int32} {y1 : Int32} {y2 : Int32} {y3 : Int32} {M : Mem} (hM : KS SLy M0 M) : Fr SLy M0 (mX7_laySheet_b31 135 x1 x2 x3 x4 y1 y2 y3 M) := by
  unfold mX7_laySheet_b31
  exact (Fr.i (vX7_laySheet_b40 hM) (vX7_laySheet_b40 hM))
theorem vX7_laySheet_b17 {x1 : Int32} {x2 : Int32} {x3 : Int32} {y0 : Int32} {M : Mem} (hM : KS SLy M0 M) : Fr SLy M0 (mX7_laySheet_b17 135 x1 x2 x3 y0 M) := by
  unfold mX7_laySheet_b17
  exact (Fr.i (vX7_laySheet_b31 hM) (vX7_laySheet_b31 hM))
theorem vX7_laySheet {x1 : Int32} {x2 : Int32} {x3 : Int32} {M : Mem} (hM : KS SLy M0 M) : Fr SLy M0 (mX7_laySheet 135 x1 x2 x3 M) := by
  unfold mX7_laySheet
  exact (Fr.k (Fr.i (vX7_laySheet_b17 hM) (vX7_laySheet_b17 hM)))
theorem vX7_reasonOf {x1 : Int32} {x2 : Int32} {x3 : Int32} {M : Mem} (hM : KS SLy M0 M) : Fr SLy M0 (mX7_reasonOf 135 x1 x2 x3 M) := by
  unfold mX7_reasonOf
  exact (Fr.c (fun r2 => (Fr.i (Fr.c (fun r6 => (Fr.i (Fr.m (vX7_laySheet hM) (fun M11 _ hM11 => (Fr.c (fun r13 => (Fr.i (Fr.ok hM11) (Fr.c (fun r17 => (Fr.i (Fr.c (fun r21 => (Fr.i (Fr.c (fun r25 => (Fr.i (Fr.ok hM11) (Fr.ok hM11)))) (Fr.ok hM11)))) (Fr.ok hM11))))))))) (Fr.ok hM)))) (Fr.ok hM))))
theorem vX7_layFinished_b66 {ih14 : Int32 → Int32 → Mem → Option (Mem × Unit)} {x2 : Int32} {y0 : Int32} {M : Mem} (hih14 : ∀ (v0 : Int32) (v1 : Int32) (v2 : Mem), KS SLy M0 v2 → Fr SLy M0 (ih14 v0 v1 v2)) (hM : KS SLy M0 M) : Fr SLy M0 (mX7_layFinished_b66 135 ih14 x2 y0 M) := by
  unfold mX7_layFinished_b66
  exact (Fr.b (fun x2_67 => (hih14 _ _ _ hM)))
theorem vX7_layFinished_b63 {ih14 : Int32 → Int32 → Mem → Option (Mem × Unit)} {x2 : Int32} {y0 : Int32} {y1 : Int32} {M : Mem} (hih14 : ∀ (v0 : Int32) (v1 : Int32) (v2 : Mem), KS SLy M0 v2 → Fr SLy M0 (ih14 v0 v1 v2)) (hM : KS SLy M0 M) : Fr SLy M0 (mX7_layFinished_b63 135 ih14 x2 y0 y1 M) := by
  unfold mX7_layFinished_b63
  exact (vX7_layFinished_b66 hih14 hM)
theorem vX7_layFinished_b14 {ih14 : Int32 → Int32 → Mem → Option (Mem × Unit)} {x1 : Int32} {x2 : Int32} {M : Mem} (hih14 : ∀ (v0 : Int32) (v1 : Int32) (v2 : Mem), KS SLy M0 v2 → Fr SLy M0 (ih14 v0 v1 v2)) (hM : KS SLy M0 M) : Fr SLy M0 (mX7_layFinished_b14 135 ih14 x1 x2 M) := by
  unfold mX7_layFinished_b14
  exact (Fr.k (Fr.i (Fr.ok hM) (Fr.m (vX7_layLeg hM) (fun M9 _ hM9 => (Fr.k (Fr.i (vX7_layFinished_b66 hih14 hM9) (Fr.k (Fr.i (vX7_layFinished_b63 hih14 hM9) (vX7_layFinished_b63 hih14 hM9)))))))))
theorem vX7_layFinished_l14_n  : ∀ (n : Nat) (v0 : Int32) (v1 : Int32) (v2 : Mem), KS SLy M0 v2 → Fr SLy M0 (mX7_layFinished_l14 135 n v0 v1 v2) := by
  intro n
  induction n with
  | zero => intro v0 v1 v2 h; exact Fr.n
  | succ n IH => intro v0 v1 v2 h; exact vX7_layFinished_b14  IH h
theorem vX7_layFinished_l14  {v0 : Int32} {v1 : Int32} {v2 : Mem} {n : Nat} (h : KS SLy M0 v2) : Fr SLy M0 (mX7_layFinished_l14 135 n v0 v1 v2) := vX7_layFinished_l14_n   n v0 v1 v2 h
theorem vX7_layFinished {M : Mem} (hM : KS SLy M0 M) : Fr SLy M0 (mX7_layFinished 135 M) := by
  unfold mX7_layFinished
  exact (Fr.bw (Or.inl ⟨rfl, by decide⟩) hM (fun M1 hM1 => (Fr.bw (Or.inl ⟨rfl, by decide⟩) hM1 (fun M3 hM3 => (vX7_layFinished_l14 hM3)))))
theorem vX7_gaugeOf {x1 : Int32} {x2 : Int32} {x3 : Int32} {M : Mem} (hM : KS SLy M0 M) : Fr SLy M0 (mX7_gaugeOf 135 x1 x2 x3 M) := by
  unfold mX7_gaugeOf
  exact (Fr.m (vX7_laySheet hM) (fun M3 _ hM3 => (Fr.c (fun r5 => (Fr.ok hM3)))))
theorem vX7_layOrders_b117 {ih5 : Int32 → Mem → Option (Mem × Unit)} {x1 : Int32} {M : Mem} (hih5 : ∀ (v0 : Int32) (v1 : Mem), KS SLy M0 v1 → Fr SLy M0 (ih5 v0 v1)) (hM : KS SLy M0 M) : Fr SLy M0 (mX7_layOrders_b117 135 ih5 x1 M) := by
  unfold mX7_layOrders_b117
  exact (Fr.b (fun x1_117 => (hih5 _ _ hM)))
theorem vX7_layOrders_b109 {ih5 : Int32 → Mem → Option (Mem × Unit)} {ih30 : Int32 → Int32 → Mem → Option (Mem × Unit)} {x1 : Int32} {x2 : Int32} {y1 : Int32} {y2 : Int64} {y3 : Int64} {M : Mem} (hih5 : ∀ (v0 : Int32) (v1 : Mem), KS SLy M0 v1 → Fr SLy M0 (ih5 v0 v1)) (hih30 : ∀ (v0 : Int32) (v1 : Int32) (v2 : Mem), KS SLy M0 v2 → Fr SLy M0 (ih30 v0 v1 v2)) (hM : KS SLy M0 M) : Fr SLy M0 (mX7_layOrders_b109 135 ih5 ih30 x1 x2 y1 y2 y3 M) := by
  unfold mX7_layOrders_b109
  exact (Fr.k (Fr.bl hM (fun M30 hM30 => (Fr.b (fun x2_111 => (hih30 _ _ _ hM30))))))
theorem vX7_layOrders_b69 {ih5 : Int32 → Mem → Option (Mem × Unit)} {ih30 : Int32 → Int32 → Mem → Option (Mem × Unit)} {x1 : Int32} {x2 : Int32} {y0 : Int32} {M : Mem} (hih5 : ∀ (v0 : Int32) (v1 : Mem), KS SLy M0 v1 → Fr SLy M0 (ih5 v0 v1)) (hih30 : ∀ (v0 : Int32) (v1 : Int32) (v2 : Mem), KS SLy M0 v2 → Fr SLy M0 (ih30 v0 v1 v2)) (hM : KS SLy M0 M) : Fr SLy M0 (mX7_layOrders_b69 135 ih5 ih30 x1 x2 y0 M) := by
  unfold mX7_layOrders_b69
  exact (Fr.k (Fr.bw (Or.inr ⟨by decide, by decide⟩) hM (fun M25 hM25 => (Fr.k (Fr.i (vX7_layOrders_b109 hih5 hih30 hM25) (Fr.k (vX7_layOrders_b109 hih5 hih30 hM25)))))))
theorem vX7_layOrders_b30 {ih5 : Int32 → Mem → Option (Mem × Unit)} {ih30 : Int32 → Int32 → Mem → Option (Mem × Unit)} {x1 : Int32} {x2 : Int32} {M : Mem} (hih5 : ∀ (v0 : Int32) (v1 : Mem), KS SLy M0 v1 → Fr SLy M0 (ih5 v0 v1)) (hih30 : ∀ (v0 : Int32) (v1 : Int32) (v2 : Mem), KS SLy M0 v2 → Fr SLy M0 (ih30 v0 v1 v2)) (hM : KS SLy M0 M) : Fr SLy M0 (mX7_layOrders_b30 135 ih5 ih30 x1 x2 M) := by
  unfold mX7_layOrders_b30
  exact (Fr.k (Fr.i (vX7_layOrders_b117 hih5 hM) (Fr.c (fun r16 => (Fr.i (vX7_layOrders_b117 hih5 hM) (Fr.m (vX7_reasonOf hM) (fun M21 r20 hM21 => (Fr.i (vX7_layOrders_b69 hih5 hih30 hM21) (vX7_layOrders_b69 hih5 hih30 hM21)))))))))
theorem vX7_layOrders_l30_n {ih5 : Int32 → Mem → Option (Mem × Unit)} (hih5 : ∀ (u0 : Int32) (u1 : Mem), KS SLy M0 u1 → Fr SLy M0 (ih5 u0 u1)) : ∀ (n : Nat) (v0 : Int32) (v1 : Int32) (v2 : Mem), KS SLy M0 v2 → Fr SLy M0 (mX7_layOrders_l30 135 ih5 n v0 v1 v2) := by
  intro n
  induction n with
  | zero => intro v0 v1 v2 h; exact Fr.n
  | succ n IH => intro v0 v1 v2 h; exact vX7_layOrders_b30  hih5 IH h
theorem vX7_layOrders_l30 {ih5 : Int32 → Mem → Option (Mem × Unit)} {v0 : Int32} {v1 : Int32} {v2 : Mem} (hih5 : ∀ (u0 : Int32) (u1 : Mem), KS SLy M0 u1 → Fr SLy M0 (ih5 u0 u1)) {n : Nat} (h : KS SLy M0 v2) : Fr SLy M0 (mX7_layOrders_l30 135 ih5 n v0 v1 v2) := vX7_layOrders_l30_n  hih5 n v0 v1 v2 h
theorem vX7_layOrders_b27 {ih5 : Int32 → Mem → Option (Mem × Unit)} {x1 : Int32} {y1 : Int32} {y2 : Int64} {M : Mem} (hih5 : ∀ (v0 : Int32) (v1 : Mem), KS SLy M0 v1 → Fr SLy M0 (ih5 v0 v1)) (hM : KS SLy M0 M) : Fr SLy M0 (mX7_layOrders_b27 135 ih5 x1 y1 y2 M) := by
  unfold mX7_layOrders_b27
  exact (Fr.k (Fr.bl hM (fun M11 hM11 => (vX7_layOrders_l30 hih5 hM11))))
theorem vX7_layOrders_b5 {ih5 : Int32 → Mem → Option (Mem × Unit)} {x1 : Int32} {M : Mem} (hih5 : ∀ (v0 : Int32) (v1 : Mem), KS SLy M0 v1 → Fr SLy M0 (ih5 v0 v1)) (hM : KS SLy M0 M) : Fr SLy M0 (mX7_layOrders_b5 135 ih5 x1 M) := by
  unfold mX7_layOrders_b5
  exact (Fr.i (Fr.ok hM) (Fr.c (fun r6 => (Fr.i (vX7_layOrders_b27 hih5 hM) (vX7_layOrders_b27 hih5 hM)))))
theorem vX7_layOrders_l5_n  : ∀ (n : Nat) (v0 : Int32) (v1 : Mem), KS SLy M0 v1 → Fr SLy M0 (mX7_layOrders_l5 135 n v0 v1) := by
  intro n
  induction n with
  | zero => intro v0 v1 h; exact Fr.n
  | succ n IH => intro v0 v1 h; exact vX7_layOrders_b5  IH h
theorem vX7_layOrders_l5  {v0 : Int32} {v1 : Mem} {n : Nat} (h : KS SLy M0 v1) : Fr SLy M0 (mX7_layOrders_l5 135 n v0 v1) := vX7_layOrders_l5_n   n v0 v1 h
theorem vX7_layOrders {M : Mem} (hM : KS SLy M0 M) : Fr SLy M0 (mX7_layOrders 135 M) := by
  unfold mX7_layOrders
  exact (Fr.c (fun r2 => (vX7_layOrders_l5 hM)))
theorem vX7_layCost_b165 {ih36 : Int32 → Int32 → Int32 → Int32 → Int32 → Mem → Option (Mem × Unit)} {x1 : Int32} {x2 : Int32} {x3 : Int32} {x4 : Int32} {x5 : Int32} {M : Mem} (hih36 : ∀ (v0 : Int32) (v1 : Int32) (v2 : Int32) (v3 : Int32) (v4 : Int32) (v5 : Mem), KS SLy M0 v5 → Fr SLy M0 (ih36 v0 v1 v2 v3 v4 v5)) (hM : KS SLy M0 M) : Fr SLy M0 (mX7_layCost_b165 135 ih36 x1 x2 x3 x4 x5 M) := by
  unfold mX7_layCost_b165
  exact (Fr.b (fun x5_165 => (hih36 _ _ _ _ _ _ hM)))
theorem vX7_layCost_b117 {ih36 : Int32 → Int32 → Int32 → Int32 → Int32 → Mem → Option (Mem × Unit)} {x1 : Int32} {x2 : Int32} {x3 : Int32} {x4 : Int32} {x5 : Int32} {x6 : Int32} {y0 : Int32} {M : Mem} (hih36 : ∀ (v0 : Int32) (v1 : Int32) (v2 : Int32) (v3 : Int32) (v4 : Int32) (v5 : Mem), KS SLy M0 v5 → Fr SLy M0 (ih36 v0 v1 v2 v3 v4 v5)) (hM : KS SLy M0 M) : Fr SLy M0 (mX7_layCost_b117 135 ih36 x1 x2 x3 x4 x5 x6 y0 M) := by
  unfold mX7_layCost_b117
  exact (Fr.b (fun x8_131 => (Fr.k (Fr.b (fun x3_147 => (Fr.k (Fr.b (fun x4_163 => (vX7_layCost_b165 hih36 hM)))))))))
theorem vX7_layCost_b36 {ih36 : Int32 → Int32 → Int32 → Int32 → Int32 → Mem → Option (Mem × Unit)} {x1 : Int32} {x2 : Int32} {x3 : Int32} {x4 : Int32} {x5 : Int32} {M : Mem} (hih36 : ∀ (v0 : Int32) (v1 : Int32) (v2 : Int32) (v3 : Int32) (v4 : Int32) (v5 : Mem), KS SLy M0 v5 → Fr SLy M0 (ih36 v0 v1 v2 v3 v4 v5)) (hM : KS SLy M0 M) : Fr SLy M0 (mX7_layCost_b36 135 ih36 x1 x2 x3 x4 x5 M) := by
  unfold mX7_layCost_b36
  exact (Fr.k (Fr.i (Fr.k (Fr.bw (Or.inr ⟨by decide, by decide⟩) hM (fun M13 hM13 => (Fr.k (Fr.bw (Or.inr ⟨by decide, by decide⟩) hM13 (fun M16 hM16 => (Fr.ok hM16))))))) (Fr.k (Fr.i (vX7_layCost_b165 hih36 hM) (Fr.b (fun x6_71 => (Fr.i (vX7_layCost_b117 hih36 hM) (Fr.c (fun r22 => (Fr.k (Fr.c (fun r26 => (vX7_layCost_b117 hih36 hM)))))))))))))
theorem vX7_layCost_l36_n  : ∀ (n : Nat) (v0 : Int32) (v1 : Int32) (v2 : Int32) (v3 : Int32) (v4 : Int32) (v5 : Mem), KS SLy M0 v5 → Fr SLy M0 (mX7_layCost_l36 135 n v0 v1 v2 v3 v4 v5) := by
  intro n
  induction n with
  | zero => intro v0 v1 v2 v3 v4 v5 h; exact Fr.n
  | succ n IH => intro v0 v1 v2 v3 v4 v5 h; exact vX7_layCost_b36  IH h
theorem vX7_layCost_l36  {v0 : Int32} {v1 : Int32} {v2 : Int32} {v3 : Int32} {v4 : Int32} {v5 : Mem} {n : Nat} (h : KS SLy M0 v5) : Fr SLy M0 (mX7_layCost_l36 135 n v0 v1 v2 v3 v4 v5) := vX7_layCost_l36_n   n v0 v1 v2 v3 v4 v5 h
theorem vX7_layCost_b31 {x1 : Int32} {x2 : Int32} {x3 : Int32} {y0 : Int32} {M : Mem} (hM : KS SLy M0 M) : Fr SLy M0 (mX7_layCost_b31 135 x1 x2 x3 y0 M) := by
  unfold mX7_layCost_b31
  exact (vX7_layCost_l36 hM)
theorem vX7_layCost_b15 {x1 : Int32} {x2 : Int32} {y0 : Int32} {M : Mem} (hM : KS SLy M0 M) : Fr SLy M0 (mX7_layCost_b15 135 x1 x2 y0 M) := by
  unfold mX7_layCost_b15
  exact (Fr.c (fun r6 => (Fr.i (vX7_layCost_b31 hM) (vX7_layCost_b31 hM))))
theorem vX7_layCost {x1 : Int32} {x2 : Int32} {M : Mem} (hM : KS SLy M0 M) : Fr SLy M0 (mX7_layCost 135 x1 x2 M) := by
  unfold mX7_layCost
  exact (Fr.c (fun r2 => (Fr.i (vX7_layCost_b15 hM) (vX7_layCost_b15 hM))))
theorem vX7_layCosts_b127 {ih67 : Int32 → Mem → Option (Mem × Unit)} {x1 : Int32} {M : Mem} (hih67 : ∀ (v0 : Int32) (v1 : Mem), KS SLy M0 v1 → Fr SLy M0 (ih67 v0 v1)) (hM : KS SLy M0 M) : Fr SLy M0 (mX7_layCosts_b127 135 ih67 x1 M) := by
  unfold mX7_layCosts_b127
  exact (Fr.b (fun x1_127 => (hih67 _ _ hM)))
theorem vX7_layCosts_b121 {ih67 : Int32 → Mem → Option (Mem × Unit)} {ih73 : Int32 → Int32 → Mem → Option (Mem × Unit)} {x1 : Int32} {x2 : Int32} {M : Mem} (hih67 : ∀ (v0 : Int32) (v1 : Mem), KS SLy M0 v1 → Fr SLy M0 (ih67 v0 v1)) (hih73 : ∀ (v0 : Int32) (v1 : Int32) (v2 : Mem), KS SLy M0 v2 → Fr SLy M0 (ih73 v0 v1 v2)) (hM : KS SLy M0 M) : Fr SLy M0 (mX7_layCosts_b121 135 ih67 ih73 x1 x2 M) := by
  unfold mX7_layCosts_b121
  exact (Fr.b (fun x2_121 => (hih73 _ _ _ hM)))
theorem vX7_layCosts_b115 {ih67 : Int32 → Mem → Option (Mem × Unit)} {ih73 : Int32 → Int32 → Mem → Option (Mem × Unit)} {x1 : Int32} {x2 : Int32} {M : Mem} (hih67 : ∀ (v0 : Int32) (v1 : Mem), KS SLy M0 v1 → Fr SLy M0 (ih67 v0 v1)) (hih73 : ∀ (v0 : Int32) (v1 : Int32) (v2 : Mem), KS SLy M0 v2 → Fr SLy M0 (ih73 v0 v1 v2)) (hM : KS SLy M0 M) : Fr SLy M0 (mX7_layCosts_b115 135 ih67 ih73 x1 x2 M) := by
  unfold mX7_layCosts_b115
  exact (Fr.m (vX7_layCost hM) (fun M21 _ hM21 => (vX7_layCosts_b121 hih67 hih73 hM21)))
theorem vX7_layCosts_b73 {ih67 : Int32 → Mem → Option (Mem × Unit)} {ih73 : Int32 → Int32 → Mem → Option (Mem × Unit)} {x1 : Int32} {x2 : Int32} {M : Mem} (hih67 : ∀ (v0 : Int32) (v1 : Mem), KS SLy M0 v1 → Fr SLy M0 (ih67 v0 v1)) (hih73 : ∀ (v0 : Int32) (v1 : Int32) (v2 : Mem), KS SLy M0 v2 → Fr SLy M0 (ih73 v0 v1 v2)) (hM : KS SLy M0 M) : Fr SLy M0 (mX7_layCosts_b73 135 ih67 ih73 x1 x2 M) := by
  unfold mX7_layCosts_b73
  exact (Fr.i (vX7_layCosts_b127 hih67 hM) (Fr.c (fun r15 => (Fr.i (vX7_layCosts_b127 hih67 hM) (Fr.i (vX7_layCosts_b115 hih67 hih73 hM) (Fr.k (Fr.i (vX7_layCosts_b121 hih67 hih73 hM) (Fr.c (fun r26 => (Fr.i (vX7_layCosts_b121 hih67 hih73 hM) (vX7_layCosts_b115 hih67 hih73 hM)))))))))))
theorem vX7_layCosts_l73_n {ih67 : Int32 → Mem → Option (Mem × Unit)} (hih67 : ∀ (u0 : Int32) (u1 : Mem), KS SLy M0 u1 → Fr SLy M0 (ih67 u0 u1)) : ∀ (n : Nat) (v0 : Int32) (v1 : Int32) (v2 : Mem), KS SLy M0 v2 → Fr SLy M0 (mX7_layCosts_l73 135 ih67 n v0 v1 v2) := by
  intro n
  induction n with
  | zero => intro v0 v1 v2 h; exact Fr.n
  | succ n IH => intro v0 v1 v2 h; exact vX7_layCosts_b73  hih67 IH h
theorem vX7_layCosts_l73 {ih67 : Int32 → Mem → Option (Mem × Unit)} {v0 : Int32} {v1 : Int32} {v2 : Mem} (hih67 : ∀ (u0 : Int32) (u1 : Mem), KS SLy M0 u1 → Fr SLy M0 (ih67 u0 u1)) {n : Nat} (h : KS SLy M0 v2) : Fr SLy M0 (mX7_layCosts_l73 135 ih67 n v0 v1 v2) := vX7_layCosts_l73_n  hih67 n v0 v1 v2 h
theorem vX7_layCosts_b67 {ih67 : Int32 → Mem → Option (Mem × Unit)} {x1 : Int32} {M : Mem} (hih67 : ∀ (v0 : Int32) (v1 : Mem), KS SLy M0 v1 → Fr SLy M0 (ih67 v0 v1)) (hM : KS SLy M0 M) : Fr SLy M0 (mX7_layCosts_b67 135 ih67 x1 M) := by
  unfold mX7_layCosts_b67
  exact (Fr.i (Fr.ok hM) (vX7_layCosts_l73 hih67 hM))
theorem vX7_layCosts_l67_n  : ∀ (n : Nat) (v0 : Int32) (v1 : Mem), KS SLy M0 v1 → Fr SLy M0 (mX7_layCosts_l67 135 n v0 v1) := by
  intro n
  induction n with
  | zero => intro v0 v1 h; exact Fr.n
  | succ n IH => intro v0 v1 h; exact vX7_layCosts_b67  IH h
theorem vX7_layCosts_l67  {v0 : Int32} {v1 : Mem} {n : Nat} (h : KS SLy M0 v1) : Fr SLy M0 (mX7_layCosts_l67 135 n v0 v1) := vX7_layCosts_l67_n   n v0 v1 h
theorem vX7_layCosts_b16 {ih6 : Int32 → Mem → Option (Mem × Unit)} {ih16 : Int32 → Int32 → Mem → Option (Mem × Unit)} {x1 : Int32} {x2 : Int32} {M : Mem} (hih6 : ∀ (v0 : Int32) (v1 : Mem), KS SLy M0 v1 → Fr SLy M0 (ih6 v0 v1)) (hih16 : ∀ (v0 : Int32) (v1 : Int32) (v2 : Mem), KS SLy M0 v2 → Fr SLy M0 (ih16 v0 v1 v2)) (hM : KS SLy M0 M) : Fr SLy M0 (mX7_layCosts_b16 135 ih6 ih16 x1 x2 M) := by
  unfold mX7_layCosts_b16
  exact (Fr.k (Fr.i (Fr.b (fun x1_56 => (hih6 _ _ hM))) (Fr.m (vX7_gaugeOf hM) (fun M34 r33 hM34 => (Fr.k (Fr.bw (Or.inr ⟨by decide, by decide⟩) hM34 (fun M37 hM37 => (Fr.b (fun x2_50 => (hih16 _ _ _ hM37))))))))))
theorem vX7_layCosts_l16_n {ih6 : Int32 → Mem → Option (Mem × Unit)} (hih6 : ∀ (u0 : Int32) (u1 : Mem), KS SLy M0 u1 → Fr SLy M0 (ih6 u0 u1)) : ∀ (n : Nat) (v0 : Int32) (v1 : Int32) (v2 : Mem), KS SLy M0 v2 → Fr SLy M0 (mX7_layCosts_l16 135 ih6 n v0 v1 v2) := by
  intro n
  induction n with
  | zero => intro v0 v1 v2 h; exact Fr.n
  | succ n IH => intro v0 v1 v2 h; exact vX7_layCosts_b16  hih6 IH h
theorem vX7_layCosts_l16 {ih6 : Int32 → Mem → Option (Mem × Unit)} {v0 : Int32} {v1 : Int32} {v2 : Mem} (hih6 : ∀ (u0 : Int32) (u1 : Mem), KS SLy M0 u1 → Fr SLy M0 (ih6 u0 u1)) {n : Nat} (h : KS SLy M0 v2) : Fr SLy M0 (mX7_layCosts_l16 135 ih6 n v0 v1 v2) := vX7_layCosts_l16_n  hih6 n v0 v1 v2 h
theorem vX7_layCosts_b6 {ih6 : Int32 → Mem → Option (Mem × Unit)} {x1 : Int32} {M : Mem} (hih6 : ∀ (v0 : Int32) (v1 : Mem), KS SLy M0 v1 → Fr SLy M0 (ih6 v0 v1)) (hM : KS SLy M0 M) : Fr SLy M0 (mX7_layCosts_b6 135 ih6 x1 M) := by
  unfold mX7_layCosts_b6
  exact (Fr.c (fun r5 => (Fr.i (Fr.c (fun r9 => (vX7_layCosts_l67 hM))) (vX7_layCosts_l16 hih6 hM))))
theorem vX7_layCosts_l6_n  : ∀ (n : Nat) (v0 : Int32) (v1 : Mem), KS SLy M0 v1 → Fr SLy M0 (mX7_layCosts_l6 135 n v0 v1) := by
  intro n
  induction n with
  | zero => intro v0 v1 h; exact Fr.n
  | succ n IH => intro v0 v1 h; exact vX7_layCosts_b6  IH h
theorem vX7_layCosts_l6  {v0 : Int32} {v1 : Mem} {n : Nat} (h : KS SLy M0 v1) : Fr SLy M0 (mX7_layCosts_l6 135 n v0 v1) := vX7_layCosts_l6_n   n v0 v1 h
theorem vX7_layCosts {M : Mem} (hM : KS SLy M0 M) : Fr SLy M0 (mX7_layCosts 135 M) := by
  unfold mX7_layCosts
  exact (Fr.m (vX7_layOrders hM) (fun M3 _ hM3 => (vX7_layCosts_l6 hM3)))
theorem vX7_layReached_b107 {ih44 : Int32 → Mem → Option (Mem × Unit)} {x1 : Int32} {M : Mem} (hih44 : ∀ (v0 : Int32) (v1 : Mem), KS SLy M0 v1 → Fr SLy M0 (ih44 v0 v1)) (hM : KS SLy M0 M) : Fr SLy M0 (mX7_layReached_b107 135 ih44 x1 M) := by
  unfold mX7_layReached_b107
  exact (Fr.b (fun x1_107 => (hih44 _ _ hM)))
theorem vX7_layReached_b54 {ih44 : Int32 → Mem → Option (Mem × Unit)} {ih54 : Int32 → Int32 → Mem → Option (Mem × Unit)} {x1 : Int32} {x2 : Int32} {M : Mem} (hih44 : ∀ (v0 : Int32) (v1 : Mem), KS SLy M0 v1 → Fr SLy M0 (ih44 v0 v1)) (hih54 : ∀ (v0 : Int32) (v1 : Int32) (v2 : Mem), KS SLy M0 v2 → Fr SLy M0 (ih54 v0 v1 v2)) (hM : KS SLy M0 M) : Fr SLy M0 (mX7_layReached_b54 135 ih44 ih54 x1 x2 M) := by
  unfold mX7_layReached_b54
  exact (Fr.k (Fr.i (vX7_layReached_b107 hih44 hM) (Fr.k (Fr.i (vX7_layReached_b107 hih44 hM) (Fr.k (Fr.k (Fr.k (Fr.bw (Or.inr ⟨by decide, by decide⟩) hM (fun M21 hM21 => (Fr.b (fun x2_101 => (hih54 _ _ _ hM21))))))))))))
theorem vX7_layReached_l54_n {ih44 : Int32 → Mem → Option (Mem × Unit)} (hih44 : ∀ (u0 : Int32) (u1 : Mem), KS SLy M0 u1 → Fr SLy M0 (ih44 u0 u1)) : ∀ (n : Nat) (v0 : Int32) (v1 : Int32) (v2 : Mem), KS SLy M0 v2 → Fr SLy M0 (mX7_layReached_l54 135 ih44 n v0 v1 v2) := by
  intro n
  induction n with
  | zero => intro v0 v1 v2 h; exact Fr.n
  | succ n IH => intro v0 v1 v2 h; exact vX7_layReached_b54  hih44 IH h
theorem vX7_layReached_l54 {ih44 : Int32 → Mem → Option (Mem × Unit)} {v0 : Int32} {v1 : Int32} {v2 : Mem} (hih44 : ∀ (u0 : Int32) (u1 : Mem), KS SLy M0 u1 → Fr SLy M0 (ih44 u0 u1)) {n : Nat} (h : KS SLy M0 v2) : Fr SLy M0 (mX7_layReached_l54 135 ih44 n v0 v1 v2) := vX7_layReached_l54_n  hih44 n v0 v1 v2 h
theorem vX7_layReached_b44 {ih44 : Int32 → Mem → Option (Mem × Unit)} {x1 : Int32} {M : Mem} (hih44 : ∀ (v0 : Int32) (v1 : Mem), KS SLy M0 v1 → Fr SLy M0 (ih44 v0 v1)) (hM : KS SLy M0 M) : Fr SLy M0 (mX7_layReached_b44 135 ih44 x1 M) := by
  unfold mX7_layReached_b44
  exact (Fr.c (fun r9 => (Fr.i (Fr.ok hM) (vX7_layReached_l54 hih44 hM))))
theorem vX7_layReached_l44_n  : ∀ (n : Nat) (v0 : Int32) (v1 : Mem), KS SLy M0 v1 → Fr SLy M0 (mX7_layReached_l44 135 n v0 v1) := by
  intro n
  induction n with
  | zero => intro v0 v1 h; exact Fr.n
  | succ n IH => intro v0 v1 h; exact vX7_layReached_b44  IH h
theorem vX7_layReached_l44  {v0 : Int32} {v1 : Mem} {n : Nat} (h : KS SLy M0 v1) : Fr SLy M0 (mX7_layReached_l44 135 n v0 v1) := vX7_layReached_l44_n   n v0 v1 h
theorem vX7_layReached_b35 {ih6 : Int32 → Mem → Option (Mem × Unit)} {x1 : Int32} {y1 : Int32} {y2 : Int32} {M : Mem} (hih6 : ∀ (v0 : Int32) (v1 : Mem), KS SLy M0 v1 → Fr SLy M0 (ih6 v0 v1)) (hM : KS SLy M0 M) : Fr SLy M0 (mX7_layReached_b35 135 ih6 x1 y1 y2 M) := by
  unfold mX7_layReached_b35
  exact (Fr.k (Fr.bw (Or.inr ⟨by decide, by decide⟩) hM (fun M27 hM27 => (Fr.b (fun x1_36 => (hih6 _ _ hM27))))))
theorem vX7_layReached_b6 {ih6 : Int32 → Mem → Option (Mem × Unit)} {x1 : Int32} {M : Mem} (hih6 : ∀ (v0 : Int32) (v1 : Mem), KS SLy M0 v1 → Fr SLy M0 (ih6 v0 v1)) (hM : KS SLy M0 M) : Fr SLy M0 (mX7_layReached_b6 135 ih6 x1 M) := by
  unfold mX7_layReached_b6
  exact (Fr.c (fun r5 => (Fr.i (vX7_layReached_l44 hM) (Fr.k (Fr.i (vX7_layReached_b35 hih6 hM) (vX7_layReached_b35 hih6 hM))))))
theorem vX7_layReached_l6_n  : ∀ (n : Nat) (v0 : Int32) (v1 : Mem), KS SLy M0 v1 → Fr SLy M0 (mX7_layReached_l6 135 n v0 v1) := by
  intro n
  induction n with
  | zero => intro v0 v1 h; exact Fr.n
  | succ n IH => intro v0 v1 h; exact vX7_layReached_b6  IH h
theorem vX7_layReached_l6  {v0 : Int32} {v1 : Mem} {n : Nat} (h : KS SLy M0 v1) : Fr SLy M0 (mX7_layReached_l6 135 n v0 v1) := vX7_layReached_l6_n   n v0 v1 h
theorem vX7_layReached {M : Mem} (hM : KS SLy M0 M) : Fr SLy M0 (mX7_layReached 135 M) := by
  unfold mX7_layReached
  exact (Fr.m (vX7_layOrders hM) (fun M3 _ hM3 => (vX7_layReached_l6 hM3)))
end FFlay
