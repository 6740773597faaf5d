/-! the long numbers: kept by all methods of the class but the counting of orders (printed) -/
def KL (M M' : Mem) : Prop := M'.2.1 129 = M.2.1 129
def FL {ρ : Type} (M : Mem) (x : Option (Mem × ρ)) : Prop := ∀ q, x = some q → KL M q.1
section FLS
variable {M M' M'' : Mem} {ρ σ γ : Type}
theorem KL.rf : KL M M := rfl
theorem KL.trans (h : KL M M') (h' : KL M' M'') : KL M M'' := Eq.trans h' h
theorem KL.rl (h : KL M M') (j : Nat) : rl M' (110 + 19) j = rl M (110 + 19) j := congrFun h j
theorem KL.wr {k j : Nat} {v : Int32} (h : KL M M') : KL M (wr M' k j v) := h
theorem KL.wd {k j : Nat} {v : UInt64} (h : KL M M') : KL M (wd M' k j v) := h
theorem KL.cp {k k2 sp dp n : Nat} (h : KL M M') : KL M (cpy M' k k2 sp dp n) := h
theorem FL.ok {r : ρ} (h : KL M M') : FL M (some (M', r)) := fun q e => by cases e; exact h
theorem FL.n : FL M (none : Option (Mem × ρ)) := fun q e => by cases e
theorem FL.bw {k j : Nat} {v : Int32} {K : Mem → Option (Mem × ρ)} (h : KL M M') (hk : ∀ M1, KL M M1 → FL M (K M1)) : FL M (bnd (wr M' k j v) K) := hk _ h.wr
theorem FL.bd {k j : Nat} {v : UInt64} {K : Mem → Option (Mem × ρ)} (h : KL M M') (hk : ∀ M1, KL M M1 → FL M (K M1)) : FL M (bnd (wd M' k j v) K) := hk _ h.wd
theorem FL.bc {k k2 sp dp n : Nat} {K : Mem → Option (Mem × ρ)} (h : KL M M') (hk : ∀ M1, KL M M1 → FL M (K M1)) : FL M (bnd (cpy M' k k2 sp dp n) K) := hk _ h.cp
theorem FL.b {e : γ} {K : γ → Option (Mem × ρ)} (hk : ∀ v, FL M (K v)) : FL M (bnd e K) := hk e
theorem FL.k {b : Bool} {x : Option (Mem × ρ)} (h : FL M x) : FL M (chk b x) := fun q e => h q (chk_s e).2
theorem FL.i {c : Prop} [Decidable c] {a b : Option (Mem × ρ)} (h1 : FL M a) (h2 : FL M b) : FL M (ite2 c a b) := by
  unfold ite2
  split
  · exact h1
  · exact h2
theorem FL.c {x : Option γ} {K : γ → Option (Mem × ρ)} (hk : ∀ r, FL M (K r)) : FL M (cap x K) := fun q e => by
  obtain ⟨r, _, e2⟩ := cap_s e
  exact hk r q e2
theorem FL.m {x : Option (Mem × σ)} {K : Mem → σ → Option (Mem × ρ)} (h : FL M x) (hk : ∀ M1 r, KL M M1 → FL M (K M1 r)) : FL M (cal x K) := fun q e => by
  obtain ⟨M1, r, e1, e2⟩ := cal_s e
  exact hk M1 r (h _ e1) q e2
theorem FL.o {r : Option Nat} {a : Option (Mem × ρ)} {b : Nat → Option (Mem × ρ)} (h1 : FL M a) (h2 : ∀ w, FL M (b w)) : FL M (opt r a b) := by
  cases r with
  | none => exact h1
  | some w => exact h2 w
theorem FL.x {x : Option (Mem × (ρ ⊕ Nat))} {K : Mem → ρ → Option (Mem × (σ ⊕ Nat))} (h : FL M x) (hk : ∀ M1 r, KL M M1 → FL M (K M1 r)) : FL M (calx x K) := fun q e => by
  cases x with
  | none => cases e
  | some y =>
    obtain ⟨M1, r⟩ := y
    cases r with
    | inl r => exact hk M1 r (h _ rfl) q e
    | inr w => cases e; exact h _ rfl
theorem FL.t {x : Option (Mem × (γ ⊕ Nat))} {K : Mem → γ → Option (Mem × ρ)} {g : Mem → Nat → Option (Mem × ρ)} (h : FL M x) (hk : ∀ M1 r, KL M M1 → FL M (K M1 r)) (hg : ∀ M1 r, KL M M1 → FL M (g M1 r)) : FL M (calt x K g) := fun q e => by
  cases x with
  | none => cases e
  | some y =>
    obtain ⟨M1, r⟩ := y
    cases r with
    | inl r => exact hk M1 r (h _ rfl) q e
    | inr w => exact hg M1 w (h _ rfl) q e
end FLS
section FFlng
variable {M0 : Mem}
theorem lX1_putSheet {k0 : Nat} {x1 : Int32} {x2 : Int32} {x3 : Int32} {M : Mem} (hM : KL M0 M) : FL M0 (mX1_putSheet k0 x1 x2 x3 M) := by
  unfold mX1_putSheet
  exact (FL.bw hM (fun M1 hM1 => (FL.bw hM1 (fun M3 hM3 => (FL.bw hM3 (fun M5 hM5 => (FL.ok hM5)))))))
theorem lX1_putTool {k0 : Nat} {x1 : Int32} {x2 : Int32} {x3 : Int32} {M : Mem} (hM : KL M0 M) : FL M0 (mX1_putTool k0 x1 x2 x3 M) := by
  unfold mX1_putTool
  exact (FL.i (FL.ok hM) (FL.i (FL.ok hM) (FL.k (FL.bw hM (fun M5 hM5 => (FL.k (FL.bw hM5 (fun M8 hM8 => (FL.ok hM8)))))))))
theorem lX1_putCosts {k0 : Nat} {x1 : Int32} {x2 : Int32} {x3 : Int32} {M : Mem} (hM : KL M0 M) : FL M0 (mX1_putCosts k0 x1 x2 x3 M) := by
  unfold mX1_putCosts
  exact (FL.bw hM (fun M1 hM1 => (FL.bw hM1 (fun M3 hM3 => (FL.bw hM3 (fun M5 hM5 => (FL.ok hM5)))))))
theorem lX1_dropSteps {k0 : Nat} {M : Mem} (hM : KL M0 M) : FL M0 (mX1_dropSteps k0 M) := by
  unfold mX1_dropSteps
  exact (FL.bw hM (fun M1 hM1 => (FL.bw hM1 (fun M3 hM3 => (FL.ok hM3)))))
theorem lX1_clear {k0 : Nat} {M : Mem} (hM : KL M0 M) : FL M0 (mX1_clear k0 M) := by
  unfold mX1_clear
  exact (FL.bw hM (fun M1 hM1 => (FL.bw hM1 (fun M3 hM3 => (FL.bw hM3 (fun M5 hM5 => (FL.m (lX1_putSheet hM5) (fun M9 _ hM9 => (FL.m (lX1_putTool hM9) (fun M12 _ hM12 => (FL.m (lX1_putTool hM12) (fun M15 _ hM15 => (FL.m (lX1_putTool hM15) (fun M18 _ hM18 => (FL.m (lX1_putTool hM18) (fun M21 _ hM21 => (FL.m (lX1_putTool hM21) (fun M24 _ hM24 => (FL.m (lX1_putCosts hM24) (fun M27 _ hM27 => (FL.m (lX1_dropSteps hM27) (fun M30 _ hM30 => (FL.ok hM30)))))))))))))))))))))))
theorem lX1_copyFrom {k0 : Nat} {k1 : Nat} {M : Mem} (hM : KL M0 M) : FL M0 (mX1_copyFrom k0 k1 M) := by
  unfold mX1_copyFrom
  exact (FL.bw hM (fun M1 hM1 => (FL.bc hM1 (fun M3 hM3 => (FL.bw hM3 (fun M5 hM5 => (FL.m (lX1_putSheet hM5) (fun M9 _ hM9 => (FL.bc hM9 (fun M10 hM10 => (FL.m (lX1_putCosts hM10) (fun M14 _ hM14 => (FL.bw hM14 (fun M15 hM15 => (FL.bc hM15 (fun M17 hM17 => (FL.bc hM17 (fun M19 hM19 => (FL.bw hM19 (fun M21 hM21 => (FL.bw hM21 (fun M23 hM23 => (FL.bc hM23 (fun M25 hM25 => (FL.bc hM25 (fun M27 hM27 => (FL.bc hM27 (fun M29 hM29 => (FL.ok hM29)))))))))))))))))))))))))))))
theorem lX1_addBack {k0 : Nat} {x1 : Int32} {x2 : Int32} {M : Mem} (hM : KL M0 M) : FL M0 (mX1_addBack k0 x1 x2 M) := by
  unfold mX1_addBack
  exact (FL.i (FL.ok hM) (FL.k (FL.bw hM (fun M4 hM4 => (FL.k (FL.bw hM4 (fun M7 hM7 => (FL.bw hM7 (fun M8 hM8 => (FL.ok hM8))))))))))
theorem lX1_addLeg_b47 {k0 : Nat} {M : Mem} (hM : KL M0 M) : FL M0 (mX1_addLeg_b47 k0 M) := by
  unfold mX1_addLeg_b47
  exact (FL.bw hM (fun M6 hM6 => (FL.ok hM6)))
theorem lX1_addLeg {k0 : Nat} {x1 : Int32} {x2 : Int32} {M : Mem} (hM : KL M0 M) : FL M0 (mX1_addLeg k0 x1 x2 M) := by
  unfold mX1_addLeg
  exact (FL.i (FL.ok hM) (FL.k (FL.bw hM (fun M4 hM4 => (FL.i (lX1_addLeg_b47 hM4) (FL.i (lX1_addLeg_b47 hM4) (FL.bw hM4 (fun M9 hM9 => (lX1_addLeg_b47 hM9)))))))))
theorem lX1_addStep {k0 : Nat} {x1 : Int32} {x2 : Int32} {x3 : Int32} {M : Mem} (hM : KL M0 M) : FL M0 (mX1_addStep k0 x1 x2 x3 M) := by
  unfold mX1_addStep
  exact (FL.i (FL.ok hM) (FL.k (FL.bw hM (fun M4 hM4 => (FL.k (FL.bw hM4 (fun M7 hM7 => (FL.k (FL.bw hM7 (fun M10 hM10 => (FL.bw hM10 (fun M11 hM11 => (FL.bw hM11 (fun M13 hM13 => (FL.ok hM13)))))))))))))))
theorem lX2_walk_b272 {k0 : Nat} {k1 : Nat} {ih13 : Int32 → Int32 → Int32 → Int32 → Int32 → Int32 → Int32 → Int32 → Mem → Option (Mem × Unit)} {x3 : Int32} {x5 : Int32} {x6 : Int32} {x7 : Int32} {x8 : Int32} {x9 : Int32} {x10 : Int32} {x11 : Int32} {M : Mem} (hih13 : ∀ (v0 : Int32) (v1 : Int32) (v2 : Int32) (v3 : Int32) (v4 : Int32) (v5 : Int32) (v6 : Int32) (v7 : Int32) (v8 : Mem), KL M0 v8 → FL M0 (ih13 v0 v1 v2 v3 v4 v5 v6 v7 v8)) (hM : KL M0 M) : FL M0 (mX2_walk_b272 k0 k1 ih13 x3 x5 x6 x7 x8 x9 x10 x11 M) := by
  unfold mX2_walk_b272
  exact (FL.b (fun x11_276 => (hih13 _ _ _ _ _ _ _ _ _ hM)))
theorem lX2_walk_b267 {k0 : Nat} {k1 : Nat} {ih13 : Int32 → Int32 → Int32 → Int32 → Int32 → Int32 → Int32 → Int32 → Mem → Option (Mem × Unit)} {x3 : Int32} {x5 : Int32} {x6 : Int32} {x7 : Int32} {x8 : Int32} {x9 : Int32} {x11 : Int32} {y0 : Int32} {y1 : Int32} {M : Mem} (hih13 : ∀ (v0 : Int32) (v1 : Int32) (v2 : Int32) (v3 : Int32) (v4 : Int32) (v5 : Int32) (v6 : Int32) (v7 : Int32) (v8 : Mem), KL M0 v8 → FL M0 (ih13 v0 v1 v2 v3 v4 v5 v6 v7 v8)) (hM : KL M0 M) : FL M0 (mX2_walk_b267 k0 k1 ih13 x3 x5 x6 x7 x8 x9 x11 y0 y1 M) := by
  unfold mX2_walk_b267
  exact (FL.b (fun x10_270 => (lX2_walk_b272 hih13 hM)))
theorem lX2_walk_b249 {k0 : Nat} {k1 : Nat} {ih13 : Int32 → Int32 → Int32 → Int32 → Int32 → Int32 → Int32 → Int32 → Mem → Option (Mem × Unit)} {x3 : Int32} {x5 : Int32} {x6 : Int32} {x7 : Int32} {x8 : Int32} {x9 : Int32} {x10 : Int32} {x11 : Int32} {y0 : Int32} {M : Mem} (hih13 : ∀ (v0 : Int32) (v1 : Int32) (v2 : Int32) (v3 : Int32) (v4 : Int32) (v5 : Int32) (v6 : Int32) (v7 : Int32) (v8 : Mem), KL M0 v8 → FL M0 (ih13 v0 v1 v2 v3 v4 v5 v6 v7 v8)) (hM : KL M0 M) : FL M0 (mX2_walk_b249 k0 k1 ih13 x3 x5 x6 x7 x8 x9 x10 x11 y0 M) := by
  unfold mX2_walk_b249
  exact (FL.i (lX2_walk_b267 hih13 hM) (lX2_walk_b267 hih13 hM))
theorem lX2_walk_b217 {k0 : Nat} {k1 : Nat} {ih13 : Int32 → Int32 → Int32 → Int32 → Int32 → Int32 → Int32 → Int32 → Mem → Option (Mem × Unit)} {x3 : Int32} {x5 : Int32} {x6 : Int32} {x7 : Int32} {x8 : Int32} {x9 : Int32} {x10 : Int32} {x11 : Int32} {y0 : Int32} {M : Mem} (hih13 : ∀ (v0 : Int32) (v1 : Int32) (v2 : Int32) (v3 : Int32) (v4 : Int32) (v5 : Int32) (v6 : Int32) (v7 : Int32) (v8 : Mem), KL M0 v8 → FL M0 (ih13 v0 v1 v2 v3 v4 v5 v6 v7 v8)) (hM : KL M0 M) : FL M0 (mX2_walk_b217 k0 k1 ih13 x3 x5 x6 x7 x8 x9 x10 x11 y0 M) := by
  unfold mX2_walk_b217
  exact (FL.i (lX2_walk_b272 hih13 hM) (FL.i (lX2_walk_b272 hih13 hM) (FL.i (lX2_walk_b249 hih13 hM) (lX2_walk_b249 hih13 hM))))
theorem lX2_walk_b108 {k0 : Nat} {k1 : Nat} {ih13 : Int32 → Int32 → Int32 → Int32 → Int32 → Int32 → Int32 → Int32 → Mem → Option (Mem × Unit)} {x3 : Int32} {x5 : Int32} {x6 : Int32} {x7 : Int32} {x8 : Int32} {x9 : Int32} {x10 : Int32} {x11 : Int32} {y1 : Int32} {y2 : Int32} {y3 : Int32} {M : Mem} (hih13 : ∀ (v0 : Int32) (v1 : Int32) (v2 : Int32) (v3 : Int32) (v4 : Int32) (v5 : Int32) (v6 : Int32) (v7 : Int32) (v8 : Mem), KL M0 v8 → FL M0 (ih13 v0 v1 v2 v3 v4 v5 v6 v7 v8)) (hM : KL M0 M) : FL M0 (mX2_walk_b108 k0 k1 ih13 x3 x5 x6 x7 x8 x9 x10 x11 y1 y2 y3 M) := by
  unfold mX2_walk_b108
  exact (FL.k (FL.bw hM (fun M15 hM15 => (FL.k (FL.k (FL.bw hM15 (fun M19 hM19 => (FL.k (FL.k (FL.bw hM19 (fun M23 hM23 => (FL.k (FL.k (FL.bw hM23 (fun M27 hM27 => (FL.k (FL.k (FL.bw hM27 (fun M31 hM31 => (FL.k (FL.b (fun x8_193 => (FL.k (FL.b (fun x9_202 => (FL.i (lX2_walk_b217 hih13 hM31) (lX2_walk_b217 hih13 hM31)))))))))))))))))))))))))))
theorem lX2_walk_b75 {k0 : Nat} {k1 : Nat} {ih13 : Int32 → Int32 → Int32 → Int32 → Int32 → Int32 → Int32 → Int32 → Mem → Option (Mem × Unit)} {x3 : Int32} {x5 : Int32} {x6 : Int32} {x7 : Int32} {x8 : Int32} {x9 : Int32} {x10 : Int32} {x11 : Int32} {x12 : Int32} {y1 : Int32} {y2 : Int32} {y3 : Int32} {M : Mem} (hih13 : ∀ (v0 : Int32) (v1 : Int32) (v2 : Int32) (v3 : Int32) (v4 : Int32) (v5 : Int32) (v6 : Int32) (v7 : Int32) (v8 : Mem), KL M0 v8 → FL M0 (ih13 v0 v1 v2 v3 v4 v5 v6 v7 v8)) (hM : KL M0 M) : FL M0 (mX2_walk_b75 k0 k1 ih13 x3 x5 x6 x7 x8 x9 x10 x11 x12 y1 y2 y3 M) := by
  unfold mX2_walk_b75
  exact (FL.k (FL.bw hM (fun M10 hM10 => (FL.i (lX2_walk_b108 hih13 hM10) (FL.i (lX2_walk_b108 hih13 hM10) (lX2_walk_b108 hih13 hM10))))))
theorem lX2_walk_b13 {k0 : Nat} {k1 : Nat} {ih13 : Int32 → Int32 → Int32 → Int32 → Int32 → Int32 → Int32 → Int32 → Mem → Option (Mem × Unit)} {x3 : Int32} {x5 : Int32} {x6 : Int32} {x7 : Int32} {x8 : Int32} {x9 : Int32} {x10 : Int32} {x11 : Int32} {M : Mem} (hih13 : ∀ (v0 : Int32) (v1 : Int32) (v2 : Int32) (v3 : Int32) (v4 : Int32) (v5 : Int32) (v6 : Int32) (v7 : Int32) (v8 : Mem), KL M0 v8 → FL M0 (ih13 v0 v1 v2 v3 v4 v5 v6 v7 v8)) (hM : KL M0 M) : FL M0 (mX2_walk_b13 k0 k1 ih13 x3 x5 x6 x7 x8 x9 x10 x11 M) := by
  unfold mX2_walk_b13
  exact (FL.i (FL.ok hM) (FL.i (FL.ok hM) (FL.i (FL.ok hM) (FL.k (FL.b (fun x12_41 => (FL.i (lX2_walk_b75 hih13 hM) (FL.i (lX2_walk_b75 hih13 hM) (lX2_walk_b75 hih13 hM)))))))))
theorem lX2_walk_l13_n {k0 : Nat} {k1 : Nat} : ∀ (n : Nat) (v0 : Int32) (v1 : Int32) (v2 : Int32) (v3 : Int32) (v4 : Int32) (v5 : Int32) (v6 : Int32) (v7 : Int32) (v8 : Mem), KL M0 v8 → FL M0 (mX2_walk_l13 k0 k1 n v0 v1 v2 v3 v4 v5 v6 v7 v8) := by
  intro n
  induction n with
  | zero => intro v0 v1 v2 v3 v4 v5 v6 v7 v8 h; exact FL.n
  | succ n IH => intro v0 v1 v2 v3 v4 v5 v6 v7 v8 h; exact lX2_walk_b13  IH h
theorem lX2_walk_l13 {k0 : Nat} {k1 : Nat} {v0 : Int32} {v1 : Int32} {v2 : Int32} {v3 : Int32} {v4 : Int32} {v5 : Int32} {v6 : Int32} {v7 : Int32} {v8 : Mem} {n : Nat} (h : KL M0 v8) : FL M0 (mX2_walk_l13 k0 k1 n v0 v1 v2 v3 v4 v5 v6 v7 v8) := lX2_walk_l13_n   n v0 v1 v2 v3 v4 v5 v6 v7 v8 h
theorem lX2_walk {k0 : Nat} {k1 : Nat} {x2 : Int32} {x3 : Int32} {x4 : Int32} {x5 : Int32} {x6 : Int32} {x7 : Int32} {M : Mem} (hM : KL M0 M) : FL M0 (mX2_walk k0 k1 x2 x3 x4 x5 x6 x7 M) := by
  unfold mX2_walk
  exact (lX2_walk_l13 hM)
theorem lX2_layFinished {k0 : Nat} {k1 : Nat} {M : Mem} (hM : KL M0 M) : FL M0 (mX2_layFinished k0 k1 M) := by
  unfold mX2_layFinished
  exact (FL.bw hM (fun M1 hM1 => (FL.c (fun r4 => (FL.m (lX2_walk hM1) (fun M8 _ hM8 => (FL.ok hM8)))))))
theorem lX2_layStep_b27 {k0 : Nat} {k1 : Nat} {x2 : Int32} {x3 : Int32} {x4 : Int32} {y0 : Int32} {M : Mem} (hM : KL M0 M) : FL M0 (mX2_layStep_b27 k0 k1 x2 x3 x4 y0 M) := by
  unfold mX2_layStep_b27
  exact (FL.bw hM (fun M6 hM6 => (FL.i (FL.bw hM6 (fun M19 hM19 => (FL.bw hM19 (fun M21 hM21 => (FL.m (lX2_walk hM21) (fun M25 _ hM25 => (FL.m (lX2_walk hM25) (fun M28 _ hM28 => (FL.ok hM28))))))))) (FL.bw hM6 (fun M9 hM9 => (FL.bw hM9 (fun M11 hM11 => (FL.m (lX2_walk hM11) (fun M15 _ hM15 => (FL.m (lX2_walk hM15) (fun M18 _ hM18 => (FL.ok hM18))))))))))))
theorem lX2_layStep {k0 : Nat} {k1 : Nat} {x2 : Int32} {x3 : Int32} {M : Mem} (hM : KL M0 M) : FL M0 (mX2_layStep k0 k1 x2 x3 M) := by
  unfold mX2_layStep
  exact (FL.b (fun x4_3 => (FL.c (fun r3 => (FL.i (lX2_layStep_b27 hM) (lX2_layStep_b27 hM))))))
theorem lX2_reasonFor_b20 {k0 : Nat} {k1 : Nat} {x2 : Int32} {x3 : Int32} {x4 : Int32} {y0 : Int32} {M : Mem} (hM : KL M0 M) : FL M0 (mX2_reasonFor_b20 k0 k1 x2 x3 x4 y0 M) := by
  unfold mX2_reasonFor_b20
  exact (FL.i (FL.i (FL.ok hM) (FL.i (FL.ok hM) (FL.k (FL.k (FL.i (FL.m (lX2_layStep hM) (fun M11 _ hM11 => (FL.c (fun r13 => (FL.k (FL.i (FL.ok hM11) (FL.k (FL.i (FL.c (fun r20 => (FL.b (fun x8_123 => (FL.i (FL.i (FL.c (fun r26 => (FL.i (FL.ok hM11) (FL.ok hM11)))) (FL.ok hM11)) (FL.ok hM11)))))) (FL.ok hM11))))))))) (FL.ok hM)))))) (FL.ok hM))
theorem lX2_reasonFor {k0 : Nat} {k1 : Nat} {x2 : Int32} {x3 : Int32} {M : Mem} (hM : KL M0 M) : FL M0 (mX2_reasonFor k0 k1 x2 x3 M) := by
  unfold mX2_reasonFor
  exact (FL.b (fun x4_3 => (FL.i (lX2_reasonFor_b20 hM) (lX2_reasonFor_b20 hM))))
theorem lX2_possibleSteps_b34 {k0 : Nat} {k1 : Nat} {ih5 : Int32 → Int32 → Int32 → Mem → Option (Mem × Int32)} {x2 : Int32} {x3 : Int32} {x4 : Int32} {M : Mem} (hih5 : ∀ (v0 : Int32) (v1 : Int32) (v2 : Int32) (v3 : Mem), KL M0 v3 → FL M0 (ih5 v0 v1 v2 v3)) (hM : KL M0 M) : FL M0 (mX2_possibleSteps_b34 k0 k1 ih5 x2 x3 x4 M) := by
  unfold mX2_possibleSteps_b34
  exact (FL.b (fun x4_34 => (hih5 _ _ _ _ hM)))
theorem lX2_possibleSteps_b5 {k0 : Nat} {k1 : Nat} {ih5 : Int32 → Int32 → Int32 → Mem → Option (Mem × Int32)} {x2 : Int32} {x3 : Int32} {x4 : Int32} {M : Mem} (hih5 : ∀ (v0 : Int32) (v1 : Int32) (v2 : Int32) (v3 : Mem), KL M0 v3 → FL M0 (ih5 v0 v1 v2 v3)) (hM : KL M0 M) : FL M0 (mX2_possibleSteps_b5 k0 k1 ih5 x2 x3 x4 M) := by
  unfold mX2_possibleSteps_b5
  exact (FL.c (fun r2 => (FL.i (FL.ok hM) (FL.m (lX2_reasonFor hM) (fun M7 r6 hM7 => (FL.i (FL.b (fun x3_33 => (lX2_possibleSteps_b34 hih5 hM7))) (lX2_possibleSteps_b34 hih5 hM7)))))))
theorem lX2_possibleSteps_l5_n {k0 : Nat} {k1 : Nat} : ∀ (n : Nat) (v0 : Int32) (v1 : Int32) (v2 : Int32) (v3 : Mem), KL M0 v3 → FL M0 (mX2_possibleSteps_l5 k0 k1 n v0 v1 v2 v3) := by
  intro n
  induction n with
  | zero => intro v0 v1 v2 v3 h; exact FL.n
  | succ n IH => intro v0 v1 v2 v3 h; exact lX2_possibleSteps_b5  IH h
theorem lX2_possibleSteps_l5 {k0 : Nat} {k1 : Nat} {v0 : Int32} {v1 : Int32} {v2 : Int32} {v3 : Mem} {n : Nat} (h : KL M0 v3) : FL M0 (mX2_possibleSteps_l5 k0 k1 n v0 v1 v2 v3) := lX2_possibleSteps_l5_n   n v0 v1 v2 v3 h
theorem lX2_possibleSteps {k0 : Nat} {k1 : Nat} {x2 : Int32} {M : Mem} (hM : KL M0 M) : FL M0 (mX2_possibleSteps k0 k1 x2 M) := by
  unfold mX2_possibleSteps
  exact (lX2_possibleSteps_l5 hM)
theorem lX3_forgetSteps_b2 {k0 : Nat} {ih2 : Int32 → Mem → Option (Mem × Unit)} {x1 : Int32} {M : Mem} (hih2 : ∀ (v0 : Int32) (v1 : Mem), KL M0 v1 → FL M0 (ih2 v0 v1)) (hM : KL M0 M) : FL M0 (mX3_forgetSteps_b2 k0 ih2 x1 M) := by
  unfold mX3_forgetSteps_b2
  exact (FL.i (FL.ok hM) (FL.k (FL.bw hM (fun M4 hM4 => (FL.b (fun x1_16 => (hih2 _ _ hM4)))))))
theorem lX3_forgetSteps_l2_n {k0 : Nat} : ∀ (n : Nat) (v0 : Int32) (v1 : Mem), KL M0 v1 → FL M0 (mX3_forgetSteps_l2 k0 n v0 v1) := by
  intro n
  induction n with
  | zero => intro v0 v1 h; exact FL.n
  | succ n IH => intro v0 v1 h; exact lX3_forgetSteps_b2  IH h
theorem lX3_forgetSteps_l2 {k0 : Nat} {v0 : Int32} {v1 : Mem} {n : Nat} (h : KL M0 v1) : FL M0 (mX3_forgetSteps_l2 k0 n v0 v1) := lX3_forgetSteps_l2_n   n v0 v1 h
theorem lX3_forgetSteps {k0 : Nat} {M : Mem} (hM : KL M0 M) : FL M0 (mX3_forgetSteps k0 M) := by
  unfold mX3_forgetSteps
  exact (lX3_forgetSteps_l2 hM)
theorem lX3_findSteps_b63 {k0 : Nat} {k1 : Nat} {ih5 : Int32 → Int32 → Int32 → Mem → Option (Mem × Int32)} {x2 : Int32} {x3 : Int32} {x4 : Int32} {M : Mem} (hih5 : ∀ (v0 : Int32) (v1 : Int32) (v2 : Int32) (v3 : Mem), KL M0 v3 → FL M0 (ih5 v0 v1 v2 v3)) (hM : KL M0 M) : FL M0 (mX3_findSteps_b63 k0 k1 ih5 x2 x3 x4 M) := by
  unfold mX3_findSteps_b63
  exact (FL.b (fun x4_63 => (hih5 _ _ _ _ hM)))
theorem lX3_findSteps_b5 {k0 : Nat} {k1 : Nat} {ih5 : Int32 → Int32 → Int32 → Mem → Option (Mem × Int32)} {x2 : Int32} {x3 : Int32} {x4 : Int32} {M : Mem} (hih5 : ∀ (v0 : Int32) (v1 : Int32) (v2 : Int32) (v3 : Mem), KL M0 v3 → FL M0 (ih5 v0 v1 v2 v3)) (hM : KL M0 M) : FL M0 (mX3_findSteps_b5 k0 k1 ih5 x2 x3 x4 M) := by
  unfold mX3_findSteps_b5
  exact (FL.c (fun r2 => (FL.i (FL.ok hM) (FL.i (FL.ok hM) (FL.m (lX2_reasonFor hM) (fun M8 r7 hM8 => (FL.i (FL.b (fun x3_43 => (FL.c (fun r13 => (FL.k (FL.bw hM8 (fun M17 hM17 => (lX3_findSteps_b63 hih5 hM17)))))))) (lX3_findSteps_b63 hih5 hM8))))))))
theorem lX3_findSteps_l5_n {k0 : Nat} {k1 : Nat} : ∀ (n : Nat) (v0 : Int32) (v1 : Int32) (v2 : Int32) (v3 : Mem), KL M0 v3 → FL M0 (mX3_findSteps_l5 k0 k1 n v0 v1 v2 v3) := by
  intro n
  induction n with
  | zero => intro v0 v1 v2 v3 h; exact FL.n
  | succ n IH => intro v0 v1 v2 v3 h; exact lX3_findSteps_b5  IH h
theorem lX3_findSteps_l5 {k0 : Nat} {k1 : Nat} {v0 : Int32} {v1 : Int32} {v2 : Int32} {v3 : Mem} {n : Nat} (h : KL M0 v3) : FL M0 (mX3_findSteps_l5 k0 k1 n v0 v1 v2 v3) := lX3_findSteps_l5_n   n v0 v1 v2 v3 h
theorem lX3_findSteps {k0 : Nat} {k1 : Nat} {x2 : Int32} {M : Mem} (hM : KL M0 M) : FL M0 (mX3_findSteps k0 k1 x2 M) := by
  unfold mX3_findSteps
  exact (lX3_findSteps_l5 hM)
theorem lX3_reachSets_b142 {k0 : Nat} {k1 : Nat} {ih67 : Int32 → Mem → Option (Mem × Unit)} {ih107 : Int32 → Int32 → Mem → Option (Mem × Unit)} {x2 : Int32} {x3 : Int32} {M : Mem} (hih67 : ∀ (v0 : Int32) (v1 : Mem), KL M0 v1 → FL M0 (ih67 v0 v1)) (hih107 : ∀ (v0 : Int32) (v1 : Int32) (v2 : Mem), KL M0 v2 → FL M0 (ih107 v0 v1 v2)) (hM : KL M0 M) : FL M0 (mX3_reachSets_b142 k0 k1 ih67 ih107 x2 x3 M) := by
  unfold mX3_reachSets_b142
  exact (FL.b (fun x3_142 => (hih107 _ _ _ hM)))
theorem lX3_reachSets_b107 {k0 : Nat} {k1 : Nat} {ih67 : Int32 → Mem → Option (Mem × Unit)} {ih107 : Int32 → Int32 → Mem → Option (Mem × Unit)} {x2 : Int32} {x3 : Int32} {M : Mem} (hih67 : ∀ (v0 : Int32) (v1 : Mem), KL M0 v1 → FL M0 (ih67 v0 v1)) (hih107 : ∀ (v0 : Int32) (v1 : Int32) (v2 : Mem), KL M0 v2 → FL M0 (ih107 v0 v1 v2)) (hM : KL M0 M) : FL M0 (mX3_reachSets_b107 k0 k1 ih67 ih107 x2 x3 M) := by
  unfold mX3_reachSets_b107
  exact (FL.i (FL.b (fun x2_148 => (hih67 _ _ hM))) (FL.k (FL.i (lX3_reachSets_b142 hih67 hih107 hM) (FL.c (fun r21 => (FL.i (lX3_reachSets_b142 hih67 hih107 hM) (FL.c (fun r25 => (FL.k (FL.bw hM (fun M29 hM29 => (lX3_reachSets_b142 hih67 hih107 hM29))))))))))))
theorem lX3_reachSets_l107_n {k0 : Nat} {k1 : Nat} {ih67 : Int32 → Mem → Option (Mem × Unit)} (hih67 : ∀ (u0 : Int32) (u1 : Mem), KL M0 u1 → FL M0 (ih67 u0 u1)) : ∀ (n : Nat) (v0 : Int32) (v1 : Int32) (v2 : Mem), KL M0 v2 → FL M0 (mX3_reachSets_l107 k0 k1 ih67 n v0 v1 v2) := by
  intro n
  induction n with
  | zero => intro v0 v1 v2 h; exact FL.n
  | succ n IH => intro v0 v1 v2 h; exact lX3_reachSets_b107  hih67 IH h
theorem lX3_reachSets_l107 {k0 : Nat} {k1 : Nat} {ih67 : Int32 → Mem → Option (Mem × Unit)} {v0 : Int32} {v1 : Int32} {v2 : Mem} (hih67 : ∀ (u0 : Int32) (u1 : Mem), KL M0 u1 → FL M0 (ih67 u0 u1)) {n : Nat} (h : KL M0 v2) : FL M0 (mX3_reachSets_l107 k0 k1 ih67 n v0 v1 v2) := lX3_reachSets_l107_n  hih67 n v0 v1 v2 h
theorem lX3_reachSets_b105 {k0 : Nat} {k1 : Nat} {ih67 : Int32 → Mem → Option (Mem × Unit)} {x2 : Int32} {M : Mem} (hih67 : ∀ (v0 : Int32) (v1 : Mem), KL M0 v1 → FL M0 (ih67 v0 v1)) (hM : KL M0 M) : FL M0 (mX3_reachSets_b105 k0 k1 ih67 x2 M) := by
  unfold mX3_reachSets_b105
  exact (lX3_reachSets_l107 hih67 hM)
theorem lX3_reachSets_b67 {k0 : Nat} {k1 : Nat} {ih67 : Int32 → Mem → Option (Mem × Unit)} {x2 : Int32} {M : Mem} (hih67 : ∀ (v0 : Int32) (v1 : Mem), KL M0 v1 → FL M0 (ih67 v0 v1)) (hM : KL M0 M) : FL M0 (mX3_reachSets_b67 k0 k1 ih67 x2 M) := by
  unfold mX3_reachSets_b67
  exact (FL.i (FL.ok hM) (FL.k (FL.i (lX3_reachSets_b105 hih67 hM) (FL.k (FL.i (FL.m (lX3_findSteps hM) (fun M34 r33 hM34 => (FL.k (FL.bw hM34 (fun M37 hM37 => (lX3_reachSets_b105 hih67 hM37)))))) (lX3_reachSets_b105 hih67 hM))))))
theorem lX3_reachSets_l67_n {k0 : Nat} {k1 : Nat} : ∀ (n : Nat) (v0 : Int32) (v1 : Mem), KL M0 v1 → FL M0 (mX3_reachSets_l67 k0 k1 n v0 v1) := by
  intro n
  induction n with
  | zero => intro v0 v1 h; exact FL.n
  | succ n IH => intro v0 v1 h; exact lX3_reachSets_b67  IH h
theorem lX3_reachSets_l67 {k0 : Nat} {k1 : Nat} {v0 : Int32} {v1 : Mem} {n : Nat} (h : KL M0 v1) : FL M0 (mX3_reachSets_l67 k0 k1 n v0 v1) := lX3_reachSets_l67_n   n v0 v1 h
theorem lX3_reachSets_b55 {k0 : Nat} {k1 : Nat} {ih30 : Int32 → Mem → Option (Mem × Unit)} {x2 : Int32} {y1 : Int32} {y2 : Int32} {M : Mem} (hih30 : ∀ (v0 : Int32) (v1 : Mem), KL M0 v1 → FL M0 (ih30 v0 v1)) (hM : KL M0 M) : FL M0 (mX3_reachSets_b55 k0 k1 ih30 x2 y1 y2 M) := by
  unfold mX3_reachSets_b55
  exact (FL.k (FL.bw hM (fun M41 hM41 => (FL.b (fun x2_56 => (hih30 _ _ hM41))))))
theorem lX3_reachSets_b30 {k0 : Nat} {k1 : Nat} {ih30 : Int32 → Mem → Option (Mem × Unit)} {x2 : Int32} {M : Mem} (hih30 : ∀ (v0 : Int32) (v1 : Mem), KL M0 v1 → FL M0 (ih30 v0 v1)) (hM : KL M0 M) : FL M0 (mX3_reachSets_b30 k0 k1 ih30 x2 M) := by
  unfold mX3_reachSets_b30
  exact (FL.i (FL.b (fun x2_66 => (lX3_reachSets_l67 hM))) (FL.i (lX3_reachSets_b55 hih30 hM) (lX3_reachSets_b55 hih30 hM)))
theorem lX3_reachSets_l30_n {k0 : Nat} {k1 : Nat} : ∀ (n : Nat) (v0 : Int32) (v1 : Mem), KL M0 v1 → FL M0 (mX3_reachSets_l30 k0 k1 n v0 v1) := by
  intro n
  induction n with
  | zero => intro v0 v1 h; exact FL.n
  | succ n IH => intro v0 v1 h; exact lX3_reachSets_b30  IH h
theorem lX3_reachSets_l30 {k0 : Nat} {k1 : Nat} {v0 : Int32} {v1 : Mem} {n : Nat} (h : KL M0 v1) : FL M0 (mX3_reachSets_l30 k0 k1 n v0 v1) := lX3_reachSets_l30_n   n v0 v1 h
theorem lX3_reachSets_b15 {k0 : Nat} {k1 : Nat} {M : Mem} (hM : KL M0 M) : FL M0 (mX3_reachSets_b15 k0 k1 M) := by
  unfold mX3_reachSets_b15
  exact (FL.m (lX1_copyFrom hM) (fun M7 _ hM7 => (FL.bw hM7 (fun M8 hM8 => (lX3_reachSets_l30 hM8)))))
theorem lX3_reachSets {k0 : Nat} {k1 : Nat} {M : Mem} (hM : KL M0 M) : FL M0 (mX3_reachSets k0 k1 M) := by
  unfold mX3_reachSets
  exact (FL.c (fun r2 => (FL.i (FL.m (lX3_forgetSteps hM) (fun M45 _ hM45 => (lX3_reachSets_b15 hM45))) (lX3_reachSets_b15 hM))))
theorem lX3_reckonCostsBehind_b101 {k0 : Nat} {k1 : Nat} {ih2 : Int32 → Int32 → Mem → Option (Mem × Unit)} {x2 : Int32} {x3 : Int32} {M : Mem} (hih2 : ∀ (v0 : Int32) (v1 : Int32) (v2 : Mem), KL M0 v2 → FL M0 (ih2 v0 v1 v2)) (hM : KL M0 M) : FL M0 (mX3_reckonCostsBehind_b101 k0 k1 ih2 x2 x3 M) := by
  unfold mX3_reckonCostsBehind_b101
  exact (FL.b (fun x3_101 => (hih2 _ _ _ hM)))
theorem lX3_reckonCostsBehind_b2 {k0 : Nat} {k1 : Nat} {ih2 : Int32 → Int32 → Mem → Option (Mem × Unit)} {x2 : Int32} {x3 : Int32} {M : Mem} (hih2 : ∀ (v0 : Int32) (v1 : Int32) (v2 : Mem), KL M0 v2 → FL M0 (ih2 v0 v1 v2)) (hM : KL M0 M) : FL M0 (mX3_reckonCostsBehind_b2 k0 k1 ih2 x2 x3 M) := by
  unfold mX3_reckonCostsBehind_b2
  exact (FL.i (FL.ok hM) (FL.b (fun x4_17 => (FL.i (lX3_reckonCostsBehind_b101 hih2 hM) (FL.k (FL.i (lX3_reckonCostsBehind_b101 hih2 hM) (FL.c (fun r8 => (FL.i (lX3_reckonCostsBehind_b101 hih2 hM) (FL.k (FL.b (fun x5_57 => (FL.c (fun r14 => (FL.k (FL.bw hM (fun M18 hM18 => (FL.c (fun r20 => (FL.k (FL.bw hM18 (fun M24 hM24 => (lX3_reckonCostsBehind_b101 hih2 hM24)))))))))))))))))))))))
theorem lX3_reckonCostsBehind_l2_n {k0 : Nat} {k1 : Nat} : ∀ (n : Nat) (v0 : Int32) (v1 : Int32) (v2 : Mem), KL M0 v2 → FL M0 (mX3_reckonCostsBehind_l2 k0 k1 n v0 v1 v2) := by
  intro n
  induction n with
  | zero => intro v0 v1 v2 h; exact FL.n
  | succ n IH => intro v0 v1 v2 h; exact lX3_reckonCostsBehind_b2  IH h
theorem lX3_reckonCostsBehind_l2 {k0 : Nat} {k1 : Nat} {v0 : Int32} {v1 : Int32} {v2 : Mem} {n : Nat} (h : KL M0 v2) : FL M0 (mX3_reckonCostsBehind_l2 k0 k1 n v0 v1 v2) := lX3_reckonCostsBehind_l2_n   n v0 v1 v2 h
theorem lX3_reckonCostsBehind {k0 : Nat} {k1 : Nat} {x2 : Int32} {M : Mem} (hM : KL M0 M) : FL M0 (mX3_reckonCostsBehind k0 k1 x2 M) := by
  unfold mX3_reckonCostsBehind
  exact (lX3_reckonCostsBehind_l2 hM)
theorem lX3_reckonCosts_b27 {k0 : Nat} {k1 : Nat} {ih4 : Int32 → Mem → Option (Mem × Unit)} {x2 : Int32} {M : Mem} (hih4 : ∀ (v0 : Int32) (v1 : Mem), KL M0 v1 → FL M0 (ih4 v0 v1)) (hM : KL M0 M) : FL M0 (mX3_reckonCosts_b27 k0 k1 ih4 x2 M) := by
  unfold mX3_reckonCosts_b27
  exact (FL.b (fun x2_27 => (hih4 _ _ hM)))
theorem lX3_reckonCosts_b4 {k0 : Nat} {k1 : Nat} {ih4 : Int32 → Mem → Option (Mem × Unit)} {x2 : Int32} {M : Mem} (hih4 : ∀ (v0 : Int32) (v1 : Mem), KL M0 v1 → FL M0 (ih4 v0 v1)) (hM : KL M0 M) : FL M0 (mX3_reckonCosts_b4 k0 k1 ih4 x2 M) := by
  unfold mX3_reckonCosts_b4
  exact (FL.i (FL.c (fun r3 => (FL.c (fun r6 => (FL.c (fun r9 => (FL.bw hM (fun M11 hM11 => (FL.c (fun r14 => (FL.c (fun r17 => (FL.c (fun r20 => (FL.bw hM11 (fun M22 hM22 => (FL.ok hM22))))))))))))))))) (FL.k (FL.i (lX3_reckonCosts_b27 hih4 hM) (FL.m (lX3_reckonCostsBehind hM) (fun M29 _ hM29 => (lX3_reckonCosts_b27 hih4 hM29))))))
theorem lX3_reckonCosts_l4_n {k0 : Nat} {k1 : Nat} : ∀ (n : Nat) (v0 : Int32) (v1 : Mem), KL M0 v1 → FL M0 (mX3_reckonCosts_l4 k0 k1 n v0 v1) := by
  intro n
  induction n with
  | zero => intro v0 v1 h; exact FL.n
  | succ n IH => intro v0 v1 h; exact lX3_reckonCosts_b4  IH h
theorem lX3_reckonCosts_l4 {k0 : Nat} {k1 : Nat} {v0 : Int32} {v1 : Mem} {n : Nat} (h : KL M0 v1) : FL M0 (mX3_reckonCosts_l4 k0 k1 n v0 v1) := lX3_reckonCosts_l4_n   n v0 v1 h
theorem lX3_reckonCosts {k0 : Nat} {k1 : Nat} {M : Mem} (hM : KL M0 M) : FL M0 (mX3_reckonCosts k0 k1 M) := by
  unfold mX3_reckonCosts
  exact (lX3_reckonCosts_l4 hM)
theorem lX3_choosePlan_b127 {k0 : Nat} {k1 : Nat} {ih40 : Int32 → Int32 → Int32 → Int32 → Int32 → Mem → Option (Mem × Unit)} {x2 : Int32} {x3 : Int32} {x4 : Int32} {x5 : Int32} {x6 : Int32} {M : Mem} (hih40 : ∀ (v0 : Int32) (v1 : Int32) (v2 : Int32) (v3 : Int32) (v4 : Int32) (v5 : Mem), KL M0 v5 → FL M0 (ih40 v0 v1 v2 v3 v4 v5)) (hM : KL M0 M) : FL M0 (mX3_choosePlan_b127 k0 k1 ih40 x2 x3 x4 x5 x6 M) := by
  unfold mX3_choosePlan_b127
  exact (FL.b (fun x6_127 => (hih40 _ _ _ _ _ _ hM)))
theorem lX3_choosePlan_b40 {k0 : Nat} {k1 : Nat} {ih40 : Int32 → Int32 → Int32 → Int32 → Int32 → Mem → Option (Mem × Unit)} {x2 : Int32} {x3 : Int32} {x4 : Int32} {x5 : Int32} {x6 : Int32} {M : Mem} (hih40 : ∀ (v0 : Int32) (v1 : Int32) (v2 : Int32) (v3 : Int32) (v4 : Int32) (v5 : Mem), KL M0 v5 → FL M0 (ih40 v0 v1 v2 v3 v4 v5)) (hM : KL M0 M) : FL M0 (mX3_choosePlan_b40 k0 k1 ih40 x2 x3 x4 x5 x6 M) := by
  unfold mX3_choosePlan_b40
  exact (FL.i (FL.ok hM) (FL.i (FL.ok hM) (FL.c (fun r15 => (FL.i (lX3_choosePlan_b127 hih40 hM) (FL.k (FL.bw hM (fun M21 hM21 => (FL.bw hM21 (fun M22 hM22 => (FL.k (FL.b (fun x4_104 => (FL.c (fun r27 => (FL.k (FL.b (fun x5_125 => (lX3_choosePlan_b127 hih40 hM22)))))))))))))))))))
theorem lX3_choosePlan_l40_n {k0 : Nat} {k1 : Nat} : ∀ (n : Nat) (v0 : Int32) (v1 : Int32) (v2 : Int32) (v3 : Int32) (v4 : Int32) (v5 : Mem), KL M0 v5 → FL M0 (mX3_choosePlan_l40 k0 k1 n v0 v1 v2 v3 v4 v5) := by
  intro n
  induction n with
  | zero => intro v0 v1 v2 v3 v4 v5 h; exact FL.n
  | succ n IH => intro v0 v1 v2 v3 v4 v5 h; exact lX3_choosePlan_b40  IH h
theorem lX3_choosePlan_l40 {k0 : Nat} {k1 : Nat} {v0 : Int32} {v1 : Int32} {v2 : Int32} {v3 : Int32} {v4 : Int32} {v5 : Mem} {n : Nat} (h : KL M0 v5) : FL M0 (mX3_choosePlan_l40 k0 k1 n v0 v1 v2 v3 v4 v5) := lX3_choosePlan_l40_n   n v0 v1 v2 v3 v4 v5 h
theorem lX3_choosePlan_b34 {k0 : Nat} {k1 : Nat} {x2 : Int32} {x3 : Int32} {x4 : Int32} {x5 : Int32} {y1 : Int32} {M : Mem} (hM : KL M0 M) : FL M0 (mX3_choosePlan_b34 k0 k1 x2 x3 x4 x5 y1 M) := by
  unfold mX3_choosePlan_b34
  exact (FL.bw hM (fun M10 hM10 => (lX3_choosePlan_l40 hM10)))
theorem lX3_choosePlan {k0 : Nat} {k1 : Nat} {M : Mem} (hM : KL M0 M) : FL M0 (mX3_choosePlan k0 k1 M) := by
  unfold mX3_choosePlan
  exact (FL.b (fun x2_4 => (FL.c (fun r3 => (FL.c (fun r6 => (FL.b (fun x5_20 => (FL.i (lX3_choosePlan_b34 hM) (lX3_choosePlan_b34 hM))))))))))
theorem lX3_reachesAll {k0 : Nat} {k1 : Nat} {M : Mem} (hM : KL M0 M) : FL M0 (mX3_reachesAll k0 k1 M) := by
  unfold mX3_reachesAll
  exact (FL.m (lX3_reachSets hM) (fun M3 _ hM3 => (FL.c (fun r5 => (FL.k (FL.k (FL.ok hM3)))))))
theorem lX0_forgetAll {k0 : Nat} {M : Mem} (hM : KL M0 M) : FL M0 (mX0_forgetAll k0 M) := by
  unfold mX0_forgetAll
  exact (FL.bw hM (fun M1 hM1 => (FL.ok hM1)))
theorem lX0_remember_b32 {k0 : Nat} {k1 : Nat} {M : Mem} (hM : KL M0 M) : FL M0 (mX0_remember_b32 k0 k1 M) := by
  unfold mX0_remember_b32
  exact (FL.k (FL.m (lX1_copyFrom hM) (fun M5 _ hM5 => (FL.bw hM5 (fun M6 hM6 => (FL.ok hM6))))))
theorem lX0_remember {k0 : Nat} {k1 : Nat} {M : Mem} (hM : KL M0 M) : FL M0 (mX0_remember k0 k1 M) := by
  unfold mX0_remember
  exact (FL.i (FL.bw hM (fun M8 hM8 => (FL.bw hM8 (fun M10 hM10 => (lX0_remember_b32 hM10))))) (lX0_remember_b32 hM))
theorem lX0_takeBack {k0 : Nat} {k1 : Nat} {M : Mem} (hM : KL M0 M) : FL M0 (mX0_takeBack k0 k1 M) := by
  unfold mX0_takeBack
  exact (FL.i (FL.ok hM) (FL.bw hM (fun M2 hM2 => (FL.k (FL.m (lX1_copyFrom hM2) (fun M7 _ hM7 => (FL.ok hM7)))))))
theorem lX4_takeWord_b39 {k0 : Nat} {M : Mem} (hM : KL M0 M) : FL M0 (mX4_takeWord_b39 k0 M) := by
  unfold mX4_takeWord_b39
  exact (FL.i (FL.bw hM (fun M3 hM3 => (FL.ok hM3))) (FL.bw hM (fun M5 hM5 => (FL.ok hM5))))
theorem lX4_takeWord_b0 {k0 : Nat} {ih0 : Mem → Option (Mem × Unit)} {M : Mem} (hih0 : ∀ (v0 : Mem), KL M0 v0 → FL M0 (ih0 v0)) (hM : KL M0 M) : FL M0 (mX4_takeWord_b0 k0 ih0 M) := by
  unfold mX4_takeWord_b0
  exact (FL.i (lX4_takeWord_b39 hM) (FL.k (FL.k (FL.c (fun r10 => (FL.i (lX4_takeWord_b39 hM) (FL.bw hM (fun M13 hM13 => (hih0 _ hM13)))))))))
theorem lX4_takeWord_l0_n {k0 : Nat} : ∀ (n : Nat) (v0 : Mem), KL M0 v0 → FL M0 (mX4_takeWord_l0 k0 n v0) := by
  intro n
  induction n with
  | zero => intro v0 h; exact FL.n
  | succ n IH => intro v0 h; exact lX4_takeWord_b0  IH h
theorem lX4_takeWord_l0 {k0 : Nat} {v0 : Mem} {n : Nat} (h : KL M0 v0) : FL M0 (mX4_takeWord_l0 k0 n v0) := lX4_takeWord_l0_n   n v0 h
theorem lX4_takeWord {k0 : Nat} {M : Mem} (hM : KL M0 M) : FL M0 (mX4_takeWord k0 M) := by
  unfold mX4_takeWord
  exact (lX4_takeWord_l0 hM)
theorem lX4_takeNumber_b76 {k0 : Nat} {M : Mem} (hM : KL M0 M) : FL M0 (mX4_takeNumber_b76 k0 M) := by
  unfold mX4_takeNumber_b76
  exact (FL.i (FL.bw hM (fun M3 hM3 => (FL.ok hM3))) (FL.bw hM (fun M5 hM5 => (FL.ok hM5))))
theorem lX4_takeNumber_b63 {k0 : Nat} {ih0 : Mem → Option (Mem × Unit)} {M : Mem} (hih0 : ∀ (v0 : Mem), KL M0 v0 → FL M0 (ih0 v0)) (hM : KL M0 M) : FL M0 (mX4_takeNumber_b63 k0 ih0 M) := by
  unfold mX4_takeNumber_b63
  exact (FL.bw hM (fun M14 hM14 => (hih0 _ hM14)))
theorem lX4_takeNumber_b0 {k0 : Nat} {ih0 : Mem → Option (Mem × Unit)} {M : Mem} (hih0 : ∀ (v0 : Mem), KL M0 v0 → FL M0 (ih0 v0)) (hM : KL M0 M) : FL M0 (mX4_takeNumber_b0 k0 ih0 M) := by
  unfold mX4_takeNumber_b0
  exact (FL.i (lX4_takeNumber_b76 hM) (FL.k (FL.k (FL.c (fun r10 => (FL.i (lX4_takeNumber_b76 hM) (FL.i (lX4_takeNumber_b63 hih0 hM) (FL.k (FL.k (FL.bw hM (fun M18 hM18 => (lX4_takeNumber_b63 hih0 hM18))))))))))))
theorem lX4_takeNumber_l0_n {k0 : Nat} : ∀ (n : Nat) (v0 : Mem), KL M0 v0 → FL M0 (mX4_takeNumber_l0 k0 n v0) := by
  intro n
  induction n with
  | zero => intro v0 h; exact FL.n
  | succ n IH => intro v0 h; exact lX4_takeNumber_b0  IH h
theorem lX4_takeNumber_l0 {k0 : Nat} {v0 : Mem} {n : Nat} (h : KL M0 v0) : FL M0 (mX4_takeNumber_l0 k0 n v0) := lX4_takeNumber_l0_n   n v0 h
theorem lX4_takeNumber {k0 : Nat} {M : Mem} (hM : KL M0 M) : FL M0 (mX4_takeNumber k0 M) := by
  unfold mX4_takeNumber
  exact (lX4_takeNumber_l0 hM)
theorem lX4_nextToken_b143 {k0 : Nat} {y1 : Int32} {M : Mem} (hM : KL M0 M) : FL M0 (mX4_nextToken_b143 k0 y1 M) := by
  unfold mX4_nextToken_b143
  exact (FL.bw hM (fun M24 hM24 => (FL.bw hM24 (fun M26 hM26 => (FL.ok hM26)))))
theorem lX4_nextToken_b47 {k0 : Nat} {M : Mem} (hM : KL M0 M) : FL M0 (mX4_nextToken_b47 k0 M) := by
  unfold mX4_nextToken_b47
  exact (FL.bw hM (fun M4 hM4 => (FL.bw hM4 (fun M6 hM6 => (FL.i (FL.k (FL.k (FL.c (fun r12 => (FL.i (FL.k (FL.k (FL.c (fun r18 => (FL.i (FL.k (FL.k (FL.i (lX4_nextToken_b143 hM6) (lX4_nextToken_b143 hM6)))) (FL.m (lX4_takeNumber hM6) (fun M30 _ hM30 => (FL.ok hM30)))))))) (FL.m (lX4_takeWord hM6) (fun M33 _ hM33 => (FL.ok hM33)))))))) (FL.bw hM6 (fun M34 hM34 => (FL.ok hM34))))))))
theorem lX4_nextToken_b8 {k0 : Nat} {ih8 : Mem → Option (Mem × Unit)} {M : Mem} (hih8 : ∀ (v0 : Mem), KL M0 v0 → FL M0 (ih8 v0)) (hM : KL M0 M) : FL M0 (mX4_nextToken_b8 k0 ih8 M) := by
  unfold mX4_nextToken_b8
  exact (FL.i (lX4_nextToken_b47 hM) (FL.k (FL.k (FL.c (fun r39 => (FL.i (lX4_nextToken_b47 hM) (FL.bw hM (fun M42 hM42 => (hih8 _ hM42)))))))))
theorem lX4_nextToken_l8_n {k0 : Nat} : ∀ (n : Nat) (v0 : Mem), KL M0 v0 → FL M0 (mX4_nextToken_l8 k0 n v0) := by
  intro n
  induction n with
  | zero => intro v0 h; exact FL.n
  | succ n IH => intro v0 h; exact lX4_nextToken_b8  IH h
theorem lX4_nextToken_l8 {k0 : Nat} {v0 : Mem} {n : Nat} (h : KL M0 v0) : FL M0 (mX4_nextToken_l8 k0 n v0) := lX4_nextToken_l8_n   n v0 h
theorem lX4_nextToken {k0 : Nat} {M : Mem} (hM : KL M0 M) : FL M0 (mX4_nextToken k0 M) := by
  unfold mX4_nextToken
  exact (FL.bw hM (fun M1 hM1 => (lX4_nextToken_l8 hM1)))
theorem lX4_accept_b139 {k0 : Nat} {k1 : Nat} {k2 : Nat} {y1 : Int32} {y2 : Int32} {M : Mem} (hM : KL M0 M) : FL M0 (mX4_accept_b139 k0 k1 k2 y1 y2 M) := by
  unfold mX4_accept_b139
  exact (FL.m (lX1_addLeg hM) (fun M12 _ hM12 => (FL.ok hM12)))
theorem lX4_accept {k0 : Nat} {k1 : Nat} {k2 : Nat} {M : Mem} (hM : KL M0 M) : FL M0 (mX4_accept k0 k1 k2 M) := by
  unfold mX4_accept
  exact (FL.c (fun r2 => (FL.i (FL.i (FL.k (FL.k (FL.k (FL.m (lX1_putSheet hM) (fun M29 _ hM29 => (FL.ok hM29)))))) (FL.i (FL.k (FL.k (FL.k (FL.m (lX1_putCosts hM) (fun M23 _ hM23 => (FL.ok hM23)))))) (FL.i (FL.k (FL.k (FL.m (lX1_addBack hM) (fun M17 _ hM17 => (FL.ok hM17))))) (FL.k (FL.i (lX4_accept_b139 hM) (lX4_accept_b139 hM)))))) (FL.k (FL.k (FL.m (lX1_putTool hM) (fun M34 _ hM34 => (FL.ok hM34))))))))
theorem lX4_readStatement_b148 {k0 : Nat} {k1 : Nat} {x3 : Int32} {M : Mem} (hM : KL M0 M) : FL M0 (mX4_readStatement_b148 k0 k1 x3 M) := by
  unfold mX4_readStatement_b148
  exact (FL.bw hM (fun M8 hM8 => (FL.bw hM8 (fun M10 hM10 => (FL.ok hM10)))))
theorem lX4_readStatement_b131 {k0 : Nat} {k1 : Nat} {x3 : Int32} {M : Mem} (hM : KL M0 M) : FL M0 (mX4_readStatement_b131 k0 k1 x3 M) := by
  unfold mX4_readStatement_b131
  exact (FL.i (lX4_readStatement_b148 hM) (lX4_readStatement_b148 hM))
theorem lX4_readStatement_b110 {k0 : Nat} {k1 : Nat} {ih55 : Int32 → Int32 → Mem → Option (Mem × Unit)} {x3 : Int32} {x4 : Int32} {M : Mem} (hih55 : ∀ (v0 : Int32) (v1 : Int32) (v2 : Mem), KL M0 v2 → FL M0 (ih55 v0 v1 v2)) (hM : KL M0 M) : FL M0 (mX4_readStatement_b110 k0 k1 ih55 x3 x4 M) := by
  unfold mX4_readStatement_b110
  exact (FL.b (fun x4_110 => (hih55 _ _ _ hM)))
theorem lX4_readStatement_b55 {k0 : Nat} {k1 : Nat} {ih55 : Int32 → Int32 → Mem → Option (Mem × Unit)} {x3 : Int32} {x4 : Int32} {M : Mem} (hih55 : ∀ (v0 : Int32) (v1 : Int32) (v2 : Mem), KL M0 v2 → FL M0 (ih55 v0 v1 v2)) (hM : KL M0 M) : FL M0 (mX4_readStatement_b55 k0 k1 ih55 x3 x4 M) := by
  unfold mX4_readStatement_b55
  exact (FL.i (FL.i (FL.m (lX4_nextToken hM) (fun M14 _ hM14 => (FL.c (fun r16 => (lX4_readStatement_b131 hM14))))) (lX4_readStatement_b131 hM)) (FL.k (FL.bw hM (fun M20 hM20 => (FL.i (lX4_readStatement_b110 hih55 hM20) (lX4_readStatement_b110 hih55 hM20))))))
theorem lX4_readStatement_l55_n {k0 : Nat} {k1 : Nat} : ∀ (n : Nat) (v0 : Int32) (v1 : Int32) (v2 : Mem), KL M0 v2 → FL M0 (mX4_readStatement_l55 k0 k1 n v0 v1 v2) := by
  intro n
  induction n with
  | zero => intro v0 v1 v2 h; exact FL.n
  | succ n IH => intro v0 v1 v2 h; exact lX4_readStatement_b55  IH h
theorem lX4_readStatement_l55 {k0 : Nat} {k1 : Nat} {v0 : Int32} {v1 : Int32} {v2 : Mem} {n : Nat} (h : KL M0 v2) : FL M0 (mX4_readStatement_l55 k0 k1 n v0 v1 v2) := lX4_readStatement_l55_n   n v0 v1 v2 h
theorem lX4_readStatement_b51 {k0 : Nat} {k1 : Nat} {y0 : Int32} {M : Mem} (hM : KL M0 M) : FL M0 (mX4_readStatement_b51 k0 k1 y0 M) := by
  unfold mX4_readStatement_b51
  exact (lX4_readStatement_l55 hM)
theorem lX4_readStatement_b32 {k0 : Nat} {k1 : Nat} {M : Mem} (hM : KL M0 M) : FL M0 (mX4_readStatement_b32 k0 k1 M) := by
  unfold mX4_readStatement_b32
  exact (FL.c (fun r3 => (lX4_readStatement_b51 hM)))
theorem lX4_readStatement_b131v1 {k0 : Nat} {k1 : Nat} {w2 : Nat} {x3 : Int32} {M : Mem} (hM : KL M0 M) : FL M0 (mX4_readStatement_b131v1 k0 k1 w2 x3 M) := by
  unfold mX4_readStatement_b131v1
  exact (FL.i (FL.m (lX4_accept hM) (fun M37 _ hM37 => (FL.ok hM37))) (lX4_readStatement_b148 hM))
theorem lX4_readStatement_b110v1 {k0 : Nat} {k1 : Nat} {w2 : Nat} {ih55v1 : Int32 → Int32 → Mem → Option (Mem × Unit)} {x3 : Int32} {x4 : Int32} {M : Mem} (hih55v1 : ∀ (v0 : Int32) (v1 : Int32) (v2 : Mem), KL M0 v2 → FL M0 (ih55v1 v0 v1 v2)) (hM : KL M0 M) : FL M0 (mX4_readStatement_b110v1 k0 k1 w2 ih55v1 x3 x4 M) := by
  unfold mX4_readStatement_b110v1
  exact (FL.b (fun x4_110 => (hih55v1 _ _ _ hM)))
theorem lX4_readStatement_b55v1 {k0 : Nat} {k1 : Nat} {w2 : Nat} {ih55v1 : Int32 → Int32 → Mem → Option (Mem × Unit)} {x3 : Int32} {x4 : Int32} {M : Mem} (hih55v1 : ∀ (v0 : Int32) (v1 : Int32) (v2 : Mem), KL M0 v2 → FL M0 (ih55v1 v0 v1 v2)) (hM : KL M0 M) : FL M0 (mX4_readStatement_b55v1 k0 k1 w2 ih55v1 x3 x4 M) := by
  unfold mX4_readStatement_b55v1
  exact (FL.i (FL.i (FL.m (lX4_nextToken hM) (fun M40 _ hM40 => (FL.c (fun r42 => (lX4_readStatement_b131v1 hM40))))) (lX4_readStatement_b131v1 hM)) (FL.k (FL.bw hM (fun M46 hM46 => (FL.i (FL.c (fun r50 => (FL.i (lX4_readStatement_b110v1 hih55v1 hM46) (FL.m (lX4_nextToken hM46) (fun M55 _ hM55 => (FL.c (fun r57 => (FL.k (FL.bw hM55 (fun M61 hM61 => (lX4_readStatement_b110v1 hih55v1 hM61))))))))))) (lX4_readStatement_b110v1 hih55v1 hM46))))))
theorem lX4_readStatement_l55v1_n {k0 : Nat} {k1 : Nat} {w2 : Nat} : ∀ (n : Nat) (v0 : Int32) (v1 : Int32) (v2 : Mem), KL M0 v2 → FL M0 (mX4_readStatement_l55v1 k0 k1 w2 n v0 v1 v2) := by
  intro n
  induction n with
  | zero => intro v0 v1 v2 h; exact FL.n
  | succ n IH => intro v0 v1 v2 h; exact lX4_readStatement_b55v1  IH h
theorem lX4_readStatement_l55v1 {k0 : Nat} {k1 : Nat} {w2 : Nat} {v0 : Int32} {v1 : Int32} {v2 : Mem} {n : Nat} (h : KL M0 v2) : FL M0 (mX4_readStatement_l55v1 k0 k1 w2 n v0 v1 v2) := lX4_readStatement_l55v1_n   n v0 v1 v2 h
theorem lX4_readStatement_b51v1 {k0 : Nat} {k1 : Nat} {w2 : Nat} {y0 : Int32} {M : Mem} (hM : KL M0 M) : FL M0 (mX4_readStatement_b51v1 k0 k1 w2 y0 M) := by
  unfold mX4_readStatement_b51v1
  exact (lX4_readStatement_l55v1 hM)
theorem lX4_readStatement_b32v1 {k0 : Nat} {k1 : Nat} {ws0 : Nat} {M : Mem} (hM : KL M0 M) : FL M0 (mX4_readStatement_b32v1 k0 k1 ws0 M) := by
  unfold mX4_readStatement_b32v1
  exact (FL.c (fun r30 => (lX4_readStatement_b51v1 hM)))
theorem lX4_readStatement {k0 : Nat} {k1 : Nat} {M : Mem} (hM : KL M0 M) : FL M0 (mX4_readStatement k0 k1 M) := by
  unfold mX4_readStatement
  exact (FL.i (FL.k (FL.c (fun r25 => (FL.o (lX4_readStatement_b32 hM) (fun w27 => (FL.k (lX4_readStatement_b32v1 hM))))))) (lX4_readStatement_b32 hM))
theorem lX4_readText_b84 {k0 : Nat} {k1 : Nat} {k2 : Nat} {M : Mem} (hM : KL M0 M) : FL M0 (mX4_readText_b84 k0 k1 k2 M) := by
  unfold mX4_readText_b84
  exact (FL.i (FL.ok hM) (FL.ok hM))
theorem lX4_readText_b47 {k0 : Nat} {k1 : Nat} {k2 : Nat} {ih47 : Int32 → Mem → Option (Mem × Int32)} {x4 : Int32} {M : Mem} (hih47 : ∀ (v0 : Int32) (v1 : Mem), KL M0 v1 → FL M0 (ih47 v0 v1)) (hM : KL M0 M) : FL M0 (mX4_readText_b47 k0 k1 k2 ih47 x4 M) := by
  unfold mX4_readText_b47
  exact (FL.i (lX4_readText_b84 hM) (FL.i (lX4_readText_b84 hM) (FL.i (FL.m (lX4_readStatement hM) (fun M25 _ hM25 => (FL.m (lX4_nextToken hM25) (fun M28 _ hM28 => (FL.b (fun x4_78 => (hih47 _ _ hM28))))))) (lX4_readText_b84 hM))))
theorem lX4_readText_l47_n {k0 : Nat} {k1 : Nat} {k2 : Nat} : ∀ (n : Nat) (v0 : Int32) (v1 : Mem), KL M0 v1 → FL M0 (mX4_readText_l47 k0 k1 k2 n v0 v1) := by
  intro n
  induction n with
  | zero => intro v0 v1 h; exact FL.n
  | succ n IH => intro v0 v1 h; exact lX4_readText_b47  IH h
theorem lX4_readText_l47 {k0 : Nat} {k1 : Nat} {k2 : Nat} {v0 : Int32} {v1 : Mem} {n : Nat} (h : KL M0 v1) : FL M0 (mX4_readText_l47 k0 k1 k2 n v0 v1) := lX4_readText_l47_n   n v0 v1 h
theorem lX4_readText_b18 {k0 : Nat} {k1 : Nat} {k2 : Nat} {y1 : Int32} {M : Mem} (hM : KL M0 M) : FL M0 (mX4_readText_b18 k0 k1 k2 y1 M) := by
  unfold mX4_readText_b18
  exact (FL.bw hM (fun M5 hM5 => (FL.bw hM5 (fun M7 hM7 => (FL.bw hM7 (fun M9 hM9 => (FL.bw hM9 (fun M11 hM11 => (FL.m (lX1_clear hM11) (fun M15 _ hM15 => (FL.m (lX4_nextToken hM15) (fun M18 _ hM18 => (lX4_readText_l47 hM18)))))))))))))
theorem lX4_readText {k0 : Nat} {k1 : Nat} {k2 : Nat} {x2 : Int32} {M : Mem} (hM : KL M0 M) : FL M0 (mX4_readText k0 k1 k2 x2 M) := by
  unfold mX4_readText
  exact (FL.k (FL.bw hM (fun M1 hM1 => (FL.i (lX4_readText_b18 hM1) (lX4_readText_b18 hM1)))))
theorem lX6_append_b40 {k0 : Nat} {ih3 : Int32 → Int32 → Mem → Option (Mem × Unit)} {x1 : Int32} {x2 : Int32} {M : Mem} (hih3 : ∀ (v0 : Int32) (v1 : Int32) (v2 : Mem), KL M0 v2 → FL M0 (ih3 v0 v1 v2)) (hM : KL M0 M) : FL M0 (mX6_append_b40 k0 ih3 x1 x2 M) := by
  unfold mX6_append_b40
  exact (FL.b (fun x2_40 => (hih3 _ _ _ hM)))
theorem lX6_append_b3 {k0 : Nat} {ih3 : Int32 → Int32 → Mem → Option (Mem × Unit)} {x1 : Int32} {x2 : Int32} {M : Mem} (hih3 : ∀ (v0 : Int32) (v1 : Int32) (v2 : Mem), KL M0 v2 → FL M0 (ih3 v0 v1 v2)) (hM : KL M0 M) : FL M0 (mX6_append_b3 k0 ih3 x1 x2 M) := by
  unfold mX6_append_b3
  exact (FL.i (FL.ok hM) (FL.i (lX6_append_b40 hih3 hM) (FL.k (FL.bw hM (fun M6 hM6 => (FL.bw hM6 (fun M7 hM7 => (lX6_append_b40 hih3 hM7))))))))
theorem lX6_append_l3_n {k0 : Nat} : ∀ (n : Nat) (v0 : Int32) (v1 : Int32) (v2 : Mem), KL M0 v2 → FL M0 (mX6_append_l3 k0 n v0 v1 v2) := by
  intro n
  induction n with
  | zero => intro v0 v1 v2 h; exact FL.n
  | succ n IH => intro v0 v1 v2 h; exact lX6_append_b3  IH h
theorem lX6_append_l3 {k0 : Nat} {v0 : Int32} {v1 : Int32} {v2 : Mem} {n : Nat} (h : KL M0 v2) : FL M0 (mX6_append_l3 k0 n v0 v1 v2) := lX6_append_l3_n   n v0 v1 v2 h
theorem lX6_append {k0 : Nat} {x1 : Int32} {M : Mem} (hM : KL M0 M) : FL M0 (mX6_append k0 x1 M) := by
  unfold mX6_append
  exact (lX6_append_l3 hM)
theorem lX6_feed {k0 : Nat} {x1 : Int32} {x2 : Int32} {x3 : Int32} {x4 : Int32} {x5 : Int32} {M : Mem} (hM : KL M0 M) : FL M0 (mX6_feed k0 x1 x2 x3 x4 x5 M) := by
  unfold mX6_feed
  exact (FL.i (FL.m (lX6_append hM) (fun M4 _ hM4 => (FL.m (lX6_append hM4) (fun M7 _ hM7 => (FL.m (lX6_append hM7) (fun M10 _ hM10 => (FL.m (lX6_append hM10) (fun M13 _ hM13 => (FL.m (lX6_append hM13) (fun M16 _ hM16 => (FL.ok hM16))))))))))) (FL.ok hM))
theorem lX6_load_b12 {k0 : Nat} {M : Mem} (hM : KL M0 M) : FL M0 (mX6_load_b12 k0 M) := by
  unfold mX6_load_b12
  exact (FL.ok hM)
theorem lX6_load {k0 : Nat} {x1 : Int32} {M : Mem} (hM : KL M0 M) : FL M0 (mX6_load k0 x1 M) := by
  unfold mX6_load
  exact (FL.i (lX6_load_b12 hM) (FL.i (FL.bw hM (fun M3 hM3 => (FL.m (lX4_readText hM3) (fun M7 r6 hM7 => (FL.i (FL.ok hM7) (FL.m (lX1_copyFrom hM7) (fun M11 _ hM11 => (FL.m (lX0_forgetAll hM11) (fun M14 _ hM14 => (FL.c (fun r16 => (FL.ok hM14)))))))))))) (lX6_load_b12 hM)))
theorem lX6_requireLeg_b21 {k0 : Nat} {M : Mem} (hM : KL M0 M) : FL M0 (mX6_requireLeg_b21 k0 M) := by
  unfold mX6_requireLeg_b21
  exact (FL.ok hM)
theorem lX6_requireLeg {k0 : Nat} {x1 : Int32} {M : Mem} (hM : KL M0 M) : FL M0 (mX6_requireLeg k0 x1 M) := by
  unfold mX6_requireLeg
  exact (FL.i (lX6_requireLeg_b21 hM) (FL.i (lX6_requireLeg_b21 hM) (FL.i (FL.ok hM) (lX6_requireLeg_b21 hM))))
theorem lX6_leg {k0 : Nat} {x1 : Int32} {M : Mem} (hM : KL M0 M) : FL M0 (mX6_leg k0 x1 M) := by
  unfold mX6_leg
  exact (FL.x (lX6_requireLeg hM) (fun M3 _ hM3 => (FL.k (FL.ok hM3))))
theorem lX6_requireBend_b21 {k0 : Nat} {M : Mem} (hM : KL M0 M) : FL M0 (mX6_requireBend_b21 k0 M) := by
  unfold mX6_requireBend_b21
  exact (FL.ok hM)
theorem lX6_requireBend {k0 : Nat} {x1 : Int32} {M : Mem} (hM : KL M0 M) : FL M0 (mX6_requireBend k0 x1 M) := by
  unfold mX6_requireBend
  exact (FL.i (lX6_requireBend_b21 hM) (FL.c (fun r3 => (FL.i (lX6_requireBend_b21 hM) (FL.i (FL.ok hM) (lX6_requireBend_b21 hM))))))
theorem lX6_isUp {k0 : Nat} {x1 : Int32} {M : Mem} (hM : KL M0 M) : FL M0 (mX6_isUp k0 x1 M) := by
  unfold mX6_isUp
  exact (FL.x (lX6_requireBend hM) (fun M3 _ hM3 => (FL.c (fun r6 => (FL.k (FL.ok hM3))))))
theorem lX6_linePlace {k0 : Nat} {x1 : Int32} {M : Mem} (hM : KL M0 M) : FL M0 (mX6_linePlace k0 x1 M) := by
  unfold mX6_linePlace
  exact (FL.x (lX6_requireBend hM) (fun M3 _ hM3 => (FL.c (fun r6 => (FL.k (FL.c (fun r10 => (FL.k (FL.k (FL.ok hM3))))))))))
theorem lX6_springBackFor_b19 {k0 : Nat} {x1 : UInt64} {y0 : Int32} {M : Mem} (hM : KL M0 M) : FL M0 (mX6_springBackFor_b19 k0 x1 y0 M) := by
  unfold mX6_springBackFor_b19
  exact (FL.i (FL.ok hM) (FL.c (fun r4 => (FL.ok hM))))
theorem lX6_springBackFor_b18 {k0 : Nat} {x1 : UInt64} {M : Mem} (hM : KL M0 M) : FL M0 (mX6_springBackFor_b18 k0 x1 M) := by
  unfold mX6_springBackFor_b18
  exact (lX6_springBackFor_b19 hM)
theorem lX6_springBackFor {k0 : Nat} {x1 : UInt64} {M : Mem} (hM : KL M0 M) : FL M0 (mX6_springBackFor k0 x1 M) := by
  unfold mX6_springBackFor
  exact (FL.i (lX6_springBackFor_b18 hM) (FL.i (lX6_springBackFor_b18 hM) (lX6_springBackFor_b19 hM)))
theorem lX6_tool_b21 {k0 : Nat} {M : Mem} (hM : KL M0 M) : FL M0 (mX6_tool_b21 k0 M) := by
  unfold mX6_tool_b21
  exact (FL.ok hM)
theorem lX6_tool {k0 : Nat} {x1 : Int32} {x2 : Int32} {M : Mem} (hM : KL M0 M) : FL M0 (mX6_tool k0 x1 x2 M) := by
  unfold mX6_tool
  exact (FL.c (fun r2 => (FL.o (lX6_tool_b21 hM) (fun w4 => (FL.k (FL.i (lX6_tool_b21 hM) (FL.c (fun r8 => (FL.i (FL.k (FL.ok hM)) (lX6_tool_b21 hM))))))))))
theorem lX6_finishedWidth {k0 : Nat} {M : Mem} (hM : KL M0 M) : FL M0 (mX6_finishedWidth k0 M) := by
  unfold mX6_finishedWidth
  exact (FL.m (lX2_layFinished hM) (fun M3 _ hM3 => (FL.c (fun r5 => (FL.ok hM3)))))
theorem lX6_finishedHeight {k0 : Nat} {M : Mem} (hM : KL M0 M) : FL M0 (mX6_finishedHeight k0 M) := by
  unfold mX6_finishedHeight
  exact (FL.m (lX2_layFinished hM) (fun M3 _ hM3 => (FL.c (fun r5 => (FL.ok hM3)))))
theorem lX6_isFinishedCrossed {k0 : Nat} {M : Mem} (hM : KL M0 M) : FL M0 (mX6_isFinishedCrossed k0 M) := by
  unfold mX6_isFinishedCrossed
  exact (FL.m (lX2_layFinished hM) (fun M3 _ hM3 => (FL.c (fun r5 => (FL.k (FL.ok hM3))))))
theorem lX6_requireChoice_b9 {M : Mem} (hM : KL M0 M) : FL M0 (mX6_requireChoice_b9 M) := by
  unfold mX6_requireChoice_b9
  exact (FL.ok hM)
theorem lX6_requireChoice {x0 : Int32} {x1 : Int32} {M : Mem} (hM : KL M0 M) : FL M0 (mX6_requireChoice x0 x1 M) := by
  unfold mX6_requireChoice
  exact (FL.i (lX6_requireChoice_b9 hM) (FL.i (FL.ok hM) (lX6_requireChoice_b9 hM)))
theorem lX6_finishedCorner {k0 : Nat} {x1 : Int32} {x2 : Int32} {M : Mem} (hM : KL M0 M) : FL M0 (mX6_finishedCorner k0 x1 x2 M) := by
  unfold mX6_finishedCorner
  exact (FL.x (lX6_requireLeg hM) (fun M3 _ hM3 => (FL.x (lX6_requireChoice hM3) (fun M7 _ hM7 => (FL.m (lX2_layFinished hM7) (fun M11 _ hM11 => (FL.i (FL.k (FL.ok hM11)) (FL.k (FL.ok hM11)))))))))
theorem lX6_step_b21 {k0 : Nat} {M : Mem} (hM : KL M0 M) : FL M0 (mX6_step_b21 k0 M) := by
  unfold mX6_step_b21
  exact (FL.ok hM)
theorem lX6_step {k0 : Nat} {x1 : Int32} {x2 : Int32} {M : Mem} (hM : KL M0 M) : FL M0 (mX6_step k0 x1 x2 M) := by
  unfold mX6_step
  exact (FL.i (lX6_step_b21 hM) (FL.i (lX6_step_b21 hM) (FL.i (FL.x (lX6_requireChoice hM) (fun M6 _ hM6 => (FL.i (FL.k (FL.ok hM6)) (FL.i (FL.k (FL.ok hM6)) (FL.i (FL.k (FL.ok hM6)) (FL.k (FL.ok hM6))))))) (lX6_step_b21 hM))))
theorem lX6_requireStep {k0 : Nat} {x1 : Int32} {x2 : Int32} {M : Mem} (hM : KL M0 M) : FL M0 (mX6_requireStep k0 x1 x2 M) := by
  unfold mX6_requireStep
  exact (FL.x (lX6_requireBend hM) (fun M3 _ hM3 => (FL.x (lX6_requireChoice hM3) (fun M7 _ hM7 => (FL.ok hM7)))))
theorem lX6_reasonNow {k0 : Nat} {x1 : Int32} {M : Mem} (hM : KL M0 M) : FL M0 (mX6_reasonNow k0 x1 M) := by
  unfold mX6_reasonNow
  exact (FL.m (lX2_reasonFor hM) (fun M3 r2 hM3 => (FL.ok hM3)))
theorem lX6_reason {k0 : Nat} {x1 : Int32} {x2 : Int32} {M : Mem} (hM : KL M0 M) : FL M0 (mX6_reason k0 x1 x2 M) := by
  unfold mX6_reason
  exact (FL.x (lX6_requireStep hM) (fun M3 _ hM3 => (FL.m (lX6_reasonNow hM3) (fun M7 r6 hM7 => (FL.ok hM7)))))
theorem lX6_gaugeNow {k0 : Nat} {x1 : Int32} {M : Mem} (hM : KL M0 M) : FL M0 (mX6_gaugeNow k0 x1 M) := by
  unfold mX6_gaugeNow
  exact (FL.m (lX2_layStep hM) (fun M3 _ hM3 => (FL.c (fun r5 => (FL.ok hM3)))))
theorem lX6_gauge {k0 : Nat} {x1 : Int32} {x2 : Int32} {M : Mem} (hM : KL M0 M) : FL M0 (mX6_gauge k0 x1 x2 M) := by
  unfold mX6_gauge
  exact (FL.x (lX6_requireStep hM) (fun M3 _ hM3 => (FL.m (lX6_gaugeNow hM3) (fun M7 r6 hM7 => (FL.ok hM7)))))
theorem lX6_corner {k0 : Nat} {x1 : Int32} {x2 : Int32} {x3 : Int32} {x4 : Int32} {M : Mem} (hM : KL M0 M) : FL M0 (mX6_corner k0 x1 x2 x3 x4 M) := by
  unfold mX6_corner
  exact (FL.x (lX6_requireBend hM) (fun M3 _ hM3 => (FL.x (lX6_requireLeg hM3) (fun M7 _ hM7 => (FL.x (lX6_requireChoice hM7) (fun M11 _ hM11 => (FL.x (lX6_requireChoice hM11) (fun M15 _ hM15 => (FL.m (lX2_layStep hM15) (fun M19 _ hM19 => (FL.i (FL.k (FL.ok hM19)) (FL.k (FL.ok hM19)))))))))))))
theorem lX6_top {k0 : Nat} {x1 : Int32} {x2 : Int32} {M : Mem} (hM : KL M0 M) : FL M0 (mX6_top k0 x1 x2 M) := by
  unfold mX6_top
  exact (FL.x (lX6_requireStep hM) (fun M3 _ hM3 => (FL.m (lX2_layStep hM3) (fun M7 _ hM7 => (FL.c (fun r9 => (FL.ok hM7)))))))
theorem lX6_hitting {k0 : Nat} {x1 : Int32} {x2 : Int32} {M : Mem} (hM : KL M0 M) : FL M0 (mX6_hitting k0 x1 x2 M) := by
  unfold mX6_hitting
  exact (FL.x (lX6_requireStep hM) (fun M3 _ hM3 => (FL.m (lX2_layStep hM3) (fun M7 _ hM7 => (FL.c (fun r9 => (FL.ok hM7)))))))
theorem lX6_refused_b11 {k0 : Nat} {M : Mem} (hM : KL M0 M) : FL M0 (mX6_refused_b11 k0 M) := by
  unfold mX6_refused_b11
  exact (FL.ok hM)
theorem lX6_refused_b50 {k0 : Nat} {ih25 : Int32 → Int32 → Int32 → Mem → Option (Mem × (Int32 ⊕ Nat))} {x1 : Int32} {x2 : Int32} {x3 : Int32} {M : Mem} (hih25 : ∀ (v0 : Int32) (v1 : Int32) (v2 : Int32) (v3 : Mem), KL M0 v3 → FL M0 (ih25 v0 v1 v2 v3)) (hM : KL M0 M) : FL M0 (mX6_refused_b50 k0 ih25 x1 x2 x3 M) := by
  unfold mX6_refused_b50
  exact (FL.b (fun x3_50 => (hih25 _ _ _ _ hM)))
theorem lX6_refused_b25 {k0 : Nat} {ih25 : Int32 → Int32 → Int32 → Mem → Option (Mem × (Int32 ⊕ Nat))} {x1 : Int32} {x2 : Int32} {x3 : Int32} {M : Mem} (hih25 : ∀ (v0 : Int32) (v1 : Int32) (v2 : Int32) (v3 : Mem), KL M0 v3 → FL M0 (ih25 v0 v1 v2 v3)) (hM : KL M0 M) : FL M0 (mX6_refused_b25 k0 ih25 x1 x2 x3 M) := by
  unfold mX6_refused_b25
  exact (FL.c (fun r4 => (FL.i (FL.ok hM) (FL.m (lX6_reasonNow hM) (fun M9 r8 hM9 => (FL.i (FL.b (fun x2_47 => (lX6_refused_b50 hih25 hM9))) (lX6_refused_b50 hih25 hM9)))))))
theorem lX6_refused_l25_n {k0 : Nat} : ∀ (n : Nat) (v0 : Int32) (v1 : Int32) (v2 : Int32) (v3 : Mem), KL M0 v3 → FL M0 (mX6_refused_l25 k0 n v0 v1 v2 v3) := by
  intro n
  induction n with
  | zero => intro v0 v1 v2 v3 h; exact FL.n
  | succ n IH => intro v0 v1 v2 v3 h; exact lX6_refused_b25  IH h
theorem lX6_refused_l25 {k0 : Nat} {v0 : Int32} {v1 : Int32} {v2 : Int32} {v3 : Mem} {n : Nat} (h : KL M0 v3) : FL M0 (mX6_refused_l25 k0 n v0 v1 v2 v3) := lX6_refused_l25_n   n v0 v1 v2 v3 h
theorem lX6_refused {k0 : Nat} {x1 : Int32} {M : Mem} (hM : KL M0 M) : FL M0 (mX6_refused k0 x1 M) := by
  unfold mX6_refused
  exact (FL.i (lX6_refused_b11 hM) (FL.i (lX6_refused_l25 hM) (lX6_refused_b11 hM)))
theorem lX6_possible {k0 : Nat} {M : Mem} (hM : KL M0 M) : FL M0 (mX6_possible k0 M) := by
  unfold mX6_possible
  exact (FL.m (lX2_possibleSteps hM) (fun M3 r2 hM3 => (FL.ok hM3)))
theorem lX6_stuck_b73 {k0 : Nat} {ih23 : Int32 → Int32 → Int32 → Mem → Option (Mem × Int32)} {x1 : Int32} {x2 : Int32} {x3 : Int32} {M : Mem} (hih23 : ∀ (v0 : Int32) (v1 : Int32) (v2 : Int32) (v3 : Mem), KL M0 v3 → FL M0 (ih23 v0 v1 v2 v3)) (hM : KL M0 M) : FL M0 (mX6_stuck_b73 k0 ih23 x1 x2 x3 M) := by
  unfold mX6_stuck_b73
  exact (FL.b (fun x3_73 => (hih23 _ _ _ _ hM)))
theorem lX6_stuck_b53 {k0 : Nat} {ih23 : Int32 → Int32 → Int32 → Mem → Option (Mem × Int32)} {x1 : Int32} {x2 : Int32} {x3 : Int32} {y0 : Int32} {M : Mem} (hih23 : ∀ (v0 : Int32) (v1 : Int32) (v2 : Int32) (v3 : Mem), KL M0 v3 → FL M0 (ih23 v0 v1 v2 v3)) (hM : KL M0 M) : FL M0 (mX6_stuck_b53 k0 ih23 x1 x2 x3 y0 M) := by
  unfold mX6_stuck_b53
  exact (FL.i (FL.i (FL.b (fun x2_70 => (lX6_stuck_b73 hih23 hM))) (lX6_stuck_b73 hih23 hM)) (lX6_stuck_b73 hih23 hM))
theorem lX6_stuck_b23 {k0 : Nat} {ih23 : Int32 → Int32 → Int32 → Mem → Option (Mem × Int32)} {x1 : Int32} {x2 : Int32} {x3 : Int32} {M : Mem} (hih23 : ∀ (v0 : Int32) (v1 : Int32) (v2 : Int32) (v3 : Mem), KL M0 v3 → FL M0 (ih23 v0 v1 v2 v3)) (hM : KL M0 M) : FL M0 (mX6_stuck_b23 k0 ih23 x1 x2 x3 M) := by
  unfold mX6_stuck_b23
  exact (FL.c (fun r5 => (FL.i (FL.ok hM) (FL.i (lX6_stuck_b53 hih23 hM) (lX6_stuck_b53 hih23 hM)))))
theorem lX6_stuck_l23_n {k0 : Nat} : ∀ (n : Nat) (v0 : Int32) (v1 : Int32) (v2 : Int32) (v3 : Mem), KL M0 v3 → FL M0 (mX6_stuck_l23 k0 n v0 v1 v2 v3) := by
  intro n
  induction n with
  | zero => intro v0 v1 v2 v3 h; exact FL.n
  | succ n IH => intro v0 v1 v2 v3 h; exact lX6_stuck_b23  IH h
theorem lX6_stuck_l23 {k0 : Nat} {v0 : Int32} {v1 : Int32} {v2 : Int32} {v3 : Mem} {n : Nat} (h : KL M0 v3) : FL M0 (mX6_stuck_l23 k0 n v0 v1 v2 v3) := lX6_stuck_l23_n   n v0 v1 v2 v3 h
theorem lX6_stuck {k0 : Nat} {M : Mem} (hM : KL M0 M) : FL M0 (mX6_stuck k0 M) := by
  unfold mX6_stuck
  exact (FL.m (lX2_possibleSteps hM) (fun M3 r2 hM3 => (lX6_stuck_l23 hM3)))
theorem lX6_costNow {k0 : Nat} {x1 : Int32} {M : Mem} (hM : KL M0 M) : FL M0 (mX6_costNow k0 x1 M) := by
  unfold mX6_costNow
  exact (FL.c (fun r2 => (FL.c (fun r5 => (FL.m (lX6_gaugeNow hM) (fun M9 r8 hM9 => (FL.c (fun r11 => (FL.ok hM9)))))))))
theorem lX6_costOf {k0 : Nat} {x1 : Int32} {x2 : Int32} {M : Mem} (hM : KL M0 M) : FL M0 (mX6_costOf k0 x1 x2 M) := by
  unfold mX6_costOf
  exact (FL.x (lX6_requireStep hM) (fun M3 _ hM3 => (FL.m (lX6_costNow hM3) (fun M7 r6 hM7 => (FL.ok hM7)))))
theorem lX6_planned_b32 {k0 : Nat} {M : Mem} (hM : KL M0 M) : FL M0 (mX6_planned_b32 k0 M) := by
  unfold mX6_planned_b32
  exact (FL.ok hM)
theorem lX6_greatestBeam_b59 {k0 : Nat} {ih16 : Int32 → Int32 → Mem → Option (Mem × Int32)} {x1 : Int32} {x2 : Int32} {M : Mem} (hih16 : ∀ (v0 : Int32) (v1 : Int32) (v2 : Mem), KL M0 v2 → FL M0 (ih16 v0 v1 v2)) (hM : KL M0 M) : FL M0 (mX6_greatestBeam_b59 k0 ih16 x1 x2 M) := by
  unfold mX6_greatestBeam_b59
  exact (FL.b (fun x2_62 => (hih16 _ _ _ hM)))
theorem lX6_greatestBeam_b16 {k0 : Nat} {ih16 : Int32 → Int32 → Mem → Option (Mem × Int32)} {x1 : Int32} {x2 : Int32} {M : Mem} (hih16 : ∀ (v0 : Int32) (v1 : Int32) (v2 : Mem), KL M0 v2 → FL M0 (ih16 v0 v1 v2)) (hM : KL M0 M) : FL M0 (mX6_greatestBeam_b16 k0 ih16 x1 x2 M) := by
  unfold mX6_greatestBeam_b16
  exact (FL.i (FL.i (FL.ok hM) (FL.ok hM)) (FL.b (fun x3_23 => (FL.k (FL.bw hM (fun M9 hM9 => (FL.i (lX6_greatestBeam_b59 hih16 hM9) (FL.m (lX3_reachesAll hM9) (fun M14 r13 hM14 => (FL.i (lX6_greatestBeam_b59 hih16 hM14) (lX6_greatestBeam_b59 hih16 hM14)))))))))))
theorem lX6_greatestBeam_l16_n {k0 : Nat} : ∀ (n : Nat) (v0 : Int32) (v1 : Int32) (v2 : Mem), KL M0 v2 → FL M0 (mX6_greatestBeam_l16 k0 n v0 v1 v2) := by
  intro n
  induction n with
  | zero => intro v0 v1 v2 h; exact FL.n
  | succ n IH => intro v0 v1 v2 h; exact lX6_greatestBeam_b16  IH h
theorem lX6_greatestBeam_l16 {k0 : Nat} {v0 : Int32} {v1 : Int32} {v2 : Mem} {n : Nat} (h : KL M0 v2) : FL M0 (mX6_greatestBeam_l16 k0 n v0 v1 v2) := lX6_greatestBeam_l16_n   n v0 v1 v2 h
theorem lX6_greatestBeam {k0 : Nat} {M : Mem} (hM : KL M0 M) : FL M0 (mX6_greatestBeam k0 M) := by
  unfold mX6_greatestBeam
  exact (FL.m (lX1_copyFrom hM) (fun M3 _ hM3 => (lX6_greatestBeam_l16 hM3)))
theorem lX6_requireFlat {k0 : Nat} {M : Mem} (hM : KL M0 M) : FL M0 (mX6_requireFlat k0 M) := by
  unfold mX6_requireFlat
  exact (FL.i (FL.ok hM) (FL.ok hM))
theorem lX6_makeStep {k0 : Nat} {x1 : Int32} {M : Mem} (hM : KL M0 M) : FL M0 (mX6_makeStep k0 x1 M) := by
  unfold mX6_makeStep
  exact (FL.m (lX6_costNow hM) (fun M3 r2 hM3 => (FL.m (lX0_remember hM3) (fun M6 _ hM6 => (FL.m (lX6_gaugeNow hM6) (fun M9 r8 hM9 => (FL.m (lX1_addStep hM9) (fun M12 _ hM12 => (FL.ok hM12)))))))))
theorem lX6_fold {k0 : Nat} {x1 : Int32} {x2 : Int32} {M : Mem} (hM : KL M0 M) : FL M0 (mX6_fold k0 x1 x2 M) := by
  unfold mX6_fold
  exact (FL.x (lX6_requireStep hM) (fun M3 _ hM3 => (FL.m (lX6_reasonNow hM3) (fun M7 r6 hM7 => (FL.i (FL.m (lX6_makeStep hM7) (fun M11 r10 hM11 => (FL.ok hM11))) (FL.ok hM7))))))
theorem lX6_unfold {k0 : Nat} {M : Mem} (hM : KL M0 M) : FL M0 (mX6_unfold k0 M) := by
  unfold mX6_unfold
  exact (FL.m (lX0_remember hM) (fun M3 _ hM3 => (FL.b (fun x1_18 => (FL.m (lX1_dropSteps hM3) (fun M7 _ hM7 => (FL.ok hM7)))))))
theorem lX6_setLeg {k0 : Nat} {x1 : Int32} {x2 : Int32} {M : Mem} (hM : KL M0 M) : FL M0 (mX6_setLeg k0 x1 x2 M) := by
  unfold mX6_setLeg
  exact (FL.x (lX6_requireLeg hM) (fun M3 _ hM3 => (FL.c (fun r6 => (FL.i (FL.ok hM3) (FL.x (lX6_requireFlat hM3) (fun M11 _ hM11 => (FL.m (lX0_remember hM11) (fun M15 _ hM15 => (FL.k (FL.b (fun x3_51 => (FL.k (FL.bw hM15 (fun M20 hM20 => (FL.ok hM20))))))))))))))))
theorem lX6_setDirection {k0 : Nat} {x1 : Int32} {x2 : Int32} {M : Mem} (hM : KL M0 M) : FL M0 (mX6_setDirection k0 x1 x2 M) := by
  unfold mX6_setDirection
  exact (FL.x (lX6_requireBend hM) (fun M3 _ hM3 => (FL.x (lX6_requireFlat hM3) (fun M7 _ hM7 => (FL.m (lX0_remember hM7) (fun M11 _ hM11 => (FL.c (fun r13 => (FL.i (FL.k (FL.ok hM11)) (FL.bw hM11 (fun M17 hM17 => (FL.k (FL.ok hM17)))))))))))))
theorem lX6_setTool_b32 {k0 : Nat} {M : Mem} (hM : KL M0 M) : FL M0 (mX6_setTool_b32 k0 M) := by
  unfold mX6_setTool_b32
  exact (FL.ok hM)
theorem lX6_setTool {k0 : Nat} {x1 : Int32} {x2 : Int32} {x3 : Int32} {M : Mem} (hM : KL M0 M) : FL M0 (mX6_setTool k0 x1 x2 x3 M) := by
  unfold mX6_setTool
  exact (FL.c (fun r2 => (FL.o (lX6_setTool_b32 hM) (fun w4 => (FL.k (FL.c (fun r7 => (FL.i (lX6_setTool_b32 hM) (FL.c (fun r11 => (FL.i (lX6_setTool_b32 hM) (FL.m (lX0_remember hM) (fun M16 _ hM16 => (FL.k (FL.b (fun x5_65 => (FL.m (lX1_putTool hM16) (fun M21 _ hM21 => (FL.ok hM21)))))))))))))))))))
theorem lX6_setSheet_b33 {k0 : Nat} {M : Mem} (hM : KL M0 M) : FL M0 (mX6_setSheet_b33 k0 M) := by
  unfold mX6_setSheet_b33
  exact (FL.ok hM)
theorem lX6_setSheet {k0 : Nat} {x1 : Int32} {x2 : Int32} {x3 : Int32} {M : Mem} (hM : KL M0 M) : FL M0 (mX6_setSheet k0 x1 x2 x3 M) := by
  unfold mX6_setSheet
  exact (FL.c (fun r2 => (FL.i (lX6_setSheet_b33 hM) (FL.c (fun r6 => (FL.i (lX6_setSheet_b33 hM) (FL.c (fun r10 => (FL.i (lX6_setSheet_b33 hM) (FL.m (lX0_remember hM) (fun M15 _ hM15 => (FL.b (fun x4_62 => (FL.m (lX1_putSheet hM15) (fun M19 _ hM19 => (FL.ok hM19))))))))))))))))
theorem lX6_setCost_b33 {k0 : Nat} {M : Mem} (hM : KL M0 M) : FL M0 (mX6_setCost_b33 k0 M) := by
  unfold mX6_setCost_b33
  exact (FL.ok hM)
theorem lX6_setCost {k0 : Nat} {x1 : Int32} {x2 : Int32} {x3 : Int32} {M : Mem} (hM : KL M0 M) : FL M0 (mX6_setCost k0 x1 x2 x3 M) := by
  unfold mX6_setCost
  exact (FL.c (fun r2 => (FL.i (lX6_setCost_b33 hM) (FL.c (fun r6 => (FL.i (lX6_setCost_b33 hM) (FL.c (fun r10 => (FL.i (lX6_setCost_b33 hM) (FL.m (lX0_remember hM) (fun M15 _ hM15 => (FL.b (fun x4_62 => (FL.m (lX1_putCosts hM15) (fun M19 _ hM19 => (FL.ok hM19))))))))))))))))
theorem lX6_undo {k0 : Nat} {M : Mem} (hM : KL M0 M) : FL M0 (mX6_undo k0 M) := by
  unfold mX6_undo
  exact (FL.m (lX0_takeBack hM) (fun M3 r2 hM3 => (FL.i (FL.ok hM3) (FL.ok hM3))))
theorem lJ6_getChars_ba4f3_b104 {k0 : Nat} {n0 : Nat} {x5 : Int32} {x6 : Int32} {M : Mem} (hM : KL M0 M) : FL M0 (mJ6_getChars_ba4f3_b104 k0 n0 x5 x6 M) := by
  unfold mJ6_getChars_ba4f3_b104
  exact (FL.i (FL.ok hM) (FL.b (fun x5_110 => (FL.k (FL.bw hM (fun M14 hM14 => (FL.ok hM14)))))))
theorem lJ6_getChars_ba4f3_b22 {k0 : Nat} {n0 : Nat} {ih22 : Int32 → Int32 → Int32 → Mem → Option (Mem × Int32)} {x0 : Int32} {x5 : Int32} {x6 : Int32} {M : Mem} (hih22 : ∀ (v0 : Int32) (v1 : Int32) (v2 : Int32) (v3 : Mem), KL M0 v3 → FL M0 (ih22 v0 v1 v2 v3)) (hM : KL M0 M) : FL M0 (mJ6_getChars_ba4f3_b22 k0 n0 ih22 x0 x5 x6 M) := by
  unfold mJ6_getChars_ba4f3_b22
  exact (FL.i (FL.b (fun x5_73 => (FL.k (FL.k (FL.bw hM (fun M8 hM8 => (FL.i (lJ6_getChars_ba4f3_b104 hM8) (FL.b (fun x5_92 => (FL.k (FL.k (FL.bw hM8 (fun M19 hM19 => (lJ6_getChars_ba4f3_b104 hM19)))))))))))))) (FL.b (fun x3_32 => (FL.b (fun x4_39 => (FL.b (fun x5_44 => (FL.k (FL.k (FL.bw hM (fun M26 hM26 => (FL.b (fun x5_57 => (FL.k (FL.k (FL.bw hM26 (fun M31 hM31 => (hih22 _ _ _ _ hM31))))))))))))))))))
theorem lJ6_getChars_ba4f3_l22_n {k0 : Nat} {n0 : Nat} : ∀ (n : Nat) (v0 : Int32) (v1 : Int32) (v2 : Int32) (v3 : Mem), KL M0 v3 → FL M0 (mJ6_getChars_ba4f3_l22 k0 n0 n v0 v1 v2 v3) := by
  intro n
  induction n with
  | zero => intro v0 v1 v2 v3 h; exact FL.n
  | succ n IH => intro v0 v1 v2 v3 h; exact lJ6_getChars_ba4f3_b22  IH h
theorem lJ6_getChars_ba4f3_l22 {k0 : Nat} {n0 : Nat} {v0 : Int32} {v1 : Int32} {v2 : Int32} {v3 : Mem} {n : Nat} (h : KL M0 v3) : FL M0 (mJ6_getChars_ba4f3_l22 k0 n0 n v0 v1 v2 v3) := lJ6_getChars_ba4f3_l22_n   n v0 v1 v2 v3 h
theorem lJ6_getChars_ba4f3_b12 {k0 : Nat} {n0 : Nat} {x0 : Int32} {x5 : Int32} {y0 : Int32} {M : Mem} (hM : KL M0 M) : FL M0 (mJ6_getChars_ba4f3_b12 k0 n0 x0 x5 y0 M) := by
  unfold mJ6_getChars_ba4f3_b12
  exact (FL.i (FL.b (fun x0_21 => (lJ6_getChars_ba4f3_l22 hM))) (lJ6_getChars_ba4f3_l22 hM))
theorem lJ6_getChars_ba4f3 {k0 : Nat} {n0 : Nat} {x0 : Int32} {x1 : Int32} {M : Mem} (hM : KL M0 M) : FL M0 (mJ6_getChars_ba4f3 k0 n0 x0 x1 M) := by
  unfold mJ6_getChars_ba4f3
  exact (FL.i (lJ6_getChars_ba4f3_b12 hM) (lJ6_getChars_ba4f3_b12 hM))
theorem lJ5_ensureCapacityInternal_d00df {x1 : Int32} {M : Mem} (hM : KL M0 M) : FL M0 (mJ5_ensureCapacityInternal_d00df x1 M) := by
  unfold mJ5_ensureCapacityInternal_d00df
  refine FL.b (fun x2_10 => FL.i (FL.ok hM) (FL.c (fun r6 => FL.k (FL.bw ?_ (fun M9 h9 => FL.ok h9)))))
  have e : 129 ≠ sbv 133 (rd M 133 0 + 1) := by
    unfold sbv
    split
    · omega
    · split <;> omega
  exact (zr_o (M := M) 129 e).2.1.trans hM
theorem lJ0_getBytes_840e7 {k0 : Nat} {k1 : Nat} {n1 : Nat} {x2 : Int32} {x3 : Int32} {M : Mem} (hM : KL M0 M) : FL M0 (mJ0_getBytes_840e7 k0 k1 n1 x2 x3 M) := by
  unfold mJ0_getBytes_840e7
  exact FL.c (fun r2 => FL.i (FL.k (show FL M0 (some (_, ())) from FL.ok hM)) FL.n)
theorem lJ5_putStringAt_47b60 {k0 : Nat} {x1 : Int32} {M : Mem} (hM : KL M0 M) : FL M0 (mJ5_putStringAt_47b60 k0 x1 M) := by
  unfold mJ5_putStringAt_47b60
  exact (FL.c (fun r2 => (FL.m (lJ0_getBytes_840e7 hM) (fun M7 _ hM7 => (FL.ok hM7)))))
theorem lJ5_append_3fe6f_b45 {g : Int32} {x1 : Int32} {M : Mem} (hM : KL M0 M) : FL M0 (mJ5_append_3fe6f_b45 g x1 M) := by
  unfold mJ5_append_3fe6f_b45
  exact (FL.k (FL.c (fun r10 => (FL.i (FL.k (FL.bw hM (fun M14 hM14 => FL.n))) FL.n))))
theorem lJ5_append_3fe6f {x1 : Int32} {M : Mem} (hM : KL M0 M) : FL M0 (mJ5_append_3fe6f x1 M) := by
  unfold mJ5_append_3fe6f
  exact (FL.m (lJ5_ensureCapacityInternal_d00df hM) (fun M3 _ hM3 => (FL.c (fun r5 => (FL.i (lJ5_append_3fe6f_b45 hM3) (FL.c (fun r17 => (FL.i (lJ5_append_3fe6f_b45 hM3) (FL.bw hM3 (fun M21 hM21 => (FL.k (FL.bw hM21 (fun M25 hM25 => (FL.k (FL.ok hM25)))))))))))))))
theorem lJ5_append_c97b9 {x1 : Int32} {M : Mem} (hM : KL M0 M) : FL M0 (mJ5_append_c97b9 x1 M) := by
  unfold mJ5_append_c97b9
  exact (FL.b (fun x2_4 => (FL.c (fun r3 => (FL.b (fun x3_11 => (FL.m (lJ5_ensureCapacityInternal_d00df hM) (fun M8 _ hM8 => (FL.c (fun r10 => (FL.i FL.n (FL.m (lJ6_getChars_ba4f3 hM8) (fun M17 r16 hM17 => (FL.bw hM17 (fun M18 hM18 => (FL.k (FL.ok hM18)))))))))))))))))
theorem lJ5_append_cf1ce {k0 : Nat} {M : Mem} (hM : KL M0 M) : FL M0 (mJ5_append_cf1ce k0 M) := by
  unfold mJ5_append_cf1ce
  exact (FL.c (fun r2 => (FL.m (lJ5_ensureCapacityInternal_d00df hM) (fun M6 _ hM6 => (FL.m (lJ5_putStringAt_47b60 hM6) (fun M9 _ hM9 => (FL.bw hM9 (fun M10 hM10 => (FL.k (FL.ok hM10))))))))))
theorem lJ4_append_cf468 {x1 : Int32} {M : Mem} (hM : KL M0 M) : FL M0 (mJ4_append_cf468 x1 M) := by
  unfold mJ4_append_cf468
  exact (FL.m (lJ5_append_3fe6f hM) (fun M3 _ hM3 => (FL.ok hM3)))
theorem lJ4_append_bf812 {x1 : Int32} {M : Mem} (hM : KL M0 M) : FL M0 (mJ4_append_bf812 x1 M) := by
  unfold mJ4_append_bf812
  exact (FL.m (lJ5_append_c97b9 hM) (fun M3 _ hM3 => (FL.ok hM3)))
theorem lJ4_append_15ec4 {k0 : Nat} {M : Mem} (hM : KL M0 M) : FL M0 (mJ4_append_15ec4 k0 M) := by
  unfold mJ4_append_15ec4
  exact (FL.m (lJ5_append_cf1ce hM) (fun M3 _ hM3 => (FL.ok hM3)))
theorem lJ5_setLength_d00df {x1 : Int32} {M : Mem} (hM : KL M0 M) : FL M0 (mJ5_setLength_d00df x1 M) := by
  unfold mJ5_setLength_d00df
  exact (FL.i (FL.m (lJ5_ensureCapacityInternal_d00df hM) (fun M4 _ hM4 => (FL.i (FL.i (FL.bw hM4 (fun M7 hM7 => (FL.k (FL.ok hM7)))) (FL.bw hM4 (fun M10 hM10 => (FL.bw hM10 (fun M12 hM12 => (FL.k (FL.ok hM12))))))) (FL.c (fun r16 => (FL.i FL.n FL.n)))))) FL.n)
theorem lJ4_setLength_d00df {x1 : Int32} {M : Mem} (hM : KL M0 M) : FL M0 (mJ4_setLength_d00df x1 M) := by
  unfold mJ4_setLength_d00df
  exact (FL.m (lJ5_setLength_d00df hM) (fun M3 _ hM3 => (FL.ok hM3)))
theorem lX6_writeBend_b22 {k0 : Nat} {g : Int32} {x1 : Int32} {y1 : Int32} {M : Mem} (hM : KL M0 M) : FL M0 (mX6_writeBend_b22 k0 g x1 y1 M) := by
  unfold mX6_writeBend_b22
  exact (FL.k (FL.m (lJ4_append_cf468 hM) (fun M8 _ hM8 => (FL.i (FL.ok hM8) (FL.m (lJ4_append_cf468 hM8) (fun M12 _ hM12 => (FL.ok hM12)))))))
theorem lX6_writeBend {k0 : Nat} {x1 : Int32} {M : Mem} (hM : KL M0 M) : FL M0 (mX6_writeBend k0 x1 M) := by
  unfold mX6_writeBend
  exact (FL.c (fun r2 => (FL.i (lX6_writeBend_b22 hM) (lX6_writeBend_b22 hM))))
theorem lX6_write_b97 {k0 : Nat} {g : Int32} {M : Mem} (hM : KL M0 M) : FL M0 (mX6_write_b97 k0 g M) := by
  unfold mX6_write_b97
  exact (FL.k (FL.c (fun r8 => (FL.k (FL.ok hM)))))
theorem lX6_write_b61 {k0 : Nat} {g : Int32} {M : Mem} (hM : KL M0 M) : FL M0 (mX6_write_b61 k0 g M) := by
  unfold mX6_write_b61
  exact (FL.i (lX6_write_b97 hM) (FL.k (FL.m (lJ4_append_15ec4 hM) (fun M14 _ hM14 => (FL.c (fun r16 => (FL.m (lJ4_append_bf812 hM14) (fun M20 _ hM20 => (lX6_write_b97 hM20)))))))))
theorem lX6_write_b38 {k0 : Nat} {g : Int32} {ih10 : Int32 → Int32 → Mem → Option (Mem × Int32)} {x1 : Int32} {M : Mem} (hih10 : ∀ (v0 : Int32) (v1 : Int32) (v2 : Mem), KL M0 v2 → FL M0 (ih10 v0 v1 v2)) (hM : KL M0 M) : FL M0 (mX6_write_b38 k0 g ih10 x1 M) := by
  unfold mX6_write_b38
  exact (FL.k (FL.k (FL.m (lJ4_append_bf812 hM) (fun M27 _ hM27 => (FL.b (fun x1_55 => (hih10 _ _ _ hM27)))))))
theorem lX6_write_b10 {k0 : Nat} {g : Int32} {ih10 : Int32 → Int32 → Mem → Option (Mem × Int32)} {x1 : Int32} {M : Mem} (hih10 : ∀ (v0 : Int32) (v1 : Int32) (v2 : Mem), KL M0 v2 → FL M0 (ih10 v0 v1 v2)) (hM : KL M0 M) : FL M0 (mX6_write_b10 k0 g ih10 x1 M) := by
  unfold mX6_write_b10
  exact (FL.k (FL.i (lX6_write_b61 hM) (FL.i (lX6_write_b61 hM) (FL.i (lX6_write_b38 hih10 hM) (FL.k (FL.m (lX6_writeBend hM) (fun M32 _ hM32 => (lX6_write_b38 hih10 hM32))))))))
theorem lX6_write_l10_n {k0 : Nat} : ∀ (n : Nat) (v0 : Int32) (v1 : Int32) (v2 : Mem), KL M0 v2 → FL M0 (mX6_write_l10 k0 n v0 v1 v2) := by
  intro n
  induction n with
  | zero => intro v0 v1 v2 h; exact FL.n
  | succ n IH => intro v0 v1 v2 h; exact lX6_write_b10 IH h
theorem lX6_write_l10 {k0 : Nat} {v0 : Int32} {v1 : Int32} {v2 : Mem} {n : Nat} (h : KL M0 v2) : FL M0 (mX6_write_l10 k0 n v0 v1 v2) := lX6_write_l10_n n v0 v1 v2 h
theorem lX6_write {k0 : Nat} {M : Mem} (hM : KL M0 M) : FL M0 (mX6_write k0 M) := by
  unfold mX6_write
  exact (FL.m (lJ4_setLength_d00df hM) (fun M3 _ hM3 => (lX6_write_l10 hM3)))
theorem lX6_written_b15 {k0 : Nat} {g : Int32} {M : Mem} (hM : KL M0 M) : FL M0 (mX6_written_b15 k0 g M) := by
  unfold mX6_written_b15
  exact (FL.ok hM)
theorem lX6_written {k0 : Nat} {x1 : Int32} {M : Mem} (hM : KL M0 M) : FL M0 (mX6_written k0 x1 M) := by
  unfold mX6_written
  exact (FL.i (lX6_written_b15 hM) (FL.c (fun r3 => (FL.i (FL.c (fun r7 => (FL.k (FL.ok hM)))) (lX6_written_b15 hM)))))
end FFlng
