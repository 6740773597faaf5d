/-! edits: a part's field, a row's slot -/
section ED
variable {M N : Mem} {k : Nat} {f g : Nat → Int32}
/-- a leg's length -/
theorem PR.setLeg {j : Nat} {v : Int32} (h : PR k M f) (hj : (j : Int) < (f 1).toInt) : PR k (wr M (k + 1) j v) (upf f (2 + j) v) := by
  have lb := h.lb
  have e2 : ∀ c i, c ≠ k + 1 → rd (wr M (k + 1) j v) c i = rd M c i := fun c i hc => rd_wk hc
  have g' : ∀ i, i < 2 ∨ 11 ≤ i → upf f (2 + j) v i = f i := fun i hi => upf_n (by omega)
  have e : ∀ i, rd (wr M (k + 1) j v) k i = rd M k i := fun i => e2 k i (by omega)
  refine ⟨?_, ?_, ?_, fun i hi => ?_, ?_, fun b hb => ?_, ?_, ?_, ?_, fun i hi => ?_, ?_, ?_, ?_, fun i hi => ?_, fun i hi => ?_, ?_, ?_, ?_, fun i hi => ?_⟩
  · rw [e, g' 1 (by omega)]; exact h.lc
  · rw [g' 1 (by omega)]; exact h.lb
  · rw [g' 1 (by omega), g' 0 (by omega)]; exact h.nn
  · rw [g' 1 (by omega)] at hi
    by_cases q : i = j
    · rw [q, rd_we, upf_e]
    · rw [rd_wj q, upf_n (by omega)]; exact h.leg i hi
  · rw [e]; exact h.ub
  · rw [g' 0 (by omega)] at hb
    rw [e, g' _ (by omega)]; exact h.up b hb
  · rw [e, g' 0 (by omega)]; exact h.uz
  · rw [e, e, e, g' 36 (by omega), g' 37 (by omega), g' 38 (by omega)]; exact h.sh
  · rw [g' 48 (by omega)]; exact h.fl
  · rw [e2 _ _ (by omega), g' _ (by omega)]; exact h.tl i hi
  · rw [e, e, e, g' 49 (by omega), g' 50 (by omega), g' 51 (by omega)]; exact h.co
  · rw [e, g' 19 (by omega)]; exact h.nb
  · rw [g' 19 (by omega)]; exact h.bb
  · rw [g' 19 (by omega)] at hi
    rw [e2 _ _ (by omega), e2 _ _ (by omega), g' _ (by omega), g' _ (by omega)]; exact h.ba i hi
  · rw [g' 19 (by omega)] at hi
    refine ⟨by rw [g' _ (by omega)]; exact h.bv i hi, fun hj2 => ?_⟩
    rw [g' 19 (by omega)] at hj2
    rw [g' _ (by omega), g' _ (by omega)]; exact h.bo i hj2
  · rw [e, g' 52 (by omega)]; exact h.ma
  · rw [e, g' 53 (by omega)]; exact h.ns
  · rw [g' 53 (by omega)]; exact h.sb
  · rw [g' 53 (by omega)] at hi
    rw [e2 _ _ (by omega), e2 _ _ (by omega), e2 _ _ (by omega), g' _ (by omega), g' _ (by omega), g' _ (by omega), g' _ (by omega)]; exact h.st i hi
/-- the bits of the bends that are up -/
theorem PR.setUps {u : Int32} (h : PR k M f) (hg : ∀ i, i < 11 ∨ 19 ≤ i → g i = f i) (hu : 0 ≤ u.toInt ∧ u.toInt ≤ 255) (hz : u.toInt.toNat < 2 ^ (f 0).toInt.toNat) (hb : ∀ b : Nat, (b : Int) < (f 0).toInt → (g (11 + b) = if u.toInt.toNat.testBit b then 1 else 0)) : PR k (wr M k 2 u) g := by
  have n8 := h.n8
  have lb := h.lb
  have bb := h.bb
  have e2 : ∀ c i, c ≠ k → rd (wr M k 2 u) c i = rd M c i := fun c i hc => rd_wk hc
  have e : ∀ i, i ≠ 2 → rd (wr M k 2 u) k i = rd M k i := fun i hi => rd_wj hi
  refine ⟨?_, ?_, ?_, fun i hi => ?_, ?_, fun b hb' => ?_, ?_, ?_, ?_, fun i hi => ?_, ?_, ?_, ?_, fun i hi => ?_, fun i hi => ?_, ?_, ?_, ?_, fun i hi => ?_⟩
  · rw [e 0 (by decide), hg 1 (by omega)]; exact h.lc
  · rw [hg 1 (by omega)]; exact h.lb
  · rw [hg 1 (by omega), hg 0 (by omega)]; exact h.nn
  · rw [hg 1 (by omega)] at hi
    rw [e2 _ _ (by omega), hg _ (by omega)]; exact h.leg i hi
  · rw [rd_we]; exact hu
  · rw [hg 0 (by omega)] at hb'
    rw [rd_we]; exact hb b hb'
  · rw [rd_we, hg 0 (by omega)]; exact hz
  · rw [e 3 (by decide), e 4 (by decide), e 5 (by decide), hg 36 (by omega), hg 37 (by omega), hg 38 (by omega)]; exact h.sh
  · rw [hg 48 (by omega)]; exact h.fl
  · rw [e2 _ _ (by omega), hg _ (by omega)]; exact h.tl i hi
  · rw [e 7 (by decide), e 8 (by decide), e 9 (by decide), hg 49 (by omega), hg 50 (by omega), hg 51 (by omega)]; exact h.co
  · rw [e 10 (by decide), hg 19 (by omega)]; exact h.nb
  · rw [hg 19 (by omega)]; exact h.bb
  · rw [hg 19 (by omega)] at hi
    rw [e2 _ _ (by omega), e2 _ _ (by omega), hg _ (by omega), hg _ (by omega)]; exact h.ba i hi
  · rw [hg 19 (by omega)] at hi
    refine ⟨by rw [hg _ (by omega)]; exact h.bv i hi, fun hj2 => ?_⟩
    rw [hg 19 (by omega)] at hj2
    rw [hg _ (by omega), hg _ (by omega)]; exact h.bo i hj2
  · rw [e 13 (by decide), hg 52 (by omega)]; exact h.ma
  · rw [e 14 (by decide), hg 53 (by omega)]; exact h.ns
  · rw [hg 53 (by omega)]; exact h.sb
  · rw [hg 53 (by omega)] at hi
    rw [e2 _ _ (by omega), e2 _ _ (by omega), e2 _ _ (by omega), hg _ (by omega), hg _ (by omega), hg _ (by omega), hg _ (by omega)]; exact h.st i hi
/-- no step: whatever the row holds behind them -/
theorem PR.drop {m s : Int32} (h : PR k M f) (hg : ∀ i, i < 52 → g i = f i) (h52 : g 52 = 0) (h53 : g 53 = 0) (hm : m = 0) (hs : s = 0) : PR k (wr (wr M k 13 m) k 14 s) g := by
  subst hm; subst hs
  have n8 := h.n8
  have lb := h.lb
  have bb := h.bb
  have e2 : ∀ c i, c ≠ k → rd (wr (wr M k 13 0) k 14 0) c i = rd M c i := fun c i hc => by rw [rd_wk hc, rd_wk hc]
  have e : ∀ i, i ≠ 13 → i ≠ 14 → rd (wr (wr M k 13 0) k 14 0) k i = rd M k i := fun i h1 h2 => by rw [rd_wj h2, rd_wj h1]
  have z : (g 53).toInt = 0 := by rw [h53]; rfl
  refine ⟨?_, ?_, ?_, fun i hi => ?_, ?_, fun b hb' => ?_, ?_, ?_, ?_, fun i hi => ?_, ?_, ?_, ?_, fun i hi => ?_, fun i hi => ?_, ?_, ?_, ?_, fun i hi => ?_⟩
  · rw [e 0 (by decide) (by decide), hg 1 (by omega)]; exact h.lc
  · rw [hg 1 (by omega)]; exact h.lb
  · rw [hg 1 (by omega), hg 0 (by omega)]; exact h.nn
  · rw [hg 1 (by omega)] at hi
    rw [e2 _ _ (by omega), hg _ (by omega)]; exact h.leg i hi
  · rw [e 2 (by decide) (by decide)]; exact h.ub
  · rw [hg 0 (by omega)] at hb'
    rw [e 2 (by decide) (by decide), hg _ (by omega)]; exact h.up b hb'
  · rw [e 2 (by decide) (by decide), hg 0 (by omega)]; exact h.uz
  · rw [e 3 (by decide) (by decide), e 4 (by decide) (by decide), e 5 (by decide) (by decide), hg 36 (by omega), hg 37 (by omega), hg 38 (by omega)]; exact h.sh
  · rw [hg 48 (by omega)]; exact h.fl
  · rw [e2 _ _ (by omega), hg _ (by omega)]; exact h.tl i hi
  · rw [e 7 (by decide) (by decide), e 8 (by decide) (by decide), e 9 (by decide) (by decide), hg 49 (by omega), hg 50 (by omega), hg 51 (by omega)]; exact h.co
  · rw [e 10 (by decide) (by decide), hg 19 (by omega)]; exact h.nb
  · rw [hg 19 (by omega)]; exact h.bb
  · rw [hg 19 (by omega)] at hi
    rw [e2 _ _ (by omega), e2 _ _ (by omega), hg _ (by omega), hg _ (by omega)]; exact h.ba i hi
  · rw [hg 19 (by omega)] at hi
    refine ⟨by rw [hg _ (by omega)]; exact h.bv i hi, fun hj2 => ?_⟩
    rw [hg 19 (by omega)] at hj2
    rw [hg _ (by omega), hg _ (by omega)]; exact h.bo i hj2
  · rw [rd_wj (by decide), rd_we, h52]
  · rw [rd_we, h53]
  · rw [z]; decide
  · exfalso; rw [z] at hi; omega
end ED
