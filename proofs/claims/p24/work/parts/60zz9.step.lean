/-! a step made: a part's lists, a row's slots -/
section SE
variable {M : Mem} {k : Nat} {f g : Nat → Int32}
theorem PR.step {n : Nat} {c ga co s m : Int32} (h : PR k M f) (hn : (f 53).toInt = (n : Int)) (h8 : n < 8) (hg : ∀ i, i < 52 → g i = f i) (ho : ∀ i, 54 ≤ i → ¬ (54 + 4 * n ≤ i ∧ i < 58 + 4 * n) → g i = f i) (hs : s.toInt = (n : Int) + 1) (g53 : g 53 = s) (g52 : g 52 = m) (hc : c.toInt = 2 * (g (54 + 4 * n)).toInt + (g (55 + 4 * n)).toInt) (hga : g (56 + 4 * n) = ga) (hco : g (57 + 4 * n) = co) : PR k (wr (wr (wr (wr (wr M (k + 5) n c) (k + 6) n ga) (k + 7) n co) k 14 s) k 13 m) g := by
  have n8 := h.n8
  have lb := h.lb
  have bb := h.bb
  have e2 : ∀ c' i, c' ≠ k → c' ≠ k + 5 → c' ≠ k + 6 → c' ≠ k + 7 → rd (wr (wr (wr (wr (wr M (k + 5) n c) (k + 6) n ga) (k + 7) n co) k 14 s) k 13 m) c' i = rd M c' i := fun c' i h1 h2 h3 h4 => by rw [rd_wk h1, rd_wk h1, rd_wk h4, rd_wk h3, rd_wk h2]
  have e : ∀ i, i ≠ 13 → i ≠ 14 → rd (wr (wr (wr (wr (wr M (k + 5) n c) (k + 6) n ga) (k + 7) n co) k 14 s) k 13 m) k i = rd M k i := fun i h1 h2 => by rw [rd_wj h1, rd_wj h2, rd_wk (by omega), rd_wk (by omega), rd_wk (by omega)]
  refine ⟨?_, ?_, ?_, fun i hi => ?_, ?_, fun b hb' => ?_, ?_, ?_, ?_, fun i hi => ?_, ?_, ?_, ?_, fun i hi => ?_, fun i hi => ?_, ?_, ?_, ?_, fun i hi => ?_⟩
  · rw [e 0 (by decide) (by decide), hg 1 (by omega)]; exact h.lc
  · rw [hg 1 (by omega)]; exact h.lb
  · rw [hg 1 (by omega), hg 0 (by omega)]; exact h.nn
  · rw [hg 1 (by omega)] at hi
    rw [e2 _ _ (by omega) (by omega) (by omega) (by omega), hg _ (by omega)]; exact h.leg i hi
  · rw [e 2 (by decide) (by decide)]; exact h.ub
  · rw [hg 0 (by omega)] at hb'
    rw [e 2 (by decide) (by decide), hg _ (by omega)]; exact h.up b hb'
  · rw [e 2 (by decide) (by decide), hg 0 (by omega)]; exact h.uz
  · rw [e 3 (by decide) (by decide), e 4 (by decide) (by decide), e 5 (by decide) (by decide), hg 36 (by omega), hg 37 (by omega), hg 38 (by omega)]; exact h.sh
  · rw [hg 48 (by omega)]; exact h.fl
  · rw [e2 _ _ (by omega) (by omega) (by omega) (by omega), hg _ (by omega)]; exact h.tl i hi
  · rw [e 7 (by decide) (by decide), e 8 (by decide) (by decide), e 9 (by decide) (by decide), hg 49 (by omega), hg 50 (by omega), hg 51 (by omega)]; exact h.co
  · rw [e 10 (by decide) (by decide), hg 19 (by omega)]; exact h.nb
  · rw [hg 19 (by omega)]; exact h.bb
  · rw [hg 19 (by omega)] at hi
    rw [e2 _ _ (by omega) (by omega) (by omega) (by omega), e2 _ _ (by omega) (by omega) (by omega) (by omega), hg _ (by omega), hg _ (by omega)]; exact h.ba i hi
  · rw [hg 19 (by omega)] at hi
    refine ⟨by rw [hg _ (by omega)]; exact h.bv i hi, fun hj2 => ?_⟩
    rw [hg 19 (by omega)] at hj2
    rw [hg _ (by omega), hg _ (by omega)]; exact h.bo i hj2
  · rw [rd_we, g52]
  · rw [rd_wj (by decide), rd_we, g53]
  · rw [g53]; omega
  · rw [g53] at hi
    by_cases q : i = n
    · subst q
      refine ⟨?_, ?_, ?_⟩
      · rw [rd_wk (by omega), rd_wk (by omega), rd_wk (by omega), rd_wk (by omega), rd_we]; exact hc
      · rw [rd_wk (by omega), rd_wk (by omega), rd_wk (by omega), rd_we, hga]
      · rw [rd_wk (by omega), rd_wk (by omega), rd_we, hco]
    · rw [rd_wk (by omega), rd_wk (by omega), rd_wk (by omega), rd_wk (by omega), rd_wj q, rd_wk (by omega), rd_wk (by omega), rd_wk (by omega), rd_wj q, rd_wk (by omega), rd_wk (by omega), rd_wk (by omega), rd_wj q, rd_wk (by omega), rd_wk (by omega), ho _ (by omega) (by omega), ho _ (by omega) (by omega), ho _ (by omega) (by omega), ho _ (by omega) (by omega)]
      exact h.st i (by omega)
end SE
