/-! load, by both -/
theorem rd_cpk {M : Mem} {a b n c j : Nat} (h : c ≠ b) : rd (cpy M a b 0 0 n) c j = rd M c j := congrFun (cpy_o (M := M) (a := a) (sp := 0) (dp := 0) (n := n) c h).1 j
theorem rd_cpe {M : Mem} {a b n j : Nat} (h : j < n) : rd (cpy M a b 0 0 n) b j = rd M a j := by
  show (cpy M a b 0 0 n).1 b j = _
  rw [cpy_s]
  unfold va_cpy
  rw [if_pos (by omega), show 0 + (j - 0) = j by omega]
  rfl
section LDS
variable {M N M0 N0 : Mem} {f : Nat → Int32} {k k' : Nat}
theorem pc_copyFrom (hd : k + 8 ≤ k' ∨ k' + 8 ≤ k) : Pc (mX1_copyFrom k k' M) (fun q => (∀ j, j ≤ 14 → j ≠ 1 → j ≠ 6 → j ≠ 11 → j ≠ 12 → rd q.1 k j = rd M k' j) ∧ (∀ j, j < 9 → rd q.1 (k + 1) j = rd M (k' + 1) j) ∧ (∀ j, j < 10 → rd q.1 (k + 2) j = rd M (k' + 2) j) ∧ (∀ j, j < 8 → rd q.1 (k + 3) j = rd M (k' + 3) j ∧ rd q.1 (k + 4) j = rd M (k' + 4) j ∧ rd q.1 (k + 5) j = rd M (k' + 5) j ∧ rd q.1 (k + 6) j = rd M (k' + 6) j ∧ rd q.1 (k + 7) j = rd M (k' + 7) j) ∧ KS (fun c _ => k ≤ c ∧ c < k + 8) M q.1) := by
  unfold mX1_copyFrom mX1_putSheet mX1_putCosts
  simp only [cal_ite, cal_cap, cal_cal, cal_chk, cal_some, cal_bnd]
  refine Pc.b (fun M1 e1 => Pc.b (fun M2 e2 => Pc.b (fun M3 e3 => Pc.b (fun M4 e4 => Pc.b (fun M5 e5 => Pc.b (fun M6 e6 => Pc.b (fun M7 e7 => Pc.b (fun M8 e8 => Pc.b (fun M9 e9 => Pc.b (fun M10 e10 => Pc.b (fun M11 e11 => Pc.b (fun M12 e12 => Pc.b (fun M13 e13 => Pc.b (fun M14 e14 => Pc.b (fun M15 e15 => Pc.b (fun M16 e16 => Pc.b (fun M17 e17 => Pc.b (fun M18 e18 => Pc.ok ?_))))))))))))))))))
  have kp : ∀ c j, ¬ (k ≤ c ∧ c < k + 8) → rd M18 c j = rd M c j := fun c j h => by
    rw [e18, rd_cpk (by omega), e17, rd_cpk (by omega), e16, rd_cpk (by omega), e15, rd_wk (by omega), e14, rd_wk (by omega), e13, rd_cpk (by omega), e12, rd_cpk (by omega), e11, rd_wk (by omega), e10, rd_wk (by omega), e9, rd_wk (by omega), e8, rd_wk (by omega), e7, rd_cpk (by omega), e6, rd_wk (by omega), e5, rd_wk (by omega), e4, rd_wk (by omega), e3, rd_wk (by omega), e2, rd_cpk (by omega), e1, rd_wk (by omega)]
  have m1 : ∀ c j, ¬ (k ≤ c ∧ c < k + 8) → rd M1 c j = rd M c j := fun c j h => by rw [e1, rd_wk (by omega)]
  have m2 : ∀ c j, ¬ (k ≤ c ∧ c < k + 8) → rd M2 c j = rd M c j := fun c j h => by rw [e2, rd_cpk (by omega)]; exact m1 c j h
  have m3 : ∀ c j, ¬ (k ≤ c ∧ c < k + 8) → rd M3 c j = rd M c j := fun c j h => by rw [e3, rd_wk (by omega)]; exact m2 c j h
  have m6 : ∀ c j, ¬ (k ≤ c ∧ c < k + 8) → rd M6 c j = rd M c j := fun c j h => by rw [e6, rd_wk (by omega), e5, rd_wk (by omega), e4, rd_wk (by omega)]; exact m3 c j h
  have m7 : ∀ c j, ¬ (k ≤ c ∧ c < k + 8) → rd M7 c j = rd M c j := fun c j h => by rw [e7, rd_cpk (by omega)]; exact m6 c j h
  have m10 : ∀ c j, ¬ (k ≤ c ∧ c < k + 8) → rd M10 c j = rd M c j := fun c j h => by rw [e10, rd_wk (by omega), e9, rd_wk (by omega), e8, rd_wk (by omega)]; exact m7 c j h
  have m11 : ∀ c j, ¬ (k ≤ c ∧ c < k + 8) → rd M11 c j = rd M c j := fun c j h => by rw [e11, rd_wk (by omega)]; exact m10 c j h
  have m12 : ∀ c j, ¬ (k ≤ c ∧ c < k + 8) → rd M12 c j = rd M c j := fun c j h => by rw [e12, rd_cpk (by omega)]; exact m11 c j h
  have m13 : ∀ c j, ¬ (k ≤ c ∧ c < k + 8) → rd M13 c j = rd M c j := fun c j h => by rw [e13, rd_cpk (by omega)]; exact m12 c j h
  have m14 : ∀ c j, ¬ (k ≤ c ∧ c < k + 8) → rd M14 c j = rd M c j := fun c j h => by rw [e14, rd_wk (by omega)]; exact m13 c j h
  have m15 : ∀ c j, ¬ (k ≤ c ∧ c < k + 8) → rd M15 c j = rd M c j := fun c j h => by rw [e15, rd_wk (by omega)]; exact m14 c j h
  have m16 : ∀ c j, ¬ (k ≤ c ∧ c < k + 8) → rd M16 c j = rd M c j := fun c j h => by rw [e16, rd_cpk (by omega)]; exact m15 c j h
  have m17 : ∀ c j, ¬ (k ≤ c ∧ c < k + 8) → rd M17 c j = rd M c j := fun c j h => by rw [e17, rd_cpk (by omega)]; exact m16 c j h
  refine ⟨fun j h1 h2 h3 h4 h5 => ?_, fun j hj => ?_, fun j hj => ?_, fun j hj => ⟨?_, ?_, ?_, ?_, ?_⟩, kp⟩
  · show rd M18 k j = _
    rw [e18, rd_cpk (by omega), e17, rd_cpk (by omega), e16, rd_cpk (by omega), e15]
    by_cases q14 : j = 14
    · subst q14; rw [rd_we]; exact m14 _ _ (by omega)
    rw [rd_wj q14, e14]
    by_cases q13 : j = 13
    · subst q13; rw [rd_we]; exact m13 _ _ (by omega)
    rw [rd_wj q13, e13, rd_cpk (by omega), e12, rd_cpk (by omega), e11]
    by_cases q10 : j = 10
    · subst q10; rw [rd_we]; exact m10 _ _ (by omega)
    rw [rd_wj q10, e10]
    by_cases q9 : j = 9
    · subst q9; rw [rd_we]; exact m7 _ _ (by omega)
    rw [rd_wj q9, e9]
    by_cases q8 : j = 8
    · subst q8; rw [rd_we]; exact m7 _ _ (by omega)
    rw [rd_wj q8, e8]
    by_cases q7 : j = 7
    · subst q7; rw [rd_we]; exact m7 _ _ (by omega)
    rw [rd_wj q7, e7, rd_cpk (by omega), e6]
    by_cases q5 : j = 5
    · subst q5; rw [rd_we]; exact m3 _ _ (by omega)
    rw [rd_wj q5, e5]
    by_cases q4 : j = 4
    · subst q4; rw [rd_we]; exact m3 _ _ (by omega)
    rw [rd_wj q4, e4]
    by_cases q3 : j = 3
    · subst q3; rw [rd_we]; exact m3 _ _ (by omega)
    rw [rd_wj q3, e3]
    by_cases q2 : j = 2
    · subst q2; rw [rd_we]; exact m2 _ _ (by omega)
    rw [rd_wj q2, e2, rd_cpk (by omega), e1]
    have q0 : j = 0 := by omega
    subst q0
    exact rd_we
  · show rd M18 (k + 1) j = _
    rw [e18, rd_cpk (by omega), e17, rd_cpk (by omega), e16, rd_cpk (by omega), e15, rd_wk (by omega), e14, rd_wk (by omega), e13, rd_cpk (by omega), e12, rd_cpk (by omega), e11, rd_wk (by omega), e10, rd_wk (by omega), e9, rd_wk (by omega), e8, rd_wk (by omega), e7, rd_cpk (by omega), e6, rd_wk (by omega), e5, rd_wk (by omega), e4, rd_wk (by omega), e3, rd_wk (by omega), e2, rd_cpe hj]
    exact m1 _ _ (by omega)
  · show rd M18 (k + 2) j = _
    rw [e18, rd_cpk (by omega), e17, rd_cpk (by omega), e16, rd_cpk (by omega), e15, rd_wk (by omega), e14, rd_wk (by omega), e13, rd_cpk (by omega), e12, rd_cpk (by omega), e11, rd_wk (by omega), e10, rd_wk (by omega), e9, rd_wk (by omega), e8, rd_wk (by omega), e7, rd_cpe hj]
    exact m6 _ _ (by omega)
  · show rd M18 (k + 3) j = _
    rw [e18, rd_cpk (by omega), e17, rd_cpk (by omega), e16, rd_cpk (by omega), e15, rd_wk (by omega), e14, rd_wk (by omega), e13, rd_cpk (by omega), e12, rd_cpe hj]
    exact m11 _ _ (by omega)
  · show rd M18 (k + 4) j = _
    rw [e18, rd_cpk (by omega), e17, rd_cpk (by omega), e16, rd_cpk (by omega), e15, rd_wk (by omega), e14, rd_wk (by omega), e13, rd_cpe hj]
    exact m12 _ _ (by omega)
  · show rd M18 (k + 5) j = _
    rw [e18, rd_cpk (by omega), e17, rd_cpk (by omega), e16, rd_cpe hj]
    exact m15 _ _ (by omega)
  · show rd M18 (k + 6) j = _
    rw [e18, rd_cpk (by omega), e17, rd_cpe hj]
    exact m16 _ _ (by omega)
  · show rd M18 (k + 7) j = _
    rw [e18, rd_cpe hj]
    exact m17 _ _ (by omega)
/-- a part copied is that of the same row -/
theorem PR.copy {M' : Mem} (h : PR k' M f) (c0 : ∀ j, j ≤ 14 → j ≠ 1 → j ≠ 6 → j ≠ 11 → j ≠ 12 → rd M' k j = rd M k' j) (c1 : ∀ j, j < 9 → rd M' (k + 1) j = rd M (k' + 1) j) (c2 : ∀ j, j < 10 → rd M' (k + 2) j = rd M (k' + 2) j) (c3 : ∀ j, j < 8 → rd M' (k + 3) j = rd M (k' + 3) j ∧ rd M' (k + 4) j = rd M (k' + 4) j ∧ rd M' (k + 5) j = rd M (k' + 5) j ∧ rd M' (k + 6) j = rd M (k' + 6) j ∧ rd M' (k + 7) j = rd M (k' + 7) j) : PR k M' f := by
  have q : ∀ j, j ≤ 14 → j ≠ 1 → j ≠ 6 → j ≠ 11 → j ≠ 12 → rd M' k j = rd M k' j := c0
  refine ⟨?_, h.lb, h.nn, fun j hj => ?_, ?_, fun b hb => ?_, ?_, ?_, h.fl, fun j hj => ?_, ?_, ?_, h.bb, fun j hj => ?_, h.bw, ?_, ?_, h.sb, fun j hj => ?_⟩
  · rw [q 0 (by decide) (by decide) (by decide) (by decide) (by decide)]; exact h.lc
  · have := h.lb
    rw [c1 j (by omega)]; exact h.leg j hj
  · rw [q 2 (by decide) (by decide) (by decide) (by decide) (by decide)]; exact h.ub
  · rw [q 2 (by decide) (by decide) (by decide) (by decide) (by decide)]; exact h.up b hb
  · rw [q 2 (by decide) (by decide) (by decide) (by decide) (by decide)]; exact h.uz
  · rw [q 3 (by decide) (by decide) (by decide) (by decide) (by decide), q 4 (by decide) (by decide) (by decide) (by decide) (by decide), q 5 (by decide) (by decide) (by decide) (by decide) (by decide)]; exact h.sh
  · rw [c2 j hj]; exact h.tl j hj
  · rw [q 7 (by decide) (by decide) (by decide) (by decide) (by decide), q 8 (by decide) (by decide) (by decide) (by decide) (by decide), q 9 (by decide) (by decide) (by decide) (by decide) (by decide)]; exact h.co
  · rw [q 10 (by decide) (by decide) (by decide) (by decide) (by decide)]; exact h.nb
  · have := h.bb
    rw [(c3 j (by omega)).1, (c3 j (by omega)).2.1]; exact h.ba j hj
  · rw [q 13 (by decide) (by decide) (by decide) (by decide) (by decide)]; exact h.ma
  · rw [q 14 (by decide) (by decide) (by decide) (by decide) (by decide)]; exact h.ns
  · have := h.sb
    have c := c3 j (by omega)
    rw [c.2.2.1, c.2.2.2.1, c.2.2.2.2]; exact h.st j hj
/-- what an empty text defines -/
def r0 (j : Nat) : Int32 := if j = 36 then 10 else if j = 37 then 10 else if j = 38 then 40 else if j = 39 then 300 else if j = 40 then 600 else if j = 41 then 300 else if j = 42 then 600 else if j = 43 then 200 else if j = 44 then 400 else if j = 46 then 9999 else if j = 49 then 1 else if j = 50 then 1 else if j = 51 then 1 else 0
theorem pc_clear : Pc (mX1_clear 13 M) (fun q => PR 13 q.1 r0 ∧ KS A13 M q.1) := by
  unfold mX1_clear mX1_putSheet mX1_putCosts mX1_dropSteps
  simp only [cal_ite, cal_cap, cal_cal, cal_chk, cal_some, cal_bnd]
  refine Pc.b (fun M1 e1 => Pc.b (fun M2 e2 => Pc.b (fun M3 e3 => Pc.b (fun M4 e4 => Pc.b (fun M5 e5 => Pc.b (fun M6 e6 => ?_))))))
  refine Pc.m (pc_putTool (t := 0) (by decide)) (fun M7 _ e7 => Pc.m (pc_putTool (t := 1) (by decide)) (fun M8 _ e8 => Pc.m (pc_putTool (t := 2) (by decide)) (fun M9 _ e9 => Pc.m (pc_putTool (t := 3) (by decide)) (fun M10 _ e10 => Pc.m (pc_putTool (t := 4) (by decide)) (fun M11 _ e11 => ?_)))))
  refine Pc.b (fun M12 e12 => Pc.b (fun M13 e13 => Pc.b (fun M14 e14 => Pc.b (fun M15 e15 => Pc.b (fun M16 e16 => Pc.ok ?_)))))
  have e7 : M7 = wr (wr M6 15 0 300) 15 1 600 := e7
  have e8 : M8 = wr (wr M7 15 2 300) 15 3 600 := e8
  have e9 : M9 = wr (wr M8 15 4 200) 15 5 400 := e9
  have e10 : M10 = wr (wr M9 15 6 0) 15 7 9999 := e10
  have e11 : M11 = wr (wr M10 15 8 0) 15 9 0 := e11
  have e : M16 = wr (wr (wr (wr (wr (wr (wr (wr (wr (wr (wr (wr (wr (wr (wr (wr (wr (wr (wr (wr (wr M 13 0 0) 13 2 0) 13 10 0) 13 3 10) 13 4 10) 13 5 40) 15 0 300) 15 1 600) 15 2 300) 15 3 600) 15 4 200) 15 5 400) 15 6 0) 15 7 9999) 15 8 0) 15 9 0) 13 7 1) 13 8 1) 13 9 1) 13 13 0) 13 14 0 := by
    rw [e16, e15, e14, e13, e12, e11, e10, e9, e8, e7, e6, e5, e4, e3, e2, e1]
  clear e16 e15 e14 e13 e12 e11 e10 e9 e8 e7 e6 e5 e4 e3 e2 e1
  show PR 13 M16 r0 ∧ KS A13 M M16
  have s0 : ∀ j v, rd M16 13 j = v → rd M16 13 j = v := fun _ _ h => h
  refine ⟨⟨?_, by decide, by decide, fun j hj => ?_, ?_, fun b hb => ?_, ?_, ?_, rfl, fun j hj => ?_, ?_, ?_, by decide, fun j hj => ?_, fun j hj => ?_, ?_, ?_, by decide, fun j hj => ?_⟩, ?_⟩
  · rw [e]; (repeat (first | rw [rd_we] | rw [rd_wk (by omega)] | rw [rd_wj (by omega)])); rfl
  · exfalso; have : ((r0 1)).toInt = 0 := rfl; omega
  · have : rd M16 13 2 = 0 := by rw [e]; (repeat (first | rw [rd_we] | rw [rd_wk (by omega)] | rw [rd_wj (by omega)]))
    rw [this]; decide
  · exfalso; have : ((r0 0)).toInt = 0 := rfl; omega
  · have : rd M16 13 2 = 0 := by rw [e]; (repeat (first | rw [rd_we] | rw [rd_wk (by omega)] | rw [rd_wj (by omega)]))
    rw [this]; decide
  · refine ⟨?_, ?_, ?_⟩ <;> (rw [e]; (repeat (first | rw [rd_we] | rw [rd_wk (by omega)] | rw [rd_wj (by omega)])); rfl)
  · have h10 : j = 0 ∨ j = 1 ∨ j = 2 ∨ j = 3 ∨ j = 4 ∨ j = 5 ∨ j = 6 ∨ j = 7 ∨ j = 8 ∨ j = 9 := by omega
    rcases h10 with rfl | rfl | rfl | rfl | rfl | rfl | rfl | rfl | rfl | rfl <;> (rw [e]; (repeat (first | rw [rd_we] | rw [rd_wk (by omega)] | rw [rd_wj (by omega)])); rfl)
  · refine ⟨?_, ?_, ?_⟩ <;> (rw [e]; (repeat (first | rw [rd_we] | rw [rd_wk (by omega)] | rw [rd_wj (by omega)])); rfl)
  · rw [e]; (repeat (first | rw [rd_we] | rw [rd_wk (by omega)] | rw [rd_wj (by omega)])); rfl
  · exfalso; have : ((r0 19)).toInt = 0 := rfl; omega
  · exfalso; have : ((r0 19)).toInt = 0 := rfl; omega
  · rw [e]; (repeat (first | rw [rd_we] | rw [rd_wk (by omega)] | rw [rd_wj (by omega)])); rfl
  · rw [e]; (repeat (first | rw [rd_we] | rw [rd_wk (by omega)] | rw [rd_wj (by omega)])); rfl
  · exfalso; have : ((r0 53)).toInt = 0 := rfl; omega
  · rw [e]
    repeat (first | exact KS.rf | refine KS.wr ?_ (by decide))
end LDS

