theorem cal_ite {σ β : Type} {c : Prop} [Decidable c] {a b : Option (Mem × σ)} {k' : Mem → σ → Option β} : cal (ite2 c a b) k' = ite2 c (cal a k') (cal b k') := by unfold ite2; split <;> rfl
theorem cal_bnd {γ σ β : Type} {e : γ} {k : γ → Option (Mem × σ)} {k' : Mem → σ → Option β} : cal (bnd e k) k' = bnd e (fun v => cal (k v) k') := rfl
theorem cal_chk {σ β : Type} {b : Bool} {x : Option (Mem × σ)} {k' : Mem → σ → Option β} : cal (chk b x) k' = chk b (cal x k') := by cases b <;> rfl
theorem cal_cal {ρ σ β : Type} {x : Option (Mem × ρ)} {k : Mem → ρ → Option (Mem × σ)} {k' : Mem → σ → Option β} : cal (cal x k) k' = cal x (fun M r => cal (k M r) k') := by cases x <;> rfl
theorem cal_some {σ β : Type} {M : Mem} {r : σ} {k' : Mem → σ → Option β} : cal (some (M, r)) k' = k' M r := rfl
theorem cal_opt {σ β : Type} {r : Option Nat} {a : Option (Mem × σ)} {b : Nat → Option (Mem × σ)} {k' : Mem → σ → Option β} : cal (opt r a b) k' = opt r (cal a k') (fun w => cal (b w) k') := by cases r <;> rfl
abbrev row (c : Nat) (N : Mem) : Nat → Int32 := fun j => rd N c j
def upf (f : Nat → Int32) (j : Nat) (v : Int32) : Nat → Int32 := fun i => if i = j then v else f i
theorem upf_e {f : Nat → Int32} {j : Nat} {v : Int32} : upf f j v j = v := if_pos rfl
theorem upf_n {f : Nat → Int32} {i j : Nat} {v : Int32} (h : i ≠ j) : upf f j v i = f i := if_neg h
theorem row_wr {c j : Nat} {N : Mem} {v : Int32} : row c (wr N c j v) = upf (row c N) j v := by
  funext i
  unfold upf
  by_cases e : i = j
  · rw [if_pos e, e]; exact rd_we
  · rw [if_neg e]; exact rd_wj e
theorem row_wn {c k j : Nat} {N : Mem} {v : Int32} (h : c ≠ k) : row c (wr N k j v) = row c N := by
  funext i; exact rd_wk h
theorem row_ks {c : Nat} {S : Nat → Nat → Prop} {N N' : Mem} (h : KS S N N') (hs : ∀ j, ¬ S c j) : row c N' = row c N := by
  funext i; exact h c i (hs i)
def PR (k : Nat) (M : Mem) (f : Nat → Int32)  : Prop := (rd M k 0 = f 1) ∧ (0 ≤ (f 1).toInt ∧ (f 1).toInt ≤ 9) ∧ ((f 0).toInt = if (f 1).toInt = 0 then 0 else (f 1).toInt - 1) ∧ (∀ j : Nat, (j : Int) < (f 1).toInt → rd M (k + 1) j = f (2 + j)) ∧ (0 ≤ (rd M k 2).toInt ∧ (rd M k 2).toInt ≤ 255) ∧ (∀ b : Nat, (b : Int) < (f 0).toInt → (f (11 + b) = if (rd M k 2).toInt.toNat.testBit b then 1 else 0)) ∧ ((rd M k 2).toInt.toNat < 2 ^ (f 0).toInt.toNat) ∧ (rd M k 3 = f 36 ∧ rd M k 4 = f 37 ∧ rd M k 5 = f 38) ∧ (f 48 = 0) ∧ (∀ j : Nat, j < 10 → rd M (k + 2) j = f (39 + j)) ∧ (rd M k 7 = f 49 ∧ rd M k 8 = f 50 ∧ rd M k 9 = f 51) ∧ (rd M k 10 = f 19) ∧ (0 ≤ (f 19).toInt ∧ (f 19).toInt ≤ 8) ∧ (∀ j : Nat, (j : Int) < (f 19).toInt → rd M (k + 3) j = f (20 + 2 * j) ∧ rd M (k + 4) j = f (21 + 2 * j)) ∧ (∀ j : Nat, (j : Int) < (f 19).toInt → (0 ≤ (f (20 + 2 * j)).toInt ∧ (f (20 + 2 * j)).toInt ≤ 999) ∧ ((j : Int) + 1 < (f 19).toInt → (f (20 + 2 * j)).toInt < (f (22 + 2 * j)).toInt)) ∧ (rd M k 13 = f 52) ∧ (rd M k 14 = f 53) ∧ (0 ≤ (f 53).toInt ∧ (f 53).toInt ≤ 8) ∧ (∀ j : Nat, (j : Int) < (f 53).toInt → (rd M (k + 5) j).toInt = 2 * (f (54 + 4 * j)).toInt + (f (55 + 4 * j)).toInt ∧ rd M (k + 6) j = f (56 + 4 * j) ∧ rd M (k + 7) j = f (57 + 4 * j))
theorem PR.lc {k : Nat} {M : Mem} {f : Nat → Int32}  (h : PR k M f) : rd M k 0 = f 1 := h.1
theorem PR.lb {k : Nat} {M : Mem} {f : Nat → Int32}  (h : PR k M f) : 0 ≤ (f 1).toInt ∧ (f 1).toInt ≤ 9 := h.2.1
theorem PR.nn {k : Nat} {M : Mem} {f : Nat → Int32}  (h : PR k M f) : (f 0).toInt = if (f 1).toInt = 0 then 0 else (f 1).toInt - 1 := h.2.2.1
theorem PR.leg {k : Nat} {M : Mem} {f : Nat → Int32}  (h : PR k M f) : ∀ j : Nat, (j : Int) < (f 1).toInt → rd M (k + 1) j = f (2 + j) := h.2.2.2.1
theorem PR.ub {k : Nat} {M : Mem} {f : Nat → Int32}  (h : PR k M f) : 0 ≤ (rd M k 2).toInt ∧ (rd M k 2).toInt ≤ 255 := h.2.2.2.2.1
theorem PR.up {k : Nat} {M : Mem} {f : Nat → Int32}  (h : PR k M f) : ∀ b : Nat, (b : Int) < (f 0).toInt → (f (11 + b) = if (rd M k 2).toInt.toNat.testBit b then 1 else 0) := h.2.2.2.2.2.1
theorem PR.uz {k : Nat} {M : Mem} {f : Nat → Int32}  (h : PR k M f) : (rd M k 2).toInt.toNat < 2 ^ (f 0).toInt.toNat := h.2.2.2.2.2.2.1
theorem PR.sh {k : Nat} {M : Mem} {f : Nat → Int32}  (h : PR k M f) : rd M k 3 = f 36 ∧ rd M k 4 = f 37 ∧ rd M k 5 = f 38 := h.2.2.2.2.2.2.2.1
theorem PR.fl {k : Nat} {M : Mem} {f : Nat → Int32}  (h : PR k M f) : f 48 = 0 := h.2.2.2.2.2.2.2.2.1
theorem PR.tl {k : Nat} {M : Mem} {f : Nat → Int32}  (h : PR k M f) : ∀ j : Nat, j < 10 → rd M (k + 2) j = f (39 + j) := h.2.2.2.2.2.2.2.2.2.1
theorem PR.co {k : Nat} {M : Mem} {f : Nat → Int32}  (h : PR k M f) : rd M k 7 = f 49 ∧ rd M k 8 = f 50 ∧ rd M k 9 = f 51 := h.2.2.2.2.2.2.2.2.2.2.1
theorem PR.nb {k : Nat} {M : Mem} {f : Nat → Int32}  (h : PR k M f) : rd M k 10 = f 19 := h.2.2.2.2.2.2.2.2.2.2.2.1
theorem PR.bb {k : Nat} {M : Mem} {f : Nat → Int32}  (h : PR k M f) : 0 ≤ (f 19).toInt ∧ (f 19).toInt ≤ 8 := h.2.2.2.2.2.2.2.2.2.2.2.2.1
theorem PR.ba {k : Nat} {M : Mem} {f : Nat → Int32}  (h : PR k M f) : ∀ j : Nat, (j : Int) < (f 19).toInt → rd M (k + 3) j = f (20 + 2 * j) ∧ rd M (k + 4) j = f (21 + 2 * j) := h.2.2.2.2.2.2.2.2.2.2.2.2.2.1
theorem PR.bw {k : Nat} {M : Mem} {f : Nat → Int32}  (h : PR k M f) : ∀ j : Nat, (j : Int) < (f 19).toInt → (0 ≤ (f (20 + 2 * j)).toInt ∧ (f (20 + 2 * j)).toInt ≤ 999) ∧ ((j : Int) + 1 < (f 19).toInt → (f (20 + 2 * j)).toInt < (f (22 + 2 * j)).toInt) := h.2.2.2.2.2.2.2.2.2.2.2.2.2.2.1
theorem PR.bv {k : Nat} {M : Mem} {f : Nat → Int32}  (h : PR k M f) : ∀ j : Nat, (j : Int) < (f 19).toInt → 0 ≤ (f (20 + 2 * j)).toInt ∧ (f (20 + 2 * j)).toInt ≤ 999 := fun j hj => (h.bw j hj).1
/-- the ratios rise -/
theorem PR.bo {k : Nat} {M : Mem} {f : Nat → Int32}  (h : PR k M f) : ∀ j : Nat, (j : Int) + 1 < (f 19).toInt → (f (20 + 2 * j)).toInt < (f (22 + 2 * j)).toInt := fun j hj => (h.bw j (by omega)).2 hj
theorem PR.ma {k : Nat} {M : Mem} {f : Nat → Int32}  (h : PR k M f) : rd M k 13 = f 52 := h.2.2.2.2.2.2.2.2.2.2.2.2.2.2.2.1
theorem PR.ns {k : Nat} {M : Mem} {f : Nat → Int32}  (h : PR k M f) : rd M k 14 = f 53 := h.2.2.2.2.2.2.2.2.2.2.2.2.2.2.2.2.1
theorem PR.sb {k : Nat} {M : Mem} {f : Nat → Int32}  (h : PR k M f) : 0 ≤ (f 53).toInt ∧ (f 53).toInt ≤ 8 := h.2.2.2.2.2.2.2.2.2.2.2.2.2.2.2.2.2.1
theorem PR.st {k : Nat} {M : Mem} {f : Nat → Int32}  (h : PR k M f) : ∀ j : Nat, (j : Int) < (f 53).toInt → (rd M (k + 5) j).toInt = 2 * (f (54 + 4 * j)).toInt + (f (55 + 4 * j)).toInt ∧ rd M (k + 6) j = f (56 + 4 * j) ∧ rd M (k + 7) j = f (57 + 4 * j) := h.2.2.2.2.2.2.2.2.2.2.2.2.2.2.2.2.2.2
section PRS
variable {k : Nat} {M M' : Mem} {f g : Nat → Int32}
theorem PR.mem (h : PR k M f) (e : ∀ c j, k ≤ c → c < k + 8 → rd M' c j = rd M c j) : PR k M' f := by
  have e0 : ∀ j, rd M' k j = rd M k j := fun j => e k j (by omega) (by omega)
  refine ⟨?_, h.lb, h.nn, fun j hj => ?_, ?_, fun b hb => ?_, ?_, ?_, h.fl, fun j hj => ?_, ?_, ?_, h.bb, fun j hj => ?_, h.bw, ?_, ?_, h.sb, fun j hj => ?_⟩
  · rw [e0]; exact h.lc
  · rw [e _ _ (by omega) (by omega)]; exact h.leg j hj
  · rw [e0]; exact h.ub
  · rw [e0]; exact h.up b hb
  · rw [e0]; exact h.uz
  · rw [e0, e0, e0]; exact h.sh
  · rw [e _ _ (by omega) (by omega)]; exact h.tl j hj
  · rw [e0, e0, e0]; exact h.co
  · rw [e0]; exact h.nb
  · rw [e _ _ (by omega) (by omega), e _ _ (by omega) (by omega)]; exact h.ba j hj
  · rw [e0]; exact h.ma
  · rw [e0]; exact h.ns
  · rw [e _ _ (by omega) (by omega), e _ _ (by omega) (by omega), e _ _ (by omega) (by omega)]; exact h.st j hj
theorem PR.ks {S : Nat → Nat → Prop} (h : PR k M f) (hk : KS S M M') (hs : ∀ c j, k ≤ c → c < k + 8 → ¬ S c j) : PR k M' f := h.mem (fun c j h1 h2 => hk c j (hs c j h1 h2))
/-- the words' order of bends: how many there are -/
theorem PR.n8 (h : PR k M f) : 0 ≤ (f 0).toInt ∧ (f 0).toInt ≤ 8 := by
  have h1 := h.lb; have h2 := h.nn
  split at h2 <;> omega
theorem PR.sheet {a b c : Int32} (h : PR k M f) : PR k (wr (wr (wr M k 3 a) k 4 b) k 5 c) (upf (upf (upf f 36 a) 37 b) 38 c) := by
  have e : ∀ j, j ≠ 3 → j ≠ 4 → j ≠ 5 → rd (wr (wr (wr M k 3 a) k 4 b) k 5 c) k j = rd M k j := fun j h3 h4 h5 => by (repeat (first | rw [rd_we] | rw [rd_wk (by omega)] | rw [rd_wj (by omega)]))
  have e2 : ∀ c' j, c' ≠ k → rd (wr (wr (wr M k 3 a) k 4 b) k 5 c) c' j = rd M c' j := fun c' j h => by (repeat (first | rw [rd_we] | rw [rd_wk (by omega)] | rw [rd_wj (by omega)]))
  have g : ∀ j, j < 36 ∨ 39 ≤ j → upf (upf (upf f 36 a) 37 b) 38 c j = f j := fun j h => by (repeat (first | rw [upf_e] | rw [upf_n (by omega)]))
  refine ⟨?_, ?_, ?_, fun j hj => ?_, ?_, fun b hb => ?_, ?_, ?_, ?_, fun j hj => ?_, ?_, ?_, ?_, fun j hj => ?_, fun j hj => ?_, ?_, ?_, ?_, fun j hj => ?_⟩
  · rw [e 0 (by decide) (by decide) (by decide), g 1 (by omega)]; exact h.lc
  · rw [g 1 (by omega)]; exact h.lb
  · rw [g 1 (by omega), g 0 (by omega)]; exact h.nn
  · rw [g 1 (by omega)] at hj
    have := h.lb
    rw [e2 _ _ (by omega), g _ (by omega)]; exact h.leg j hj
  · rw [e 2 (by decide) (by decide) (by decide)]; exact h.ub
  · rw [g 0 (by omega)] at hb
    have := h.n8
    rw [e 2 (by decide) (by decide) (by decide), g _ (by omega)]; exact h.up _ hb
  · rw [e 2 (by decide) (by decide) (by decide), g 0 (by omega)]; exact h.uz
  · refine ⟨?_, ?_, ?_⟩ <;> ((repeat (first | rw [rd_we] | rw [rd_wk (by omega)] | rw [rd_wj (by omega)])); (repeat (first | rw [upf_e] | rw [upf_n (by omega)])))
  · rw [g 48 (by omega)]; exact h.fl
  · rw [e2 _ _ (by omega), g _ (by omega)]; exact h.tl j hj
  · rw [e 7 (by decide) (by decide) (by decide), e 8 (by decide) (by decide) (by decide), e 9 (by decide) (by decide) (by decide), g 49 (by omega), g 50 (by omega), g 51 (by omega)]; exact h.co
  · rw [e 10 (by decide) (by decide) (by decide), g 19 (by omega)]; exact h.nb
  · rw [g 19 (by omega)]; exact h.bb
  · rw [g 19 (by omega)] at hj
    have := h.bb
    rw [e2 _ _ (by omega), e2 _ _ (by omega), g _ (by omega), g _ (by omega)]; exact h.ba j hj
  · rw [g 19 (by omega)] at hj
    have := h.bb
    refine ⟨by rw [g _ (by omega)]; exact h.bv j hj, fun hj2 => ?_⟩
    rw [g 19 (by omega)] at hj2
    rw [g _ (by omega), g _ (by omega)]; exact h.bo j hj2
  · rw [e 13 (by decide) (by decide) (by decide), g 52 (by omega)]; exact h.ma
  · rw [e 14 (by decide) (by decide) (by decide), g 53 (by omega)]; exact h.ns
  · rw [g 53 (by omega)]; exact h.sb
  · rw [g 53 (by omega)] at hj
    rw [e2 _ _ (by omega), e2 _ _ (by omega), e2 _ _ (by omega), g _ (by omega), g _ (by omega), g _ (by omega), g _ (by omega)]; exact h.st j hj
theorem PR.costs {a b c : Int32} (h : PR k M f) : PR k (wr (wr (wr M k 7 a) k 8 b) k 9 c) (upf (upf (upf f 49 a) 50 b) 51 c) := by
  have e : ∀ j, j ≠ 7 → j ≠ 8 → j ≠ 9 → rd (wr (wr (wr M k 7 a) k 8 b) k 9 c) k j = rd M k j := fun j h3 h4 h5 => by (repeat (first | rw [rd_we] | rw [rd_wk (by omega)] | rw [rd_wj (by omega)]))
  have e2 : ∀ c' j, c' ≠ k → rd (wr (wr (wr M k 7 a) k 8 b) k 9 c) c' j = rd M c' j := fun c' j h => by (repeat (first | rw [rd_we] | rw [rd_wk (by omega)] | rw [rd_wj (by omega)]))
  have g : ∀ j, j < 49 ∨ 52 ≤ j → upf (upf (upf f 49 a) 50 b) 51 c j = f j := fun j h => by (repeat (first | rw [upf_e] | rw [upf_n (by omega)]))
  refine ⟨?_, ?_, ?_, fun j hj => ?_, ?_, fun b hb => ?_, ?_, ?_, ?_, fun j hj => ?_, ?_, ?_, ?_, fun j hj => ?_, fun j hj => ?_, ?_, ?_, ?_, fun j hj => ?_⟩
  · rw [e 0 (by decide) (by decide) (by decide), g 1 (by omega)]; exact h.lc
  · rw [g 1 (by omega)]; exact h.lb
  · rw [g 1 (by omega), g 0 (by omega)]; exact h.nn
  · rw [g 1 (by omega)] at hj
    have := h.lb
    rw [e2 _ _ (by omega), g _ (by omega)]; exact h.leg j hj
  · rw [e 2 (by decide) (by decide) (by decide)]; exact h.ub
  · rw [g 0 (by omega)] at hb
    have := h.n8
    rw [e 2 (by decide) (by decide) (by decide), g _ (by omega)]; exact h.up _ hb
  · rw [e 2 (by decide) (by decide) (by decide), g 0 (by omega)]; exact h.uz
  · rw [e 3 (by decide) (by decide) (by decide), e 4 (by decide) (by decide) (by decide), e 5 (by decide) (by decide) (by decide), g 36 (by omega), g 37 (by omega), g 38 (by omega)]; exact h.sh
  · rw [g 48 (by omega)]; exact h.fl
  · rw [e2 _ _ (by omega), g _ (by omega)]; exact h.tl j hj
  · refine ⟨?_, ?_, ?_⟩ <;> ((repeat (first | rw [rd_we] | rw [rd_wk (by omega)] | rw [rd_wj (by omega)])); (repeat (first | rw [upf_e] | rw [upf_n (by omega)])))
  · rw [e 10 (by decide) (by decide) (by decide), g 19 (by omega)]; exact h.nb
  · rw [g 19 (by omega)]; exact h.bb
  · rw [g 19 (by omega)] at hj
    have := h.bb
    rw [e2 _ _ (by omega), e2 _ _ (by omega), g _ (by omega), g _ (by omega)]; exact h.ba j hj
  · rw [g 19 (by omega)] at hj
    have := h.bb
    refine ⟨by rw [g _ (by omega)]; exact h.bv j hj, fun hj2 => ?_⟩
    rw [g 19 (by omega)] at hj2
    rw [g _ (by omega), g _ (by omega)]; exact h.bo j hj2
  · rw [e 13 (by decide) (by decide) (by decide), g 52 (by omega)]; exact h.ma
  · rw [e 14 (by decide) (by decide) (by decide), g 53 (by omega)]; exact h.ns
  · rw [g 53 (by omega)]; exact h.sb
  · rw [g 53 (by omega)] at hj
    rw [e2 _ _ (by omega), e2 _ _ (by omega), e2 _ _ (by omega), g _ (by omega), g _ (by omega), g _ (by omega), g _ (by omega)]; exact h.st j hj
theorem PR.tool {t : Nat} {a b : Int32} (h : PR k M f) (ht : t < 5) (h4 : t = 4 → b = 0) : PR k (wr (wr M (k + 2) (2 * t) a) (k + 2) (2 * t + 1) b) (upf (upf f (39 + 2 * t) a) (40 + 2 * t) b) := by
  have e2 : ∀ c' j, c' ≠ k + 2 → rd (wr (wr M (k + 2) (2 * t) a) (k + 2) (2 * t + 1) b) c' j = rd M c' j := fun c' j h => by (repeat (first | rw [rd_we] | rw [rd_wk (by omega)] | rw [rd_wj (by omega)]))
  have g : ∀ j, j < 39 ∨ 49 ≤ j → upf (upf f (39 + 2 * t) a) (40 + 2 * t) b j = f j := fun j h => by (repeat (first | rw [upf_e] | rw [upf_n (by omega)]))
  have e : ∀ j, rd (wr (wr M (k + 2) (2 * t) a) (k + 2) (2 * t + 1) b) k j = rd M k j := fun j => e2 k j (by omega)
  refine ⟨?_, ?_, ?_, fun j hj => ?_, ?_, fun b hb => ?_, ?_, ?_, ?_, fun j hj => ?_, ?_, ?_, ?_, fun j hj => ?_, fun j hj => ?_, ?_, ?_, ?_, fun j hj => ?_⟩
  · rw [e, g 1 (by omega)]; exact h.lc
  · rw [g 1 (by omega)]; exact h.lb
  · rw [g 1 (by omega), g 0 (by omega)]; exact h.nn
  · rw [g 1 (by omega)] at hj
    have := h.lb
    rw [e2 _ _ (by omega), g _ (by omega)]; exact h.leg j hj
  · rw [e]; exact h.ub
  · rw [g 0 (by omega)] at hb
    have := h.n8
    rw [e, g _ (by omega)]; exact h.up _ hb
  · rw [e, g 0 (by omega)]; exact h.uz
  · rw [e, e, e, g 36 (by omega), g 37 (by omega), g 38 (by omega)]; exact h.sh
  · by_cases q : t = 4
    · subst q
      rw [show (48 : Nat) = 40 + 2 * 4 by omega, upf_e]; exact h4 rfl
    · rw [upf_n (by omega), upf_n (by omega)]; exact h.fl
  · by_cases q1 : j = 2 * t + 1
    · subst q1
      rw [rd_we, show 39 + (2 * t + 1) = 40 + 2 * t by omega, upf_e]
    · by_cases q2 : j = 2 * t
      · subst q2
        rw [rd_wj (by omega), rd_we, upf_n (by omega), upf_e]
      · rw [rd_wj q1, rd_wj q2, upf_n (by omega), upf_n (by omega)]; exact h.tl j hj
  · rw [e, e, e, g 49 (by omega), g 50 (by omega), g 51 (by omega)]; exact h.co
  · rw [e, g 19 (by omega)]; exact h.nb
  · rw [g 19 (by omega)]; exact h.bb
  · rw [g 19 (by omega)] at hj
    have := h.bb
    rw [e2 _ _ (by omega), e2 _ _ (by omega), g _ (by omega), g _ (by omega)]; exact h.ba j hj
  · rw [g 19 (by omega)] at hj
    have := h.bb
    refine ⟨by rw [g _ (by omega)]; exact h.bv j hj, fun hj2 => ?_⟩
    rw [g 19 (by omega)] at hj2
    rw [g _ (by omega), g _ (by omega)]; exact h.bo j hj2
  · rw [e, g 52 (by omega)]; exact h.ma
  · rw [e, g 53 (by omega)]; exact h.ns
  · rw [g 53 (by omega)]; exact h.sb
  · rw [g 53 (by omega)] at hj
    rw [e2 _ _ (by omega), e2 _ _ (by omega), e2 _ _ (by omega), g _ (by omega), g _ (by omega), g _ (by omega), g _ (by omega)]; exact h.st j hj
theorem PR.back {n : Nat} {a b c : Int32} (h : PR k M f) (hn : (f 19).toInt = (n : Int)) (h8 : n < 8) (hv : 0 ≤ a.toInt ∧ a.toInt ≤ 999) (ho : ∀ i, i + 1 = n → (f (20 + 2 * i)).toInt < a.toInt) (hc : c.toInt = (n : Int) + 1) : PR k (wr (wr (wr M (k + 3) n a) (k + 4) n b) k 10 c) (upf (upf (upf f (20 + 2 * n) a) (21 + 2 * n) b) 19 c) := by
  have e : ∀ j, j ≠ 10 → rd (wr (wr (wr M (k + 3) n a) (k + 4) n b) k 10 c) k j = rd M k j := fun j h3 => by (repeat (first | rw [rd_we] | rw [rd_wk (by omega)] | rw [rd_wj (by omega)]))
  have e2 : ∀ c' j, c' ≠ k → c' ≠ k + 3 → c' ≠ k + 4 → rd (wr (wr (wr M (k + 3) n a) (k + 4) n b) k 10 c) c' j = rd M c' j := fun c' j h1 h2 h3 => by (repeat (first | rw [rd_we] | rw [rd_wk (by omega)] | rw [rd_wj (by omega)]))
  have g : ∀ j, j < 19 ∨ 36 ≤ j → upf (upf (upf f (20 + 2 * n) a) (21 + 2 * n) b) 19 c j = f j := fun j h => by (repeat (first | rw [upf_e] | rw [upf_n (by omega)]))
  refine ⟨?_, ?_, ?_, fun j hj => ?_, ?_, fun b hb => ?_, ?_, ?_, ?_, fun j hj => ?_, ?_, ?_, ?_, fun j hj => ?_, fun j hj => ?_, ?_, ?_, ?_, fun j hj => ?_⟩
  · rw [e 0 (by decide), g 1 (by omega)]; exact h.lc
  · rw [g 1 (by omega)]; exact h.lb
  · rw [g 1 (by omega), g 0 (by omega)]; exact h.nn
  · rw [g 1 (by omega)] at hj
    have := h.lb
    rw [e2 _ _ (by omega) (by omega) (by omega), g _ (by omega)]; exact h.leg j hj
  · rw [e 2 (by decide)]; exact h.ub
  · rw [g 0 (by omega)] at hb
    have := h.n8
    rw [e 2 (by decide), g _ (by omega)]; exact h.up _ hb
  · rw [e 2 (by decide), g 0 (by omega)]; exact h.uz
  · rw [e 3 (by decide), e 4 (by decide), e 5 (by decide), g 36 (by omega), g 37 (by omega), g 38 (by omega)]; exact h.sh
  · rw [g 48 (by omega)]; exact h.fl
  · rw [e2 _ _ (by omega) (by omega) (by omega), g _ (by omega)]; exact h.tl j hj
  · rw [e 7 (by decide), e 8 (by decide), e 9 (by decide), g 49 (by omega), g 50 (by omega), g 51 (by omega)]; exact h.co
  · rw [rd_we, upf_e]
  · rw [upf_e]; omega
  · rw [upf_e] at hj
    by_cases q : j = n
    · subst q
      rw [rd_wk (by omega), rd_wk (by omega), rd_we, rd_wk (by omega), rd_we, upf_n (by omega), upf_n (by omega), upf_e, upf_n (by omega), upf_e]
      exact ⟨rfl, rfl⟩
    · rw [rd_wk (by omega), rd_wk (by omega), rd_wj q, rd_wk (by omega), rd_wj q, rd_wk (by omega), upf_n (by omega), upf_n (by omega), upf_n (by omega), upf_n (by omega), upf_n (by omega), upf_n (by omega)]
      exact h.ba j (by omega)
  · rw [upf_e] at hj
    by_cases q : j = n
    · subst q
      refine ⟨by rw [upf_n (by omega), upf_n (by omega), upf_e]; exact hv, fun hj2 => ?_⟩
      rw [upf_e] at hj2; omega
    · refine ⟨by rw [upf_n (by omega), upf_n (by omega), upf_n (by omega)]; exact h.bv j (by omega), fun hj2 => ?_⟩
      rw [upf_e] at hj2
      by_cases q2 : j + 1 = n
      · rw [upf_n (by omega), upf_n (by omega), upf_n (by omega), upf_n (i := 22 + 2 * j) (by omega), upf_n (i := 22 + 2 * j) (by omega), show 22 + 2 * j = 20 + 2 * n by omega, upf_e]
        exact ho j q2
      · rw [upf_n (by omega), upf_n (by omega), upf_n (by omega), upf_n (by omega), upf_n (by omega), upf_n (by omega)]
        exact h.bo j (by omega)
  · rw [e 13 (by decide), g 52 (by omega)]; exact h.ma
  · rw [e 14 (by decide), g 53 (by omega)]; exact h.ns
  · rw [g 53 (by omega)]; exact h.sb
  · rw [g 53 (by omega)] at hj
    rw [e2 _ _ (by omega) (by omega) (by omega), e2 _ _ (by omega) (by omega) (by omega), e2 _ _ (by omega) (by omega) (by omega), g _ (by omega), g _ (by omega), g _ (by omega), g _ (by omega)]; exact h.st j hj
/-- a leg more: n of them up to now; the bits u, the numbers of bends and legs behind it -/
theorem PR.legs {n : Nat} {v u c : Int32} {g : Nat → Int32} (h : PR k M f) (hn : (f 1).toInt = (n : Int)) (h8 : n < 9) (hc : c.toInt = (n : Int) + 1) (hg : ∀ j, 19 ≤ j → g j = f j) (g1 : g 1 = c) (g0 : (g 0).toInt = (n : Int)) (hl : ∀ j, j < n → g (2 + j) = f (2 + j)) (hv : g (2 + n) = v) (hu : 0 ≤ u.toInt ∧ u.toInt ≤ 255) (hb : ∀ b, b < n → g (11 + b) = if u.toInt.toNat.testBit b then 1 else 0) (hz : u.toInt.toNat < 2 ^ n) : PR k (wr (wr (wr M (k + 1) n v) k 2 u) k 0 c) g := by
  have e : ∀ j, j ≠ 0 → j ≠ 2 → rd (wr (wr (wr M (k + 1) n v) k 2 u) k 0 c) k j = rd M k j := fun j h1 h3 => by (repeat (first | rw [rd_we] | rw [rd_wk (by omega)] | rw [rd_wj (by omega)]))
  have e2 : ∀ c' j, c' ≠ k → c' ≠ k + 1 → rd (wr (wr (wr M (k + 1) n v) k 2 u) k 0 c) c' j = rd M c' j := fun c' j h1 h2 => by (repeat (first | rw [rd_we] | rw [rd_wk (by omega)] | rw [rd_wj (by omega)]))
  have u2 : rd (wr (wr (wr M (k + 1) n v) k 2 u) k 0 c) k 2 = u := by rw [rd_wj (by decide), rd_we]
  refine ⟨?_, ?_, ?_, fun j hj => ?_, ?_, fun b hb' => ?_, ?_, ?_, ?_, fun j hj => ?_, ?_, ?_, ?_, fun j hj => ?_, fun j hj => ?_, ?_, ?_, ?_, fun j hj => ?_⟩
  · rw [rd_we, g1]
  · rw [g1]; omega
  · rw [g1, g0, hc, if_neg (by omega)]; omega
  · rw [g1] at hj
    by_cases q : j = n
    · subst q
      rw [rd_wk (by omega), rd_wk (by omega), rd_we, hv]
    · rw [rd_wk (by omega), rd_wk (by omega), rd_wj q, hl j (by omega)]
      exact h.leg j (by omega)
  · rw [u2]; exact hu
  · rw [u2]; exact hb b (by omega)
  · rw [u2, show (g 0).toInt.toNat = n by omega]; exact hz
  · rw [e 3 (by decide) (by decide), e 4 (by decide) (by decide), e 5 (by decide) (by decide), hg 36 (by omega), hg 37 (by omega), hg 38 (by omega)]; exact h.sh
  · rw [hg 48 (by omega)]; exact h.fl
  · rw [e2 _ _ (by omega) (by omega), hg _ (by omega)]; exact h.tl j hj
  · rw [e 7 (by decide) (by decide), e 8 (by decide) (by decide), e 9 (by decide) (by decide), hg 49 (by omega), hg 50 (by omega), hg 51 (by omega)]; exact h.co
  · rw [e 10 (by decide) (by decide), hg 19 (by omega)]; exact h.nb
  · rw [hg 19 (by omega)]; exact h.bb
  · rw [hg 19 (by omega)] at hj
    rw [e2 _ _ (by omega) (by omega), e2 _ _ (by omega) (by omega), hg _ (by omega), hg _ (by omega)]; exact h.ba j hj
  · rw [hg 19 (by omega)] at hj
    refine ⟨by rw [hg _ (by omega)]; exact h.bv j hj, fun hj2 => ?_⟩
    rw [hg 19 (by omega)] at hj2
    rw [hg _ (by omega), hg _ (by omega)]; exact h.bo j hj2
  · rw [e 13 (by decide) (by decide), hg 52 (by omega)]; exact h.ma
  · rw [e 14 (by decide) (by decide), hg 53 (by omega)]; exact h.ns
  · rw [hg 53 (by omega)]; exact h.sb
  · rw [hg 53 (by omega)] at hj
    rw [e2 _ _ (by omega) (by omega), e2 _ _ (by omega) (by omega), e2 _ _ (by omega) (by omega), hg _ (by omega), hg _ (by omega), hg _ (by omega), hg _ (by omega)]; exact h.st j hj
end PRS

