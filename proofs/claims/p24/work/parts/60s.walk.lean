/-! legs laid alike: the class's places, the reference's arrays -/
/-- a leg laid by both -/
def LG (k : Nat) (M N : Mem) (l : Nat) : Prop := rd M (k + 1) l = rd N 143 l ∧ rd M (k + 2) l = rd N 144 l ∧ rd M (k + 3) l = imin (rd N 141 l) (rd N 143 l) ∧ rd M (k + 4) l = imax (rd N 141 l) (rd N 143 l) ∧ rd M (k + 5) l = imin (rd N 142 l) (rd N 144 l) ∧ rd M (k + 6) l = imax (rd N 142 l) (rd N 144 l)
/-- what the class lays, what the reference lays -/
def SPl (k : Nat) (c _ : Nat) : Prop := k + 1 ≤ c ∧ c ≤ k + 6
def SRl (c j : Nat) : Prop := (141 ≤ c ∧ c ≤ 144) ∨ (c = 135 ∧ (j = 21 ∨ j = 22))
theorem f_has0 : ∀ a, a < 256 → ∀ k, k < 9 → ((((Int32.ofNat a >>> (Int32.ofNat k &&& 31)) &&& (1 : Int32)) = 0) ↔ a.testBit k = false) := by decide +kernel
theorem f_hasx : ∀ a, a < 256 → ∀ k, k < 8 → (((((Int32.ofNat a ^^^ (-1 : Int32)) >>> (Int32.ofNat k &&& 31)) &&& (1 : Int32)) = 0) ↔ a.testBit k = true) := by decide +kernel
theorem f_turn : ∀ d, d < 4 → ∀ t, t < 4 → ((Int32.ofNat d + Int32.ofNat t) &&& (3 : Int32)) = Int32.ofNat ((d + t) % 4) ∧ ((Int32.ofNat d + Int32.ofNat t) - (Int32.ofNat d + Int32.ofNat t) / (4 : Int32) * (4 : Int32)) = Int32.ofNat ((d + t) % 4) := by decide +kernel
section WK
variable {M N M0 N0 : Mem} {f : Nat → Int32} {k k1 : Nat}
theorem m1_mul (x : Int32) : (-1 : Int32) * x = -x := by
  have : (-1 : Int32) = -(1 : Int32) := rfl
  rw [this, Int32.neg_mul, Int32.one_mul]
theorem pc_across {d : Int32} : Pc (mX7_acrossOf d N) (fun r => (d = 1 ∧ r = 1) ∨ (¬ d = 1 ∧ d = 3 ∧ r = -1) ∨ (¬ d = 1 ∧ ¬ d = 3 ∧ r = 0)) := by
  unfold mX7_acrossOf
  exact Pc.i (fun c => Pc.ok (Or.inl ⟨c, rfl⟩)) (fun c => Pc.i (fun c2 => Pc.ok (Or.inr (Or.inl ⟨c, c2, rfl⟩))) (fun c2 => Pc.ok (Or.inr (Or.inr ⟨c, c2, rfl⟩))))
theorem pc_upOf {d : Int32} : Pc (mX7_upOf d N) (fun r => (d = 0 ∧ r = 1) ∨ (¬ d = 0 ∧ d = 2 ∧ r = -1) ∨ (¬ d = 0 ∧ ¬ d = 2 ∧ r = 0)) := by
  unfold mX7_upOf
  exact Pc.i (fun c => Pc.ok (Or.inl ⟨c, rfl⟩)) (fun c => Pc.i (fun c2 => Pc.ok (Or.inr (Or.inl ⟨c, c2, rfl⟩))) (fun c2 => Pc.ok (Or.inr (Or.inr ⟨c, c2, rfl⟩))))
/-- how far a leg goes across, up -/
def goX (d v : Int32) : Int32 := if d = 1 then v else if d = 3 then -v else 0
def goY (d v : Int32) : Int32 := if d = 0 then v else if d = 2 then -v else 0
theorem pc_layLeg {l : Nat} {d : Int32} (hl : l < 9) : Pc (mX7_layLeg 135 (Int32.ofNat l) d N) (fun q => KS SRl N q.1 ∧ (∀ j, j ≠ l → rd q.1 141 j = rd N 141 j ∧ rd q.1 142 j = rd N 142 j ∧ rd q.1 143 j = rd N 143 j ∧ rd q.1 144 j = rd N 144 j) ∧ rd q.1 141 l = rd N 135 21 ∧ rd q.1 142 l = rd N 135 22 ∧ rd q.1 143 l = rd N 135 21 + goX d (rd N 136 (2 + l)) ∧ rd q.1 144 l = rd N 135 22 + goY d (rd N 136 (2 + l)) ∧ rd q.1 135 21 = rd N 135 21 + goX d (rd N 136 (2 + l)) ∧ rd q.1 135 22 = rd N 135 22 + goY d (rd N 136 (2 + l))) := by
  unfold mX7_layLeg
  have tl : (Int32.ofNat l).toInt = (l : Int) := t_of (by omega)
  have n2 : ((2 : Int32)).toInt = 2 := rfl
  have ea := i_add (a := (2 : Int32)) (b := Int32.ofNat l) (by omega) (by omega)
  have cl := c_of (a := l) (by omega)
  have c2 : ((2 : Int32) + Int32.ofNat l).toNatClampNeg = 2 + l := by rw [i_clamp]; omega
  rw [cl, c2]
  refine Pc.k (fun _ => Pc.b (fun M3 e3 => Pc.k (fun _ => Pc.b (fun M6 e6 => Pc.c pc_across (fun r8 p8 => Pc.k (fun _ => Pc.b (fun M11 e11 => Pc.c pc_upOf (fun r14 p14 => Pc.k (fun _ => Pc.b (fun M17 e17 => Pc.k (fun _ => Pc.b (fun M21 e21 => Pc.k (fun _ => Pc.b (fun M24 e24 => Pc.ok ?_))))))))))))))
  have e3 : M3 = wr N 141 l (rd N 135 21) := e3
  have e6 : M6 = wr M3 142 l (rd M3 135 22) := e6
  have e11 : M11 = wr M6 135 21 (rd M6 135 21 + r8 * rd M6 136 (2 + l)) := e11
  have e17 : M17 = wr M11 135 22 (rd M11 135 22 + r14 * rd M11 136 (2 + l)) := e17
  have e21 : M21 = wr M17 143 l (rd M17 135 21) := e21
  have e24 : M24 = wr M21 144 l (rd M21 135 22) := e24
  have x6 : rd M6 135 21 = rd N 135 21 := by rw [e6, rd_wk (by decide), e3, rd_wk (by decide)]
  have l6 : rd M6 136 (2 + l) = rd N 136 (2 + l) := by rw [e6, rd_wk (by decide), e3, rd_wk (by decide)]
  have y3 : rd M3 135 22 = rd N 135 22 := by rw [e3, rd_wk (by decide)]
  have gx : r8 * rd N 136 (2 + l) = goX d (rd N 136 (2 + l)) := by
    unfold goX
    rcases p8 with ⟨c, e⟩ | ⟨c1, c, e⟩ | ⟨c1, c, e⟩
    · rw [if_pos c, e, Int32.one_mul]
    · rw [if_neg c1, if_pos c, e, m1_mul]
    · rw [if_neg c1, if_neg c, e, Int32.zero_mul]
  have gy : r14 * rd N 136 (2 + l) = goY d (rd N 136 (2 + l)) := by
    unfold goY
    rcases p14 with ⟨c, e⟩ | ⟨c1, c, e⟩ | ⟨c1, c, e⟩
    · rw [if_pos c, e, Int32.one_mul]
    · rw [if_neg c1, if_pos c, e, m1_mul]
    · rw [if_neg c1, if_neg c, e, Int32.zero_mul]
  rw [x6, l6, gx] at e11
  have y11 : rd M11 135 22 = rd N 135 22 := by rw [e11, rd_wj (by decide), e6, rd_wk (by decide)]; exact y3
  have l11 : rd M11 136 (2 + l) = rd N 136 (2 + l) := by rw [e11, rd_wk (by decide)]; exact l6
  rw [y11, l11, gy] at e17
  rw [y3] at e6
  have x17 : rd M17 135 21 = rd N 135 21 + goX d (rd N 136 (2 + l)) := by rw [e17, rd_wj (by decide), e11, rd_we]
  have y17 : rd M17 135 22 = rd N 135 22 + goY d (rd N 136 (2 + l)) := by rw [e17, rd_we]
  rw [x17] at e21
  have y21 : rd M21 135 22 = rd N 135 22 + goY d (rd N 136 (2 + l)) := by rw [e21, rd_wk (by decide)]; exact y17
  rw [y21] at e24
  refine ⟨?_, fun j hj => ⟨?_, ?_, ?_, ?_⟩, ?_, ?_, ?_, ?_, ?_, ?_⟩
  · show KS SRl N M24
    rw [e24, e21, e17, e11, e6, e3]
    exact (((((KS.rf.wr (Or.inl (by decide))).wr (Or.inl (by decide))).wr (Or.inr (by decide))).wr (Or.inr (by decide))).wr (Or.inl (by decide))).wr (Or.inl (by decide))
  · show rd M24 141 j = _
    rw [e24, rd_wk (by decide), e21, rd_wk (by decide), e17, rd_wk (by decide), e11, rd_wk (by decide), e6, rd_wk (by decide), e3, rd_wj hj]
  · show rd M24 142 j = _
    rw [e24, rd_wk (by decide), e21, rd_wk (by decide), e17, rd_wk (by decide), e11, rd_wk (by decide), e6, rd_wj hj, e3, rd_wk (by decide)]
  · show rd M24 143 j = _
    rw [e24, rd_wk (by decide), e21, rd_wj hj, e17, rd_wk (by decide), e11, rd_wk (by decide), e6, rd_wk (by decide), e3, rd_wk (by decide)]
  · show rd M24 144 j = _
    rw [e24, rd_wj hj, e21, rd_wk (by decide), e17, rd_wk (by decide), e11, rd_wk (by decide), e6, rd_wk (by decide), e3, rd_wk (by decide)]
  · show rd M24 141 l = _
    rw [e24, rd_wk (by decide), e21, rd_wk (by decide), e17, rd_wk (by decide), e11, rd_wk (by decide), e6, rd_wk (by decide), e3, rd_we]
  · show rd M24 142 l = _
    rw [e24, rd_wk (by decide), e21, rd_wk (by decide), e17, rd_wk (by decide), e11, rd_wk (by decide), e6, rd_we]
  · show rd M24 143 l = _
    rw [e24, rd_wk (by decide), e21, rd_we]
  · show rd M24 144 l = _
    rw [e24, rd_we]
  · show rd M24 135 21 = _
    rw [e24, rd_wk (by decide), e21, rd_wk (by decide)]; exact x17
  · show rd M24 135 22 = _
    rw [e24, rd_wk (by decide), e21, rd_wk (by decide)]; exact y17
end WK
