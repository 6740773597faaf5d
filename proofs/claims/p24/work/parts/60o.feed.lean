/-! the bytes that are fed -/
section FD
variable {M N : Mem}
theorem bv_low (b : BitVec 32) (s : Nat) (hs : s ≤ 24) : (b.sshiftRight s).setWidth 8 = (b >>> s).setWidth 8 := by
  apply BitVec.eq_of_getLsbD_eq
  intro i hi
  rw [BitVec.getLsbD_setWidth, BitVec.getLsbD_setWidth, BitVec.getLsbD_sshiftRight, BitVec.getLsbD_ushiftRight]
  have h1 : decide (i < 8) = true := decide_eq_true hi
  have h2 : ¬ (32 ≤ i) := by omega
  have h3 : s + i < 32 := by omega
  simp [h1, h2, h3]
theorem br_of {x y : Int32} {c : BitVec 8} (hx : x.toInt = c.toInt) (hy : y.toInt = (c.toNat : Int)) : BR x y := by
  have h := BitVec.toInt_eq_toNat_cond c
  have hc := c.isLt
  by_cases q : 2 * c.toNat < 2 ^ 8
  · rw [if_pos q] at h
    exact Or.inl ⟨i_eq.mpr (by omega), by omega, by omega⟩
  · rw [if_neg q] at h
    exact Or.inr ⟨by omega, by omega⟩
theorem cl_byte {z : Int32} {d : BitVec 32} (h : z.toBitVec = d) : (vp_nar .byte (z.toInt8.toInt32)).toInt = (d.setWidth 8).toInt := by
  have e : vp_nar .byte (z.toInt8.toInt32) = (z.toInt8.toInt32).toInt8.toInt32 := rfl
  rw [e, Int8.toInt8_toInt32, Int8.toInt_toInt32]
  have e2 : z.toInt8.toBitVec = z.toBitVec.setWidth 8 := (show z.toInt8.toBitVec = z.toBitVec.signExtend 8 from rfl).trans (BitVec.signExtend_eq_setWidth_of_le _ (by decide))
  rw [← h, ← e2]
  rfl
theorem rf_byte {z : Int32} {d : BitVec 32} (h : z.toBitVec = d &&& 255#32) : z.toInt = ((d.setWidth 8).toNat : Int) := by
  have e : (d &&& 255#32).toNat = d.toNat % 256 := by
    rw [BitVec.toNat_and]
    show d.toNat &&& 255 = _
    exact Nat.and_two_pow_sub_one_eq_mod d.toNat 8
  have h1 : z.toBitVec.toNat = d.toNat % 256 := by rw [h, e]
  rw [i_lo (by rw [h1]; omega), h1, BitVec.toNat_setWidth]
theorem br_byte {x s : Int32} (hs : s = 24 ∨ s = 16 ∨ s = 8 ∨ s = 0) : BR (vp_nar .byte ((x >>> (s &&& 31)).toInt8.toInt32)) (((x).toUInt32 >>> ((s).toUInt32 &&& Int32.toUInt32 31)).toInt32 &&& (255 : Int32)) := by
  rcases hs with rfl | rfl | rfl | rfl
  · have h1 : (x >>> ((24 : Int32) &&& 31)).toBitVec = x.toBitVec.sshiftRight 24 := rfl
    have h2 : ((((x).toUInt32 >>> ((24 : Int32).toUInt32 &&& Int32.toUInt32 31)).toInt32 &&& (255 : Int32))).toBitVec = (x.toBitVec >>> 24) &&& 255#32 := rfl
    exact br_of ((cl_byte h1).trans (by rw [bv_low _ 24 (by decide)])) (rf_byte h2)
  · have h1 : (x >>> ((16 : Int32) &&& 31)).toBitVec = x.toBitVec.sshiftRight 16 := rfl
    have h2 : ((((x).toUInt32 >>> ((16 : Int32).toUInt32 &&& Int32.toUInt32 31)).toInt32 &&& (255 : Int32))).toBitVec = (x.toBitVec >>> 16) &&& 255#32 := rfl
    exact br_of ((cl_byte h1).trans (by rw [bv_low _ 16 (by decide)])) (rf_byte h2)
  · have h1 : (x >>> ((8 : Int32) &&& 31)).toBitVec = x.toBitVec.sshiftRight 8 := rfl
    have h2 : ((((x).toUInt32 >>> ((8 : Int32).toUInt32 &&& Int32.toUInt32 31)).toInt32 &&& (255 : Int32))).toBitVec = (x.toBitVec >>> 8) &&& 255#32 := rfl
    exact br_of ((cl_byte h1).trans (by rw [bv_low _ 8 (by decide)])) (rf_byte h2)
  · have h1 : (x >>> ((0 : Int32) &&& 31)).toBitVec = x.toBitVec.sshiftRight 0 := rfl
    have h2 : ((((x).toUInt32 >>> ((0 : Int32).toUInt32 &&& Int32.toUInt32 31)).toInt32 &&& (255 : Int32))).toBitVec = (x.toBitVec >>> 0) &&& 255#32 := rfl
    exact br_of ((cl_byte h1).trans (by rw [bv_low _ 0 (by decide)])) (rf_byte h2)
/-- the buffers are alike -/
def BF (M N : Mem)  : Prop := (BB M N) ∧ (rd M 0 1 = rd N 135 7) ∧ (0 ≤ (rd N 135 7).toInt)
theorem BF.bb {M N : Mem}  (h : BF M N) : BB M N := h.1
theorem BF.bn {M N : Mem}  (h : BF M N) : rd M 0 1 = rd N 135 7 := h.2.1
theorem BF.b0 {M N : Mem}  (h : BF M N) : 0 ≤ (rd N 135 7).toInt := h.2.2
abbrev SFc (k j : Nat) : Prop := k = 1 ∨ (k = 0 ∧ j = 1)
abbrev SFr (k j : Nat) : Prop := k = 140 ∨ (k = 135 ∧ (j = 5 ∨ j = 7))
theorem app_l {x1 : Int32} : ∀ (n m : Nat) (x2 : Int32) (M N : Mem), BF M N → (x2 = 24 ∨ x2 = 16 ∨ x2 = 8 ∨ x2 = 0 ∨ x2 = -8) → R2 (mX6_append_l3 0 n x1 x2 M) (mX7_append_l3 135 m x1 x2 N) (fun a b => BF a.1 b.1 ∧ KS SFc M a.1 ∧ KS SFr N b.1) := by
  intro n
  induction n with
  | zero => intro m x2 M N _ _; exact R2.nl
  | succ n IH =>
    intro m x2 M N h hx
    cases m with
    | zero => exact R2.nr
    | succ m =>
      show R2 (mX6_append_b3 0 (mX6_append_l3 0 n) x1 x2 M) (mX7_append_b3 135 (mX7_append_l3 135 m) x1 x2 N) _
      unfold mX6_append_b3 mX7_append_b3 mX6_append_b40
      rw [h.bn]
      refine R2.il (fun c => R2.ir (fun _ => R2.ok ⟨h, KS.rf, KS.rf⟩) (fun q => absurd c q)) (fun c => R2.ir (fun q => absurd q c) (fun _ => R2.kr (fun ok => ?_)))
      have o := okb_in ok
      have o1 : (rd N 135 7).toInt < 600 := by
        have : ¬ ¬ (rd N 135 7).toNatClampNeg < 600 := fun q => o (Or.inr (by omega))
        rw [i_clamp] at this
        have := h.b0; omega
      refine R2.il (fun c6 => ?_) (fun _ => R2.kl (fun _ => R2.bl (fun M6 e6 => R2.bl (fun M7 e7 => R2.br (fun N4 e4 => R2.br (fun N5 e5 => R2.bl (fun y ey => R2.br (fun y' ey' => ?_))))))))
      · have c6 := i_le.mp c6
        rw [show ((600 : Int32)).toInt = 600 from rfl] at c6
        exfalso; omega
      · have e4 : N4 = wr N 140 (rd N 135 7).toNatClampNeg (((x1).toUInt32 >>> ((x2).toUInt32 &&& Int32.toUInt32 31)).toInt32 &&& (255 : Int32)) := e4
        have f6 : rd M6 0 1 = rd N 135 7 := by rw [e6, rd_wk (by decide)]; exact h.bn
        have f4 : rd N4 135 7 = rd N 135 7 := by rw [e4, rd_wk (by decide)]
        rw [f6] at e7
        rw [f4] at e5
        have t := i_inc h.b0 o1
        have eyy : y = y' := by rw [ey, ey']
        rw [← eyy]
        have hs : x2 = 24 ∨ x2 = 16 ∨ x2 = 8 ∨ x2 = 0 := by
          rcases hx with q | q | q | q | q
          · exact Or.inl q
          · exact Or.inr (Or.inl q)
          · exact Or.inr (Or.inr (Or.inl q))
          · exact Or.inr (Or.inr (Or.inr q))
          · rw [q] at c; exact absurd (by decide) c
        have hy : y = 24 ∨ y = 16 ∨ y = 8 ∨ y = 0 ∨ y = -8 := by
          rw [ey]
          rcases hs with q | q | q | q <;> rw [q] <;> decide
        have nbuf : rd N5 135 7 = rd N 135 7 + 1 := by rw [e5, rd_we]
        have h7 : BF M7 N5 := by
          refine ⟨fun i hi => ?_, ?_, ?_⟩
          · rw [nbuf, t] at hi
            have r1 : rd M7 1 i = rd M6 1 i := by rw [e7, rd_wk (by decide)]
            have r5 : rd N5 140 i = rd N4 140 i := by rw [e5, rd_wk (by decide)]
            rw [r1, r5, e6, e4]
            have hc : (rd N 135 7).toNatClampNeg = (rd N 135 7).toInt.toNat := i_clamp
            by_cases q : i = (rd N 135 7).toNatClampNeg
            · rw [q, rd_we, rd_we]; exact br_byte hs
            · rw [rd_wj q, rd_wj q]; exact h.bb i (by omega)
          · rw [e7, rd_we, nbuf]
          · rw [nbuf, t]; have := h.b0; omega
        refine R2.mono (IH m y M7 N5 h7 hy) (fun a b p => ⟨p.1, KS.trans ?_ p.2.1, KS.trans ?_ p.2.2⟩)
        · rw [e7, e6]; exact (KS.rf.wr (Or.inl rfl)).wr (by decide)
        · rw [e5, e4]; exact (KS.rf.wr (Or.inl rfl)).wr (by decide)
theorem app_R {x : Int32} (h : BF M N) : R2 (mX6_append 0 x M) (mX7_append 135 x N) (fun a b => BF a.1 b.1 ∧ KS SFc M a.1 ∧ KS SFr N b.1) := by
  unfold mX6_append mX7_append
  exact app_l 5000 5000 24 M N h (Or.inl rfl)
theorem feed_R {a b c d e : Int32} (h : BF M N) : R2 (mX6_feed 0 a b c d e M) (mX7_feed 135 a b c d e N) (fun p q => BF p.1 q.1 ∧ KS SFc M p.1 ∧ KS SFr N q.1 ∧ p.2 = q.2) := by
  unfold mX6_feed mX7_feed
  refine R2.br (fun N1 e1 => ?_)
  have h1 : BF M N1 := by
    refine ⟨fun i hi => ?_, ?_, ?_⟩
    · rw [e1, rd_wk (by decide)]; rw [e1, rd_wj (by decide)] at hi; exact h.bb i hi
    · rw [e1, rd_wj (by decide)]; exact h.bn
    · rw [e1, rd_wj (by decide)]; exact h.b0
  have k1 : KS SFr N N1 := by rw [e1]; exact KS.rf.wr (by decide)
  rw [h1.bn]
  refine R2.il (fun c1 => R2.ir (fun _ => ?_) (fun q => absurd c1 q)) (fun c1 => R2.ir (fun q => absurd q c1) (fun _ => R2.ok ⟨h1, KS.rf, k1, rfl⟩))
  refine R2.mm (app_R h1) (fun M4 _ N6 _ p1 => ?_)
  refine R2.mm (app_R p1.1) (fun M7 _ N9 _ p2 => ?_)
  refine R2.mm (app_R p2.1) (fun M10 _ N12 _ p3 => ?_)
  refine R2.mm (app_R p3.1) (fun M13 _ N15 _ p4 => ?_)
  refine R2.mm (app_R p4.1) (fun M16 _ N18 _ p5 => R2.ok ⟨p5.1, ?_, ?_, p5.1.bn⟩)
  · exact (((p1.2.1.trans p2.2.1).trans p3.2.1).trans p4.2.1).trans p5.2.1
  · exact k1.trans ((((p1.2.2.trans p2.2.2).trans p3.2.2).trans p4.2.2).trans p5.2.2)
end FD
