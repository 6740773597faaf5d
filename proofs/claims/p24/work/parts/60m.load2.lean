/-! the reference's reset, copy; the loop over statements -/
section LDT
variable {M N M0 N0 : Mem} {f : Nat → Int32} {k k' : Nat}
theorem pc_lay {j : Nat} {a b c : Int32} (hj : j + 2 < 86) : Pc (mX7_lay 135 (Int32.ofNat j) a b c N) (fun q => q.1 = wr (wr (wr N 137 j a) 137 (j + 1) b) 137 (j + 2) c) := by
  unfold mX7_lay
  have tj : (Int32.ofNat j).toInt = (j : Int) := t_of (by omega)
  have n1 : ((1 : Int32)).toInt = 1 := rfl
  have n2 : ((2 : Int32)).toInt = 2 := rfl
  have e1 := i_add (a := Int32.ofNat j) (b := 1) (by omega) (by omega)
  have e2 := i_add (a := Int32.ofNat j) (b := 2) (by omega) (by omega)
  refine Pc.k (fun _ => Pc.b (fun M3 e3 => Pc.k (fun _ => Pc.b (fun M6 e6 => Pc.k (fun _ => Pc.b (fun M9 e9 => Pc.ok ?_))))))
  rw [c_of (by omega)] at e3
  rw [i_clamp, show (Int32.ofNat j + 1).toInt.toNat = j + 1 by omega] at e6
  rw [i_clamp, show (Int32.ofNat j + 2).toInt.toNat = j + 2 by omega] at e9
  show M9 = _
  rw [e9, e6, e3]
theorem reset_p : ∀ (n i : Nat) (N : Mem), i ≤ 86 → KS (fun k _ => k = 137) N0 N → (∀ p, p < i → rd N 137 p = 0) → Pc (mX7_reset_l2 135 n (Int32.ofNat i) N) (fun q => KS (fun k _ => k = 137) N0 q.1 ∧ ∀ p, p < 86 → rd q.1 137 p = r0 p) := by
  intro n
  induction n with
  | zero => intro i N _ _ _; exact Pc.n
  | succ n IH =>
    intro i N hi hk hz
    show Pc (mX7_reset_b2 135 (mX7_reset_l2 135 n) (Int32.ofNat i) N) _
    unfold mX7_reset_b2
    have ti : (Int32.ofNat i).toInt = (i : Int) := t_of (by omega)
    refine Pc.i (fun c => ?_) (fun c => Pc.k (fun _ => Pc.b (fun M19 e19 => Pc.b (fun y ey => ?_))))
    · have c := i_le.mp c
      rw [ti, show ((86 : Int32)).toInt = 86 from rfl] at c
      refine Pc.m (pc_lay (j := 36) (by decide)) (fun M4 _ e4 => Pc.m (pc_lay (j := 39) (by decide)) (fun M7 _ e7 => Pc.m (pc_lay (j := 42) (by decide)) (fun M10 _ e10 => Pc.m (pc_lay (j := 45) (by decide)) (fun M13 _ e13 => Pc.m (pc_lay (j := 49) (by decide)) (fun M16 _ e16 => Pc.ok ?_)))))
      have e4 : M4 = wr (wr (wr N 137 36 10) 137 37 10) 137 38 40 := e4
      have e7 : M7 = wr (wr (wr M4 137 39 300) 137 40 600) 137 41 300 := e7
      have e10 : M10 = wr (wr (wr M7 137 42 600) 137 43 200) 137 44 400 := e10
      have e13 : M13 = wr (wr (wr M10 137 45 0) 137 46 9999) 137 47 0 := e13
      have e16 : M16 = wr (wr (wr M13 137 49 1) 137 50 1) 137 51 1 := e16
      refine ⟨?_, fun p hp => ?_⟩
      · show KS (fun k _ => k = 137) N0 M16
        rw [e16, e13, e10, e7, e4]
        exact (((((((((((((((hk.wr rfl).wr rfl).wr rfl).wr rfl).wr rfl).wr rfl).wr rfl).wr rfl).wr rfl).wr rfl).wr rfl).wr rfl).wr rfl).wr rfl).wr rfl)
      · show rd M16 137 p = r0 p
        have hz := hz p (by omega)
        by_cases q : 36 ≤ p ∧ p ≤ 51
        · have h16 : p = 36 ∨ p = 37 ∨ p = 38 ∨ p = 39 ∨ p = 40 ∨ p = 41 ∨ p = 42 ∨ p = 43 ∨ p = 44 ∨ p = 45 ∨ p = 46 ∨ p = 47 ∨ p = 48 ∨ p = 49 ∨ p = 50 ∨ p = 51 := by omega
          rcases h16 with rfl | rfl | rfl | rfl | rfl | rfl | rfl | rfl | rfl | rfl | rfl | rfl | rfl | rfl | rfl | rfl <;> (rw [e16, e13, e10, e7, e4]; (repeat (first | rw [rd_we] | rw [rd_wk (by omega)] | rw [rd_wj (by omega)])); first | rfl | exact hz)
        · have e : rd M16 137 p = rd N 137 p := by
            rw [e16, rd_wj (by omega), rd_wj (by omega), rd_wj (by omega), e13, rd_wj (by omega), rd_wj (by omega), rd_wj (by omega), e10, rd_wj (by omega), rd_wj (by omega), rd_wj (by omega), e7, rd_wj (by omega), rd_wj (by omega), rd_wj (by omega), e4, rd_wj (by omega), rd_wj (by omega), rd_wj (by omega)]
          rw [e, hz]
          unfold r0
          repeat rw [if_neg (by omega)]
    · have c := i_nle c
      rw [ti, show ((86 : Int32)).toInt = 86 from rfl] at c
      rw [c_of (by omega)] at e19
      have e19 : M19 = wr N 137 i 0 := e19
      have ey : y = Int32.ofNat (i + 1) := ey.trans (Int32.ofNat_add i 1).symm
      rw [ey]
      refine IH (i + 1) M19 (by omega) (by rw [e19]; exact hk.wr rfl) (fun p hp => ?_)
      rw [e19]
      by_cases e : p = i
      · subst e; exact rd_we
      · rw [rd_wj e]; exact hz p (by omega)
theorem pc_reset : Pc (mX7_reset 135 N) (fun q => KS (fun k _ => k = 137) N q.1 ∧ ∀ p, p < 86 → rd q.1 137 p = r0 p) := by
  unfold mX7_reset
  exact reset_p 5000 0 N (by omega) KS.rf (fun p hp => by omega)
theorem copy_p {a b : Nat} (hab : a ≠ b) : ∀ (n i : Nat) (N : Mem), i ≤ 86 → KS (fun k _ => k = b) N0 N → (∀ p, p < i → rd N b p = rd N0 a p) → Pc (mX7_copy_l2 a b n (Int32.ofNat i) N) (fun q => KS (fun k _ => k = b) N0 q.1 ∧ ∀ p, p < 86 → rd q.1 b p = rd N0 a p) := by
  intro n
  induction n with
  | zero => intro i N _ _ _; exact Pc.n
  | succ n IH =>
    intro i N hi hk hz
    show Pc (mX7_copy_b2 a b (mX7_copy_l2 a b n) (Int32.ofNat i) N) _
    unfold mX7_copy_b2
    have ti : (Int32.ofNat i).toInt = (i : Int) := t_of (by omega)
    refine Pc.i (fun c => Pc.ok ⟨hk, fun p hp => ?_⟩) (fun c => Pc.k (fun _ => Pc.k (fun _ => Pc.b (fun M5 e5 => Pc.b (fun y ey => ?_)))))
    · have c := i_le.mp c
      rw [ti, show ((86 : Int32)).toInt = 86 from rfl] at c
      exact hz p (by omega)
    · have c := i_nle c
      rw [ti, show ((86 : Int32)).toInt = 86 from rfl] at c
      rw [c_of (by omega)] at e5
      have ey : y = Int32.ofNat (i + 1) := ey.trans (Int32.ofNat_add i 1).symm
      rw [ey]
      refine IH (i + 1) M5 (by omega) (by rw [e5]; exact hk.wr rfl) (fun p hp => ?_)
      rw [e5]
      by_cases e : p = i
      · subst e; rw [rd_we]; exact hk a p hab
      · rw [rd_wj e]; exact hz p (by omega)
theorem pc_copy {a b : Nat} (hab : a ≠ b) : Pc (mX7_copy a b N) (fun q => KS (fun k _ => k = b) N q.1 ∧ ∀ p, p < 86 → rd q.1 b p = rd N a p) := by
  unfold mX7_copy
  exact copy_p hab 5000 0 N (by omega) KS.rf (fun p hp => by omega)
/-- a row that is the same as far as it goes -/
theorem PR.cong {g : Nat → Int32} (h : PR k M f) (e : ∀ p, p < 86 → g p = f p) : PR k M g := by
  have h1 := h.lb; have h8 := h.n8; have hb := h.bb; have hs := h.sb
  refine ⟨?_, ?_, ?_, fun j hj => ?_, h.ub, fun b hb => ?_, ?_, ?_, ?_, fun j hj => ?_, ?_, ?_, ?_, fun j hj => ?_, fun j hj => ?_, ?_, ?_, ?_, fun j hj => ?_⟩
  · rw [e 1 (by omega)]; exact h.lc
  · rw [e 1 (by omega)]; exact h.lb
  · rw [e 1 (by omega), e 0 (by omega)]; exact h.nn
  · rw [e 1 (by omega)] at hj
    rw [e _ (by omega)]; exact h.leg j hj
  · rw [e 0 (by omega)] at hb
    rw [e _ (by omega)]; exact h.up b hb
  · rw [e 0 (by omega)]; exact h.uz
  · rw [e 36 (by omega), e 37 (by omega), e 38 (by omega)]; exact h.sh
  · rw [e 48 (by omega)]; exact h.fl
  · rw [e _ (by omega)]; exact h.tl j hj
  · rw [e 49 (by omega), e 50 (by omega), e 51 (by omega)]; exact h.co
  · rw [e 19 (by omega)]; exact h.nb
  · rw [e 19 (by omega)]; exact h.bb
  · rw [e 19 (by omega)] at hj
    rw [e _ (by omega), e _ (by omega)]; exact h.ba j hj
  · rw [e 19 (by omega)] at hj
    refine ⟨by rw [e _ (by omega)]; exact h.bv j hj, fun hj2 => ?_⟩
    rw [e 19 (by omega)] at hj2
    rw [e _ (by omega), e _ (by omega)]; exact h.bo j hj2
  · rw [e 52 (by omega)]; exact h.ma
  · rw [e 53 (by omega)]; exact h.ns
  · rw [e 53 (by omega)]; exact h.sb
  · rw [e 53 (by omega)] at hj
    rw [e _ (by omega), e _ (by omega), e _ (by omega), e _ (by omega)]; exact h.st j hj
/-! a token begins behind the one before -/
theorem mono_l : ∀ (n : Nat) (N : Mem), (rd N 135 10).toInt ≤ 600 → Pc (mX7_advance_l0 135 n N) (fun q => (rd N 135 12).toInt ≤ (rd q.1 135 11).toInt) := by
  intro n
  induction n with
  | zero => intro N _; exact Pc.n
  | succ n IH =>
    intro N hl
    show Pc (mX7_advance_b0 135 (mX7_advance_l0 135 n) N) _
    unfold mX7_advance_b0 mX7_advance_b26
    have sp : ∀ (r c : Int32), ¬ c = -1 → (((rd N 135 10).toInt ≤ (rd N 135 12).toInt ∧ r = -1) ∨ ((rd N 135 12).toInt < (rd N 135 10).toInt ∧ 0 ≤ (rd N 135 12).toInt ∧ r = rd N 140 (rd N 135 12).toNatClampNeg)) → r = c → ∀ M5, M5 = wr N 135 12 (rd N 135 12 + 1) → Pc (mX7_advance_l0 135 n M5) (fun q => (rd N 135 12).toInt ≤ (rd q.1 135 11).toInt) := by
      intro r c hc p e M5 e5
      rcases p with ⟨_, q⟩ | ⟨q, q0, _⟩
      · exact absurd (e.symm.trans q) hc
      · have t := i_inc q0 (by omega)
        refine Pc.mono (IH M5 (by rw [e5, rd_wj (by decide)]; exact hl)) (fun q hq => ?_)
        rw [e5, rd_we, t] at hq; omega
    refine Pc.c pc_byteAt (fun r p => Pc.i (fun c => Pc.b (fun M5 e5 => sp r 32 (by decide) p c M5 e5)) (fun _ => Pc.c pc_byteAt (fun r2 p2 => Pc.i (fun c => Pc.b (fun M5 e5 => sp r2 10 (by decide) p2 c M5 e5)) (fun _ => Pc.b (fun M11 e11 => ?_)))))
    have fin : ∀ q : Mem × Int32, KS S11 M11 q.1 → (rd N 135 12).toInt ≤ (rd q.1 135 11).toInt := fun q hq => by
      rw [hq 135 11 (by decide), e11, rd_we]; omega
    refine Pc.c (Pc.self _) (fun r14 _ => Pc.i (fun _ => Pc.b (fun _ e => Pc.ok (fin _ (by rw [e]; exact KS.rf.wr (by decide))))) (fun _ => Pc.c (Pc.self _) (fun _ _ => Pc.i (fun _ => Pc.c (Pc.self _) (fun _ _ => Pc.i (fun _ => Pc.b (fun M25 e25 => Pc.i (fun _ => Pc.b (fun _ e => Pc.ok (fin _ (by rw [e, e25]; exact (KS.rf.wr (by decide)).wr (by decide))))) (fun _ => Pc.b (fun _ e => Pc.ok (fin _ (by rw [e, e25]; exact (KS.rf.wr (by decide)).wr (by decide))))))) (fun _ => Pc.b (fun M32 e32 => Pc.mono (g_l141 (M0 := M11) 5000 M32 (by rw [e32]; exact KS.rf.wr (by decide))).pc fin)))) (fun _ => Pc.mono (g_l76 (M0 := M11) 5000 M11 KS.rf).pc fin))))
theorem adv_mono (hl : (rd N 135 10).toInt ≤ 600) : Pc (mX7_advance 135 N) (fun q => (rd N 135 12).toInt ≤ (rd q.1 135 11).toInt) := by
  unfold mX7_advance
  exact mono_l 5000 N hl
end LDT
