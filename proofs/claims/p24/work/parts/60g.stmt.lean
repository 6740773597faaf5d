/-! a statement, read by both -/
section ST
variable {M N M0 N0 : Mem}
theorem o_l76 : ∀ (n : Nat) (M : Mem), Pc (mX7_advance_l76 135 n M) (fun q => q.2 = 1) := by
  intro n
  induction n with
  | zero => intro M; exact Pc.n
  | succ n IH =>
    intro M
    show Pc (mX7_advance_b76 135 (mX7_advance_l76 135 n) M) _
    unfold mX7_advance_b76 mX7_advance_b123
    exact Pc.c (Pc.self _) (fun _ _ => Pc.c (Pc.self _) (fun _ _ => Pc.i (fun _ => Pc.i (fun _ => Pc.b (fun _ _ => Pc.ok rfl)) (fun _ => Pc.b (fun _ _ => Pc.ok rfl))) (fun _ => Pc.b (fun _ _ => IH _))))
theorem o_l141 : ∀ (n : Nat) (M : Mem), Pc (mX7_advance_l141 135 n M) (fun q => q.2 = 1) := by
  intro n
  induction n with
  | zero => intro M; exact Pc.n
  | succ n IH =>
    intro M
    show Pc (mX7_advance_b141 135 (mX7_advance_l141 135 n) M) _
    unfold mX7_advance_b141 mX7_advance_b195 mX7_advance_b230
    exact Pc.c (Pc.self _) (fun _ _ => Pc.c (Pc.self _) (fun _ _ => Pc.i (fun _ => Pc.i (fun _ => Pc.b (fun _ _ => Pc.ok rfl)) (fun _ => Pc.b (fun _ _ => Pc.ok rfl))) (fun _ => Pc.i (fun _ => Pc.b (fun _ _ => Pc.b (fun _ _ => IH _))) (fun _ => Pc.c (Pc.self _) (fun _ _ => Pc.b (fun _ _ => Pc.b (fun _ _ => IH _)))))))
theorem o_l0 : ∀ (n : Nat) (M : Mem), Pc (mX7_advance_l0 135 n M) (fun q => q.2 = 1) := by
  intro n
  induction n with
  | zero => intro M; exact Pc.n
  | succ n IH =>
    intro M
    show Pc (mX7_advance_b0 135 (mX7_advance_l0 135 n) M) _
    unfold mX7_advance_b0 mX7_advance_b26
    exact Pc.c (Pc.self _) (fun _ _ => Pc.i (fun _ => Pc.b (fun _ _ => IH _)) (fun _ => Pc.c (Pc.self _) (fun _ _ => Pc.i (fun _ => Pc.b (fun _ _ => IH _)) (fun _ => Pc.b (fun _ _ => Pc.c (Pc.self _) (fun _ _ => Pc.i (fun _ => Pc.b (fun _ _ => Pc.ok rfl)) (fun _ => Pc.c (Pc.self _) (fun _ _ => Pc.i (fun _ => Pc.c (Pc.self _) (fun _ _ => Pc.i (fun _ => Pc.b (fun _ _ => Pc.i (fun _ => Pc.b (fun _ _ => Pc.ok rfl)) (fun _ => Pc.b (fun _ _ => Pc.ok rfl)))) (fun _ => Pc.b (fun _ _ => o_l141 _ _)))) (fun _ => o_l76 _ _)))))))))
theorem o_adv : Pc (mX7_advance 135 N) (fun q => q.2 = 1) := by
  unfold mX7_advance
  exact o_l0 _ _
/-- both are about to read a token -/
def NX (M N : Mem)  : Prop := (RT M N) ∧ (rd M 2 5 = rd N 135 12) ∧ (0 ≤ (rd N 135 12).toInt) ∧ ((rd N 135 12).toInt ≤ (rd N 135 10).toInt)
theorem NX.rt {M N : Mem}  (h : NX M N) : RT M N := h.1
theorem NX.nx {M N : Mem}  (h : NX M N) : rd M 2 5 = rd N 135 12 := h.2.1
theorem NX.b0 {M N : Mem}  (h : NX M N) : 0 ≤ (rd N 135 12).toInt := h.2.2.1
theorem NX.b2 {M N : Mem}  (h : NX M N) : (rd N 135 12).toInt ≤ (rd N 135 10).toInt := h.2.2.2
theorem TT.n (h : TT M N) : NX M N := ⟨h.rt, h.nx, by have := h.b0; have := h.b1; omega, h.b2⟩
/-- within a statement: the class's part is that of f -/
def BX (f : Nat → Int32) (M N : Mem)  : Prop := (NX M N) ∧ (PR 13 M f) ∧ (rd M 2 0 = 0) ∧ (rd N 135 15 = 0) ∧ (rd M 2 1 = rd N 135 16)
theorem BX.nx {f : Nat → Int32} {M N : Mem}  (h : BX f M N) : NX M N := h.1
theorem BX.pr {f : Nat → Int32} {M N : Mem}  (h : BX f M N) : PR 13 M f := h.2.1
theorem BX.k0 {f : Nat → Int32} {M N : Mem}  (h : BX f M N) : rd M 2 0 = 0 := h.2.2.1
theorem BX.n0 {f : Nat → Int32} {M N : Mem}  (h : BX f M N) : rd N 135 15 = 0 := h.2.2.2.1
theorem BX.pp {f : Nat → Int32} {M N : Mem}  (h : BX f M N) : rd M 2 1 = rd N 135 16 := h.2.2.2.2
variable {f : Nat → Int32} {α β : Type} {R : α → β → Prop}
theorem adv2 {k : Mem → Unit → Option α} {k' : Mem → Int32 → Option β} (h : BX f M N) (hk : ∀ M' N', TT M' N' → BX f M' N' → KS SC M M' → KS SN N N' → R2 (k M' ()) (k' N' 1) R) : R2 (cal (mX4_nextToken 2 M) k) (cal (mX7_advance 135 N) k') R := by
  refine R2.mm (((tk_next h.nx.rt h.nx.nx h.nx.b0 h.nx.b2).lP fr_next.pc).rP (Pc.and fr_adv.pc o_adv)) (fun M' r N' q p => ?_)
  obtain ⟨⟨t, kM⟩, kN, e⟩ := p
  have e : q = 1 := e
  subst e
  refine hk M' N' t ⟨t.n, h.pr.ks kM (fun c j h1 h2 q => ?_), ?_, ?_, ?_⟩ kM kN
  · have q1 := q.1; omega
  · rw [kM 2 0 (by decide)]; exact h.k0
  · rw [kN 135 15 (by decide)]; exact h.n0
  · rw [kM 2 1 (by decide), kN 135 16 (by decide)]; exact h.pp
/-- what a statement, its semicolon included, gives -/
def SRel (a : Mem × Unit) (b : Mem × Int32) : Prop := (¬ b.2 = 0 ∧ BX (row 137 b.1) a.1 b.1) ∨ (b.2 = 0 ∧ ¬ rd a.1 2 0 = 0 ∧ rd a.1 2 0 = rd b.1 135 15 ∧ rd a.1 2 1 = rd b.1 135 16)
def closT (N : Mem) : Option (Mem × Int32) := ite2 (rd N 135 13 = (4 : Int32)) (some (N, (1 : Int32))) (cal (mX7_fail 135 (2 : Int32) N) (fun M8 r7 => chk (isB r7) (some (M8, r7))))
def KK (N : Mem) (r : Int32) : Option (Mem × Int32) := ite2 (r = 0) (some (N, (0 : Int32))) (closT N)
theorem pc_fail {x : Int32} : Pc (mX7_fail 135 x N) (fun q => q.2 = 0 ∧ rd q.1 135 15 = (if rd N 135 13 = 1 then 1 else x) ∧ rd q.1 135 16 = rd N 135 11) := by
  have b14 : ∀ y : Int32, Pc (mX7_fail_b14 135 y N) (fun q => q.2 = 0 ∧ rd q.1 135 15 = y ∧ rd q.1 135 16 = rd N 135 11) := by
    intro y
    unfold mX7_fail_b14
    refine Pc.b (fun M2 e2 => Pc.b (fun M4 e4 => Pc.ok ⟨rfl, ?_, ?_⟩))
    · show rd M4 135 15 = y
      rw [e4, rd_wj (by decide), e2, rd_we]
    · show rd M4 135 16 = _
      rw [e4, rd_we, e2, rd_wj (by decide)]
  unfold mX7_fail
  refine Pc.i (fun c => ?_) (fun c => ?_)
  · rw [if_pos c]; exact b14 _
  · rw [if_neg c]; exact b14 _
theorem tail_err {w : Nat} {e : Int32} (he : ¬ e = 0) : ∀ (n : Nat) (x4 : Int32) (M : Mem), Pc (mX4_readStatement_l55v1 2 13 w n e x4 M) (fun a => rd a.1 2 0 = e ∧ rd a.1 2 1 = rd M 2 4) := by
  intro n
  induction n with
  | zero => intro x4 M; exact Pc.n
  | succ n IH =>
    intro x4 M
    show Pc (mX4_readStatement_b55v1 2 13 w (mX4_readStatement_l55v1 2 13 w n) e x4 M) _
    unfold mX4_readStatement_b55v1 mX4_readStatement_b110v1 mX4_readStatement_b131v1 mX4_readStatement_b148
    refine Pc.i (fun _ => Pc.i (fun q => absurd q he) (fun _ => Pc.i (fun q => absurd q he) (fun _ => Pc.b (fun M8 e8 => Pc.b (fun M10 e10 => Pc.ok ⟨?_, ?_⟩))))) (fun _ => Pc.k (fun _ => Pc.b (fun M46 e46 => Pc.i (fun q => absurd q he) (fun _ => Pc.b (fun x _ => Pc.mono (IH x M46) (fun q hq => ⟨hq.1, ?_⟩))))))
    · show rd M10 2 0 = e
      rw [e10, rd_wj (by decide), e8, rd_we]
    · show rd M10 2 1 = _
      rw [e10, rd_we, e8, rd_wj (by decide)]
    · rw [hq.2, e46]; exact rd_wk (by decide)
theorem tail_err0 {e : Int32} (he : ¬ e = 0) : ∀ (n : Nat) (x4 : Int32) (M : Mem), Pc (mX4_readStatement_l55 2 13 n e x4 M) (fun a => rd a.1 2 0 = e ∧ rd a.1 2 1 = rd M 2 4) := by
  intro n
  induction n with
  | zero => intro x4 M; exact Pc.n
  | succ n IH =>
    intro x4 M
    show Pc (mX4_readStatement_b55 2 13 (mX4_readStatement_l55 2 13 n) e x4 M) _
    unfold mX4_readStatement_b55 mX4_readStatement_b110 mX4_readStatement_b131 mX4_readStatement_b148
    refine Pc.i (fun _ => Pc.i (fun q => absurd q he) (fun _ => Pc.i (fun q => absurd q he) (fun _ => Pc.b (fun M8 e8 => Pc.b (fun M10 e10 => Pc.ok ⟨?_, ?_⟩))))) (fun _ => Pc.k (fun _ => Pc.b (fun M46 e46 => Pc.i (fun q => absurd q he) (fun _ => Pc.b (fun x _ => Pc.mono (IH x M46) (fun q hq => ⟨hq.1, ?_⟩))))))
    · show rd M10 2 0 = e
      rw [e10, rd_wj (by decide), e8, rd_we]
    · show rd M10 2 1 = _
      rw [e10, rd_we, e8, rd_wj (by decide)]
    · rw [hq.2, e46]; exact rd_wk (by decide)
/-- an error, told by both -/
theorem err2 {x : Option (Mem × Unit)} {e v : Int32} {K : Mem → Int32 → Option (Mem × Int32)} (he : ¬ e = 0) (hx : Pc x (fun a => rd a.1 2 0 = e ∧ rd a.1 2 1 = rd M 2 4)) (h4 : rd M 2 4 = rd N 135 11) (hv : e = if rd N 135 13 = 1 then 1 else v) (hK : ∀ M1, Pc (K M1 0) (fun q => q = (M1, 0))) : R2 x (cal (mX7_fail 135 v N) K) SRel := by
  refine R2.mr pc_fail (fun M1 r p => ?_)
  obtain ⟨e0, e15, e16⟩ := p
  have e0 : r = 0 := e0
  subst e0
  intro a b ha hb
  have h1 := hx a ha
  have h2 := hK M1 b hb
  subst h2
  refine Or.inr ⟨rfl, by rw [h1.1]; exact he, ?_, ?_⟩
  · rw [h1.1, hv]; exact e15.symm
  · rw [h1.2, h4]; exact e16.symm
theorem k0_0 {K : Mem → Int32 → Option (Mem × Int32)} (h : ∀ M1, K M1 0 = some (M1, 0)) (M1 : Mem) : Pc (chk (isB 0) (K M1 0)) (fun q => q = (M1, 0)) := Pc.k (fun _ => by rw [h]; exact Pc.ok rfl)
/-- a number, read by both -/
theorem num2 {w i n : Nat} {idx lo hi : Int32} {j : Nat} {K : Mem → Int32 → Option (Mem × Int32)} (h3 : i < 3) (hT : TT M N) (hB : BX f M N) (hal : rd N 135 13 = 3 → rd M 2 7 = rd N 135 14 → (Alw w i 13 M ↔ lo.toInt ≤ (rd N 135 14).toInt ∧ (rd N 135 14).toInt ≤ hi.toInt)) (hj : idx.toInt = (j : Int)) (hK : ∀ M1, Pc (K M1 0) (fun q => q = (M1, 0)))
    (hk : ∀ M1 N1, M1 = wr M 3 i (rd N 135 14) → N1 = wr N 137 j (rd N 135 14) → (lo.toInt ≤ (rd N 135 14).toInt ∧ (rd N 135 14).toInt ≤ hi.toInt) → BX f M1 N1 → R2 (mX4_readStatement_l55v1 2 13 w n 0 (Int32.ofNat (i + 1)) M1) (cal (mX7_advance 135 N1) (fun M11 r10 => K M11 r10)) SRel) :
    R2 (cap (mX4_errorOfNumber 2 w 13 (Int32.ofNat i) M) (fun r57 => chk (okb (Int32.ofNat i) 3) (bnd (wr M (2 + 1) (Int32.ofNat i).toNatClampNeg (rd M 2 7)) (fun M61 => mX4_readStatement_b110v1 2 13 w (mX4_readStatement_l55v1 2 13 w n) r57 (Int32.ofNat i) M61)))) (cal (mX7_number 135 idx lo hi N) K) SRel := by
  have hb := hB.pr.bb
  rw [← hB.pr.nb] at hb
  have hc := c_of (a := i) (by omega)
  rw [hc]
  refine R2.cl (pc_eon h3 hb.2) (fun e he => R2.kl (fun _ => R2.bl (fun M61 e61 => ?_)))
  have e61 : M61 = wr M 3 i (rd M 2 7) := e61
  have m4 : rd M61 2 4 = rd N 135 11 := by rw [e61, rd_wk (by decide)]; exact hT.st
  have ex : ∀ x : Int32, x = Int32.ofNat i + 1 → x = Int32.ofNat (i + 1) := fun x h => h.trans (Int32.ofNat_add i 1).symm
  have er : ¬ e = 0 → ∀ v : Int32, e = (if rd N 135 13 = 1 then 1 else v) → R2 (mX4_readStatement_b110v1 2 13 w (mX4_readStatement_l55v1 2 13 w n) e (Int32.ofNat i) M61) (cal (mX7_fail 135 v N) (fun M15 r14 => chk (isB r14) (K M15 r14))) SRel := by
    intro h0 v hv
    unfold mX4_readStatement_b110v1
    refine R2.bl (fun x _ => err2 h0 (tail_err h0 n x M61) m4 hv (fun M1 => Pc.k (fun _ => hK M1)))
  unfold mX7_number
  simp only [cal_ite, cal_cap, cal_cal, cal_chk, cal_some, cal_bnd]
  rcases he with ⟨t, rfl⟩ | ⟨t1, t3, rfl⟩ | ⟨t, ⟨rfl, hA⟩ | ⟨rfl, hA⟩⟩
  · rw [hT.tk] at t
    refine R2.ir (fun q => absurd (t.symm.trans q) (by decide)) (fun _ => er (by decide) 2 (by rw [if_pos t]))
  · rw [hT.tk] at t1 t3
    exact R2.ir (fun q => absurd q t3) (fun _ => er (by decide) 2 (by rw [if_neg t1]))
  · rw [hT.tk] at t
    have hv := hT.vl t
    have hr := (hal t hv).mp hA
    refine R2.ir (fun _ => R2.cr (pc_btw (Int32.toInt_toInt64 _) (Int32.toInt_toInt64 _) (Int32.toInt_toInt64 _)) (fun r3 p3 => ?_)) (fun q => absurd t q)
    rcases p3 with ⟨p3, _⟩ | ⟨_, p3⟩
    · refine R2.ir (fun q => absurd (p3.symm.trans q) (by decide)) (fun _ => R2.kr (fun _ => R2.br (fun N1 e1 => ?_)))
      rw [i_clamp, show idx.toInt.toNat = j by omega] at e1
      have e1 : N1 = wr N 137 j (rd N 135 14) := e1
      rw [hv] at e61
      unfold mX4_readStatement_b110v1
      refine R2.bl (fun x hx => ?_)
      rw [ex x hx]
      have hB1 : BX f M61 N1 := by
        refine ⟨⟨?_, ?_, ?_, ?_⟩, hB.pr.mem (fun c j h1 h2 => ?_), ?_, ?_, ?_⟩
        · rw [e61, e1]; exact (hT.rt.lw ⟨by decide, fun q => absurd q (by decide)⟩).rw ⟨by decide, fun q => absurd q (by decide)⟩
        · rw [e61, e1, rd_wk (by decide), rd_wk (by decide)]; exact hT.nx
        · rw [e1, rd_wk (by decide)]; exact hB.nx.b0
        · rw [e1, rd_wk (by decide), rd_wk (by decide)]; exact hB.nx.b2
        · rw [e61]; exact rd_wk (by omega)
        · rw [e61, rd_wk (by decide)]; exact hB.k0
        · rw [e1, rd_wk (by decide)]; exact hB.n0
        · rw [e61, e1, rd_wk (by decide), rd_wk (by decide)]; exact hB.pp
      have := hk M61 N1 e61 e1 hr hB1
      intro a b ha hb
      refine this a b ha ?_
      obtain ⟨M11, r10, q1, q2⟩ := cal_s hb
      rw [q1]
      exact (chk_s q2).2
    · exact absurd hr p3
  · rw [hT.tk] at t
    have hv := hT.vl t
    have hr := mt (hal t hv).mpr hA
    refine R2.ir (fun _ => R2.cr (pc_btw (Int32.toInt_toInt64 _) (Int32.toInt_toInt64 _) (Int32.toInt_toInt64 _)) (fun r3 p3 => ?_)) (fun q => absurd t q)
    rcases p3 with ⟨_, p3⟩ | ⟨p3, _⟩
    · exact absurd p3 hr
    · exact R2.ir (fun _ => er (by decide) 3 (by rw [if_neg (by rw [t]; decide)])) (fun q => absurd p3 q)
end ST
