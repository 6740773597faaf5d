/-! what asks for a step: alike -/
def nmb2 (e : Nat) : Int32 := if e = 1 then 1 else 2
def nmb3 (e : Nat) : Int32 := if e = 1 then 1 else if e = 0 then 2 else 3
section SQS
variable {g : Gm} {n m a b s c l e : Nat} {M M' N N' N0 : Mem} {lc lg r x x1 x2 : Int32} {α β γ : Type}
theorem calx_cal {ρ σ τ : Type} {x : Option (Mem × (ρ ⊕ Nat))} {k : Mem → ρ → Option (Mem × (σ ⊕ Nat))} {P : Mem × (σ ⊕ Nat) → Prop} (h : Pc x (fun q => (∃ v, q.2 = Sum.inl v ∧ Pc (k q.1 v) P) ∨ ∃ w, q.2 = Sum.inr w ∧ P (q.1, Sum.inr w))) : Pc (calx x k) P := by
  intro a e
  cases x with
  | none => cases e
  | some y =>
    obtain ⟨M1, r⟩ := y
    rcases h _ rfl with ⟨v, e1, h1⟩ | ⟨w, e1, h1⟩
    · have e1 : r = Sum.inl v := e1
      subst e1
      exact h1 a e
    · have e1 : r = Sum.inr w := e1
      subst e1
      cases e; exact h1
theorem R2.xl {ρ σ : Type} {x : Option (Mem × (ρ ⊕ Nat))} {k : Mem → ρ → Option (Mem × (σ ⊕ Nat))} {y : Option β} {R : Mem × (σ ⊕ Nat) → β → Prop} {Q : Mem × (ρ ⊕ Nat) → Prop} (h : Pc x Q) (h1 : ∀ M1 v, Q (M1, Sum.inl v) → R2 (k M1 v) y R) (h2 : ∀ M1 w, Q (M1, Sum.inr w) → R2 (some (M1, Sum.inr w)) y R) : R2 (calx x k) y R := by
  intro a b e1 e2
  cases x with
  | none => cases e1
  | some z =>
    obtain ⟨M1, r⟩ := z
    cases r with
    | inl v => exact h1 M1 v (h _ rfl) a b e1 e2
    | inr w => exact h2 M1 w (h _ rfl) a b e1 e2
/-- the class asks for a step -/
theorem pc_reqStep {f : Nat → Int32} (hP : PR 5 M f) (hn : (f 0).toInt = (n : Int)) : Pc (mX6_requireStep 0 x1 x2 M) (fun q => (q = (M, Sum.inl ()) ∧ (0 ≤ x1.toInt ∧ x1.toInt < (n : Int)) ∧ (0 ≤ x2.toInt ∧ x2.toInt ≤ 1)) ∨ (q = (M, Sum.inr 1) ∧ ¬ (0 ≤ x1.toInt ∧ x1.toInt < (n : Int))) ∨ (q = (M, Sum.inr 0) ∧ (0 ≤ x1.toInt ∧ x1.toInt < (n : Int)) ∧ ¬ (0 ≤ x2.toInt ∧ x2.toInt ≤ 1))) := by
  unfold mX6_requireStep
  refine calx_cal (τ := Unit) ((pc_reqBend hP hn).mono (fun q hq => ?_))
  rcases hq with ⟨e, h1⟩ | ⟨e, h1⟩
  · refine Or.inl ⟨(), by rw [e], ?_⟩
    refine calx_cal (τ := Unit) ((pc_reqChoice (n := 1) rfl).mono (fun q2 hq2 => ?_))
    have e1 : q.1 = M := by rw [e]
    rcases hq2 with ⟨e2, h2⟩ | ⟨e2, h2⟩
    · refine Or.inl ⟨(), by rw [e2], Pc.ok (Or.inl ⟨?_, h1, h2⟩)⟩
      rw [e2, e1]
    · refine Or.inr ⟨0, by rw [e2], Or.inr (Or.inr ⟨?_, h1, h2⟩)⟩
      rw [e2, e1]
  · exact Or.inr ⟨1, by rw [e], Or.inr (Or.inl ⟨by rw [e], h1⟩)⟩
/-- a step asked for, by both -/
theorem R2.step {σ τ : Type} {R : Mem × (σ ⊕ Nat) → Mem × τ → Prop} {K : Mem → Option (Mem × (σ ⊕ Nat))} {K' : Mem → Option (Mem × τ)} {z : τ} (h : SS M N) (h1 : ∀ b s, b < nb 5 M → s < 2 → x1 = Int32.ofNat b → x2 = Int32.ofNat s → R2 (K M) (K' (wr N 135 5 0)) R) (h2 : R (M, Sum.inr 1) (wr N 135 5 1, z)) (h3 : R (M, Sum.inr 0) (wr N 135 5 2, z)) :
    R2 (calx (mX6_requireStep 0 x1 x2 M) (fun M3 _ => K M3)) (cap (mX7_isBend 135 x1 N) (fun r2 => cap (mX7_isSide x2 N) (fun r5 => cal (mX7_good_ 135 r2 r5 N) (fun M9 r8 => ite2 (r8 = 0) (some (M9, z)) (K' M9))))) R := by
  have n8 := nb8 (pr_9 h.1)
  have hn : (rd N 136 0).toInt = (nb 5 M : Int) := h.1.pb.bn
  refine R2.cr (pc_isBend hn n8) (fun r2 p2 => R2.cr pc_isSide (fun r5 p5 => R2.mr pc_good2 (fun N9 r8 p8 => ?_)))
  refine R2.xl (pc_reqStep h.1 hn) (fun M1 v q => ?_) (fun M1 w q => ?_)
  · rcases q with ⟨e, q1, q2⟩ | ⟨e, _⟩ | ⟨e, _⟩
    · have eM : M1 = M := congrArg Prod.fst e
      rw [eM]
      have e2 : r2 = 1 := by
        rcases p2 with ⟨z, _⟩ | ⟨_, z⟩
        · exact z
        · exact absurd q1 z
      have e5 : r5 = 1 := by
        rcases p5 with ⟨z, _⟩ | ⟨_, z⟩
        · exact z
        · exact absurd q2 z
      rcases p8 with ⟨z, _⟩ | ⟨_, z, _⟩ | ⟨_, _, e8⟩
      · rw [e2] at z; exact absurd z (by decide)
      · rw [e5] at z; exact absurd z (by decide)
      · have eN : N9 = wr N 135 5 0 := congrArg Prod.fst e8
        have er : r8 = 1 := congrArg Prod.snd e8
        rw [er, eN]
        refine R2.ir (fun z => absurd z (by decide)) (fun _ => ?_)
        refine h1 x1.toInt.toNat x2.toInt.toNat (by omega) (by omega) (o_of q1.1) (o_of q2.1)
    · exact absurd (congrArg Prod.snd e) (by intro z; cases z)
    · exact absurd (congrArg Prod.snd e) (by intro z; cases z)
  · rcases q with ⟨e, _, _⟩ | ⟨e, q1⟩ | ⟨e, q1, q2⟩
    · exact absurd (congrArg Prod.snd e) (by intro z; cases z)
    · cases e
      have e2 : r2 = 0 := by
        rcases p2 with ⟨_, z⟩ | ⟨z, _⟩
        · exact absurd z q1
        · exact z
      rcases p8 with ⟨_, e8⟩ | ⟨z, _, _⟩ | ⟨z, _, _⟩
      · have eN : N9 = wr N 135 5 1 := congrArg Prod.fst e8
        have er : r8 = 0 := congrArg Prod.snd e8
        rw [er, eN]
        exact R2.ir (fun _ => R2.ok h2) (fun z => absurd rfl z)
      · exact absurd e2 z
      · exact absurd e2 z
    · cases e
      have e2 : r2 = 1 := by
        rcases p2 with ⟨z, _⟩ | ⟨_, z⟩
        · exact z
        · exact absurd q1 z
      have e5 : r5 = 0 := by
        rcases p5 with ⟨_, z⟩ | ⟨z, _⟩
        · exact absurd z q2
        · exact z
      rcases p8 with ⟨z, _⟩ | ⟨_, _, e8⟩ | ⟨_, z, _⟩
      · rw [e2] at z; exact absurd z (by decide)
      · have eN : N9 = wr N 135 5 2 := congrArg Prod.fst e8
        have er : r8 = 0 := congrArg Prod.snd e8
        rw [er, eN]
        exact R2.ir (fun _ => R2.ok h3) (fun z => absurd rfl z)
      · exact absurd e5 z
theorem reason_1 {k k1 : Nat} (ha : a < 256) (hc : c < 16) : Pc (mX2_reasonFor k k1 (Int32.ofNat a) (Int32.ofNat c) M) (fun q => q.2 = 0 → a.testBit (c / 2) = false) := by
  have hf0 := f_has0 a ha (c / 2) (by omega)
  have go : ∀ y : Int32, Pc (mX2_reasonFor_b20 k k1 (Int32.ofNat a) (Int32.ofNat c) (Int32.ofNat (c / 2)) y M) (fun q => q.2 = 0 → a.testBit (c / 2) = false) := by
    intro y
    unfold mX2_reasonFor_b20
    refine Pc.i (fun c0 => fun q _ _ => hf0.mp c0) (fun _ => Pc.ok (fun z => absurd (show (1 : Int32) = 0 from z) (by decide)))
  unfold mX2_reasonFor
  rw [f_shr1c c hc]
  exact Pc.b (fun x e => by subst e; exact Pc.i (fun _ => go _) (fun _ => go _))
theorem f_code : ∀ b, b < 8 → ∀ s, s < 2 → (2 : Int32) * Int32.ofNat b + Int32.ofNat s = Int32.ofNat (2 * b + s) := by decide
theorem nmb2_1 : nmb2 1 = 1 := rfl
theorem nmb2_0 : nmb2 0 = 2 := rfl
/-- the class's reason, the reference's, in a state -/
theorem SS.reason (h : SS M N) (hm : rd M 5 13 = Int32.ofNat m) (m2 : m < 2 ^ nb 5 M) (hb : b < nb 5 M) (hs : s < 2) : R2 (mX6_reasonNow 0 (Int32.ofNat (2 * b + s)) M) (mX7_reasonOf 135 (Int32.ofNat b) (Int32.ofNat s) (rd N (135 + 1) ((52 : Int32)).toNatClampNeg) N) (fun p q => p.2 = q.2 ∧ SS p.1 q.1 ∧ KS (SPs 103) M p.1 ∧ KS SLy N q.1) := by
  have hn : (rd N 136 0).toInt = (nb 5 M : Int) := h.1.pb.bn
  have e52 : rd N (135 + 1) ((52 : Int32)).toNatClampNeg = Int32.ofNat m := h.1.ma.symm.trans hm
  unfold mX6_reasonNow
  rw [hm, e52]
  intro p q hp hq
  obtain ⟨M3, r2, p1, p2⟩ := cal_s hp
  cases p2
  obtain ⟨w1, w2, w3, _⟩ := reason_R (k := 103) (by omega) h.1 hn hb hs m2 _ _ p1 hq
  have w2 : KS (SPs 103) M M3 := w2
  have kq : KS SLy N q.1 := vX7_reasonOf (KS.rf : KS SLy N N) q hq
  have l3 : KL M M3 := lX2_reasonFor (k0 := 103) (k1 := 5) (KL.rf : KL M M) _ p1
  exact ⟨w1, (h.pl w2 l3 (fun c j z => by unfold SPs at z; omega)).sly kq, w2, kq⟩
theorem reason_RR (h : SS M N) (hI : MI N) : R2 (mX6_reason 0 x1 x2 M) (mX7_reason 135 x1 x2 N) (fun p q => XR nmb2 p q ∧ SS p.1 q.1) := by
  obtain ⟨m, m2, em, hR⟩ := row_at hI h.1
  have n8 := nb8 (pr_9 h.1)
  unfold mX6_reason mX7_reason
  refine R2.step h (fun b s hb hs e1 e2 => ?_) ⟨XR.inr rd_we, h.th⟩ ⟨XR.inr rd_we, h.th⟩
  subst e1
  subst e2
  rw [f_code b (by omega) s hs]
  refine R2.kr (fun _ => R2.mm (h.th.reason em m2 hb hs) (fun M3 r N3 q p => ?_))
  obtain ⟨p1, p2, _, p4⟩ := p
  exact R2.ok ⟨XR.inl ((p4 135 5 (by unfold SLy; omega)).trans rd_we) p1, p2⟩
theorem SS.gauge (h : SS M N) (hm : rd M 5 13 = Int32.ofNat m) (m2 : m < 2 ^ nb 5 M) (hb : b < nb 5 M) (hs : s < 2) : R2 (mX6_gaugeNow 0 (Int32.ofNat (2 * b + s)) M) (mX7_gaugeOf 135 (Int32.ofNat b) (Int32.ofNat s) (rd N (135 + 1) ((52 : Int32)).toNatClampNeg) N) (fun p q => p.2 = q.2 ∧ SS p.1 q.1 ∧ KS SLy N q.1) := by
  have hn : (rd N 136 0).toInt = (nb 5 M : Int) := h.1.pb.bn
  have e52 : rd N (135 + 1) ((52 : Int32)).toNatClampNeg = Int32.ofNat m := h.1.ma.symm.trans hm
  intro p q hp hq
  have l3 : KL M p.1 := lX6_gaugeNow (k0 := 0) (KL.rf : KL M M) _ hp
  unfold mX6_gaugeNow at hp
  rw [hm] at hp
  rw [e52] at hq
  obtain ⟨w1, w2, _⟩ := gaugeOf_R (k := 103) (by omega) h.1 hn hb hs m2 _ _ hp hq
  have kq : KS SLy N q.1 := vX7_gaugeOf (KS.rf : KS SLy N N) q hq
  exact ⟨w1, (h.pl w2 l3 (fun c j z => by unfold SPs at z; omega)).sly kq, kq⟩
theorem gauge_RR (h : SS M N) (hI : MI N) : R2 (mX6_gauge 0 x1 x2 M) (mX7_gauge 135 x1 x2 N) (fun p q => XR nmb2 p q ∧ SS p.1 q.1) := by
  obtain ⟨m, m2, em, hR⟩ := row_at hI h.1
  have n8 := nb8 (pr_9 h.1)
  unfold mX6_gauge mX7_gauge
  refine R2.step h (fun b s hb hs e1 e2 => ?_) ⟨XR.inr rd_we, h.th⟩ ⟨XR.inr rd_we, h.th⟩
  subst e1
  subst e2
  rw [f_code b (by omega) s hs]
  refine R2.kr (fun _ => R2.mm (h.th.gauge em m2 hb hs) (fun M3 r N3 q p => ?_))
  obtain ⟨p1, p2, p4⟩ := p
  exact R2.ok ⟨XR.inl ((p4 135 5 (by unfold SLy; omega)).trans rd_we) p1, p2⟩
theorem costOf_RR (h : SS M N) (hI : MI N) : R2 (mX6_costOf 0 x1 x2 M) (mX7_costOf 135 x1 x2 N) (fun p q => XR nmb2 p q ∧ SS p.1 q.1) := by
  obtain ⟨m, m2, em, hR⟩ := row_at hI h.1
  have n8 := nb8 (pr_9 h.1)
  unfold mX6_costOf mX7_costOf
  refine R2.step h (fun b s hb hs e1 e2 => ?_) ⟨XR.inr rd_we, h.th⟩ ⟨XR.inr rd_we, h.th⟩
  subst e1
  subst e2
  rw [f_code b (by omega) s hs]
  have hT := h.th (v := 0)
  have hn : (rd (wr N 135 5 0) 136 0).toInt = (nb 5 M : Int) := hT.1.pb.bn
  intro p q hp hq
  obtain ⟨M7, r6, p1, p2⟩ := cal_s hp
  cases p2
  obtain ⟨N7, q6, u1, u2⟩ := cal_s hq
  cases u2
  obtain ⟨w1, w2, w3⟩ := costNow_R hT.1 hn (hT.2.2.1.2.1 _ hn) hb hs em m2 _ _ p1 u1
  have l3 : KL M M7 := lX6_costNow (k0 := 0) (KL.rf : KL M M) _ p1
  have w3 : KS SRl (wr N 135 5 0) N7 := w3
  exact ⟨XR.inl ((w3 135 5 (by unfold SRl; omega)).trans rd_we) w1, (hT.pl w2 l3 (fun c j z => by unfold SPs at z; omega)).ks w3 (fun c j hc z => by unfold SRl at z; omega)⟩
/-- a step folded -/
theorem fold_RR (h : SS M N) (hI : MI N) : R2 (mX6_fold 0 x1 x2 M) (mX7_fold 135 x1 x2 N) (fun p q => XR nmb3 p q ∧ SS p.1 q.1) := by
  obtain ⟨m, m2, em, hR⟩ := row_at hI h.1
  have n8 := nb8 (pr_9 h.1)
  have m256 := n_256 n8 m2
  have hn : (rd N 136 0).toInt = (nb 5 M : Int) := h.1.pb.bn
  unfold mX6_fold mX7_fold
  refine R2.cr (pc_isBend hn n8) (fun r2 p2 => R2.cr pc_isSide (fun r5 p5 => ?_))
  have bad : ∀ {y1 y2 y3 : Int32} {w : Nat}, (y1 = 0 ∧ w = 1 ∨ ¬ y1 = 0 ∧ y2 = 0 ∧ w = 0 ∨ ¬ y1 = 0 ∧ ¬ y2 = 0 ∧ y3 = 0 ∧ w = 2) → ∀ {M1 N1 : Mem}, SS M1 N1 → R2 (some (M1, (Sum.inr w : Int32 ⊕ Nat))) (mX7_fold_b46 135 x1 x2 y1 y2 y3 N1) (fun p q => XR nmb3 p q ∧ SS p.1 q.1) := by
    intro y1 y2 y3 w hy M1 N1 hS
    unfold mX7_fold_b46
    refine R2.mr pc_good3 (fun N9 r8 p8 => ?_)
    rcases p8 with ⟨z, e8⟩ | ⟨z, z2, e8⟩ | ⟨z, z2, z3, e8⟩ | ⟨z, z2, z3, e8⟩
    · cases e8
      refine R2.ir (fun _ => R2.ok ⟨XR.inr ?_, hS.th⟩) (fun z => absurd rfl z)
      rcases hy with ⟨_, e⟩ | ⟨q, _⟩ | ⟨q, _⟩
      · rw [e]; exact rd_we
      · exact absurd z q
      · exact absurd z q
    · cases e8
      refine R2.ir (fun _ => R2.ok ⟨XR.inr ?_, hS.th⟩) (fun z => absurd rfl z)
      rcases hy with ⟨q, e⟩ | ⟨_, _, e⟩ | ⟨_, q, _⟩
      · exact absurd q z
      · rw [e]; exact rd_we
      · exact absurd z2 q
    · cases e8
      refine R2.ir (fun _ => R2.ok ⟨XR.inr ?_, hS.th⟩) (fun z => absurd rfl z)
      rcases hy with ⟨q, e⟩ | ⟨_, q, e⟩ | ⟨_, _, _, e⟩
      · exact absurd q z
      · exact absurd q z2
      · rw [e]; exact rd_we
    · rcases hy with ⟨q, e⟩ | ⟨_, q, e⟩ | ⟨_, _, q, e⟩
      · exact absurd q z
      · exact absurd q z2
      · exact absurd q z3
  unfold mX7_fold_b45
  refine R2.xl (pc_reqStep h.1 hn) (fun M1 v q => ?_) (fun M1 w q => ?_)
  · rcases q with ⟨e, q1, q2⟩ | ⟨e, _⟩ | ⟨e, _⟩
    · have eM : M1 = M := congrArg Prod.fst e
      rw [eM]
      have e2 : r2 = 1 := by
        rcases p2 with ⟨z, _⟩ | ⟨_, z⟩
        · exact z
        · exact absurd q1 z
      have e5 : r5 = 1 := by
        rcases p5 with ⟨z, _⟩ | ⟨_, z⟩
        · exact z
        · exact absurd q2 z
      subst e2
      subst e5
      obtain ⟨b, hb, e1⟩ : ∃ b : Nat, b < nb 5 M ∧ x1 = Int32.ofNat b := ⟨x1.toInt.toNat, by omega, o_of q1.1⟩
      obtain ⟨s, hs, e2⟩ : ∃ s : Nat, s < 2 ∧ x2 = Int32.ofNat s := ⟨x2.toInt.toNat, by omega, o_of q2.1⟩
      subst e1
      subst e2
      rw [f_code b (by omega) s hs]
      refine R2.ir (fun z => absurd z (by decide)) (fun _ => R2.ir (fun z => absurd z (by decide)) (fun _ => R2.kr (fun _ => ?_)))
      intro p q hp hq
      obtain ⟨M7, r6, p1, p2⟩ := cal_s hp
      obtain ⟨N7, q6, u1, u2⟩ := cal_s hq
      obtain ⟨w1, w2, w3, w4⟩ := h.reason em m2 hb hs _ _ p1 u1
      have w1 : r6 = q6 := w1
      have w2 : SS M7 N7 := w2
      have w3 : KS (SPs 103) M M7 := w3
      have w4 : KS SLy N N7 := w4
      have b7 : BL 5 M 5 M7 := BL.ks w3 (fun c j h1 h2 z => by unfold SPs at z; omega)
      subst w1
      by_cases z : r6 = 0
      · have hp2 := ite_t z p2
        have hu2 := ite_t z u2
        -- the step isn't made yet
        have tb : m.testBit b = false := by
          have p1' := p1
          unfold mX6_reasonNow at p1'
          rw [em] at p1'
          obtain ⟨M8, r8, v1, v2⟩ := cal_s p1'
          cases v2
          have hh := reason_1 (k := 103) (k1 := 5) (c := 2 * b + s) m256 (by omega) _ v1 z
          rw [show (2 * b + s) / 2 = b by omega] at hh
          exact hh
        unfold mX7_fold_b46 at hu2
        obtain ⟨N9, r9, s1, s2⟩ := cal_s hu2
        rcases pc_good3 _ s1 with ⟨q, _⟩ | ⟨_, q, _⟩ | ⟨_, _, q, _⟩ | ⟨_, _, _, e8⟩
        · exact absurd q (by decide)
        · exact absurd q (by decide)
        · exact absurd q (by decide)
        · have eN : N9 = wr N7 135 5 0 := congrArg Prod.fst e8
          have er : r9 = 1 := congrArg Prod.snd e8
          subst eN
          have s2 := ite_f (by rw [er]; decide) s2
          obtain ⟨M11, r10, t1, t2⟩ := cal_s hp2
          cases t2
          obtain ⟨N11, q10, t3, t4⟩ := cal_s s2
          cases t4
          have hS9 : SS M7 (wr N7 135 5 0) := w2.th
          have hR7 : Row (nb 5 M7) m (rd (wr N7 135 5 0) 136) := by
            rw [b7.bn]
            exact hR.of (fun j => (rd_wk (by decide)).trans (w4 136 j (by unfold SLy; omega)))
          obtain ⟨f1, f2, f3⟩ := makeStep_R hS9 hR7 ((w3 5 13 (by unfold SPs; omega)).trans em) (by rw [b7.bn]; exact hb) hs tb _ _ t1 t3
          exact ⟨XR.inl (f3.trans rd_we) f1, f2⟩
      · have hp2 := ite_f z p2
        have hu2 := ite_f z u2
        cases hp2
        exact bad (Or.inr (Or.inr ⟨by decide, by decide, rfl, rfl⟩)) w2 _ q rfl hu2
    · exact absurd (congrArg Prod.snd e) (by intro z; cases z)
    · exact absurd (congrArg Prod.snd e) (by intro z; cases z)
  · rcases q with ⟨e, _, _⟩ | ⟨e, q1⟩ | ⟨e, q1, q2⟩
    · exact absurd (congrArg Prod.snd e) (by intro z; cases z)
    · cases e
      have e2 : r2 = 0 := by
        rcases p2 with ⟨_, z⟩ | ⟨z, _⟩
        · exact absurd z q1
        · exact z
      exact R2.ir (fun _ => bad (Or.inl ⟨e2, rfl⟩) h) (fun z => absurd e2 z)
    · cases e
      have e2 : r2 = 1 := by
        rcases p2 with ⟨z, _⟩ | ⟨_, z⟩
        · exact z
        · exact absurd q1 z
      have e5 : r5 = 0 := by
        rcases p5 with ⟨_, z⟩ | ⟨z, _⟩
        · exact absurd z q2
        · exact z
      have e2n : ¬ r2 = 0 := by rw [e2]; decide
      exact R2.ir (fun z => absurd z e2n) (fun _ => R2.ir (fun _ => bad (Or.inr (Or.inl ⟨e2n, e5, rfl⟩)) h) (fun z => absurd e5 z))
end SQS
