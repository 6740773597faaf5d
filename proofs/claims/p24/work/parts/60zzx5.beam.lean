/-! greatestBeam: what both hold stays -/
section GBM
variable {g : Gm} {k n m a b s c l e : Nat} {M M' N N' N0 M0 : Mem} {x x1 x2 x3 : Int32}
/-- what the trial of a beam writes -/
def SBm (c _ : Nat) : Prop := (13 ≤ c ∧ c < 13 + 8) ∨ (110 ≤ c ∧ c ≤ 132)
def BmI (m : Nat) (M : Mem) : Prop := PV M ∧ (rd M 13 0).toInt ≤ 9 ∧ rd M 13 13 = Int32.ofNat m ∧ m < 2 ^ nb 13 M
theorem BmI.set {v : Int32} (h : BmI m M) (e : M' = wr M (13 + 2) 1 v) : BmI m M' := by
  have hk : KS (fun c _ => c = 15) M M' := by rw [e]; exact KS.rf.wr rfl
  have hl : KL M M' := by rw [e]; exact KL.rf.wr
  have en : nb 13 M' = nb 13 M := by unfold nb; rw [hk 13 0 (by omega)]
  exact ⟨h.1.ks hk (fun c j h1 h2 _ z => by omega) (fun j => hl.rl j), by rw [hk 13 0 (by omega)]; exact h.2.1, (hk 13 13 (by omega)).trans h.2.2.1, by rw [en]; exact h.2.2.2⟩
theorem pc_all13 (h : BmI m M) : Pc (mX3_reachesAll 110 13 M) (fun q => KS SPr M q.1 ∧ BmI m q.1 ∧ LI 13 m q.1 256 ∧ (¬ q.2 = 0 ↔ rc q.1 (2 ^ nb 13 q.1 - 1))) := by
  unfold mX3_reachesAll
  refine Pc.m (pc_reachSets (k := 13) (by omega) h.2.1 h.2.2.1 h.2.2.2 h.1.1) (fun M3 _ p => ?_)
  obtain ⟨p1, p2, p3, p4, p5⟩ := p
  have p1 : KS SPr M M3 := p1
  have b3 : BL 13 M 13 M3 := BL.ks p1 (fun c j h1 h2 z => by unfold SPr at z; omega)
  have h9 : (rd M3 13 0).toInt ≤ 9 := by rw [b3.1]; exact h.2.1
  have n8 := nb8 h9
  have p2' : 2 ^ nb 13 M3 ≤ 256 := by
    have : 2 ^ nb 13 M3 ≤ 2 ^ 8 := Nat.pow_le_pow_right (by decide) n8
    have h8 : (2 : Nat) ^ 8 = 256 := rfl
    omega
  refine Pc.c (pc_allB h9) (fun r5 e5 => Pc.k (fun _ => Pc.k (fun _ => Pc.ok ⟨p1, ⟨⟨p2.1.bl (b3.sy.tr p3) (fun _ => rfl) (fun _ => rfl), ?_, fun z => absurd p5 z⟩, h9, ?_, ?_⟩, p2, ?_⟩)))
  · show (rd M3 119 0).toInt ≤ 9
    rw [p3.1]; exact h.2.1
  · exact (p1 13 13 (by unfold SPr; omega)).trans h.2.2.1
  · show m < 2 ^ nb 13 M3
    rw [b3.bn]; exact h.2.2.2
  · rw [e5, c_of (by omega)]
    exact Iff.rfl
theorem bm_l : ∀ (fuel : Nat) (x1 x2 : Int32) (M : Mem), KS SBm M0 M → BmI m M → Pc (mX6_greatestBeam_l16 0 fuel x1 x2 M) (fun q => KS SBm M0 q.1 ∧ PV q.1) := by
  intro fuel
  induction fuel with
  | zero => intro x1 x2 M _ _ q e; cases e
  | succ fuel IH =>
    intro x1 x2 M hk h
    show Pc (mX6_greatestBeam_b16 0 (mX6_greatestBeam_l16 0 fuel) x1 x2 M) _
    unfold mX6_greatestBeam_b16
    refine Pc.i (fun _ => Pc.i (fun _ => Pc.ok ⟨hk, h.1⟩) (fun _ => Pc.ok ⟨hk, h.1⟩)) (fun _ => Pc.b (fun x3 _ => Pc.k (fun _ => Pc.b (fun M9 e9 => ?_))))
    have h9 : BmI m M9 := h.set e9
    have k9 : KS SBm M0 M9 := by rw [e9]; exact hk.wr (Or.inl ⟨by omega, by omega⟩)
    have nx : ∀ (y : Int32) (M' : Mem), KS SBm M0 M' → BmI m M' → Pc (mX6_greatestBeam_b59 0 (mX6_greatestBeam_l16 0 fuel) y x2 M') (fun q => KS SBm M0 q.1 ∧ PV q.1) := by
      intro y M' h1 h2
      unfold mX6_greatestBeam_b59
      exact Pc.b (fun z _ => IH y z M' h1 h2)
    refine Pc.i (fun _ => nx x1 M9 k9 h9) (fun _ => Pc.m (pc_all13 h9) (fun M14 r13 p => ?_))
    obtain ⟨p1, p2, _⟩ := p
    have p1 : KS SPr M9 M14 := p1
    have k14 : KS SBm M0 M14 := k9.trans (p1.mono (fun c j h => by unfold SPr at h; unfold SBm; omega))
    exact Pc.i (fun _ => nx x1 M14 k14 p2) (fun _ => nx x3 M14 k14 p2)
theorem bm_init (h : SS M N) (hm : rd M 5 13 = Int32.ofNat m) (m2 : m < 2 ^ nb 5 M) : Pc (mX1_copyFrom 13 5 M) (fun q => KS SBm M q.1 ∧ BmI m q.1 ∧ PR 13 q.1 (row 136 N)) := by
  intro q hq
  obtain ⟨c0, c1, c2, c3, c4⟩ := pc_copyFrom (k := 13) (k' := 5) (M := M) (Or.inr (by omega)) q hq
  have l11 : KL M q.1 := lX1_copyFrom (k0 := 13) (k1 := 5) (KL.rf : KL M M) q hq
  have e0 := c0 0 (by omega) (by omega) (by omega) (by omega) (by omega)
  have en : nb 13 q.1 = nb 5 M := by unfold nb; rw [e0]
  exact ⟨c4.mono (fun c j h => Or.inl h), ⟨h.2.2.2.2.ks c4 (fun c j h1 h2 _ z => by omega) (fun j => l11.rl j), by rw [e0]; exact pr_9 h.1, (c0 13 (by omega) (by omega) (by omega) (by omega) (by omega)).trans hm, by rw [en]; exact m2⟩, PR.copy h.1 c0 c1 c2 c3⟩
/-- the reference's: the beam is put back -/
def SBr (k j : Nat) : Prop := SLy k j ∨ (k = 135 ∧ j = 5) ∨ (k = 136 ∧ j = 40)
theorem bmr_l (hx : rd N0 136 40 = x1) : ∀ (fuel : Nat) (x2 x3 : Int32) (N : Mem), KS SBr N0 N → Pc (mX7_greatestBeam_l19 135 fuel x1 x2 x3 N) (fun q => KS SBr N0 q.1 ∧ rd q.1 136 40 = rd N0 136 40) := by
  intro fuel
  induction fuel with
  | zero => intro x2 x3 N _ q e; cases e
  | succ fuel IH =>
    intro x2 x3 N hk
    show Pc (mX7_greatestBeam_b19 135 (mX7_greatestBeam_l19 135 fuel) x1 x2 x3 N) _
    unfold mX7_greatestBeam_b19
    have fin : Pc (mX7_greatestBeam_b59 135 x1 x2 N) (fun q => KS SBr N0 q.1 ∧ rd q.1 136 40 = rd N0 136 40) := by
      unfold mX7_greatestBeam_b59
      refine Pc.k (fun _ => Pc.b (fun M8 e8 => Pc.ok ⟨?_, ?_⟩))
      · rw [e8]; exact hk.wr (Or.inr (Or.inr ⟨rfl, rfl⟩))
      · rw [e8, hx]
        show rd (wr N 136 40 x1) 136 40 = x1
        exact rd_we
    refine Pc.i (fun _ => fin) (fun _ => Pc.i (fun _ => Pc.k (fun _ => Pc.b (fun M12 e12 => ?_))) (fun _ => fin))
    have k12 : KS SBr N0 M12 := by rw [e12]; exact hk.wr (Or.inr (Or.inr ⟨rfl, rfl⟩))
    refine Pc.m (Fr.pc (vX7_layOrders (KS.rf : KS SLy M12 M12))) (fun M15 _ p => ?_)
    have p : KS SLy M12 M15 := p
    have k15 : KS SBr N0 M15 := k12.trans (p.mono (fun c j h => Or.inl h))
    unfold mX7_greatestBeam_b52
    exact Pc.c (Pc.self _) (fun r17 _ => Pc.i (fun _ => Pc.b (fun z _ => IH _ z M15 k15)) (fun _ => Pc.b (fun z _ => IH _ z M15 k15)))
theorem pc_beamR : Pc (mX7_greatestBeam 135 N) (fun q => KS SBr N q.1 ∧ rd q.1 136 40 = rd N 136 40) := by
  unfold mX7_greatestBeam
  refine Pc.b (fun M1 e1 => Pc.k (fun _ => Pc.b (fun x1 ex => ?_)))
  have k1 : KS SBr N M1 := by rw [e1]; exact KS.rf.wr (Or.inr (Or.inl ⟨rfl, rfl⟩))
  have ee : rd M1 136 40 = rd N 136 40 := by rw [e1]; exact rd_wk (by decide)
  refine bmr_l (N0 := N) (x1 := x1) ?_ 5000 _ _ M1 k1
  rw [ex]
  exact ee.symm
theorem beam_S (h : SS M N) (hI : MI N) : R2 (mX6_greatestBeam 0 M) (mX7_greatestBeam 135 N) (fun p q => SS p.1 q.1) := by
  obtain ⟨m, m2, em, hR⟩ := row_at hI h.1
  intro p q hp hq
  obtain ⟨r1, r2⟩ := pc_beamR q hq
  unfold mX6_greatestBeam at hp
  obtain ⟨M3, _, p1, p2⟩ := cal_s hp
  obtain ⟨k3, b3, _⟩ := bm_init h em m2 _ p1
  have k3 : KS SBm M M3 := k3
  obtain ⟨k4, v4⟩ := bm_l (M0 := M) 5000 _ _ M3 k3 b3 p p2
  have hS : SS p.1 N := h.cl (fun c j hc => k4 c j (by unfold SBm; omega)) v4
  refine hS.rf (fun j => ?_) (fun j => r1 _ _ (by unfold SBr SLy; omega)) (r1 _ _ (by unfold SBr SLy; omega))
  by_cases e : j = 40
  · subst e; exact r2
  · exact r1 _ _ (by unfold SBr SLy; omega)
end GBM
