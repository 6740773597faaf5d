/-! the planner prepared -/
def PV (M : Mem) : Prop := TabK 119 M ∧ (rd M 119 0).toInt ≤ 9 ∧ (¬ rd M 110 6 = 0 → ∃ m, m < 2 ^ nb 119 M ∧ rd M 119 13 = Int32.ofNat m ∧ PK 119 m M)
/-- what preparing writes -/
def SPp (c _ : Nat) : Prop := 110 ≤ c ∧ c ≤ 132
section PP
variable {k m : Nat} {M M' : Mem}
theorem pc_choose (hL : LI k m M 256) (h9 : (rd M k 0).toInt ≤ 9) (k8 : k + 8 ≤ 110) (hm : rd M k 13 = Int32.ofNat m) (m256 : m < 256) {lc lg : Int32} (elc : mX1_lastCode k M = some lc) (elg : mX1_lastGauge k M = some lg) : Pc (mX3_choosePlan 110 k M) (fun q => KS SCh M q.1 ∧ (∀ j, rl q.1 (110 + 19) j = rl M (110 + 19) j) ∧ ((rd M 110 0 = -1 ∧ rd q.1 110 3 = -1) ∨ (¬ rd M 110 0 = -1 ∧ Ch k M q.1 8 0 m lc lg (rd M 110 0)))) := by
  have n8 := nb8 h9
  unfold mX3_choosePlan
  refine Pc.b (fun x2 e2 => ?_)
  rw [elc, elg]
  refine Pc.c (Pc.ok (P := fun s => s = lc) rfl) (fun r3 e3 => Pc.c (Pc.ok (P := fun s => s = lg) rfl) (fun r6 e6 => Pc.b (fun x5 e5 => ?_)))
  subst e3
  subst e6
  have e2 : x2 = Int32.ofNat m := e2.trans hm
  subst e2
  unfold mX3_choosePlan_b34
  refine Pc.i (fun c => Pc.b (fun M10 e10 => ?_)) (fun c => Pc.b (fun M10 e10 => ?_))
  · have k10 : KS SCh M M10 := by rw [e10]; exact KS.rf.wr (Or.inr ⟨rfl, rfl⟩)
    show Pc (mX3_choosePlan_b40 110 k (mX3_choosePlan_l40 110 k 4999) (Int32.ofNat m) r3 r6 x5 (Int32.ofNat 0) M10) _
    unfold mX3_choosePlan_b40
    refine Pc.i (fun z => absurd z (by decide)) (fun _ => Pc.i (fun _ => Pc.ok ⟨k10, fun j => by rw [e10]; rfl, Or.inl ⟨by rw [← e5]; exact c, by rw [e10]; exact rd_we⟩⟩) (fun z => absurd c z))
  · have k10 : KS SCh M M10 := by rw [e10]; exact KS.rf.wr (Or.inr ⟨rfl, rfl⟩)
    have h10 : KL M M10 := by rw [e10]; exact KL.rf.wr
    have e0 : rd M 110 0 = x5 := e5.symm
    refine ((ch_l hL n8 k8 5000 0 m r3 r6 x5 M10 (by omega) m256 hL.2.1 k10 (by rw [e10]; exact rd_we)).and (lX3_choosePlan_l40 (k0 := 110) (k1 := k) h10)).mono (fun q h => ?_)
    obtain ⟨⟨h1, h2⟩, h3⟩ := h
    have h1 : KS (fun c j => (c = 111 ∧ 0 ≤ j) ∨ (c = 110 ∧ j = 3)) M10 q.1 := h1
    have h3 : KL M q.1 := h3
    exact ⟨k10.trans (h1.mono (fun c j h => by unfold SCh; omega)), h3.rl, Or.inr ⟨by rw [e0]; exact c, by rw [e0]; exact h2⟩⟩
theorem pc_prepare_b (k8 : k + 8 ≤ 110) (h9 : (rd M k 0).toInt ≤ 9) (hm : rd M k 13 = Int32.ofNat m) (hm2 : m < 2 ^ nb k M) (hT : TabK 119 M) {lc lg : Int32} (elc : mX1_lastCode k M = some lc) (elg : mX1_lastGauge k M = some lg) : Pc (mX3_prepare_b30 110 k M) (fun q => KS SPp M q.1 ∧ PK k m q.1 ∧ PV q.1) := by
  have n8 := nb8 h9
  have m256 := n_256 n8 hm2
  unfold mX3_prepare_b30
  refine Pc.m (pc_reachSets (by omega) h9 hm hm2 hT) (fun M4 _ p => ?_)
  obtain ⟨k4, L4, B4, G4, z4⟩ := p
  have k4 : KS SPr M M4 := k4
  have bk4 : BL k M k M4 := BL.ks k4 (fun c j h1 h2 z => by unfold SPr at z; omega)
  have gk4 : GL k M k M4 := GL.ks k4 (fun c j h1 h2 z => by unfold SPr at z; omega)
  have h94 : (rd M4 k 0).toInt ≤ 9 := by rw [bk4.1]; exact h9
  refine Pc.m (pc_countOrders h94 L4) (fun M7 _ p => ?_)
  obtain ⟨k7, C7⟩ := p
  have k7 : ∀ c j, rd M7 c j = rd M4 c j := k7
  have K7 : KS (fun _ _ => False) M4 M7 := fun c j _ => k7 c j
  have K7s : KS SCs M4 M7 := K7.mono (fun c j h => h.elim)
  have L7 : LI k m M7 256 := L4.ks k8 K7s
  have bk7 : BL k M k M7 := bk4.tr (BL.ks K7 (fun c j h1 h2 z => z))
  have gk7 : GL k M k M7 := gk4.tr (GL.ks K7 (fun c j h1 h2 z => z))
  have h97 : (rd M7 k 0).toInt ≤ 9 := by rw [bk7.1]; exact h9
  refine Pc.m ((pc_reckon L7 h97 k8 (gk7.1.trans hm) m256 (gk7.2.1.trans elc) (gk7.2.2.1.trans elg)).and (lX3_reckonCosts (k0 := 110) (k1 := k) (KL.rf : KL M7 M7))) (fun M10 _ p => ?_)
  obtain ⟨⟨k10, S10, t10, u10⟩, l10⟩ := p
  have k10 : KS SCs M7 M10 := k10
  have l10 : KL M7 M10 := l10
  have L10 : LI k m M10 256 := L7.ks k8 k10
  have bk10 : BL k M k M10 := bk7.tr (BL.ks k10 (fun c j h1 h2 z => by unfold SCs at z; omega))
  have gk10 : GL k M k M10 := gk7.tr (GL.ks k10 (fun c j h1 h2 z => by unfold SCs at z; omega))
  have h910 : (rd M10 k 0).toInt ≤ 9 := by rw [bk10.1]; exact h9
  refine Pc.m (pc_choose L10 h910 k8 (gk10.1.trans hm) m256 (gk10.2.1.trans elc) (gk10.2.2.1.trans elg)) (fun M13 _ p => ?_)
  obtain ⟨k13, l13, pl⟩ := p
  have k13 : KS SCh M10 M13 := k13
  have l13 : ∀ j, rl M13 (110 + 19) j = rl M10 (110 + 19) j := l13
  refine Pc.b (fun M14 e14 => Pc.ok ?_)
  -- all together, at the end
  have k14 : KS (fun c j => SCh c j ∨ (c = 110 ∧ j = 6)) M10 M14 := by rw [e14]; exact (k13.mono (fun c j h => Or.inl h)).wr (Or.inr ⟨rfl, rfl⟩)
  have l14 : ∀ j, rl M14 (110 + 19) j = rl M10 (110 + 19) j := fun j => by rw [e14]; exact l13 j
  have r10 : ∀ c j, c = 127 ∨ c = 128 ∨ c = 130 → rd M10 c j = rd M4 c j := fun c j h => (k10 c j (by unfold SCs; omega)).trans (k7 c j)
  have r14 : ∀ c j, c = 127 ∨ c = 128 ∨ c = 130 ∨ c = 131 ∨ c = 132 → rd M14 c j = rd M10 c j := fun c j h => k14 c j (by unfold SCh; omega)
  have bk14 : BL k M10 k M14 := BL.ks k14 (fun c j h1 h2 z => by unfold SCh at z; omega)
  have gk14 : GL k M10 k M14 := GL.ks k14 (fun c j h1 h2 z => by unfold SCh at z; omega)
  have n10 : nb k M10 ≤ 8 := nb8 h910
  -- the counts are still right
  have C10 : CN k M10 := by
    intro a ha hr
    have eo : op M10 a = op M7 a := by funext c; unfold op; rw [k10 _ _ (by unfold SCs; omega)]
    have hr7 : rc M7 a := by unfold rc; rw [← k10 _ _ (by unfold SCs; omega)]; exact hr
    have en : nb k M10 = nb k M7 := (BL.ks (k := k) k10 (fun c j h1 h2 z => by unfold SCs at z; omega)).bn
    rw [l10.rl, en, eo, C7 a ha hr7]
    exact csum_eq 16 (fun _ _ => rfl) (fun c _ _ => (l10.rl _).symm)
  have S10' : LSd k M10 M10 0 := by
    intro b c hb hc hr ho _
    refine S10 b c hb hc ?_ ?_ (by omega)
    · unfold rc; rw [← k10 _ _ (by unfold SCs; omega)]; exact hr
    · unfold op; rw [← k10 _ _ (by unfold SCs; omega)]; exact ho
  have P10 : ∀ T, T = M14 → PK k m T := by
    intro T eT
    have n14 : nb k M14 ≤ 8 := by rw [bk14.bn]; exact n10
    have L14 : LI k m M14 256 := by
      obtain ⟨t1, t2, t3, t4, t5⟩ := L10
      have eo : op M14 = op M10 := by funext a c; unfold op; rw [r14 _ _ (by omega)]
      have er : rc M14 = rc M10 := by funext a; unfold rc; rw [r14 _ _ (by omega)]
      refine ⟨t1.bl bk14 (fun _ => r14 _ _ (by omega)) (fun _ => r14 _ _ (by omega)), ?_, ?_, ?_, ?_⟩
      · rw [er]; exact t2
      · rw [er, bk14.bn]; exact t3
      · intro b'; rw [er, eo, r14 _ _ (by omega)]; exact t4 b'
      · rw [er, eo]; exact t5
    have eo : op M14 = op M10 := by funext a c; unfold op; rw [r14 _ _ (by omega)]
    have er : rc M14 = rc M10 := by funext a; unfold rc; rw [r14 _ _ (by omega)]
    have ce : ∀ a, a < 256 → rc M10 a → CE k M10 k M14 a := fun a ha hr => KS.ce L10 n10 k14 (fun c j z => by unfold SCh at z; omega) ha hr
    subst eT
    refine ⟨L14, ?_, ?_, lc, lg, (gk10.tr gk14).2.1.trans elc, (gk10.tr gk14).2.2.1.trans elg, ?_, ?_, ?_⟩
    · intro a ha hr
      rw [er] at hr
      rw [l14, bk14.bn, eo, C10 a ha hr]
      exact csum_eq 16 (fun _ _ => rfl) (fun c _ _ => (l14 _).symm)
    · intro b c hb hc hr ho _
      rw [er] at hr
      rw [eo] at ho
      have st := L10.step n10 hb hr hc ho
      have q := S10' b c hb hc hr ho (by omega)
      have ce2 := ce _ st.2.2.2.2.1 st.2.2.2.2.2
      unfold LSp
      rw [onw_eq ce2 st.2.2.2.2.1, onw_eq ce2 st.2.2.2.2.1, r14 _ _ (by omega), r14 (110 + 21) _ (by omega), r14 (110 + 22) _ (by omega)]
      exact q
    · rw [onw_eq (ce m m256 L10.2.1) m256, k14 110 0 (by unfold SCh; omega)]; exact t10
    · rw [onw_eq (ce m m256 L10.2.1) m256, k14 110 1 (by unfold SCh; omega)]; exact u10
    · have e0 : rd T 110 0 = rd M10 110 0 := k14 110 0 (by unfold SCh; omega)
      have e3 : rd T 110 3 = rd M13 110 3 := by rw [e14]; exact rd_wj (by decide)
      have e1 : ∀ j, rd T (110 + 1) j = rd M13 (110 + 1) j := fun j => by rw [e14]; exact rd_wk (by decide)
      rw [e0, e3]
      rcases pl with q | ⟨q1, q2⟩
      · exact Or.inl q
      · exact Or.inr ⟨q1, Ch.of L10 n10 ce e3 e1 8 0 m lc lg _ m256 L10.2.1 q2⟩
  have PM := P10 M14 rfl
  -- the known part
  have K414 : KS (fun c j => SCs c j ∨ SCh c j ∨ (c = 110 ∧ j = 6)) M4 M14 := (K7.mono (fun c j h => h.elim)).trans ((k10.mono (fun c j h => Or.inl h)).trans (k14.mono (fun c j h => Or.inr h)))
  have b119 : BL k M 119 M14 := B4.tr (BL.ks K414 (fun c j h1 h2 z => by unfold SCs SCh at z; omega))
  have g119 : GL k M 119 M14 := G4.tr (GL.ks K414 (fun c j h1 h2 z => by unfold SCs SCh at z; omega))
  have bkM : BL k M14 119 M14 := (bk10.tr bk14).sy.tr b119
  have gkM : GL k M14 119 M14 := (gk10.tr gk14).sy.tr g119
  have n14 : nb k M14 ≤ 8 := by rw [(bk10.tr bk14).bn]; exact n8
  have P119 : PK 119 m M14 := PM.of n14 m256 bkM gkM ⟨rfl, rfl, rfl⟩ (fun _ _ _ => rfl) (fun _ => rfl)
  refine ⟨?_, PM, P119.1.1, ?_, fun _ => ⟨m, ?_, ?_, P119⟩⟩
  · refine (k4.mono (fun c j h => ?_)).trans (K414.mono (fun c j h => ?_))
    · unfold SPr at h; unfold SPp; omega
    · unfold SCs SCh at h; unfold SPp; omega
  · rw [b119.1]; exact h9
  · rw [b119.bn]; exact hm2
  · rw [g119.1]; exact hm
theorem pc_prepare (k8 : k + 8 ≤ 110) (h9 : (rd M k 0).toInt ≤ 9) (hm : rd M k 13 = Int32.ofNat m) (hm2 : m < 2 ^ nb k M) (hV : PV M) {lc lg : Int32} (elc : mX1_lastCode k M = some lc) (elg : mX1_lastGauge k M = some lg) : Pc (mX3_prepare 110 k M) (fun q => KS SPp M q.1 ∧ PK k m q.1 ∧ PV q.1) := by
  have n8 := nb8 h9
  have m256 := n_256 n8 hm2
  have hb := pc_prepare_b k8 h9 hm hm2 hV.1 elc elg
  unfold mX3_prepare
  refine Pc.i (fun _ => hb) (fun c1 => Pc.c pc_bendsL (fun r17 p17 => Pc.i (fun _ => hb) (fun c2 => Pc.c pc_goesOn (fun r21 p21 => Pc.i (fun _ => hb) (fun c3 => Pc.ok ?_)))))
  have hB := p17 c2
  have hG := p21 c3
  obtain ⟨m', hm', e', hP⟩ := hV.2.2 c1
  have em : m' = m := by
    have q : Int32.ofNat m' = Int32.ofNat m := e'.symm.trans (hG.1.trans hm)
    have n119 : nb 119 M ≤ 8 := by rw [hB.bn]; exact n8
    have := n_256 n119 hm'
    exact o_inj (by omega) (by omega) q
  subst em
  exact ⟨KS.rf, hP.of (by rw [hB.bn]; exact n8) m256 hB.sy hG.sy ⟨rfl, rfl, rfl⟩ (fun _ _ _ => rfl) (fun _ => rfl), hV⟩
end PP
