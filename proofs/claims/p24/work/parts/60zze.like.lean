/-! whether a part is like another: bends alike, goes on alike -/
def GL (k : Nat) (M : Mem) (k' : Nat) (M' : Mem) : Prop := rd M' k' 13 = rd M k 13 ∧ mX1_lastCode k' M' = mX1_lastCode k M ∧ mX1_lastGauge k' M' = mX1_lastGauge k M ∧ rd M' k' 7 = rd M k 7 ∧ rd M' k' 8 = rd M k 8 ∧ rd M' k' 9 = rd M k 9
section LK
variable {k k' k'' : Nat} {M M' M'' M0 : Mem} {m : Nat}
theorem GL.rf : GL k M k M := ⟨rfl, rfl, rfl, rfl, rfl, rfl⟩
theorem GL.sy (h : GL k M k' M') : GL k' M' k M := ⟨h.1.symm, h.2.1.symm, h.2.2.1.symm, h.2.2.2.1.symm, h.2.2.2.2.1.symm, h.2.2.2.2.2.symm⟩
theorem GL.tr (h : GL k M k' M') (h' : GL k' M' k'' M'') : GL k M k'' M'' := ⟨h'.1.trans h.1, h'.2.1.trans h.2.1, h'.2.2.1.trans h.2.2.1, h'.2.2.2.1.trans h.2.2.2.1, h'.2.2.2.2.1.trans h.2.2.2.2.1, h'.2.2.2.2.2.trans h.2.2.2.2.2⟩
theorem chk_congr {β : Type} {i : Int32} {n : Nat} {x y : Option β} (h : i.toNatClampNeg < n → x = y) : chk (okb i n) x = chk (okb i n) y := by
  unfold chk
  by_cases q : okb i n = true
  · rw [h (okb_lt q)]
  · rw [Bool.eq_false_iff.mpr q]; rfl
theorem last_eq (h14 : rd M' k' 14 = rd M k 14) (h5 : ∀ j, j < 8 → rd M' (k' + 5) j = rd M (k + 5) j) : mX1_lastCode k' M' = mX1_lastCode k M := by
  unfold mX1_lastCode
  rw [h14]
  unfold ite2
  split
  · rfl
  · exact chk_congr (fun hi => by rw [h5 _ hi])
theorem lastg_eq (h14 : rd M' k' 14 = rd M k 14) (h6 : ∀ j, j < 8 → rd M' (k' + 6) j = rd M (k + 6) j) : mX1_lastGauge k' M' = mX1_lastGauge k M := by
  unfold mX1_lastGauge
  rw [h14]
  unfold ite2
  split
  · rfl
  · exact chk_congr (fun hi => by rw [h6 _ hi])
theorem GL.ks {S : Nat → Nat → Prop} (hk : KS S M M') (hs : ∀ c j, k ≤ c → c < k + 8 → ¬ S c j) : GL k M k M' := by
  have e : ∀ c j, k ≤ c → c < k + 8 → rd M' c j = rd M c j := fun c j h1 h2 => hk c j (hs c j h1 h2)
  exact ⟨e _ _ (by omega) (by omega), last_eq (e _ _ (by omega) (by omega)) (fun j _ => e _ _ (by omega) (by omega)), lastg_eq (e _ _ (by omega) (by omega)) (fun j _ => e _ _ (by omega) (by omega)), e _ _ (by omega) (by omega), e _ _ (by omega) (by omega), e _ _ (by omega) (by omega)⟩
theorem pc_goesOn : Pc (mX1_goesOnLike k k' M) (fun r => ¬ r = 0 → GL k M k' M) := by
  unfold mX1_goesOnLike
  have no : Pc (some (0 : Int32)) (fun r => ¬ r = 0 → GL k M k' M) := Pc.ok (fun z => absurd rfl z)
  refine Pc.i (fun c1 => ?_) (fun _ => no)
  refine Pc.c (Pc.self _) (fun r3 e3 => Pc.c (Pc.self _) (fun r6 e6 => Pc.i (fun c2 => ?_) (fun _ => no)))
  refine Pc.c (Pc.self _) (fun r10 e10 => Pc.c (Pc.self _) (fun r13 e13 => Pc.i (fun c3 => ?_) (fun _ => no)))
  refine Pc.i (fun c4 => Pc.i (fun c5 => Pc.i (fun c6 => Pc.ok (fun _ => ?_)) (fun _ => no)) (fun _ => no)) (fun _ => no)
  subst c2
  subst c3
  exact ⟨c1.symm, e6.trans e3.symm, e13.trans e10.symm, c4.symm, c5.symm, c6.symm⟩
theorem pc_bendsL : Pc (mX1_bendsLike k k' M) (fun r => ¬ r = 0 → BL k M k' M) := by
  unfold mX1_bendsLike
  have no : Pc (some (0 : Int32)) (fun r => ¬ r = 0 → BL k M k' M) := Pc.ok (fun z => absurd rfl z)
  refine Pc.i (fun c1 => Pc.i (fun c2 => ?_) (fun _ => no)) (fun _ => no)
  have l65 : ∀ (fuel i : Nat), i ≤ 10 → (∀ j, j < i → rd M (k' + 2) j = rd M (k + 2) j) → Pc (mX1_bendsLike_l65 k k' M fuel (Int32.ofNat i)) (fun r => ¬ r = 0 → ∀ j, j < 10 → rd M (k' + 2) j = rd M (k + 2) j) := by
    intro fuel
    induction fuel with
    | zero => intro i _ _ q e; cases e
    | succ fuel IH =>
      intro i hi h
      show Pc (mX1_bendsLike_b65 k k' M (mX1_bendsLike_l65 k k' M fuel) (Int32.ofNat i)) _
      unfold mX1_bendsLike_b65
      have ti : (Int32.ofNat i).toInt = (i : Int) := t_of (by omega)
      have n10 : ((10 : Int32)).toInt = 10 := rfl
      refine Pc.i (fun c1 => Pc.ok (fun _ => ?_)) (fun c1 => Pc.k (fun _ => Pc.k (fun _ => Pc.i (fun c2 => ?_) (fun _ => Pc.ok (fun z => absurd rfl z)))))
      · have c1 := i_le.mp c1
        have e : i = 10 := by omega
        subst e; exact h
      · have c1 := i_nle c1
        rw [c_of (by omega)] at c2
        refine Pc.b (fun x ex => ?_)
        have e : x = Int32.ofNat (i + 1) := by rw [ex]; exact (Int32.ofNat_add i 1).symm
        rw [e]
        refine IH (i + 1) (by omega) (fun j hj => ?_)
        by_cases q : j = i
        · subst q; exact c2.symm
        · exact h j (by omega)
  have l26 : ∀ (fuel i : Nat), i ≤ 9 → (∀ j : Nat, j < i → (j : Int) < (rd M k 0).toInt → rd M (k' + 1) j = rd M (k + 1) j) → Pc (mX1_bendsLike_l26 k k' M fuel (Int32.ofNat i)) (fun r => ¬ r = 0 → BL k M k' M) := by
    intro fuel
    induction fuel with
    | zero => intro i _ _ q e; cases e
    | succ fuel IH =>
      intro i hi h
      show Pc (mX1_bendsLike_b26 k k' M (mX1_bendsLike_l26 k k' M fuel) (Int32.ofNat i)) _
      unfold mX1_bendsLike_b26
      have ti : (Int32.ofNat i).toInt = (i : Int) := t_of (by omega)
      have n9 : ((9 : Int32)).toInt = 9 := rfl
      have fin : (∀ j : Nat, j < 9 → (j : Int) < (rd M k 0).toInt → rd M (k' + 1) j = rd M (k + 1) j) → Pc (mX1_bendsLike_b63 k k' M) (fun r => ¬ r = 0 → BL k M k' M) := by
        intro hl
        unfold mX1_bendsLike_b63
        exact (l65 5000 0 (by omega) (fun j hj => by omega)).mono (fun r h2 hr => ⟨c1.symm, c2.symm, hl, h2 hr⟩)
      refine Pc.i (fun c1 => fin (fun j h9 hj => h j ?_ hj)) (fun c1 => Pc.i (fun c2 => fin (fun j h9 hj => h j ?_ hj)) (fun c2 => Pc.k (fun _ => Pc.k (fun _ => Pc.i (fun c3 => ?_) (fun _ => Pc.ok (fun z => absurd rfl z))))))
      · have c1 := i_le.mp c1
        omega
      · have c2 := i_le.mp c2
        omega
      · have c2 := i_nle c2
        rw [c_of (by omega)] at c3
        refine Pc.b (fun x ex => ?_)
        have e : x = Int32.ofNat (i + 1) := by rw [ex]; exact (Int32.ofNat_add i 1).symm
        rw [e]
        refine IH (i + 1) (by omega) (fun j hj hl => ?_)
        by_cases q : j = i
        · subst q; exact c3.symm
        · exact h j (by omega) hl
  exact l26 5000 0 (by omega) (fun j hj => by omega)
theorem pc_forget : Pc (mX3_forgetSteps 110 M) (fun q => KS (fun c _ => c = 127) M q.1 ∧ ∀ j, j < 256 → rd q.1 (110 + 17) j = -1) := by
  have key : ∀ (fuel i : Nat) (M1 : Mem), i ≤ 256 → KS (fun c _ => c = 127) M M1 → (∀ j, j < i → rd M1 (110 + 17) j = -1) → Pc (mX3_forgetSteps_l2 110 fuel (Int32.ofNat i) M1) (fun q => KS (fun c _ => c = 127) M q.1 ∧ ∀ j, j < 256 → rd q.1 (110 + 17) j = -1) := by
    intro fuel
    induction fuel with
    | zero => intro i _ _ _ _ q e; cases e
    | succ fuel IH =>
      intro i M1 hi hk h
      show Pc (mX3_forgetSteps_b2 110 (mX3_forgetSteps_l2 110 fuel) (Int32.ofNat i) M1) _
      unfold mX3_forgetSteps_b2
      have ti : (Int32.ofNat i).toInt = (i : Int) := t_of (by omega)
      have n256 : ((256 : Int32)).toInt = 256 := rfl
      refine Pc.i (fun c1 => Pc.ok ⟨hk, ?_⟩) (fun c1 => Pc.k (fun _ => Pc.b (fun M4 e4 => Pc.b (fun x ex => ?_))))
      · have c1 := i_le.mp c1
        have e : i = 256 := by omega
        subst e; exact h
      · have c1 := i_nle c1
        rw [c_of (by omega)] at e4
        have e : x = Int32.ofNat (i + 1) := by rw [ex]; exact (Int32.ofNat_add i 1).symm
        rw [e]
        subst e4
        refine IH (i + 1) _ (by omega) (hk.wr rfl) (fun j hj => ?_)
        by_cases q : j = i
        · subst q; exact rd_we
        · rw [rd_wj q]; exact h j (by omega)
  exact key 5000 0 M (by omega) KS.rf (fun j hj => by omega)
/-- what reaching the states writes -/
def SPr (c j : Nat) : Prop := (c = 110 ∧ j = 6) ∨ (112 ≤ c ∧ c ≤ 128) ∨ c = 130
theorem reach_b15 (k8 : k + 8 ≤ 110) (h9 : (rd M k 0).toInt ≤ 9) (hm : rd M k 13 = Int32.ofNat m) (hm2 : m < 2 ^ nb k M) (hT : TabK k M) : Pc (mX3_reachSets_b15 110 k M) (fun q => KS SPr M q.1 ∧ LI k m q.1 256 ∧ BL k M 119 q.1 ∧ GL k M 119 q.1 ∧ rd q.1 110 6 = 0) := by
  have n8 := nb8 h9
  have m256 := n_256 n8 hm2
  unfold mX3_reachSets_b15
  refine Pc.m (pc_copyFrom (k := 119) (k' := k) (M := M) (Or.inr (by omega))) (fun M7 _ p => Pc.b (fun M8 e8 => ?_))
  obtain ⟨c0, c1, c2, c3, c4⟩ := p
  have c4 : KS (fun c _ => 119 ≤ c ∧ c < 119 + 8) M M7 := c4
  have k8' : KS (fun c j => (119 ≤ c ∧ c < 119 + 8) ∨ (c = 110 ∧ j = 6)) M M8 := by rw [e8]; exact (c4.mono (fun c j h => Or.inl h)).wr (Or.inr ⟨rfl, rfl⟩)
  have hb8 : BL k M k M8 := BL.ks k8' (fun c j h1 h2 z => by omega)
  have e119 : ∀ c j, 119 ≤ c → c < 127 → rd M8 c j = rd M7 c j := fun c j h1 h2 => by rw [e8]; exact rd_wk (by omega)
  have b119 : BL k M 119 M8 := ⟨(e119 _ _ (by omega) (by omega)).trans (c0 0 (by omega) (by omega) (by omega) (by omega) (by omega)), (e119 _ _ (by omega) (by omega)).trans (c0 2 (by omega) (by omega) (by omega) (by omega) (by omega)), fun j h9 _ => (e119 _ _ (by omega) (by omega)).trans (c1 j h9), fun j hj => (e119 _ _ (by omega) (by omega)).trans (c2 j hj)⟩
  have g119 : GL k M 119 M8 := by
    refine ⟨(e119 _ _ (by omega) (by omega)).trans (c0 13 (by omega) (by omega) (by omega) (by omega) (by omega)), last_eq ((e119 _ _ (by omega) (by omega)).trans (c0 14 (by omega) (by omega) (by omega) (by omega) (by omega))) (fun j hj => (e119 _ _ (by omega) (by omega)).trans (c3 j hj).2.2.1), lastg_eq ((e119 _ _ (by omega) (by omega)).trans (c0 14 (by omega) (by omega) (by omega) (by omega) (by omega))) (fun j hj => (e119 _ _ (by omega) (by omega)).trans (c3 j hj).2.2.2.1), ?_, ?_, ?_⟩
    · exact (e119 _ _ (by omega) (by omega)).trans (c0 7 (by omega) (by omega) (by omega) (by omega) (by omega))
    · exact (e119 _ _ (by omega) (by omega)).trans (c0 8 (by omega) (by omega) (by omega) (by omega) (by omega))
    · exact (e119 _ _ (by omega) (by omega)).trans (c0 9 (by omega) (by omega) (by omega) (by omega) (by omega))
  have T8 : TabK k M8 := hT.bl hb8 (fun a => k8' _ _ (by omega)) (fun j => k8' _ _ (by omega))
  have m8 : rd M8 k 13 = Int32.ofNat m := (k8' _ _ (by omega)).trans hm
  have z8 : rd M8 110 6 = 0 := by rw [e8]; exact rd_we
  refine rs_init (M0 := M8) m8 m256 (by omega) (fun M9 k9 h9' => ?_) 5000 0 M8 (by omega) KS.rf (fun b hb => by omega)
  have hb9 : BL k M8 k M9 := BL.ks k9 (fun c j h1 h2 z => by omega)
  have en : nb k M9 = nb k M := hb9.bn.trans hb8.bn
  have hL : LI k m M9 m := by
    refine ⟨T8.bl hb9 (fun a => k9 _ _ (by omega)) (fun j => k9 _ _ (by omega)), (h9' m m256).mpr rfl, fun b hb hr => ?_, fun b hb h2 hr => ?_, fun b hb hr => Or.inl ((h9' b hb).mp hr)⟩
    · rw [(h9' b hb).mp hr, en]
      exact ⟨hm2, Nat.and_self m⟩
    · have := (h9' b h2).mp hr
      omega
  refine (rs_out (M0 := M9) (by rw [en]; exact n8) (by rw [hb9.1, hb8.1]; exact h9) (by omega) 5000 m M9 (by omega) KS.rf hL).mono (fun q h => ?_)
  have kq : KS SRc M9 q.1 := h.1
  have kx : KS (fun c j => c = 128 ∨ SRc c j) M8 q.1 := (k9.mono (fun c j h => Or.inl h)).trans (kq.mono (fun c j h => Or.inr h))
  refine ⟨?_, h.2, b119.tr (BL.ks kx (fun c j h1 h2 z => by unfold SRc SPs at z; omega)), g119.tr (GL.ks kx (fun c j h1 h2 z => by unfold SRc SPs at z; omega)), (kx _ _ (by unfold SRc SPs; omega)).trans z8⟩
  refine (k8'.mono (fun c j h => ?_)).trans (kx.mono (fun c j h => ?_))
  · unfold SPr; omega
  · unfold SRc SPs at h
    unfold SPr; omega
theorem pc_reachSets (k8 : k + 8 ≤ 110) (h9 : (rd M k 0).toInt ≤ 9) (hm : rd M k 13 = Int32.ofNat m) (hm2 : m < 2 ^ nb k M) (hT : TabK 119 M) : Pc (mX3_reachSets 110 k M) (fun q => KS SPr M q.1 ∧ LI k m q.1 256 ∧ BL k M 119 q.1 ∧ GL k M 119 q.1 ∧ rd q.1 110 6 = 0) := by
  unfold mX3_reachSets
  refine Pc.c pc_bendsL (fun r2 p2 => Pc.i (fun c => ?_) (fun c => ?_))
  · refine Pc.m pc_forget (fun M45 _ p => ?_)
    obtain ⟨kf, hf⟩ := p
    have kf : KS (fun c _ => c = 127) M M45 := kf
    have hb : BL k M k M45 := BL.ks kf (fun c j h1 h2 z => by omega)
    have hg : GL k M k M45 := GL.ks kf (fun c j h1 h2 z => by omega)
    have n8 := nb8 h9
    refine (reach_b15 (m := m) k8 (by rw [hb.1]; exact h9) (by rw [hg.1]; exact hm) (by rw [hb.bn]; exact hm2) (fun a ha hw => absurd (hf a (n_256 (by rw [hb.bn]; exact n8) ha)) hw)).mono (fun q h => ?_)
    exact ⟨(kf.mono (fun c j h => by unfold SPr; omega)).trans h.1, h.2.1, hb.tr h.2.2.1, hg.tr h.2.2.2.1, h.2.2.2.2⟩
  · exact reach_b15 k8 h9 hm hm2 (hT.bl (p2 c).sy (fun _ => rfl) (fun _ => rfl))
end LK
