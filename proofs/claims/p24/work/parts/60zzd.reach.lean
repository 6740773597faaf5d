/-! which states can be come to -/
def RS (o : Nat → Nat → Bool) (r : Nat → Prop) (m : Nat) : Prop := r m ∧ (∀ b c, b < 256 → c < 16 → r b → o b c = true → r (b ||| 2 ^ (c / 2))) ∧ (∀ b, b < 256 → r b → b = m ∨ ∃ b' c, b' < b ∧ c < 16 ∧ r b' ∧ o b' c = true ∧ b = b' ||| 2 ^ (c / 2))
def rc (M : Mem) (b : Nat) : Prop := ¬ rd M (110 + 18) b = 0
def SRc (c j : Nat) : Prop := SPs 112 c j ∨ c = 127 ∨ c = 128 ∨ c = 130
def LI (k m : Nat) (M : Mem) (a : Nat) : Prop := TabK k M ∧ rc M m ∧ (∀ b, b < 256 → rc M b → b < 2 ^ nb k M ∧ b &&& m = m) ∧ (∀ b, b < a → b < 256 → rc M b → ¬ rd M (110 + 17) b = -1 ∧ ∀ c, c < 16 → op M b c = true → rc M (b ||| 2 ^ (c / 2))) ∧ (∀ b, b < 256 → rc M b → b = m ∨ ∃ b' c, b' < a ∧ b' < b ∧ c < 16 ∧ rc M b' ∧ op M b' c = true ∧ b = b' ||| 2 ^ (c / 2))
def LJ (k m : Nat) (M : Mem) (a c : Nat) : Prop := TabK k M ∧ rc M m ∧ (∀ b, b < 256 → rc M b → b < 2 ^ nb k M ∧ b &&& m = m) ∧ (∀ b, b < a → b < 256 → rc M b → ¬ rd M (110 + 17) b = -1 ∧ ∀ c, c < 16 → op M b c = true → rc M (b ||| 2 ^ (c / 2))) ∧ (rc M a → ¬ rd M (110 + 17) a = -1 ∧ ∀ c', c' < c → c' < 16 → op M a c' = true → rc M (a ||| 2 ^ (c' / 2))) ∧ (∀ b, b < 256 → rc M b → b = m ∨ ∃ b' c, b' < a + 1 ∧ b' < b ∧ c < 16 ∧ rc M b' ∧ op M b' c = true ∧ b = b' ||| 2 ^ (c / 2))
section RE
variable {k m : Nat} {M M0 : Mem} {a c : Nat} {P : Mem × Unit → Prop}
theorem rc_w {x b : Nat} : rc (wr M (110 + 18) x 1) b ↔ b = x ∨ rc M b := by
  unfold rc
  by_cases e : b = x
  · subst e
    rw [rd_we]
    exact ⟨fun _ => Or.inl rfl, fun _ => by decide⟩
  · rw [rd_wj e]
    exact ⟨fun h => Or.inr h, fun h => h.resolve_left e⟩
theorem LJ.end_ (h : LJ k m M a 16) : LI k m M (a + 1) := by
  refine ⟨h.1, h.2.1, h.2.2.1, fun b hb h2 hr => ?_, h.2.2.2.2.2⟩
  by_cases e : b = a
  · subst e
    have q := h.2.2.2.2.1 hr
    exact ⟨q.1, fun c hc ho => q.2 c hc hc ho⟩
  · exact h.2.2.2.1 b (by omega) h2 hr
theorem LJ.nx (h : LJ k m M a c) (hq : rc M a → op M a c = true → rc M (a ||| 2 ^ (c / 2))) : LJ k m M a (c + 1) := by
  refine ⟨h.1, h.2.1, h.2.2.1, h.2.2.2.1, fun hr => ⟨(h.2.2.2.2.1 hr).1, fun c' hc' h16 ho => ?_⟩, h.2.2.2.2.2⟩
  by_cases e : c' = c
  · subst e; exact hq hr ho
  · exact (h.2.2.2.2.1 hr).2 c' (by omega) h16 ho
/-- a step that leads on -/
theorem LJ.put (n8 : nb k M ≤ 8) (k8 : k + 8 ≤ 112) (ha : a < 256) (hc : c < 16) (h : LJ k m M a c) (hr : rc M a) (ho : op M a c = true) : (a ||| 2 ^ (c / 2)) < 256 ∧ LJ k m (wr M (110 + 18) (a ||| 2 ^ (c / 2)) 1) a (c + 1) := by
  have hn := h.2.2.1 a ha hr
  have hT := h.1 a hn.1 (h.2.2.2.2.1 hr).1
  have hc2 : c < 2 * nb k M := by
    by_cases q : c < 2 * nb k M
    · exact q
    · exact absurd (hT.2 c (by omega)) (by unfold op at ho; rw [ho]; decide)
  have hb := ((hT.1 c hc2).1 ho).2.2
  have hz := z_set (nb k M) (by omega) a hn.1 (c / 2) (by omega) hb
  have h256 := n_256 n8 hz.2.2.1
  have hbl : BL k M k (wr M (110 + 18) (a ||| 2 ^ (c / 2)) 1) := BL.ks (S := fun c _ => c = 128) (KS.rf.wr rfl) (fun c j h1 h2 z => by omega)
  have e17 : ∀ b, rd (wr M (110 + 18) (a ||| 2 ^ (c / 2)) 1) (110 + 17) b = rd M (110 + 17) b := fun b => rd_wk (by decide)
  have eop : ∀ b c', op (wr M (110 + 18) (a ||| 2 ^ (c / 2)) 1) b c' = op M b c' := fun b c' => by unfold op; rw [e17]
  refine ⟨h256, h.1.bl hbl e17 (fun _ => rd_wk (by decide)), rc_w.mpr (Or.inr h.2.1), fun b h2 hr' => ?_, fun b hb' h2 hr' => ?_, fun hr' => ?_, fun b h2 hr' => ?_⟩
  · rw [hbl.bn]
    rcases rc_w.mp hr' with e | hr'
    · subst e
      exact ⟨hz.2.2.1, z_sup hn.2⟩
    · exact h.2.2.1 b h2 hr'
  · rcases rc_w.mp hr' with e | hr'
    · omega
    · have q := h.2.2.2.1 b hb' h2 hr'
      rw [e17]
      refine ⟨q.1, fun c' hc' ho' => ?_⟩
      rw [eop] at ho'
      exact rc_w.mpr (Or.inr (q.2 c' hc' ho'))
  · have q := h.2.2.2.2.1 hr
    rw [e17]
    refine ⟨q.1, fun c' hc' h16 ho' => ?_⟩
    rw [eop] at ho'
    by_cases e : c' = c
    · subst e; exact rc_w.mpr (Or.inl rfl)
    · exact rc_w.mpr (Or.inr (q.2 c' (by omega) h16 ho'))
  · rcases rc_w.mp hr' with e | hr'
    · exact Or.inr ⟨a, c, by omega, by omega, hc, rc_w.mpr (Or.inr hr), by rw [eop]; exact ho, e⟩
    · rcases h.2.2.2.2.2 b h2 hr' with e | ⟨b', c', q1, q2, q3, q4, q5, q6⟩
      · exact Or.inl e
      · exact Or.inr ⟨b', c', q1, q2, q3, rc_w.mpr (Or.inr q4), by rw [eop]; exact q5, q6⟩
theorem rs_in (n8 : nb k M0 ≤ 8) (k8 : k + 8 ≤ 112) (ha : a < 256) {ih67 : Int32 → Mem → Option (Mem × Unit)} (H : ∀ M, KS SRc M0 M → LI k m M (a + 1) → Pc (ih67 (Int32.ofNat (a + 1)) M) P) : ∀ (fuel c : Nat) (M : Mem), c ≤ 16 → KS SRc M0 M → LJ k m M a c → Pc (mX3_reachSets_l107 110 k ih67 fuel (Int32.ofNat a) (Int32.ofNat c) M) P := by
  intro fuel
  induction fuel with
  | zero => intro c M _ _ _ q e; cases e
  | succ fuel IH =>
    intro c M hc hk h
    have hbl : BL k M0 k M := BL.ks hk (fun c j h1 h2 z => by unfold SRc SPs at z; omega)
    show Pc (mX3_reachSets_b107 110 k ih67 (mX3_reachSets_l107 110 k ih67 fuel) (Int32.ofNat a) (Int32.ofNat c) M) _
    unfold mX3_reachSets_b107
    have tc : (Int32.ofNat c).toInt = (c : Int) := t_of (by omega)
    have n16 : ((16 : Int32)).toInt = 16 := rfl
    have ca : (Int32.ofNat a).toNatClampNeg = a := c_of (by omega)
    refine Pc.i (fun c1 => ?_) (fun c1 => ?_)
    · have c1 := i_le.mp c1
      have e : c = 16 := by omega
      subst e
      refine Pc.b (fun x ex => ?_)
      have e : x = Int32.ofNat (a + 1) := by rw [ex]; exact (Int32.ofNat_add a 1).symm
      rw [e]
      exact H M hk h.end_
    · have c1 := i_nle c1
      have hc16 : c < 16 := by omega
      have next : ∀ M', KS SRc M0 M' → LJ k m M' a (c + 1) → Pc (mX3_reachSets_b142 110 k ih67 (mX3_reachSets_l107 110 k ih67 fuel) (Int32.ofNat a) (Int32.ofNat c) M') P := by
        intro M' hk' h'
        unfold mX3_reachSets_b142
        refine Pc.b (fun x ex => ?_)
        have e : x = Int32.ofNat (c + 1) := by rw [ex]; exact (Int32.ofNat_add c 1).symm
        rw [e]
        exact IH (c + 1) M' (by omega) hk' h'
      rw [ca, pc_isOpen ha hc16, pc_setBehind ha hc16]
      refine Pc.k (fun _ => Pc.i (fun c2 => next M hk (h.nx (fun z => absurd c2 z))) (fun c2 => ?_))
      refine Pc.c (Pc.ok (P := fun r => r = if op M a c = true then 1 else 0) rfl) (fun r21 e21 => Pc.i (fun c3 => next M hk (h.nx (fun _ z => ?_))) (fun c3 => ?_))
      · rw [if_pos z] at e21
        rw [e21] at c3; exact absurd c3 (by decide)
      · have ho : op M a c = true := by
          by_cases q : op M a c = true
          · exact q
          · rw [if_neg q] at e21; exact absurd e21 c3
        have q := h.put (by rw [hbl.bn]; exact n8) k8 ha hc16 c2 ho
        refine Pc.c (Pc.ok (P := fun r => r = Int32.ofNat (a ||| 2 ^ (c / 2))) rfl) (fun r25 e25 => Pc.k (fun _ => Pc.b (fun M29 e29 => ?_)))
        rw [e25, c_of (by omega), show vp_nar .boolean (1 : Int32) = 1 from by decide] at e29
        subst e29
        exact next _ (hk.wr (Or.inr (Or.inr (Or.inl rfl)))) q.2
theorem rs_out (n8 : nb k M0 ≤ 8) (h9 : (rd M0 k 0).toInt ≤ 9) (k8 : k + 8 ≤ 112) : ∀ (fuel a : Nat) (M : Mem), a ≤ 256 → KS SRc M0 M → LI k m M a → Pc (mX3_reachSets_l67 110 k fuel (Int32.ofNat a) M) (fun q => KS SRc M0 q.1 ∧ LI k m q.1 256) := by
  intro fuel
  induction fuel with
  | zero => intro a M _ _ _ q e; cases e
  | succ fuel IH =>
    intro a M ha hk h
    have hbl : BL k M0 k M := BL.ks hk (fun c j h1 h2 z => by unfold SRc SPs at z; omega)
    show Pc (mX3_reachSets_b67 110 k (mX3_reachSets_l67 110 k fuel) (Int32.ofNat a) M) _
    unfold mX3_reachSets_b67
    have ta : (Int32.ofNat a).toInt = (a : Int) := t_of (by omega)
    have n256 : ((256 : Int32)).toInt = 256 := rfl
    have ca : (Int32.ofNat a).toNatClampNeg = a := c_of (by omega)
    refine Pc.i (fun c1 => ?_) (fun c1 => ?_)
    · have c1 := i_le.mp c1
      have e : a = 256 := by omega
      subst e
      exact Pc.ok ⟨hk, h⟩
    · have c1 := i_nle c1
      have ha2 : a < 256 := by omega
      rw [ca]
      have go : ∀ M', KS SRc M0 M' → LJ k m M' a 0 → Pc (mX3_reachSets_b105 110 k (mX3_reachSets_l67 110 k fuel) (Int32.ofNat a) M') (fun q => KS SRc M0 q.1 ∧ LI k m q.1 256) := fun M' hk' h' => by
        unfold mX3_reachSets_b105
        exact rs_in n8 k8 ha2 (fun M2 hk2 h2 => IH (a + 1) M2 (by omega) hk2 h2) 5000 0 M' (by omega) hk' h'
      have so : ∀ b, b < 256 → rc M b → b = m ∨ ∃ b' c, b' < a + 1 ∧ b' < b ∧ c < 16 ∧ rc M b' ∧ op M b' c = true ∧ b = b' ||| 2 ^ (c / 2) := fun b hb hr => by
        rcases h.2.2.2.2 b hb hr with e | ⟨b', c', q1, q⟩
        · exact Or.inl e
        · exact Or.inr ⟨b', c', by omega, q⟩
      refine Pc.k (fun _ => Pc.i (fun c2 => go M hk ⟨h.1, h.2.1, h.2.2.1, h.2.2.2.1, fun z => absurd c2 z, so⟩) (fun c2 => Pc.k (fun _ => Pc.i (fun c3 => ?_) (fun c3 => go M hk ⟨h.1, h.2.1, h.2.2.1, h.2.2.2.1, fun _ => ⟨c3, fun c' hc' => by omega⟩, so⟩))))
      have hn := h.2.2.1 a ha2 c2
      refine Pc.m (pc_findSteps k8 (by rw [hbl.1]; exact h9) hn.1) (fun M34 r33 p => Pc.k (fun _ => Pc.b (fun M37 e37 => ?_)))
      obtain ⟨kf, hT⟩ := p
      have kf : KS (SFs a) M M34 := kf
      have hT : Tb k M r33 (fun c => rd M34 (110 + 20) (16 * a + c)) a := hT
      subst e37
      have kq : KS (fun c j => SFs a c j ∨ (c = 127 ∧ j = a)) M (wr M34 (110 + 17) a r33) := (kf.mono (fun c j h => Or.inl h)).wr (Or.inr ⟨rfl, rfl⟩)
      have bq : BL k M k (wr M34 (110 + 17) a r33) := BL.ks kq (fun c j h1 h2 z => by unfold SFs SPs at z; omega)
      have rq : ∀ b, rc (wr M34 (110 + 17) a r33) b ↔ rc M b := fun b => by
        unfold rc
        rw [kq _ _ (by unfold SFs SPs; omega)]
      have e17 : ∀ b, ¬ b = a → rd (wr M34 (110 + 17) a r33) (110 + 17) b = rd M (110 + 17) b := fun b hb => kq _ _ (by unfold SFs SPs; omega)
      have oq : ∀ b c, ¬ b = a → op (wr M34 (110 + 17) a r33) b c = op M b c := fun b c hb => by unfold op; rw [e17 b hb]
      refine go _ (hk.trans (kq.mono (fun c j h => ?_))) ⟨fun b hb hw => ?_, (rq m).mpr h.2.1, fun b hb hr => ?_, fun b hb hb2 hr => ?_, fun _ => ⟨?_, fun c' hc' => by omega⟩, fun b hb hr => ?_⟩
      · unfold SFs SPs at h
        unfold SRc SPs
        omega
      · rw [bq.bn] at hb
        by_cases e : b = a
        · subst e
          rw [rd_we]
          exact (hT.bl bq).gs (fun c _ => rd_wk (by decide))
        · rw [e17 b e] at hw ⊢
          refine ((h.1 b hb hw).bl bq).gs (fun c hc => kq _ _ ?_)
          rw [bq.bn] at hc
          have n8' := hbl.bn
          unfold SFs SPs; omega
      · rw [bq.bn]
        exact h.2.2.1 b hb ((rq b).mp hr)
      · have q := h.2.2.2.1 b hb hb2 ((rq b).mp hr)
        rw [e17 b (by omega)]
        refine ⟨q.1, fun c' hc' ho => (rq _).mpr (q.2 c' hc' ?_)⟩
        rw [oq b c' (by omega)] at ho; exact ho
      · rw [rd_we]; exact hT.ne (by rw [hbl.bn]; exact n8)
      · rcases h.2.2.2.2 b hb ((rq b).mp hr) with e | ⟨b', c', q1, q2, q3, q4, q5, q6⟩
        · exact Or.inl e
        · exact Or.inr ⟨b', c', by omega, q2, q3, (rq b').mpr q4, by rw [oq b' c' (by omega)]; exact q5, q6⟩
/-- at the begin one state alone is come to -/
theorem rs_init (hm : rd M0 k 13 = Int32.ofNat m) (m256 : m < 256) (k8 : k + 8 ≤ 112) (H : ∀ M, KS (fun c _ => c = 128) M0 M → (∀ b, b < 256 → (rc M b ↔ b = m)) → Pc (mX3_reachSets_l67 110 k 5000 (Int32.ofNat m) M) P) : ∀ (fuel i : Nat) (M : Mem), i ≤ 256 → KS (fun c _ => c = 128) M0 M → (∀ b, b < i → (rc M b ↔ b = m)) → Pc (mX3_reachSets_l30 110 k fuel (Int32.ofNat i) M) P := by
  intro fuel
  induction fuel with
  | zero => intro i M _ _ _ q e; cases e
  | succ fuel IH =>
    intro i M hi hk h
    show Pc (mX3_reachSets_b30 110 k (mX3_reachSets_l30 110 k fuel) (Int32.ofNat i) M) _
    unfold mX3_reachSets_b30
    have ti : (Int32.ofNat i).toInt = (i : Int) := t_of (by omega)
    have n256 : ((256 : Int32)).toInt = 256 := rfl
    have ci : (Int32.ofNat i).toNatClampNeg = i := c_of (by omega)
    have em : rd M k 13 = Int32.ofNat m := (hk k 13 (by omega)).trans hm
    rw [em]
    have put : ∀ v : Int32, (v = 0 ∨ v = 1) → (i < 256) → (¬ v = 0 ↔ i = m) → Pc (mX3_reachSets_b55 110 k (mX3_reachSets_l30 110 k fuel) (Int32.ofNat i) (Int32.ofNat i) v M) P := by
      intro v hv hi2 hvm
      unfold mX3_reachSets_b55
      have ev : vp_nar .boolean v = v := by rcases hv with rfl | rfl <;> decide
      rw [ci, ev]
      refine Pc.k (fun _ => Pc.b (fun M1 e1 => Pc.b (fun x ex => ?_)))
      have e : x = Int32.ofNat (i + 1) := by rw [ex]; exact (Int32.ofNat_add i 1).symm
      rw [e]
      subst e1
      refine IH (i + 1) _ (by omega) (hk.wr rfl) (fun b hb => ?_)
      unfold rc
      by_cases q : b = i
      · subst q; rw [rd_we]; exact hvm
      · rw [rd_wj q]; exact h b (by omega)
    refine Pc.i (fun c1 => ?_) (fun c1 => ?_)
    · have c1 := i_le.mp c1
      have e : i = 256 := by omega
      subst e
      exact Pc.b (fun x ex => by subst ex; exact H M hk h)
    · have c1 := i_nle c1
      refine Pc.i (fun c2 => put 1 (Or.inr rfl) (by omega) ⟨fun _ => o_inj (by omega) (by omega) c2, fun _ => by decide⟩) (fun c2 => put 0 (Or.inl rfl) (by omega) ⟨fun z => absurd rfl z, fun z => absurd (by rw [z]) c2⟩)
end RE
