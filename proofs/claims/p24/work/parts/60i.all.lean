/-! the statements one by one -/
section AS
variable {M N M0 N0 : Mem} {f : Nat → Int32} {w n i : Nat} {α β : Type}
theorem adv_cg {x : Option α} {R : α → β → Prop} {k k' : Mem → Int32 → Option β} (h : ∀ N', KS SN N N' → k N' 1 = k' N' 1) (hx : R2 x (cal (mX7_advance 135 N) k') R) : R2 x (cal (mX7_advance 135 N) k) R := by
  intro a b ha hb
  obtain ⟨N', r, e1, e2⟩ := cal_s hb
  have er : r = 1 := o_adv _ e1
  subst er
  have hf : KS SN N N' := fr_adv.pc _ e1
  refine hx a b ha ?_
  rw [e1]
  show k' N' 1 = some b
  rw [← h N' hf]; exact e2
theorem adv_1 {x : Option α} {R : α → β → Prop} {A : Mem → Int32 → Option β} {B : Mem → Option β} (hx : R2 x (cal (mX7_advance 135 N) (fun M _ => B M)) R) : R2 x (cal (mX7_advance 135 N) (fun M r => ite2 (r = 0) (A M r) (B M))) R := adv_cg (k' := fun M _ => B M) (fun _ _ => if_neg (by decide)) hx
theorem alw0 {k : Nat} : Alw w 0 k M ↔ ((wF0.getD w 0).toInt ≤ (rd M 2 7).toInt ∧ (rd M 2 7).toInt ≤ (wF1.getD w 0).toInt) ∧ (w = 4 → LB k M < (rd M 2 7).toInt) := by
  unfold Alw; rw [if_pos rfl]
theorem alw1 {k : Nat} : Alw w 1 k M ↔ (0 ≤ (rd M 2 7).toInt ∧ (rd M 2 7).toInt ≤ (wF2.getD w 0).toInt) ∧ (w = 8 → (rd M 3 0).toInt ≤ (rd M 2 7).toInt) := by
  unfold Alw; rw [if_neg (by decide), if_pos rfl]
theorem alw2 {k : Nat} : Alw w 2 k M ↔ (0 ≤ (rd M 2 7).toInt ∧ (rd M 2 7).toInt ≤ (wF3.getD w 0).toInt) ∧ (w = 8 → (rd M 3 0).toInt ≤ (rd M 2 7).toInt) := by
  unfold Alw; rw [if_neg (by decide), if_neg (by decide)]
theorem BX.put3 {j : Nat} {v : Int32} (h : BX f M N) : BX f (wr M 3 j v) N := by
  refine ⟨⟨h.nx.rt.lw ⟨by decide, fun q => absurd q (by decide)⟩, ?_, h.nx.b0, h.nx.b2⟩, h.pr.mem (fun c j h1 h2 => rd_wk (by omega)), ?_, h.n0, ?_⟩
  · rw [rd_wk (by decide)]; exact h.nx.nx
  · rw [rd_wk (by decide)]; exact h.k0
  · rw [rd_wk (by decide)]; exact h.pp
/-- a number's place: from the token ahead of it to its own -/
theorem numX {idx lo hi : Int32} {j : Nat} {K : Mem → Int32 → Option (Mem × Int32)} (hw : w < 11) (hic : i < cntW w) (h : BX f M N)
    (hal : ∀ M' N', BX f M' N' → (∀ q, q ≠ i → rd M' 3 q = rd M 3 q) → rd M' 2 7 = rd N' 135 14 → (Alw w i 13 M' ↔ lo.toInt ≤ (rd N' 135 14).toInt ∧ (rd N' 135 14).toInt ≤ hi.toInt))
    (hj : idx.toInt = (j : Int)) (hK : ∀ M1, Pc (K M1 0) (fun q => q = (M1, 0)))
    (hk : ∀ n' M1 N1 v, BX f M1 N1 → (lo.toInt ≤ v.toInt ∧ v.toInt ≤ hi.toInt) → rd M1 3 i = v → (∀ q, q ≠ i → rd M1 3 q = rd M 3 q) → row 137 N1 = upf (row 137 N) j v → R2 (mX4_readStatement_l55v1 2 13 w n' 0 (Int32.ofNat (i + 1)) M1) (cal (mX7_advance 135 N1) (fun M11 r10 => K M11 r10)) SRel) :
    R2 (mX4_readStatement_l55v1 2 13 w n 0 (Int32.ofNat i) M) (cal (mX7_advance 135 N) (fun M3 _ => cal (mX7_number 135 idx lo hi M3) K)) SRel := by
  refine step_n hw hic (fun n' M' e' => ?_)
  have hB' : BX f M' N := by rw [e']; exact h.put3
  have h3 : i < 3 := by have := cntW_le (w := w); omega
  refine adv2 hB' (fun M55 N3 hT hB kM kN => ?_)
  have q55 : ∀ q, q ≠ i → rd M55 3 q = rd M 3 q := fun q hq => by
    rw [kM 3 q (fun z => absurd z.1 (by decide)), e', rd_wj hq]
  refine num2 h3 hT hB (fun _ hv => hal M55 N3 hB q55 hv) hj hK (fun M1 N1 e1 e2 hr hB1 => ?_)
  refine hk n' M1 N1 (rd N3 135 14) hB1 hr (by rw [e1, rd_we]) (fun q hq => ?_) ?_
  · rw [e1, rd_wj hq]; exact q55 q hq
  · rw [e2, row_wr, row_ks kN (fun j z => absurd z.1 (by decide))]
/-- the end of a statement -/
theorem endX {G : Mem → Option (Mem × Int32)} (h : BX f M N) (hk : ∀ M' N', TT M' N' → BX f M' N' → (∀ q, rd M' 3 q = rd M 3 q) → row 137 N' = row 137 N → R2 (cap (mX4_errorIfNot 2 (4 : Int32) (0 : Int32) M') (fun r42 => mX4_readStatement_b131v1 2 13 w r42 M')) (G N') SRel) : R2 (mX4_readStatement_l55v1 2 13 w n 0 (Int32.ofNat 3) M) (cal (mX7_advance 135 N) (fun M11 _ => G M11)) SRel := by
  refine step_e (adv2 h (fun M' N' hT hB kM kN => hk M' N' hT hB (fun q => kM 3 q (fun z => absurd z.1 (by decide))) (row_ks kN (fun j z => absurd z.1 (by decide)))))
theorem kk_0 (M1 : Mem) : Pc (chk (isB 0) (KK M1 0)) (fun q => q = (M1, 0)) := Pc.k (fun _ => Pc.i (fun _ => Pc.ok rfl) (fun q => absurd rfl q))
theorem kk_1 : chk (isB 1) (KK N 1) = closT N := rfl
theorem ite_10 {γ : Type} {a b : Option γ} : ite2 ((1 : Int32) = 0) a b = b := if_neg (by decide)
theorem ite_00 {γ : Type} {a b : Option γ} : ite2 ((0 : Int32) = 0) a b = a := if_pos rfl
theorem ks_id {S : Nat → Nat → Prop} : KS S N N := KS.rf
/-- the word's own error -/
theorem word_err {e v : Int32} (he : ¬ e = 0) (hT : TT M N) (ht : rd N 135 13 = 2) (hv : e = v) : R2 (mX4_readStatement_b51v1 2 13 w e M) (cal (mX7_fail 135 v N) (fun M15 r14 => chk (isB r14) (chk (isB r14) (KK M15 r14)))) SRel := by
  unfold mX4_readStatement_b51v1
  exact err2 he (tail_err he 5000 0 M) hT.st (by rw [if_neg (by rw [ht]; decide)]; exact hv) (fun M1 => Pc.k (fun _ => kk_0 M1))
theorem st_sheet (hT : TT M N) (h : BX (row 137 N) M N) : R2 (mX4_readStatement_b32v1 2 13 0 M) (cal (mX7_sheetStatement 135 N) (fun q r => chk (isB r) (KK q r))) SRel := by
  unfold mX4_readStatement_b32v1 mX4_readStatement_b51v1 mX7_sheetStatement
  simp only [cal_ite, cal_cap, cal_cal, cal_chk, cal_some, cal_bnd]
  refine R2.cl (eow_other (by decide)) (fun e he => ?_)
  have he : e = 0 := by
    rcases he with ⟨q, _⟩ | ⟨_, q⟩
    · exact absurd q (by decide)
    · exact q
  subst he
  generalize (5000 : Nat) = n0
  refine numX (i := 0) (j := 36) (by decide) (by decide) h (fun M' N' hB _ hv => ?_) (by decide) (fun M1 => Pc.i (fun _ => kk_0 M1) (fun q => absurd rfl q)) (fun n1 M1 N1 v1 b1 r1 s1 t1 w1 => ?_)
  · rw [alw0, hv]; exact ⟨fun h => h.1, fun h => ⟨h, fun q => absurd q (by decide)⟩⟩
  refine adv_1 ?_
  refine numX (i := 1) (j := 37) (by decide) (by decide) b1 (fun M' N' hB _ hv => ?_) (by decide) (fun M1 => Pc.i (fun _ => kk_0 M1) (fun q => absurd rfl q)) (fun n2 M2 N2 v2 b2 r2 s2 t2 w2 => ?_)
  · rw [alw1, hv]; exact ⟨fun h => h.1, fun h => ⟨h, fun q => absurd q (by decide)⟩⟩
  refine adv_1 ?_
  refine numX (i := 2) (j := 38) (by decide) (by decide) b2 (fun M' N' hB _ hv => ?_) (by decide) (fun M1 => Pc.i (fun _ => kk_0 M1) (fun q => absurd rfl q)) (fun n3 M3 N3 v3 b3 r3 s3 t3 w3 => ?_)
  · rw [alw2, hv]; exact ⟨fun h => h.1, fun h => ⟨h, fun q => absurd q (by decide)⟩⟩
  refine adv_cg (k' := fun M _ => closT M) (fun N' _ => ite_10.trans kk_1) ?_
  refine endX b3 (fun M4 N4 hT4 b4 s4 w4 => fin2 hT4 b4 KS.rf (Pc.mono acc_sheet (fun q hq => ?_)))
  rw [hq, w4, w3, w2, w1, s4, s4, s4, s3, t3 0 (by decide), t3 1 (by decide), s2, t2 0 (by decide), s1]
  exact ⟨b4.pr.sheet, ((KS.rf.wr (by decide)).wr (by decide)).wr (by decide)⟩
theorem st_cost (hT : TT M N) (h : BX (row 137 N) M N) : R2 (mX4_readStatement_b32v1 2 13 10 M) (cal (mX7_costStatement 135 N) (fun q r => chk (isB r) (KK q r))) SRel := by
  unfold mX4_readStatement_b32v1 mX4_readStatement_b51v1 mX7_costStatement
  simp only [cal_ite, cal_cap, cal_cal, cal_chk, cal_some, cal_bnd]
  refine R2.cl (eow_other (by decide)) (fun e he => ?_)
  have he : e = 0 := by
    rcases he with ⟨q, _⟩ | ⟨_, q⟩
    · exact absurd q (by decide)
    · exact q
  subst he
  generalize (5000 : Nat) = n0
  refine numX (i := 0) (j := 49) (by decide) (by decide) h (fun M' N' hB _ hv => ?_) (by decide) (fun M1 => Pc.i (fun _ => kk_0 M1) (fun q => absurd rfl q)) (fun n1 M1 N1 v1 b1 r1 s1 t1 w1 => ?_)
  · rw [alw0, hv]; exact ⟨fun h => h.1, fun h => ⟨h, fun q => absurd q (by decide)⟩⟩
  refine adv_1 ?_
  refine numX (i := 1) (j := 50) (by decide) (by decide) b1 (fun M' N' hB _ hv => ?_) (by decide) (fun M1 => Pc.i (fun _ => kk_0 M1) (fun q => absurd rfl q)) (fun n2 M2 N2 v2 b2 r2 s2 t2 w2 => ?_)
  · rw [alw1, hv]; exact ⟨fun h => h.1, fun h => ⟨h, fun q => absurd q (by decide)⟩⟩
  refine adv_1 ?_
  refine numX (i := 2) (j := 51) (by decide) (by decide) b2 (fun M' N' hB _ hv => ?_) (by decide) (fun M1 => Pc.i (fun _ => kk_0 M1) (fun q => absurd rfl q)) (fun n3 M3 N3 v3 b3 r3 s3 t3 w3 => ?_)
  · rw [alw2, hv]; exact ⟨fun h => h.1, fun h => ⟨h, fun q => absurd q (by decide)⟩⟩
  refine adv_cg (k' := fun M _ => closT M) (fun N' _ => ite_10.trans kk_1) ?_
  refine endX b3 (fun M4 N4 hT4 b4 s4 w4 => fin2 hT4 b4 KS.rf (Pc.mono acc_cost (fun q hq => ?_)))
  rw [hq, w4, w3, w2, w1, s4, s4, s4, s3, t3 0 (by decide), t3 1 (by decide), s2, t2 0 (by decide), s1]
  exact ⟨b4.pr.costs, ((KS.rf.wr (by decide)).wr (by decide)).wr (by decide)⟩
/-! tools -/
theorem st_tool0 {t : Nat} (ht : t < 5) (hT : TT M N) (h : BX (row 137 N) M N) : R2 (mX4_readStatement_b32v1 2 13 (5 + t) M) (cal (mX7_toolStatement 135 (Int32.ofNat t) N) (fun q r => chk (isB r) (KK q r))) SRel := by
  unfold mX4_readStatement_b32v1 mX4_readStatement_b51v1 mX7_toolStatement
  simp only [cal_ite, cal_cap, cal_cal, cal_chk, cal_some, cal_bnd, bnd_e]
  have tt : (Int32.ofNat t).toInt = (t : Int) := t_of (by omega)
  have e2 := i_mulc (a := (2 : Int32)) (b := Int32.ofNat t) (c := 2) rfl (by omega) (by omega)
  have n39 : ((39 : Int32)).toInt = 39 := rfl
  have n1 : ((1 : Int32)).toInt = 1 := rfl
  have e3 := i_add (a := (39 : Int32)) (b := (2 : Int32) * Int32.ofNat t) (by omega) (by omega)
  have e4 := i_add (a := (39 : Int32) + (2 : Int32) * Int32.ofNat t) (b := 1) (by omega) (by omega)
  have hF0 : (wF0.getD (5 + t) 0).toInt = 0 ∧ (wF1.getD (5 + t) 0).toInt = 9999 := by
    have key : ∀ t, t < 5 → (wF0.getD (5 + t) 0).toInt = 0 ∧ (wF1.getD (5 + t) 0).toInt = 9999 := by decide
    exact key t ht
  have hF2 : t < 4 → (wF2.getD (5 + t) 0).toInt = 9999 := by
    have key : ∀ t, t < 4 → (wF2.getD (5 + t) 0).toInt = 9999 := by decide
    exact key t
  have hc : cntW (5 + t) = if t = 4 then 1 else 2 := by
    have key : ∀ t, t < 5 → cntW (5 + t) = if t = 4 then 1 else 2 := by decide
    exact key t ht
  refine R2.cl (eow_other (by omega)) (fun e he => ?_)
  have he : e = 0 := by
    rcases he with ⟨q, _⟩ | ⟨_, q⟩
    · omega
    · exact q
  subst he
  generalize (5000 : Nat) = n0
  refine numX (w := 5 + t) (i := 0) (j := 39 + 2 * t) (by omega) (by rw [hc]; split <;> omega) h (fun M' N' hB _ hv => ?_) (by omega) (fun M1 => Pc.i (fun _ => kk_0 M1) (fun q => absurd rfl q)) (fun n1 M1 N1 v1 b1 r1 s1 t1 w1 => ?_)
  · rw [alw0, hv, hF0.1, hF0.2]; exact ⟨fun h => h.1, fun h => ⟨h, fun q => by omega⟩⟩
  by_cases h4 : t = 4
  · subst h4
    refine adv_cg (k' := fun M _ => closT M) (fun N' _ => ite_10.trans ?_) ?_
    · unfold mX7_toolStatement_b59
      rfl
    refine step_z (by decide) (by decide) (by decide) (fun n2 M2 e2 => step_z (by decide) (by decide) (by decide) (fun n3 M3 e3 => ?_))
    have b3 : BX (row 137 N) M3 N1 := by rw [e3, e2]; exact b1.put3.put3
    refine endX b3 (fun M4 N4 hT4 b4 s4 w4 => fin2 hT4 b4 KS.rf (Pc.mono (acc_tool (t := 4) (by decide)) (fun q hq => ?_)))
    have z0 : rd M3 3 0 = v1 := by rw [e3, rd_wj (by decide), e2, rd_wj (by decide)]; exact s1
    have z1 : rd M3 3 1 = 0 := by rw [e3, rd_wj (by decide), e2, rd_we]
    rw [hq, s4, s4, z0, z1, w4, w1]
    refine ⟨?_, (KS.rf.wr (by decide)).wr (by decide)⟩
    have := b4.pr.tool (t := 4) (a := v1) (b := 0) (by decide) (fun _ => rfl)
    have e9 : upf (upf (row 137 N) (39 + 2 * 4) v1) (40 + 2 * 4) 0 = upf (row 137 N) (39 + 2 * 4) v1 := by
      funext j
      unfold upf
      by_cases q : j = 40 + 2 * 4
      · rw [if_pos q, if_neg (by omega), q]; exact b4.pr.fl.symm
      · rw [if_neg q]
    rw [e9] at this
    exact this
  · have ne4 : ¬ Int32.ofNat t = 4 := fun q => by
      have q := congrArg Int32.toInt q
      rw [tt, show ((4 : Int32)).toInt = 4 from rfl] at q; omega
    have v1' : rd N1 137 (39 + 2 * t) = v1 := by
      have := congrFun w1 (39 + 2 * t)
      rw [upf_e] at this; exact this
    have go : ∀ lo : Int32, lo = (if t = 3 then v1 else 0) → R2 (mX4_readStatement_l55v1 2 13 (5 + t) n1 0 (Int32.ofNat (0 + 1)) M1) (cal (mX7_advance 135 N1) (fun M3 _ => cal (mX7_number 135 ((39 : Int32) + (2 : Int32) * Int32.ofNat t + 1) lo (9999 : Int32) M3) (fun M13 r12 => ite2 (r12 = 0) (chk (isB 0) (KK M13 0)) (chk (isB 1) (KK M13 1))))) SRel := by
      intro lo hlo
      refine numX (w := 5 + t) (i := 1) (j := 40 + 2 * t) (by omega) (by rw [hc, if_neg h4]; decide) b1 (fun M' N' hB s hv => ?_) (by omega) (fun M1 => Pc.i (fun _ => kk_0 M1) (fun q => absurd rfl q)) (fun n2 M2 N2 v2 b2 r2 s2 t2 w2 => ?_)
      · rw [alw1, hv, hF2 (by omega), s 0 (by decide), s1, hlo]
        by_cases h3 : t = 3
        · rw [if_pos h3]
          have r0 : (0 : Int) ≤ v1.toInt := r1.1
          exact ⟨fun h => ⟨h.2 (by omega), h.1.2⟩, fun h => ⟨⟨by omega, h.2⟩, fun _ => h.1⟩⟩
        · rw [if_neg h3]
          exact ⟨fun h => h.1, fun h => ⟨h, fun q => by omega⟩⟩
      · refine adv_cg (k' := fun M _ => closT M) (fun N' _ => ite_10.trans kk_1) ?_
        refine step_z (by omega) (by rw [hc, if_neg h4]; decide) (by decide) (fun n3 M3 e3 => ?_)
        have b3 : BX (row 137 N) M3 N2 := by rw [e3]; exact b2.put3
        refine endX b3 (fun M4 N4 hT4 b4 s4 w4 => fin2 hT4 b4 KS.rf (Pc.mono (acc_tool (t := t) ht) (fun q hq => ?_)))
        have z0 : rd M3 3 0 = v1 := by rw [e3, rd_wj (by decide), t2 0 (by decide)]; exact s1
        have z1 : rd M3 3 1 = v2 := by rw [e3, rd_wj (by decide)]; exact s2
        rw [hq, s4, s4, z0, z1, w4, w2, w1]
        exact ⟨b4.pr.tool ht (fun q => absurd q h4), (KS.rf.wr (show 13 ≤ 15 ∧ 15 ≤ 20 by decide)).wr (show 13 ≤ 15 ∧ 15 ≤ 20 by decide)⟩
    refine adv_cg (fun N' kN => ite_10.trans ((if_neg ne4).trans ?_)) (go (if t = 3 then v1 else 0) rfl)
    by_cases h3 : t = 3
    · subst h3
      rw [if_pos rfl]
      have e : rd N' (135 + 2) ((39 : Int32) + (2 : Int32) * Int32.ofNat 3).toNatClampNeg = v1 := by
        have : rd N' 137 45 = rd N1 137 45 := kN 137 45 (by decide)
        exact this.trans v1'
      unfold mX7_toolStatement_b50 mX7_toolStatement_b59
      rw [e]
      simp only [cal_ite, cal_cap, cal_cal, cal_chk, cal_some, cal_bnd]
      rfl
    · rw [if_neg h3]
      have ne3 : ¬ Int32.ofNat t = 3 := fun q => by
        have q := congrArg Int32.toInt q
        rw [tt, show ((3 : Int32)).toInt = 3 from rfl] at q; omega
      unfold mX7_toolStatement_b50 mX7_toolStatement_b59
      simp only [cal_ite, cal_cap, cal_cal, cal_chk, cal_some, cal_bnd]
      exact if_neg ne3
end AS
