/-! foldNext, ordersWith: alike -/
section NX
variable {g : Gm} {n m a b s c l e : Nat} {M M' N N' N0 : Mem} {lc lg r x x1 x2 v : Int32}
theorem CTX.th (hX : CTX g 5 m M N0 N) (hS : SS M N) : CTX g 5 m M N0 (wr N 135 5 v) := by
  obtain ⟨t1, t2, t3, t4, t5, t6, t7, t8, t9⟩ := hX
  have n8 := nb8 t2
  have e : ∀ k j, k ≠ 135 → rd (wr N 135 5 v) k j = rd N k j := fun k j hk => rd_wk hk
  refine ⟨t1, t2, hS.th.1, th_put t4, t5.of (fun _ _ _ _ => e _ _ (by decide)) (fun _ _ => rfl), fun a c ha hc => by rw [e _ _ (by decide)]; exact t6 a c ha hc, fun b hb h1 h2 l hl => ?_, t8, th_row.trans t9⟩
  exact (t7 b hb h1 h2 l hl).of (by omega) h1 (t5 b hb h1 h2) (fun j => e _ _ (by decide)) (fun j => e _ _ (by decide)) (fun j => e _ _ (by decide)) (fun b c _ _ => ⟨e _ _ (by decide), e _ _ (by decide)⟩) ⟨e _ _ (by decide), e _ _ (by decide)⟩
theorem ald_th (hA : Ald n m N 0) (hAl : Al n m N 0) (hn : n < 9) : Ald n m (wr N 135 5 v) 0 := by
  intro b h1 h2 h3 l hv
  exact (hA b h1 h2 h3 l hv).of (hAl b h1 h2 h3) h2 hn (fun j => rd_wk (by decide)) (fun _ => rfl) (cst_same (fun j => rd_wk (by decide)) (fun j => rd_wk (by decide))) (fun b' c' _ _ => rd_wk (by decide))
theorem nm_th (hN : NM n m N) : NM n m (wr N 135 5 v) := ⟨(rd_wk (by decide)).trans hN.1, hN.2.1, (rd_wk (by decide)).trans hN.2.2.1, hN.2.2.2⟩
theorem foldNext_RR (h : SS M N) (hI : MI N) : R2 (mX6_foldNext 0 M) (mX7_foldNext 135 N) (fun p q => XR (fun _ => 1) p q ∧ SS p.1 q.1) := by
  unfold mX6_foldNext mX7_foldNext
  refine R2.laid h hI (fun M3 N5 m lc lg hS m2 em hK hX hN hA hAl _ elc elg hW => ?_)
  have n8 := nb8 (pr_9 hS.1)
  have m256 := n_256 n8 m2
  obtain ⟨l, hl⟩ := lst_ex hX hS.2.2.1 m2 em elc elg hW
  have hpl := hX.plan hA m2 hK elc elg hl
  have n1 : ((1 : Int32)).toInt = 1 := rfl
  have n0 : ((0 : Int32)).toInt = 0 := rfl
  have nm1 : ((-1 : Int32)).toInt = -1 := rfl
  have hz := (z_full (nb 5 M3) (by omega) m m2).1
  have none : (rd M3 110 3).toInt < 1 → R2 (ite2 ((1 : Int32) ≤ (rd M3 110 3)) (chk (okb (0 : Int32) 8) (bnd ((rd M3 (110 + 1) ((0 : Int32)).toNatClampNeg)) (fun x1_42 => cal (mX6_makeStep 0 x1_42 M3) (fun M9 r8 => some (M9, (Sum.inl x1_42 : Int32 ⊕ Nat)))))) (some (M3, Sum.inr 2))) (mX7_foldNext_b23 135 N5) (fun p q => XR (fun _ => 1) p q ∧ SS p.1 q.1) := by
    intro hx
    unfold mX7_foldNext_b23 mX7_foldNext_b24
    refine R2.il (fun z => by have z := i_le.mp z; omega) (fun _ => R2.mr (pc_good (x := 0) (N := N5)) (fun N10 r9 p => ?_))
    rcases p with ⟨_, e⟩ | ⟨z, _⟩
    · cases e
      refine R2.ir (fun _ => R2.ok ⟨XR.inr rd_we, hS.th⟩) (fun z => absurd rfl z)
    · exact absurd rfl z
  refine R2.cr (pc_isOrd hN) (fun r5 p5 => R2.ir (fun c => none ?_) (fun c => ?_))
  · have hm : ¬ 0 < mn N5 m := by
      rcases p5 with ⟨_, q⟩ | ⟨q, _⟩
      · exact q
      · rw [q] at c; exact absurd c (by decide)
    rw [hpl.1 hm, nm1]; decide
  have hm : 0 < mn N5 m := by
    rcases p5 with ⟨q, _⟩ | ⟨_, q⟩
    · exact absurd q c
    · exact q
  obtain ⟨hlen, hst⟩ := hpl.2 hm
  have tl : (rd M3 110 3).toInt = (cntz m (nb 5 M3) : Int) := by rw [hlen, t_of (by omega)]
  refine R2.cr (pc_un hX.2.2.2.1 hN) (fun r23 e23 => R2.ir (fun c2 => none ?_) (fun c2 => ?_))
  · have c2 := i_le.mp c2
    rw [e23, t_of (by omega), n0] at c2
    omega
  · have c2 := i_nle c2
    rw [e23, t_of (by omega), n0] at c2
    refine R2.il (fun _ => R2.kl (fun _ => R2.bl (fun x1 ex => ?_))) (fun z => by have z := i_nle z; omega)
    obtain ⟨c0, e0, hb0⟩ := hst 0 (by omega)
    have hb0 : bst (nb 5 M3) N5 m l c0 := hb0
    have ex : x1 = Int32.ofNat c0 := ex.trans e0
    unfold mX7_foldNext_b24
    refine R2.mr (pc_good (x := 1) (N := N5)) (fun N10 r9 p => ?_)
    rcases p with ⟨z, _⟩ | ⟨_, e⟩
    · exact absurd z (by decide)
    cases e
    refine R2.ir (fun z => absurd z (by decide)) (fun _ => R2.kr (fun _ => ?_))
    have hX10 := hX.th (v := 0) hS
    have hS10 := hS.th (v := 0)
    have hN10 := nm_th (v := 0) hN
    have hA10 := ald_th (v := 0) hA hAl (by omega)
    refine R2.cr (lst_of hX10 hS10.2.2.1 m2 em elc elg) (fun r14 p14 => ?_)
    obtain ⟨l', e14, l16, hl'⟩ := p14
    have hm10 : 0 < mn (wr N5 135 5 0) m := hm
    obtain ⟨_, hst10⟩ := (hX10.plan hA10 m2 hK elc elg hl').2 hm10
    obtain ⟨c1, e1, hb1⟩ := hst10 0 (by omega)
    have hb1 : bst (nb 5 M3) (wr N5 135 5 0) m l' c1 := hb1
    have ec : c1 = c0 := o_inj (by have := hb1.1.1; omega) (by have := hb0.1.1; omega) (e1.symm.trans e0)
    subst ec
    have e52 : rd (wr N5 135 5 0) (135 + 1) ((52 : Int32)).toNatClampNeg = Int32.ofNat m := hN10.2.2.1
    rw [e52, e14]
    have hO := hX10.2.2.2.2.1 m (by omega) m2 (Nat.and_self m)
    refine R2.cr (pc_bestR hN10 hX10.2.2.2.1 m2 l16 hO) (fun r17 p17 => ?_)
    rcases p17 with ⟨c2', e17, hb2⟩ | ⟨_, hno⟩
    · have ec := bst_u hb2 hb1
      subst ec
      have c16 := hb2.1.1
      rw [e17, f_half c2' (by omega), ← f_half c2' (by omega), f_mod c2' (by omega), f_half c2' (by omega), ex]
      have tb := (hO.1 c2' c16).2 hb2.1.2.1
      have hW10 : Row (nb 5 M3) m (rd (wr N5 135 5 0) 136) := row_th hW
      have mk := makeStep_R hS10 hW10 em (b := c2' / 2) (s := c2' % 2) (by omega) (by omega) tb
      rw [show 2 * (c2' / 2) + c2' % 2 = c2' by omega] at mk
      refine R2.mm mk (fun M9 r8 N21 r20 p => ?_)
      obtain ⟨_, p2, p3⟩ := p
      exact R2.ok ⟨XR.inl (p3.trans rd_we) rfl, p2⟩
    · exact absurd hb1.1 (hno c1)
theorem ordersWith_RR (h : SS M N) (hI : MI N) : R2 (mX6_ordersWith 0 x1 x2 M) (mX7_ordersWith 135 x1 x2 N) (fun p q => XR nmb2 p q ∧ SS p.1 q.1) := by
  obtain ⟨m, m2, em, hR⟩ := row_at hI h.1
  have n8 := nb8 (pr_9 h.1)
  have m256 := n_256 n8 m2
  have hn : (rd N 136 0).toInt = (nb 5 M : Int) := h.1.pb.bn
  unfold mX6_ordersWith mX7_ordersWith
  refine R2.step h (fun b s hb hs e1 e2 => ?_) ⟨XR.inr rd_we, h.th⟩ ⟨XR.inr rd_we, h.th⟩
  subst e1
  subst e2
  rw [f_code b (by omega) s hs]
  have hT := h.th (v := 0)
  have hIT : MI (wr N 135 5 0) := (hI.th (v := 0)).1
  have hNT : NM (nb 5 M) m (wr N 135 5 0) := (row_th hR).nm
  refine R2.mr ((pc_layOrders hIT.1 hNT).and (Fr.pc (vX7_layOrders (KS.rf : KS SLy (wr N 135 5 0) (wr N 135 5 0))))) (fun N13 _ p => ?_)
  obtain ⟨⟨_, hN13, _, hO, _⟩, hk⟩ := p
  have hk : KS SLy (wr N 135 5 0) N13 := hk
  have th0 : rd N13 135 5 = 0 := (hk 135 5 (by unfold SLy; omega)).trans rd_we
  have e52 : rd N13 (135 + 1) ((52 : Int32)).toNatClampNeg = Int32.ofNat m := hN13.2.2.1
  have tb : (Int32.ofNat b).toInt = (b : Int) := t_of (by omega)
  have ts : (Int32.ofNat s).toInt = (s : Int) := t_of (by omega)
  have tm : (Int32.ofNat m).toInt = (m : Int) := t_of (by omega)
  rw [e52]
  have ix : (((16 : Int32) * Int32.ofNat m + (2 : Int32) * Int32.ofNat b) + Int32.ofNat s).toNatClampNeg = 16 * m + (2 * b + s) := by
    have a1 := i_mulc (a := (16 : Int32)) (b := Int32.ofNat m) (c := 16) rfl (by omega) (by omega)
    have a2 := i_mulc (a := (2 : Int32)) (b := Int32.ofNat b) (c := 2) rfl (by omega) (by omega)
    have a3 := i_add (a := (16 : Int32) * Int32.ofNat m) (b := (2 : Int32) * Int32.ofNat b) (by omega) (by omega)
    rw [i_clamp, i_add (by omega) (by omega)]; omega
  rw [ix]
  refine R2.kr (fun _ => R2.kr (fun _ => ?_))
  have hOm := hO m (by omega) m2 (Nat.and_self m)
  obtain ⟨⟨N1, q1, w1, w2, w3⟩, wb⟩ := hOm.1 (2 * b + s) (by omega)
  rw [show (2 * b + s) / 2 = b by omega] at w2 wb
  rw [show (2 * b + s) % 2 = s by omega] at w2
  -- the class's reason now
  intro p q hp hq
  obtain ⟨M7, r6, p1, p2⟩ := cal_s hp
  have hS1 : SS M N1 ∨ True := Or.inr trivial
  have P1 : PR 5 M (row 136 N1) := by rw [w1]; exact hT.1
  have p1' := p1
  unfold mX6_reasonNow at p1'
  rw [em] at p1'
  obtain ⟨M8, r8, v1, v2⟩ := cal_s p1'
  cases v2
  have hn1 : (rd N1 136 0).toInt = (nb 5 M : Int) := P1.pb.bn
  obtain ⟨z1, z2, _, _⟩ := reason_R (k := 103) (by omega) P1 hn1 hb hs m2 _ _ v1 w2
  have z1 : r6 = q1.2 := z1
  have z2 : KS (SPs 103) M M7 := z2
  have l7 : KL M M7 := lX6_reasonNow (k0 := 0) (KL.rf : KL M M) _ p1
  have hS7 : SS M7 (wr N 135 5 0) := hT.pl z2 l7 (fun c j z => by unfold SPs at z; omega)
  have b7 : BL 5 M 5 M7 := BL.ks z2 (fun c j h1 h2 z => by unfold SPs at z; omega)
  by_cases z : r6 = 0
  · have ho : cnb N13 m (2 * b + s) = true := w3.mpr (by rw [← z1]; exact z)
    have p2 := ite_t z p2
    have hq := ite_f (cnb_iff.mp ho) hq
    have hq := (chk_s (chk_s hq).2).2
    have tbm := wb ho
    have hz := z_set (nb 5 M) (by omega) m m2 b hb tbm
    have h256 := n_256 n8 hz.2.2.1
    have e52' : rd N13 (135 + 1) ((52 : Int32)).toNatClampNeg = Int32.ofNat m := hN13.2.2.1
    rw [f_or m m256 b (by omega), c_of (by omega)] at hq
    cases hq
    obtain ⟨M11, _, s1, s2⟩ := cal_s p2
    obtain ⟨t1, _, m', lc, lg, m2', em', hK, _, _, _⟩ := pc_prep hS7 hIT _ s1
    have t1 : SS M11 (wr N 135 5 0) := t1
    have m2' : m' < 2 ^ nb 5 M11 := m2'
    have hK : PK 5 m' M11 := hK
    have em' : rd M11 5 13 = Int32.ofNat m' := em'
    obtain ⟨r13, s3, s4⟩ := cap_s s2
    cases s4
    have hb11 : PB 5 M11 (row 136 (wr N 135 5 0)) := t1.1.pb
    have en : nb 5 M11 = nb 5 M := by
      have a1 := hb11.bn
      have a2 := hT.1.pb.bn
      omega
    have emm : m' = m := by
      have a1 : rd M11 5 13 = row 136 (wr N 135 5 0) 52 := t1.1.ma
      have a2 : rd M 5 13 = row 136 (wr N 135 5 0) 52 := hT.1.ma
      rw [em', ← a2, em] at a1
      have := n_256 (by omega) m2'
      exact o_inj (by omega) (by omega) a1
    subst emm
    rw [em', f_or m' m256 b (by omega)] at s3
    have hO' : LOa (nb 5 M11) m' (wr N 135 5 0) N13 0 := by rw [en]; exact hO
    have hop : op M11 m' (2 * b + s) = true := by
      rw [cu_op hK.1 hb11 hO' m256 hK.1.2.1 (by omega)]; exact ho
    have st := hK.1.step (by omega) m256 hK.1.2.1 (by omega) hop
    rw [show (2 * b + s) / 2 = b by omega] at st
    have ev := pc_from st.2.2.2.2.2 h256 _ s3
    refine ⟨XR.inl th0 ?_, t1.sly hk⟩
    rw [ev]
    exact cu_cnt hK.1 (by omega) hb11 hO' hK.2.1 _ _ (Nat.le_refl _) h256 st.2.2.2.2.2
  · have ho : cnb N13 m (2 * b + s) = false := by
      cases hc : cnb N13 m (2 * b + s) with
      | false => rfl
      | true => exact absurd (z1.trans (w3.mp hc)) z
    have p2 := ite_f z p2
    have hz : rd N13 145 (16 * m + (2 * b + s)) = 0 := by
      by_cases q : rd N13 145 (16 * m + (2 * b + s)) = 0
      · exact q
      · rw [cnb_iff.mpr q] at ho; cases ho
    have hq := ite_t hz hq
    cases p2
    cases hq
    exact ⟨XR.inl th0 rfl, hS7.sly hk⟩
end NX
