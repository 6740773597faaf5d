/-! the greatest beam: halving and counting down find the same -/
section GB2
variable {g : Gm} {n m a b s c l e : Nat} {M M' N N' N0 : Mem} {x x1 x2 x3 v : Int32}
theorem upf2 {f : Nat → Int32} {j : Nat} {a b : Int32} : upf (upf f j a) j b = upf f j b := by
  funext i
  unfold upf
  by_cases e : i = j
  · rw [if_pos e, if_pos e]
  · rw [if_neg e, if_neg e, if_neg e]
theorem PB.beam {f : Nat → Int32} (h : PB 13 M f) : PB 13 (wr M (13 + 2) 1 v) (upf f 40 v) := by
  have e : ∀ c j, c ≠ 15 → rd (wr M (13 + 2) 1 v) c j = rd M c j := fun c j hc => rd_wk (by omega)
  have u : ∀ j, j ≠ 40 → upf f 40 v j = f j := fun j hj => upf_n hj
  have lb := h.lb
  have nn := h.n8
  refine ⟨?_, ?_, ?_, fun j hj => ?_, ?_, fun b hb => ?_, ?_, fun j hj => ?_⟩
  · rw [e _ _ (by omega), u _ (by omega)]; exact h.lc
  · rw [u _ (by omega)]; exact lb
  · rw [u _ (by omega), u _ (by omega)]; exact h.nn
  · rw [u 1 (by omega)] at hj
    rw [e _ _ (by omega), u _ (by omega)]; exact h.leg j hj
  · rw [e _ _ (by omega)]; exact h.ub
  · rw [u 0 (by omega)] at hb
    rw [e _ _ (by omega), u _ (by omega)]; exact h.up b hb
  · rw [e _ _ (by omega), u 0 (by omega)]; exact h.uz
  · by_cases q : j = 1
    · subst q
      rw [rd_we]; exact upf_e.symm
    · rw [rd_wj q, u _ (by omega)]; exact h.tl j hj
/-- what the class finds at a height -/
def TC (N : Mem) (n m x : Nat) : Prop := ∃ M', LI 13 m M' 256 ∧ nb 13 M' = n ∧ PB 13 M' (upf (row 136 N) 40 (Int32.ofNat (100 * x))) ∧ rc M' (2 ^ n - 1)
def FC (N : Mem) (n m x : Nat) : Prop := ∃ M', LI 13 m M' 256 ∧ nb 13 M' = n ∧ PB 13 M' (upf (row 136 N) 40 (Int32.ofNat (100 * x))) ∧ ¬ rc M' (2 ^ n - 1)
/-- what the reference finds at a height -/
def TR (N : Mem) (n m x : Nat) : Prop := ∃ N0 N5, row 136 N0 = upf (row 136 N) 40 (Int32.ofNat (100 * x)) ∧ LOa n m N0 N5 0 ∧ Al n m N5 0 ∧ 0 < mn N5 m
def FR (N : Mem) (n m x : Nat) : Prop := ∃ N0 N5, row 136 N0 = upf (row 136 N) 40 (Int32.ofNat (100 * x)) ∧ LOa n m N0 N5 0 ∧ Al n m N5 0 ∧ ¬ 0 < mn N5 m
theorem cnb_t {N : Mem} : cnb N a c = true ↔ ¬ rd N 145 (16 * a + c) = 0 := by
  unfold cnb
  show (!decide (rd N 145 (16 * a + c) = 0)) = true ↔ _
  by_cases q : rd N 145 (16 * a + c) = 0
  · rw [decide_eq_true q]; exact ⟨fun z => absurd z (by decide), fun z => absurd q z⟩
  · rw [decide_eq_false q]; exact ⟨fun _ => q, fun _ => rfl⟩
theorem tc_fr (n8 : n ≤ 8) {x : Nat} (h1 : TC N n m x) (h2 : FR N n m x) : False := by
  obtain ⟨M', hL, en, hB, hr⟩ := h1
  obtain ⟨N0, N5, er, hO, hA, hz⟩ := h2
  subst en
  have hB0 : PB 13 M' (row 136 N0) := by rw [er]; exact hB
  have p256 : 2 ^ nb 13 M' ≤ 256 := by
    have : 2 ^ nb 13 M' ≤ 2 ^ 8 := Nat.pow_le_pow_right (by decide) n8
    have h8 : (2 : Nat) ^ 8 = 256 := rfl
    omega
  have pp := Nat.two_pow_pos (nb 13 M')
  have key : ∀ z s, s ≤ z → s < 256 → rc M' s → 0 < mn N5 s → 0 < mn N5 m := by
    intro z
    induction z with
    | zero =>
      intro s hz' hs hrs hp
      rcases hL.2.2.2.2 s hs hrs with e | ⟨s', c, _, h2, _⟩
      · rw [← e]; exact hp
      · omega
    | succ z IH =>
      intro s hz' hs hrs hp
      rcases hL.2.2.2.2 s hs hrs with e | ⟨s', c, h1, h2, h3, h4, h5, h6⟩
      · rw [← e]; exact hp
      · have s256 : s' < 256 := by omega
        have st := hL.step n8 s256 h4 h3 h5
        have hq := hL.2.2.1 s' s256 h4
        have co := cu_op hL hB0 hO s256 h4 st.1
        rw [h5] at co
        have G := hA s' (by omega) hq.1 hq.2
        exact IH s' (by omega) s256 h4 (G.2.2.2.mpr (Or.inr ⟨c, st.1, cnb_t.mp co.symm, by rw [← h6]; exact hp⟩))
  have hf := hL.2.2.1 _ (by omega) hr
  have Gf := hA (2 ^ nb 13 M' - 1) (by omega) hf.1 hf.2
  exact hz (key _ (2 ^ nb 13 M' - 1) (Nat.le_refl _) (by omega) hr (Gf.2.2.2.mpr (Or.inl rfl)))
theorem tr_fc {f : Bx} (h : SS M N) (hI : MI N) (hO' : OKb f M) (m2 : m < 2 ^ nb 5 M) {x : Nat} (hx : x ≤ 20) {y : Nat} (hy : y ≤ x) (h1 : TR N (nb 5 M) m x) (h2 : FC N (nb 5 M) m y) : False := by
  obtain ⟨N0, N5, er, hO, hA, hz⟩ := h1
  obtain ⟨M', hL, en, hB, hr⟩ := h2
  have n8 := nb8 (pr_9 h.1)
  have n8' : nb 13 M' ≤ 8 := by omega
  have p256 : 2 ^ nb 5 M ≤ 256 := by
    have : 2 ^ nb 5 M ≤ 2 ^ 8 := Nat.pow_le_pow_right (by decide) n8
    have h8 : (2 : Nat) ^ 8 = 256 := rfl
    omega
  have key : ∀ z s, 2 ^ nb 5 M - s ≤ z → s < 256 → rc M' s → 0 < mn N5 s → False := by
    intro z
    induction z with
    | zero =>
      intro s hz' hs hrs _
      have := (hL.2.2.1 s hs hrs).1
      rw [en] at this; omega
    | succ z IH =>
      intro s hz' hs hrs hp
      have hq := hL.2.2.1 s hs hrs
      rw [en] at hq
      have G := hA s (by omega) hq.1 hq.2
      rcases G.2.2.2.mp hp with e | ⟨c, hc, hc0, hcp⟩
      · exact hr (by rw [← e]; exact hrs)
      · have co := cnb_t.mpr hc0
        obtain ⟨⟨N1, q1, e1, e2, e3⟩, tb⟩ := (hO s (by omega) hq.1 hq.2).1 c hc
        have z1 : q1.2 = 0 := e3.mp co
        have cl := hL.2.2.2.1 s hs hs hrs
        have hT := hL.1 s (by rw [en]; exact hq.1) cl.1
        have ho : op M' s c = true := by
          cases q : op M' s c with
          | true => rfl
          | false =>
            obtain ⟨v, hv, hV⟩ := (hT.1 c (by rw [en]; exact hc)).2 q
            have hIB : OKm gS (wr N 136 40 (Int32.ofNat (100 * y))) := hI.1.put (b := (0, 9999)) rfl (by rw [t_of (by omega)]; show (0 : Int) ≤ _ ∧ _ ≤ (9999 : Int); omega)
            have rB : row 136 (wr N 136 40 (Int32.ofNat (100 * y))) = upf (row 136 N) 40 (Int32.ofNat (100 * y)) := row_wr
            obtain ⟨qB, eB, _⟩ := sX7_reasonOf hIB (x1 := Int32.ofNat (c / 2)) (x2 := Int32.ofNat (c % 2)) (x3 := Int32.ofNat s) (by rw [t_of (by omega)]; omega) (by rw [t_of (by omega)]; omega) (by rw [t_of (by omega)]; omega)
            have v1 := hV _ (by rw [rB]; exact hB) qB eB
            have v2 := mono_ref h hO' (b := c / 2) (s := c % 2) (a := s) (by omega) (by omega) hq.1 (e1.trans er) rB (by rw [t_of (by omega), t_of (by omega)]; omega) e2 eB z1
            exact absurd (v1.symm.trans v2) hv
        have st := hL.step n8' hs hrs (by omega) ho
        exact IH _ (by have := st.2.2.1; omega) st.2.2.2.2.1 st.2.2.2.2.2 hcp
  have m256 : m < 256 := by omega
  exact key _ m (Nat.le_refl _) m256 hL.2.1 hz
theorem f_100 : ∀ a, a < 40 → (100 : Int32) * Int32.ofNat a = Int32.ofNat (100 * a) := by decide
/-- the class: what halving finds -/
theorem gb_l (n8 : n ≤ 8) : ∀ (fuel e : Nat) (x1 : Int32) (M : Mem), e ≤ 5 → BmI m M → nb 13 M = n → (∃ v, PB 13 M (upf (row 136 N) 40 v)) → (x1 = -1 ∨ ∃ a, a ≤ 20 ∧ x1 = Int32.ofNat a ∧ TC N n m a) → (∀ t : Nat, (t : Int) = x1.toInt + ((2 ^ e : Nat) : Int) → t ≤ 20 → FC N n m t) → Pc (mX6_greatestBeam_l16 0 fuel x1 (Int32.ofNat (2 ^ e / 2)) M) (fun q => (q.2 = -1 ∧ FC N n m 0) ∨ ∃ a, a ≤ 20 ∧ q.2 = Int32.ofNat (100 * a) ∧ TC N n m a ∧ (a + 1 ≤ 20 → FC N n m (a + 1))) := by
  intro fuel
  induction fuel with
  | zero => intro e x1 M _ _ _ _ _ _ q hq; cases hq
  | succ fuel IH =>
    intro e x1 M he hm en hB hx ht
    show Pc (mX6_greatestBeam_b16 0 (mX6_greatestBeam_l16 0 fuel) x1 (Int32.ofNat (2 ^ e / 2)) M) _
    unfold mX6_greatestBeam_b16
    have n0 : ((0 : Int32)).toInt = 0 := rfl
    have n20 : ((20 : Int32)).toInt = 20 := rfl
    have nm1 : ((-1 : Int32)).toInt = -1 := rfl
    cases e with
    | zero =>
      refine Pc.i (fun _ => Pc.i (fun c => Pc.ok (Or.inl ⟨rfl, ht 0 ?_ (by omega)⟩)) (fun c => ?_)) (fun c => absurd (by decide) c)
      · rw [c, nm1]; rfl
      · rcases hx with e | ⟨a, ha, e, hT⟩
        · exact absurd e c
        · refine Pc.ok (Or.inr ⟨a, ha, ?_, hT, fun h => ht (a + 1) ?_ h⟩)
          · show (100 : Int32) * x1 = _
            rw [e]; exact f_100 a (by omega)
          · rw [e, t_of (by omega)]; rfl
    | succ e =>
      have pe : 2 ^ (e + 1) / 2 = 2 ^ e := by rw [Nat.pow_succ]; omega
      have p2 : 2 ^ (e + 1) = 2 * 2 ^ e := by rw [Nat.pow_succ]; omega
      have p16 : 2 ^ e ≤ 16 := by
        have : 2 ^ e ≤ 2 ^ 4 := Nat.pow_le_pow_right (by decide) (by omega)
        have h4 : (2 : Nat) ^ 4 = 16 := rfl
        omega
      have pp := Nat.two_pow_pos e
      rw [pe]
      have tw : (Int32.ofNat (2 ^ e)).toInt = ((2 ^ e : Nat) : Int) := t_of (by omega)
      have xr : -1 ≤ x1.toInt ∧ x1.toInt ≤ 20 := by
        rcases hx with e | ⟨a, ha, e, _⟩
        · rw [e, nm1]; omega
        · rw [e, t_of (by omega)]; omega
      refine Pc.i (fun c => ?_) (fun _ => Pc.b (fun x3 e3 => Pc.k (fun _ => Pc.b (fun M9 e9 => ?_))))
      · have c := i_le.mp c
        rw [tw, n0] at c; omega
      have t3 : x3.toInt = x1.toInt + ((2 ^ e : Nat) : Int) := by rw [e3, i_add (by omega) (by omega), tw]
      obtain ⟨k, hk, ek⟩ : ∃ k : Nat, k < 40 ∧ x3 = Int32.ofNat k := ⟨x3.toInt.toNat, by omega, o_of (by omega)⟩
      have tk : (k : Int) = x1.toInt + ((2 ^ e : Nat) : Int) := by rw [← t3, ek, t_of (by omega)]
      have e9 : M9 = wr M (13 + 2) 1 ((100 : Int32) * x3) := e9
      have h9 : BmI m M9 := hm.set e9
      have en9 : nb 13 M9 = n := by rw [← en, e9]; unfold nb; rw [rd_wk (by omega)]
      have hB9 : PB 13 M9 (upf (row 136 N) 40 (Int32.ofNat (100 * k))) := by
        obtain ⟨v, hv⟩ := hB
        have := hv.beam (v := (100 : Int32) * x3)
        rw [upf2, ← e9, ek, f_100 k hk] at this
        exact this
      have nx : ∀ (y : Int32) (M' : Mem), BmI m M' → nb 13 M' = n → (∃ v, PB 13 M' (upf (row 136 N) 40 v)) → (y = -1 ∨ ∃ a, a ≤ 20 ∧ y = Int32.ofNat a ∧ TC N n m a) → (∀ t : Nat, (t : Int) = y.toInt + ((2 ^ e : Nat) : Int) → t ≤ 20 → FC N n m t) → Pc (mX6_greatestBeam_b59 0 (mX6_greatestBeam_l16 0 fuel) y (Int32.ofNat (2 ^ e)) M') (fun q => (q.2 = -1 ∧ FC N n m 0) ∨ ∃ a, a ≤ 20 ∧ q.2 = Int32.ofNat (100 * a) ∧ TC N n m a ∧ (a + 1 ≤ 20 → FC N n m (a + 1))) := by
        intro y M' h1 h2 h3 h4 h5
        unfold mX6_greatestBeam_b59
        refine Pc.b (fun z ez => ?_)
        rw [f_shr1 (2 ^ e) (by omega)] at ez
        rw [ez]
        exact IH e y M' (by omega) h1 h2 h3 h4 h5
      refine Pc.i (fun c => ?_) (fun c => Pc.m (pc_all13 h9) (fun M14 r13 p => ?_))
      · have c := i_lt.mp c
        rw [n20, t3] at c
        exact nx x1 M9 h9 en9 ⟨_, hB9⟩ hx (fun t h1 h2 => by omega)
      have c := i_nlt c
      rw [n20, t3] at c
      obtain ⟨q1, q2, q3, q4⟩ := p
      have q1 : KS SPr M9 M14 := q1
      have q4 : ¬ r13 = 0 ↔ rc M14 (2 ^ nb 13 M14 - 1) := q4
      have b14 : BL 13 M9 13 M14 := BL.ks q1 (fun c j h1 h2 z => by unfold SPr at z; omega)
      have en14 : nb 13 M14 = n := b14.bn.trans en9
      have hB14 : PB 13 M14 (upf (row 136 N) 40 (Int32.ofNat (100 * k))) := hB9.bl b14
      rw [en14] at q4
      refine Pc.i (fun z => nx x1 M14 q2 en14 ⟨_, hB14⟩ hx (fun t h1 h2 => ?_)) (fun z => nx x3 M14 q2 en14 ⟨_, hB14⟩ (Or.inr ⟨k, by omega, ek, M14, q3, en14, hB14, q4.mp z⟩) (fun t h1 h2 => ht t (by rw [h1, t3, p2]; omega) h2))
      have : t = k := by omega
      subst this
      exact ⟨M14, q3, en14, hB14, fun y => q4.mpr y z⟩
theorem gr_l (hx0 : x1 = rd N 136 40) : ∀ (fuel d : Nat) (x3 : Int32) (N1 : Mem) (g : Gm), d ≤ 21 → x3.toInt = 100 * (d : Int) - 100 → OKm g N1 → g.1 136 40 = (0, 9999) → NM n m N1 → (∃ v, row 136 N1 = upf (row 136 N) 40 v) → (∀ d', d ≤ d' → d' ≤ 20 → FR N n m d') → Pc (mX7_greatestBeam_l19 135 fuel x1 (-1) x3 N1) (fun q => (q.2 = -1 ∧ ∀ d', d' ≤ 20 → FR N n m d') ∨ ∃ a, a ≤ 20 ∧ q.2 = Int32.ofNat (100 * a) ∧ TR N n m a ∧ ∀ d', a < d' → d' ≤ 20 → FR N n m d') := by
  intro fuel
  induction fuel with
  | zero => intro d x3 N1 g _ _ _ _ _ _ _ q hq; cases hq
  | succ fuel IH =>
    intro d x3 N1 g hd h3 hK hg hN hrow hF
    show Pc (mX7_greatestBeam_b19 135 (mX7_greatestBeam_l19 135 fuel) x1 (-1) x3 N1) _
    unfold mX7_greatestBeam_b19
    have n0 : ((0 : Int32)).toInt = 0 := rfl
    have n100 : ((-100 : Int32)).toInt = -100 := rfl
    have nm1 : ((-1 : Int32)).toInt = -1 := rfl
    cases d with
    | zero =>
      refine Pc.i (fun _ => ?_) (fun c => ?_)
      · unfold mX7_greatestBeam_b59
        exact Pc.k (fun _ => Pc.b (fun M8 _ => Pc.ok (Or.inl ⟨rfl, fun d' h => hF d' (by omega) h⟩)))
      · have c := i_nlt c
        omega
    | succ d =>
      refine Pc.i (fun c => ?_) (fun _ => Pc.i (fun _ => Pc.k (fun _ => Pc.b (fun M12 e12 => ?_))) (fun z => absurd rfl z))
      · have c := i_lt.mp c
        omega
      have e3 : x3 = Int32.ofNat (100 * d) := by rw [i_eq, t_of (by omega)]; omega
      have e12 : M12 = wr N1 136 40 x3 := e12
      have k12 : OKm g M12 := by
        rw [e12]
        exact hK.put (b := (0, 9999)) hg (by show (0 : Int) ≤ _ ∧ _ ≤ (9999 : Int); omega)
      have r12 : row 136 M12 = upf (row 136 N) 40 (Int32.ofNat (100 * d)) := by
        obtain ⟨v, hv⟩ := hrow
        rw [e12, row_wr, hv, upf2, e3]
      have m12 : NM n m M12 := by
        rw [e12]
        exact ⟨(rd_wj (by decide)).trans hN.1, hN.2.1, (rd_wj (by decide)).trans hN.2.2.1, hN.2.2.2⟩
      refine Pc.m (pc_layOrders k12 m12) (fun M15 _ p => ?_)
      obtain ⟨p1, p2, p3, p4, p5⟩ := p
      have p3 : row 136 M15 = row 136 M12 := p3
      refine Pc.c (pc_isOrd p2) (fun r17 p17 => ?_)
      unfold mX7_greatestBeam_b52
      have es : (x3 + (-100 : Int32)).toInt = 100 * (d : Int) - 100 := by rw [i_add (by omega) (by omega), h3, n100]; omega
      rcases p17 with ⟨z, hz⟩ | ⟨z, hz⟩
      · rw [z]
        refine Pc.i (fun _ => Pc.b (fun x3' e3' => ?_)) (fun y => absurd rfl y)
        rw [e3']
        refine IH d _ M15 (w2 g) (by omega) es p1 hg p2 ⟨_, p3.trans r12⟩ (fun d' h1 h2 => ?_)
        by_cases q : d' = d
        · subst q; exact ⟨M12, M15, r12, p4, p5, hz⟩
        · exact hF d' (by omega) h2
      · rw [z]
        refine Pc.i (fun y => absurd y (by decide)) (fun _ => Pc.b (fun x3' e3' => ?_))
        -- found: the loop ends
        cases fuel with
        | zero => intro q hq; cases hq
        | succ fuel =>
          show Pc (mX7_greatestBeam_b19 135 (mX7_greatestBeam_l19 135 fuel) x1 x3 x3' M15) _
          unfold mX7_greatestBeam_b19
          have fin : Pc (mX7_greatestBeam_b59 135 x1 x3 M15) (fun q => (q.2 = -1 ∧ ∀ d', d' ≤ 20 → FR N n m d') ∨ ∃ a, a ≤ 20 ∧ q.2 = Int32.ofNat (100 * a) ∧ TR N n m a ∧ ∀ d', a < d' → d' ≤ 20 → FR N n m d') := by
            unfold mX7_greatestBeam_b59
            exact Pc.k (fun _ => Pc.b (fun M8 _ => Pc.ok (Or.inr ⟨d, by omega, e3, ⟨M12, M15, r12, p4, p5, hz⟩, fun d' h1 h2 => hF d' (by omega) h2⟩)))
          refine Pc.i (fun _ => fin) (fun _ => Pc.i (fun y => ?_) (fun _ => fin))
          have := congrArg Int32.toInt y
          omega
theorem an_greatestBeam {f : Bx} (h : SS M N) (hI : MI N) (hO : OKb f M) : R2 (mX6_greatestBeam 0 M) (mX7_greatestBeam 135 N) (fun p q => p.2 = q.2) := by
  obtain ⟨m, m2, em, hR⟩ := row_at hI h.1
  have n8 := nb8 (pr_9 h.1)
  unfold mX6_greatestBeam mX7_greatestBeam
  refine R2.ml (bm_init h em m2) (fun M3 _ p => R2.br (fun N1 e1 => R2.kr (fun _ => R2.br (fun x1 ex => ?_))))
  obtain ⟨p1, p2, p3⟩ := p
  have p1 : KS SBm M M3 := p1
  have p3 : PR 13 M3 (row 136 N) := p3
  have en : nb 13 M3 = nb 5 M := by
    have h1 := p3.pb.bn
    have h2 := h.1.pb.bn
    omega
  have r1 : row 136 N1 = row 136 N := by rw [e1]; exact th_row
  have self : ∀ f : Nat → Int32, upf f 40 (f 40) = f := fun f => by
    funext i
    unfold upf
    by_cases e : i = 40
    · rw [if_pos e, e]
    · rw [if_neg e]
  intro p q hp hq
  have C := gb_l (N := N) n8 5000 5 (-1) M3 (by omega) p2 en ⟨row 136 N 40, by rw [self]; exact p3.pb⟩ (Or.inl rfl) (fun t h1 h2 => by have : ((-1 : Int32)).toInt = -1 := rfl; rw [this] at h1; have h5 : (2 : Nat) ^ 5 = 32 := rfl; omega) p hp
  have R := gr_l (N := N) (n := nb 5 M) (m := m) (x1 := x1) (by rw [ex]; exact congrFun r1 40) 5000 21 2000 N1 gS (by omega) (by decide) (by rw [e1]; exact (hI.th (v := 0)).1.1) rfl (by rw [e1]; exact (row_th hR).nm) ⟨row 136 N 40, by rw [r1, self]⟩ (fun d' h1 h2 => by omega) q hq
  rcases C with ⟨c1, c2⟩ | ⟨a, c1, c2, c3, c4⟩
  · rcases R with ⟨r1, _⟩ | ⟨a', r1, r2, r3, r4⟩
    · rw [c1, r1]
    · exact (tr_fc h hI hO m2 r1 (Nat.zero_le _) r3 c2).elim
  · rcases R with ⟨_, r2⟩ | ⟨a', r1, r2, r3, r4⟩
    · exact (tc_fr n8 c3 (r2 a c1)).elim
    · rcases Nat.lt_trichotomy a a' with z | z | z
      · exact (tr_fc h hI hO m2 r1 (by omega) r3 (c4 (by omega))).elim
      · rw [c2, r2, z]
      · exact (tc_fr n8 c3 (r4 a z c1)).elim
end GB2
