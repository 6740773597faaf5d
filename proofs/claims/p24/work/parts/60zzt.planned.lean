/-! planned: alike -/
def XR {β : Type} (num : Nat → Int32) (p : Mem × (β ⊕ Nat)) (q : Mem × β) : Prop := (∀ v, p.2 = Sum.inl v → rd q.1 135 5 = 0 ∧ v = q.2) ∧ (∀ e, p.2 = Sum.inr e → rd q.1 135 5 = num e)
section PD2
variable {g : Gm} {n m a b c l : Nat} {M M' N N' N0 : Mem} {lc lg r x x1 : Int32} {num : Nat → Int32}
theorem XR.inl {β : Type} {v w : β} (e : rd N 135 5 = 0) (h : v = w) : XR num (M, Sum.inl v) (N, w) := ⟨fun v' e' => by cases e'; exact ⟨e, h⟩, fun e' q => by cases q⟩
theorem XR.inr {β : Type} {e : Nat} {w : β} (h : rd N 135 5 = num e) : XR num (M, Sum.inr e) (N, w) := ⟨fun v' e' => (by cases e'), fun e' q => (by cases q; exact h)⟩
theorem pc_l57 (hN : NM n m N) (hK : OKm g N) (hO : LOa n m N0 N 0) {i : Nat} (hi : i < 100) : ∀ (j fuel k a l c0 : Nat), k + j = i → a < 2 ^ n → a &&& m = m → l ≤ 16 → RCh n N j a l c0 → Pc (mX7_planned_l57 135 fuel (Int32.ofNat i) (Int32.ofNat a) (Int32.ofNat l) (Int32.ofNat k) N) (fun q => q.1 = N ∧ q.2 = Int32.ofNat c0) := by
  have hn := hN.2.1
  have hp := z_pow n hn
  intro j
  induction j with
  | zero =>
    intro fuel k a l c0 hk ha hb hl hC
    cases fuel with
    | zero => intro q e; cases e
    | succ fuel =>
      show Pc (mX7_planned_b57 135 (mX7_planned_l57 135 fuel) (Int32.ofNat i) (Int32.ofNat a) (Int32.ofNat l) (Int32.ofNat k) N) _
      unfold mX7_planned_b57
      have ti : (Int32.ofNat i).toInt = (i : Int) := t_of (by omega)
      have tk : (Int32.ofNat k).toInt = (k : Int) := t_of (by omega)
      refine Pc.i (fun z => by have z := i_lt.mp z; omega) (fun _ => ?_)
      refine Pc.c (pc_bestR hN hK ha hl (hO a (by omega) ha hb)) (fun r19 p => ?_)
      have hC : bst n N a l c0 := hC
      rcases p with ⟨c, e, hc⟩ | ⟨_, hno⟩
      · have ec := bst_u hc hC
        subst ec
        refine Pc.b (fun x2 _ => Pc.b (fun x4 e4 => ?_))
        have e4' : x4 = Int32.ofNat (k + 1) := by rw [e4]; exact (Int32.ofNat_add k 1).symm
        rw [e4', e]
        cases fuel with
        | zero => intro q e; cases e
        | succ fuel =>
          show Pc (mX7_planned_b57 135 (mX7_planned_l57 135 fuel) (Int32.ofNat i) x2 (Int32.ofNat c) (Int32.ofNat (k + 1)) N) _
          unfold mX7_planned_b57
          have tk1 : (Int32.ofNat (k + 1)).toInt = ((k + 1 : Nat) : Int) := t_of (by omega)
          exact Pc.i (fun _ => Pc.ok ⟨rfl, rfl⟩) (fun z => by have z := i_nlt z; omega)
      · exact absurd hC.1 (hno c0)
  | succ j IH =>
    intro fuel k a l c0 hk ha hb hl hC
    cases fuel with
    | zero => intro q e; cases e
    | succ fuel =>
      show Pc (mX7_planned_b57 135 (mX7_planned_l57 135 fuel) (Int32.ofNat i) (Int32.ofNat a) (Int32.ofNat l) (Int32.ofNat k) N) _
      unfold mX7_planned_b57
      have ti : (Int32.ofNat i).toInt = (i : Int) := t_of (by omega)
      have tk : (Int32.ofNat k).toInt = (k : Int) := t_of (by omega)
      refine Pc.i (fun z => by have z := i_lt.mp z; omega) (fun _ => ?_)
      obtain ⟨c1, h1, h2⟩ := hC
      have hOa := hO a (by omega) ha hb
      refine Pc.c (pc_bestR hN hK ha hl hOa) (fun r19 p => ?_)
      rcases p with ⟨c, e, hc⟩ | ⟨_, hno⟩
      · have ec := bst_u hc h1
        subst ec
        have hz := z_set n hn a ha (c / 2) (by have := hc.1.1; omega) ((hOa.1 c hc.1.1).2 hc.1.2.1)
        have c16 : c < 16 := by have := hc.1.1; omega
        refine Pc.b (fun x2 e2 => Pc.b (fun x4 e4 => ?_))
        have e4' : x4 = Int32.ofNat (k + 1) := by rw [e4]; exact (Int32.ofNat_add k 1).symm
        rw [e, f_half c (by omega), f_or a (by omega) (c / 2) (by omega)] at e2
        rw [e4', e2, e]
        exact IH fuel (k + 1) _ c c0 (by omega) hz.2.2.1 (z_sup hb) (by omega) h2
      · exact absurd h1.1 (hno c1)
theorem planned_R (h : SS M N) (hI : MI N) : R2 (mX6_planned 0 x1 M) (mX7_planned 135 x1 N) (fun p q => XR (fun _ => 1) p q ∧ SS p.1 q.1) := by
  unfold mX6_planned mX7_planned
  refine R2.laid h hI (fun M3 N5 m lc lg hS m2 em hK hX hN hA hAl _ elc elg hW => ?_)
  have n8 := nb8 (pr_9 hS.1)
  have m256 := n_256 n8 m2
  obtain ⟨l, hl⟩ := lst_ex hX hS.2.2.1 m2 em elc elg hW
  have hpl := hX.plan hA m2 hK elc elg hl
  have n0 : ((0 : Int32)).toInt = 0 := rfl
  have nm1 : ((-1 : Int32)).toInt = -1 := rfl
  have hz := (z_full (nb 5 M3) (by omega) m m2).1
  -- no such step: both throw
  have no : ∀ {x : Option (Mem × Int32)}, x = mX7_planned_b33 135 x1 (0 : Int32) N5 → R2 (some (M3, Sum.inr 1)) x (fun p q => XR (fun _ => 1) p q ∧ SS p.1 q.1) := by
    intro x ex
    rw [ex]
    unfold mX7_planned_b33
    refine R2.mr (pc_good (x := 0) (N := N5)) (fun N10 r9 p => ?_)
    rcases p with ⟨_, e⟩ | ⟨z, _⟩
    · cases e
      refine R2.ir (fun _ => R2.ok ⟨XR.inr rd_we, hS.th⟩) (fun z => absurd rfl z)
    · exact absurd rfl z
  unfold mX6_planned_b32
  -- where the reference has no step
  have none : (x1.toInt < 0 ∨ (rd M3 110 3).toInt ≤ x1.toInt) → ∀ {y : Option (Mem × Int32)}, R2 (some (M3, Sum.inr 1)) y (fun p q => XR (fun _ => 1) p q ∧ SS p.1 q.1) → R2 (ite2 (x1 < 0) (some (M3, Sum.inr 1)) (ite2 ((rd M3 110 3) ≤ x1) (some (M3, Sum.inr 1)) (ite2 (x1 < (8 : Int32)) (chk (okb x1 8) (some (M3, Sum.inl (rd M3 (110 + 1) (x1).toNatClampNeg)))) (some (M3, Sum.inr 1))))) y (fun p q => XR (fun _ => 1) p q ∧ SS p.1 q.1) := by
    intro hx y hy
    refine R2.il (fun _ => hy) (fun c1 => R2.il (fun _ => hy) (fun c2 => ?_))
    have c1 := i_nlt c1
    have c2 := i_nle c2
    exfalso
    rw [n0] at c1
    omega
  refine R2.cr (pc_isOrd hN) (fun r5 p5 => R2.ir (fun c => ?_) (fun c => ?_))
  · have hm : ¬ 0 < mn N5 m := by
      rcases p5 with ⟨_, q⟩ | ⟨q, _⟩
      · exact q
      · rw [q] at c; exact absurd c (by decide)
    refine none ?_ (no rfl)
    rw [hpl.1 hm, nm1]
    omega
  · have hm : 0 < mn N5 m := by
      rcases p5 with ⟨q, _⟩ | ⟨_, q⟩
      · exact absurd q c
      · exact q
    obtain ⟨hlen, hst⟩ := hpl.2 hm
    refine R2.cr (pc_un hX.2.2.2.1 hN) (fun r24 e24 => ?_)
    have t24 : (r24 - (1 : Int32)).toInt = (cntz m (nb 5 M3) : Int) - 1 := by
      have n1 : ((1 : Int32)).toInt = 1 := rfl
      have t : r24.toInt = (cntz m (nb 5 M3) : Int) := by rw [e24, t_of (by omega)]
      rw [i_sub (by omega) (by omega)]; omega
    refine R2.cr (pc_btw (Int32.toInt_toInt64 _) rfl (Int32.toInt_toInt64 _)) (fun r27 p27 => ?_)
    have l0 : ((0 : Int64)).toInt = 0 := rfl
    rw [t24] at p27
    have tl : (rd M3 110 3).toInt = (cntz m (nb 5 M3) : Int) := by rw [hlen, t_of (by omega)]
    refine R2.ir (fun c27 => none ?_ (no rfl)) (fun c27 => ?_)
    · rcases p27 with ⟨q, _⟩ | ⟨_, q⟩
      · rw [q] at c27; exact absurd c27 (by decide)
      · rw [tl]; omega
    · have hx : 0 ≤ x1.toInt ∧ x1.toInt ≤ (cntz m (nb 5 M3) : Int) - 1 := by
        rcases p27 with ⟨_, q⟩ | ⟨q, _⟩
        · exact q
        · exact absurd q c27
      have ex : x1 = Int32.ofNat x1.toInt.toNat := o_of hx.1
      obtain ⟨i, ei⟩ : ∃ i : Nat, x1.toInt.toNat = i := ⟨_, rfl⟩
      rw [ei] at ex
      have hi : i < cntz m (nb 5 M3) := by omega
      obtain ⟨c0, e0, hR0⟩ := hst i hi
      have n8' : ((8 : Int32)).toInt = 8 := rfl
      refine R2.il (fun z => by have z := i_lt.mp z; rw [n0] at z; omega) (fun _ => R2.il (fun z => by have z := i_le.mp z; omega) (fun _ => R2.il (fun _ => R2.kl (fun _ => ?_)) (fun z => by have z := i_nlt z; omega)))
      unfold mX7_planned_b33
      refine R2.mr (pc_good (x := 1) (N := N5)) (fun N10 r9 p => ?_)
      rcases p with ⟨z, _⟩ | ⟨_, e⟩
      · exact absurd z (by decide)
      cases e
      refine R2.ir (fun z => absurd z (by decide)) (fun _ => R2.kr (fun _ => R2.br (fun s0 es => ?_)))
      have hS10 : SS M3 (wr N5 135 5 0) := hS.th
      have e52 : s0 = Int32.ofNat m := by
        rw [es]
        show rd (wr N5 135 5 0) 136 52 = _
        rw [rd_wk (by decide)]; exact hN.2.2.1
      have hX10 : CTX (w2 gS) 5 m M3 N (wr N5 135 5 0) := by
        obtain ⟨t1, t2, t3, t4, t5, t6, t7, t8, t9⟩ := hX
        have e : ∀ k j, k ≠ 135 → rd (wr N5 135 5 0) k j = rd N5 k j := fun k j hk => rd_wk hk
        refine ⟨t1, t2, hS10.1, th_put t4, t5.of (fun _ _ _ _ => e _ _ (by decide)) (fun _ _ => rfl), fun a c ha hc => by rw [e _ _ (by decide)]; exact t6 a c ha hc, fun b hb h1 h2 l hl => ?_, t8, th_row.trans t9⟩
        exact (t7 b hb h1 h2 l hl).of (by omega) h1 (t5 b hb h1 h2) (fun j => e _ _ (by decide)) (fun j => e _ _ (by decide)) (fun j => e _ _ (by decide)) (fun b c _ _ => ⟨e _ _ (by decide), e _ _ (by decide)⟩) ⟨e _ _ (by decide), e _ _ (by decide)⟩
      rw [e52]
      refine R2.cr (lst_of hX10 hS10.2.2.1 m2 em elc elg) (fun r15 p15 => ?_)
      obtain ⟨l', e15, l16, hl'⟩ := p15
      rw [e15]
      have hA10 : Ald (nb 5 M3) m (wr N5 135 5 0) 0 := by
        intro b h1 h2 h3 l hv
        refine (hA b h1 h2 h3 l hv).of (hAl b h1 h2 h3) h2 (by omega) (fun j => rd_wk (by decide)) (fun _ => rfl) (cst_same (fun j => rd_wk (by decide)) (fun j => rd_wk (by decide))) (fun b' c' _ _ => rd_wk (by decide))
      have hm10 : 0 < mn (wr N5 135 5 0) m := hm
      obtain ⟨_, hst10⟩ := (hX10.plan hA10 m2 hK elc elg hl').2 hm10
      obtain ⟨c1, e1, hR1⟩ := hst10 i hi
      have hN10 : NM (nb 5 M3) m (wr N5 135 5 0) := ⟨(rd_wk (by decide)).trans hN.1, hN.2.1, (rd_wk (by decide)).trans hN.2.2.1, hN.2.2.2⟩
      rw [ex, c_of (by omega)]
      intro p q hp hq
      cases hp
      obtain ⟨f1, f2⟩ := pc_l57 (i := i) hN10 hX10.2.2.2.1 hX10.2.2.2.2.1 (by omega) i 5000 0 m l' c1 (by omega) m2 (Nat.and_self m) l16 hR1 q hq
      obtain ⟨q1, q2⟩ := q
      have f1 : q1 = _ := f1
      have f2 : q2 = _ := f2
      subst f1
      subst f2
      exact ⟨XR.inl rd_we e1, hS10⟩
end PD2
