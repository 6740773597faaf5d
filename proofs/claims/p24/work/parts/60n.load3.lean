/-! load: what it gives, by both -/
section LDU
variable {M N M0 N0 : Mem} {f : Nat → Int32}
/-- what a read text gives -/
def LRel (a : Mem × Int32) (b : Mem × Int32) : Prop := (rd a.1 2 0 = rd b.1 135 8 ∧ rd a.1 2 1 = rd b.1 135 9) ∧ ((a.2 = 0 ∧ b.2 = -3) ∨ (¬ a.2 = 0 ∧ PR 13 a.1 (row 136 b.1) ∧ b.2 = rd b.1 136 0 ∧ rd b.1 135 4 = 0))
theorem b102_err : Pc (mX7_load_b102 135 0 N) (fun q => rd q.1 135 8 = rd N 135 15 ∧ rd q.1 135 9 = rd N 135 16 ∧ q.2 = -3) := by
  unfold mX7_load_b102
  refine Pc.b (fun M25 e25 => Pc.b (fun M27 e27 => Pc.i (fun _ => Pc.ok ⟨?_, ?_, rfl⟩) (fun q => absurd rfl q)))
  · show rd M27 135 8 = _
    rw [e27, rd_wj (by decide), e25, rd_we]
  · show rd M27 135 9 = _
    rw [e27, rd_we, e25, rd_wj (by decide)]
theorem b102_ok : Pc (mX7_load_b102 135 1 N) (fun q => rd q.1 135 8 = rd N 135 15 ∧ rd q.1 135 9 = rd N 135 16 ∧ (∀ p, p < 86 → rd q.1 136 p = rd N 137 p) ∧ q.2 = rd q.1 136 0 ∧ rd q.1 135 4 = 0) := by
  unfold mX7_load_b102
  refine Pc.b (fun M25 e25 => Pc.b (fun M27 e27 => Pc.i (fun q => absurd q (by decide)) (fun _ => Pc.m (pc_copy (a := 135 + 2) (b := 135 + 1) (by decide)) (fun M32 _ p => Pc.b (fun M33 e33 => Pc.k (fun _ => Pc.ok ?_))))))
  have kp : KS (fun k _ => k = 136) M27 M32 := p.1
  have cp : ∀ p, p < 86 → rd M32 136 p = rd M27 137 p := p.2
  refine ⟨?_, ?_, fun p hp => ?_, rfl, ?_⟩
  · show rd M33 135 8 = _
    rw [e33, rd_wj (by decide), kp 135 8 (by decide), e27, rd_wj (by decide), e25, rd_we]
  · show rd M33 135 9 = _
    rw [e33, rd_wj (by decide), kp 135 9 (by decide), e27, rd_we, e25, rd_wj (by decide)]
  · show rd M33 136 p = _
    rw [e33, rd_wk (by decide), cp p hp, e27, rd_wk (by decide), e25, rd_wk (by decide)]
  · show rd M33 135 4 = 0
    rw [e33, rd_we]
theorem rt_b84 : Pc (mX4_readText_b84 2 1 13 M) (fun q => q.1 = M ∧ (rd M 2 0 = 0 → q.2 = 1) ∧ (¬ rd M 2 0 = 0 → q.2 = 0)) := by
  unfold mX4_readText_b84
  exact Pc.i (fun c => Pc.ok ⟨rfl, fun _ => rfl, fun q => absurd c q⟩) (fun c => Pc.ok ⟨rfl, fun q => absurd q c, fun _ => rfl⟩)
/-- the class's loop ends behind an error -/
theorem rt_err : ∀ (n : Nat) (x4 : Int32) (M : Mem), ¬ rd M 2 0 = 0 → Pc (mX4_readText_l47 2 1 13 n x4 M) (fun q => q.1 = M ∧ q.2 = 0) := by
  intro n x4 M h
  cases n with
  | zero => exact Pc.n
  | succ n =>
    show Pc (mX4_readText_b47 2 1 13 (mX4_readText_l47 2 1 13 n) x4 M) _
    unfold mX4_readText_b47
    have e : Pc (mX4_readText_b84 2 1 13 M) (fun q => q.1 = M ∧ q.2 = 0) := Pc.mono rt_b84 (fun q hq => ⟨hq.1, hq.2.2 h⟩)
    exact Pc.i (fun _ => e) (fun _ => Pc.i (fun _ => e) (fun _ => Pc.i (fun q => absurd q h) (fun _ => e)))
theorem ld_err : ∀ (m : Nat) (N : Mem), Pc (mX7_load_l68 135 m 0 N) (fun q => rd q.1 135 8 = rd N 135 15 ∧ rd q.1 135 9 = rd N 135 16 ∧ q.2 = -3) := by
  intro m N
  cases m with
  | zero => exact Pc.n
  | succ m =>
    show Pc (mX7_load_b68 135 (mX7_load_l68 135 m) 0 N) _
    unfold mX7_load_b68
    exact Pc.i (fun _ => b102_err) (fun q => absurd rfl q)
theorem kk_cl {N1 : Mem} {r : Int32} {b : Mem × Int32} (hr : ¬ r = 0) (h : mX7_closed 135 N1 = some b) : (rd N1 135 13 = 4 ∧ KK N1 r = some (N1, 1) ∧ mX7_advance 135 N1 = some b) ∨ (KK N1 r = some b ∧ b.2 = 0) := by
  unfold mX7_closed at h
  unfold KK closT
  by_cases c : rd N1 135 13 = 4
  · left
    have h := ite_t c h
    obtain ⟨M4, r3, e1, e2⟩ := cal_s h
    obtain ⟨_, e2⟩ := chk_s e2
    cases e2
    refine ⟨c, ?_, e1⟩
    unfold ite2
    rw [if_neg hr, if_pos c]
  · right
    have h := ite_f c h
    have e0 : b.2 = 0 := by
      obtain ⟨M8, r7, e1, e2⟩ := cal_s h
      obtain ⟨_, e2⟩ := chk_s e2
      cases e2
      exact (pc_fail _ e1).1
    refine ⟨?_, e0⟩
    unfold ite2
    rw [if_neg hr, if_neg c]
    exact h
theorem ld_l : ∀ (n m : Nat) (x4 : Int32) (M N : Mem), TT M N → BX (row 137 N) M N → PI N → 0 ≤ x4.toInt → x4.toInt ≤ (rd N 135 11).toInt → R2 (mX4_readText_l47 2 1 13 n x4 M) (mX7_load_l68 135 m 1 N) LRel := by
  intro n
  induction n with
  | zero => intro m x4 M N _ _ _ _ _; exact R2.nl
  | succ n IH =>
    intro m x4 M N hT hB hP h0 hx
    cases m with
    | zero => exact R2.nr
    | succ m =>
      show R2 (mX4_readText_b47 2 1 13 (mX4_readText_l47 2 1 13 n) x4 M) (mX7_load_b68 135 (mX7_load_l68 135 m) 1 N) _
      have good : R2 (mX4_readText_b84 2 1 13 M) (mX7_load_b102 135 1 N) LRel := by
        intro a b ha hb
        have p := rt_b84 _ ha
        have q := b102_ok _ hb
        have e15 := hB.n0
        refine ⟨⟨?_, ?_⟩, Or.inr ⟨?_, ?_, q.2.2.2.1, q.2.2.2.2⟩⟩
        · rw [p.1, q.1, hB.k0, e15]
        · rw [p.1, q.2.1, hB.pp]
        · rw [p.2.1 hB.k0]; decide
        · rw [p.1]; exact hB.pr.cong (fun p hp => q.2.2.1 p hp)
      unfold mX4_readText_b47 mX7_load_b68 mX7_load_b97 mX7_load_b98
      rw [hT.tk]
      refine R2.ir (fun q => absurd q (by decide)) (fun _ => ?_)
      refine R2.il (fun c6 => ?_) (fun _ => R2.il (fun ct => R2.ir (fun _ => good) (fun q => absurd ct q)) (fun ct => R2.ir (fun q => absurd q ct) (fun _ => R2.il (fun _ => ?_) (fun q => absurd hB.k0 q))))
      · have c6 := i_le.mp c6
        rw [show ((600 : Int32)).toInt = 600 from rfl] at c6
        refine R2.ir (fun _ => good) (fun q => ?_)
        have := hT.en q; have := hT.rt.top
        exfalso; omega
      · intro a b ha hb
        obtain ⟨M25, u1, a1, a2⟩ := cal_s ha
        obtain ⟨M28, u2, a3, a4⟩ := cal_s a2
        obtain ⟨x', ex', a5⟩ := bnd_s a4
        obtain ⟨N39, r38, b1, b2⟩ := cal_s hb
        have hS := (sX7_statement hP).toPc _ b1
        have st := st_all hT hB
        have fn : KS SC M25 M28 := fr_next _ a3
        by_cases c38 : r38 = 0
        · have b2 := ite_t c38 b2
          subst c38
          have hk : cal (mX7_statement 135 N) KK = some (N39, 0) := by rw [b1]; rfl
          rcases st _ _ a1 hk with ⟨q, _⟩ | ⟨_, q1, q2, q3⟩
          · exact absurd rfl q
          · have q1 : ¬ rd M25 2 0 = 0 := q1
            have q2 : rd M25 2 0 = rd N39 135 15 := q2
            have q3 : rd M25 2 1 = rd N39 135 16 := q3
            have z0 : rd M28 2 0 = rd M25 2 0 := fn 2 0 (by decide)
            have z1 : rd M28 2 1 = rd M25 2 1 := fn 2 1 (by decide)
            have p := rt_err n x' M28 (by rw [z0]; exact q1) _ a5
            have q := ld_err m N39 _ b2
            refine ⟨⟨?_, ?_⟩, Or.inl ⟨p.2, q.2.2⟩⟩
            · rw [p.1, z0, q.1, q2]
            · rw [p.1, z1, q.2.1, q3]
        · have b2 := ite_f c38 b2
          obtain ⟨N43, r42, b3, b4⟩ := cal_s b2
          have hC := (sX7_closed hS.1).toPc _ b3
          rcases kk_cl c38 b3 with ⟨c4, k1, k2⟩ | ⟨k1, k2⟩
          · have hk : cal (mX7_statement 135 N) KK = some (N39, 1) := by rw [b1]; exact k1
            rcases st _ _ a1 hk with ⟨_, hB2⟩ | ⟨q, _⟩
            · have hB2 : BX (row 137 N39) M25 N39 := hB2
              have er : r42 = 1 := o_adv _ k2
              subst er
              have b4 := ite_f (by decide) b4
              have tn := tk_next hB2.nx.rt hB2.nx.nx hB2.nx.b0 hB2.nx.b2 _ _ a3 k2
              have tn : TT M28 N43 := tn
              have fa : KS SN N39 N43 := fr_adv _ k2
              have mo : (rd N39 135 12).toInt ≤ (rd N43 135 11).toInt := adv_mono hB2.nx.rt.top _ k2
              have hB3 : BX (row 137 N43) M28 N43 := by
                rw [row_ks fa (fun j z => absurd z.1 (by decide))]
                refine ⟨tn.n, hB2.pr.ks fn (fun c j h1 h2 q => ?_), ?_, ?_, ?_⟩
                · have q1 := q.1; omega
                · rw [fn 2 0 (by decide)]; exact hB2.k0
                · rw [fa 135 15 (by decide)]; exact hB2.n0
                · rw [fn 2 1 (by decide), fa 135 16 (by decide)]; exact hB2.pp
              have inc : nx N < nx N39 := hS.2.2.2.2 c38
              have inc : (rd N 135 12).toInt < (rd N39 135 12).toInt := inc
              have hb1 := hT.b1; have hb2 := tn.b1; have hb3 := tn.b2; have hb4 := tn.rt.top
              have n1 : ((1 : Int32)).toInt = 1 := rfl
              have tx : x'.toInt = x4.toInt + 1 := by rw [ex', i_add (by omega) (by omega), n1]
              exact IH m x' M28 N43 tn hB3 hC.1 (by omega) (by omega) _ _ a5 b4
            · exact absurd (show (1 : Int32) = 0 from q) (by decide)
          · have hk : cal (mX7_statement 135 N) KK = some (N43, r42) := by rw [b1]; exact k1
            have k2 : r42 = 0 := k2
            subst k2
            have b4 := ite_t rfl b4
            rcases st _ _ a1 hk with ⟨q, _⟩ | ⟨_, q1, q2, q3⟩
            · exact absurd rfl q
            · have q1 : ¬ rd M25 2 0 = 0 := q1
              have q2 : rd M25 2 0 = rd N43 135 15 := q2
              have q3 : rd M25 2 1 = rd N43 135 16 := q3
              have z0 : rd M28 2 0 = rd M25 2 0 := fn 2 0 (by decide)
              have z1 : rd M28 2 1 = rd M25 2 1 := fn 2 1 (by decide)
              have p := rt_err n x' M28 (by rw [z0]; exact q1) _ a5
              have q := ld_err m N43 _ b4
              refine ⟨⟨?_, ?_⟩, Or.inl ⟨p.2, q.2.2⟩⟩
              · rw [p.1, z0, q.1, q2]
              · rw [p.1, z1, q.2.1, q3]
/-- the bytes that were fed -/
def BB (M N : Mem) : Prop := ∀ i : Nat, (i : Int) < (rd N 135 7).toInt → BR (rd M 1 i) (rd N 140 i)
/-- load: both throw, or both read -/
def LR (M N : Mem) (a : Mem × (Int32 ⊕ Nat)) (b : Mem × Int32) : Prop :=
  (a.1 = M ∧ a.2 = Sum.inr 0 ∧ rd b.1 135 5 = 1 ∧ KS (fun k j => k = 135 ∧ j = 5) N b.1) ∨
  (rd b.1 135 5 = 0 ∧ a.2 = Sum.inl b.2 ∧ (rd a.1 2 0 = rd b.1 135 8 ∧ rd a.1 2 1 = rd b.1 135 9) ∧ (b.2 = -3 ∨ (¬ b.2 = -3 ∧ PR 5 a.1 (row 136 b.1) ∧ rd a.1 21 2 = 0 ∧ rd b.1 135 4 = 0)))
theorem th_l : ∀ (m : Nat) (x : Int32) (N : Mem), PI N → Pc (mX7_load_l68 135 m x N) (fun q => rd q.1 135 5 = rd N 135 5) := by
  intro m
  induction m with
  | zero => intro x N _; exact Pc.n
  | succ m IH =>
    intro x N h
    show Pc (mX7_load_b68 135 (mX7_load_l68 135 m) x N) _
    have fin : Pc (mX7_load_b102 135 x N) (fun q => rd q.1 135 5 = rd N 135 5) := by
      unfold mX7_load_b102
      refine Pc.b (fun M25 e25 => Pc.b (fun M27 e27 => Pc.i (fun _ => Pc.ok ?_) (fun _ => Pc.m (pc_copy (a := 135 + 2) (b := 135 + 1) (by decide)) (fun M32 _ p => Pc.b (fun M33 e33 => Pc.k (fun _ => Pc.ok ?_))))))
      · show rd M27 135 5 = _
        rw [e27, rd_wj (by decide), e25, rd_wj (by decide)]
      · have kp : KS (fun k _ => k = 136) M27 M32 := p.1
        show rd M33 135 5 = _
        rw [e33, rd_wj (by decide), kp 135 5 (by decide), e27, rd_wj (by decide), e25, rd_wj (by decide)]
    unfold mX7_load_b68 mX7_load_b97 mX7_load_b98
    refine Pc.i (fun _ => fin) (fun _ => Pc.i (fun _ => fin) (fun _ => Pc.m (sX7_statement h).toPc (fun M39 r38 p => ?_)))
    have k39 : rd M39 135 5 = rd N 135 5 := p.2.1 135 5 (by decide) (by decide)
    refine Pc.i (fun _ => Pc.mono (IH 0 M39 p.1) (fun q hq => hq.trans k39)) (fun _ => Pc.m (sX7_closed p.1).toPc (fun M43 r42 p43 => ?_))
    have k43 : rd M43 135 5 = rd M39 135 5 := p43.2.1 135 5 (by decide) (by decide)
    exact Pc.i (fun _ => Pc.mono (IH 0 M43 p43.1) (fun q hq => hq.trans (k43.trans k39))) (fun _ => Pc.mono (IH 1 M43 p43.1) (fun q hq => hq.trans (k43.trans k39)))
/-- a text, read by both -/
theorem text_R {x : Int32} (hB : BB M N) (hM : MI N) (h7 : rd N0 135 7 = rd N 135 7) (hx : 0 ≤ x.toInt ∧ x.toInt ≤ (rd N 135 7).toInt) (hk : ∀ j, rd M0 1 j = rd M 1 j) : R2 (mX4_readText 2 1 13 x M0) (mX7_load_b20 135 x 0 N) (fun a b => LRel a b ∧ rd b.1 135 5 = 0) := by
  have b7 : (0 : Int) ≤ (rd N 135 7).toInt ∧ (rd N 135 7).toInt ≤ 600 := hM.1.std 135 7
  unfold mX4_readText mX4_readText_b18 mX7_load_b20
  refine R2.kl (fun _ => R2.bl (fun M1 e1 => R2.il (fun c => ?_) (fun _ => ?_)))
  · have c := i_lt.mp c
    rw [show ((600 : Int32)).toInt = 600 from rfl] at c
    exfalso; omega
  · refine R2.br (fun M5 e5 => R2.ir (fun _ => ?_) (fun c => ?_))
    rotate_left
    · rw [e5, rd_we] at c
      exact absurd (by decide) c
    have h5 : MI M5 := by rw [e5]; exact hM.th.1
    refine R2.br (fun M8 e8 => R2.br (fun M10 e10 => R2.br (fun M12 e12 => R2.br (fun M14 e14 => R2.br (fun M16 e16 => ?_)))))
    have h8 : MI M8 := by rw [e8]; exact h5.set (by decide) (h5.1.put (b := (0, 600)) rfl ⟨hx.1, by show _ ≤ (600 : Int); omega⟩)
    have h10 : MI M10 := by rw [e10]; exact h8.set (by decide) (h8.1.put (b := (0, 600)) rfl (by decide))
    have h12 : MI M12 := by rw [e12]; exact h10.set (by decide) (h10.1.put (b := (0, 600)) rfl (by decide))
    have h14 : MI M14 := by rw [e14]; exact h12.set (by decide) (h12.1.put (b := bT) rfl (i_rng _))
    have h16 : MI M16 := by rw [e16]; exact h14.set (by decide) (h14.1.put (b := bT) rfl (i_rng _))
    have q16 : ∀ k j, ¬ (k = 135 ∧ (j = 5 ∨ j = 7 ∨ j = 10 ∨ j = 12 ∨ j = 15 ∨ j = 16)) → rd M16 k j = rd N k j := fun k j q => by
      rw [e16, rd_eq, if_neg (by omega), e14, rd_eq, if_neg (by omega), e12, rd_eq, if_neg (by omega), e10, rd_eq, if_neg (by omega), e8, rd_eq, if_neg (by omega), e5, rd_eq, if_neg (by omega)]
    have t5 : rd M16 135 5 = 0 := by rw [e16, rd_wj (by decide), e14, rd_wj (by decide), e12, rd_wj (by decide), e10, rd_wj (by decide), e8, rd_wj (by decide), e5, rd_we]
    have t10 : rd M16 135 10 = x := by rw [e16, rd_wj (by decide), e14, rd_wj (by decide), e12, rd_wj (by decide), e10, rd_wj (by decide), e8, rd_we]
    have t12 : rd M16 135 12 = 0 := by rw [e16, rd_wj (by decide), e14, rd_wj (by decide), e12, rd_we]
    have t15 : rd M16 135 15 = 0 := by rw [e16, rd_wj (by decide), e14, rd_we]
    have t16 : rd M16 135 16 = -1 := by rw [e16, rd_we]
    refine R2.bl (fun C1 c1 => R2.bl (fun C2 c2 => R2.bl (fun C3 c3 => R2.bl (fun C4 c4 => R2.ml pc_clear (fun C5 _ pC => ?_)))))
    refine R2.mr (Pc.and pc_reset (sX7_reset h16.1).toPc) (fun N20 _ pN => ?_)
    have kN : KS (fun k _ => k = 137) M16 N20 := pN.1.1
    have rN : ∀ p, p < 86 → rd N20 137 p = r0 p := pN.1.2
    have hP : PI N20 := pN.2.1
    have kC : KS A13 C4 C5 := pC.2
    have v3 : rd C4 2 3 = x := by rw [c4, rd_wj (by decide), c3, rd_wj (by decide), c2, rd_wj (by decide), c1, rd_we]
    have v5 : rd C4 2 5 = 0 := by rw [c4, rd_wj (by decide), c3, rd_wj (by decide), c2, rd_we]
    have v0 : rd C4 2 0 = 0 := by rw [c4, rd_wj (by decide), c3, rd_we]
    have v1 : rd C4 2 1 = -1 := by rw [c4, rd_we]
    have vb : ∀ j, rd C4 1 j = rd M 1 j := fun j => by rw [c4, rd_wk (by decide), c3, rd_wk (by decide), c2, rd_wk (by decide), c1, rd_wk (by decide), e1, rd_wk (by decide)]; exact hk j
    have hBX : BX (row 137 N20) C5 N20 := by
      refine ⟨⟨⟨?_, ?_, fun i hi => ?_⟩, ?_, ?_, ?_⟩, pC.1.cong rN, ?_, ?_, ?_⟩
      · rw [kC 2 3 (by decide), v3, kN 135 10 (by decide), t10]
      · rw [kN 135 10 (by decide), t10]; omega
      · rw [kN 135 10 (by decide), t10] at hi
        rw [kC 1 i (by show ¬ (13 ≤ 1 ∧ 1 ≤ 20); omega), vb, kN 140 i (by show ¬ (140 : Nat) = 137; omega), q16 140 i (by omega)]
        exact hB i (by omega)
      · rw [kC 2 5 (by decide), v5, kN 135 12 (by decide), t12]
      · rw [kN 135 12 (by decide), t12]; decide
      · rw [kN 135 12 (by decide), t12, kN 135 10 (by decide), t10]; exact hx.1
      · rw [kC 2 0 (by decide), v0]
      · rw [kN 135 15 (by decide), t15]
      · rw [kC 2 1 (by decide), v1, kN 135 16 (by decide), t16]
    intro a b ha hb
    obtain ⟨C6, u, a1, a2⟩ := cal_s ha
    obtain ⟨N23, r22, b1, b2⟩ := cal_s hb
    have pA := (sX7_advance hP.1).toPc _ b1
    have h23 : PI N23 := hP.ka pA.1.1 pA.1.2.1
    have fn : KS SC C5 C6 := fr_next _ a1
    have fa : KS SN N20 N23 := fr_adv _ b1
    have tn : TT C6 N23 := tk_next hBX.nx.rt hBX.nx.nx hBX.nx.b0 hBX.nx.b2 _ _ a1 b1
    have hB3 : BX (row 137 N23) C6 N23 := by
      rw [row_ks fa (fun j z => absurd z.1 (by decide))]
      refine ⟨tn.n, hBX.pr.ks fn (fun c j h1 h2 q => ?_), ?_, ?_, ?_⟩
      · have q1 := q.1; omega
      · rw [fn 2 0 (by decide)]; exact hBX.k0
      · rw [fa 135 15 (by decide)]; exact hBX.n0
      · rw [fn 2 1 (by decide), fa 135 16 (by decide)]; exact hBX.pp
    have th := th_l 5000 1 N23 h23 _ b2
    refine ⟨ld_l 5000 5000 0 C6 N23 tn hB3 h23 (by decide) (by rw [show ((0 : Int32)).toInt = 0 from rfl]; exact tn.b0) _ _ a2 b2, ?_⟩
    rw [th, fa 135 5 (by decide), kN 135 5 (by decide), t5]
theorem load_R {x : Int32} (hB : BB M N) (hM : MI N) (h7 : rd M 0 1 = rd N 135 7) : R2 (mX6_load 0 x M) (mX7_load 135 x N) (LR M N) := by
  have b7 : (0 : Int) ≤ (rd N 135 7).toInt ∧ (rd N 135 7).toInt ≤ 600 := hM.1.std 135 7
  have no : ¬ (0 ≤ x.toInt ∧ x.toInt ≤ (rd N 135 7).toInt) → R2 (mX6_load_b12 0 M) (mX7_load_b20 135 x 1 N) (LR M N) := by
    intro _
    unfold mX6_load_b12 mX7_load_b20
    refine R2.br (fun M5 e5 => R2.ir (fun c => ?_) (fun _ => R2.ok (Or.inl ⟨rfl, rfl, ?_, ?_⟩)))
    · rw [e5, rd_we] at c
      exact absurd c (by decide)
    · show rd M5 135 5 = 1
      rw [e5, rd_we]
    · show KS _ N M5
      rw [e5]; exact KS.rf.wr ⟨rfl, rfl⟩
  unfold mX6_load mX7_load
  refine R2.cr (pc_btw (Int32.toInt_toInt64 _) (b := 0) (by decide) (Int32.toInt_toInt64 _)) (fun r2 p2 => ?_)
  rcases p2 with ⟨rfl, p2⟩ | ⟨rfl, p2⟩
  · refine R2.ir (fun q => absurd q (by decide)) (fun _ => ?_)
    refine R2.il (fun c => ?_) (fun _ => R2.il (fun _ => R2.bl (fun M3 e3 => ?_)) (fun c => ?_))
    · have c := i_lt.mp c
      rw [show ((0 : Int32)).toInt = 0 from rfl] at c
      exfalso; omega
    · intro a b ha hb
      obtain ⟨M7, r6, a1, a2⟩ := cal_s ha
      have hT := text_R (N0 := N) (M0 := M3) hB hM rfl p2 (fun j => by rw [e3]; exact rd_wk (by decide)) _ _ a1 hb
      obtain ⟨⟨⟨er1, er2⟩, hr⟩, h5⟩ := hT
      have er1 : rd M7 2 0 = rd b.1 135 8 := er1
      have er2 : rd M7 2 1 = rd b.1 135 9 := er2
      by_cases c6 : r6 = 0
      · have a2 := ite_t c6 a2
        cases a2
        rcases hr with ⟨_, q⟩ | ⟨q, _⟩
        · exact Or.inr ⟨h5, by rw [q], ⟨er1, er2⟩, Or.inl q⟩
        · exact absurd c6 q
      · have a2 := ite_f c6 a2
        rcases hr with ⟨q, _⟩ | ⟨_, hp, hb2, h4⟩
        · exact absurd q c6
        obtain ⟨M11, u1, a3, a4⟩ := cal_s a2
        obtain ⟨M14, u2, a5, a6⟩ := cal_s a4
        obtain ⟨r16, a7, a8⟩ := cap_s a6
        cases a8
        have hp : PR 13 M7 (row 136 b.1) := hp
        obtain ⟨q0, q1, q2, q3, q4⟩ := pc_copyFrom (k := 5) (k' := 13) (by omega) _ a3
        have hp5 : PR 5 M11 (row 136 b.1) := hp.copy q0 q1 q2 q3
        have e14 : M14 = wr M11 21 2 0 := by
          have : some (M14, u2) = some (wr M11 21 2 0, ()) := a5.symm
          cases this; rfl
        have hp6 : PR 5 M14 (row 136 b.1) := hp5.mem (fun c j h1 h2 => by rw [e14]; exact rd_wk (by omega))
        have ebc : r16 = b.2 := by
          rw [hb2]
          have nn := hp6.nn
          have lb := hp6.lb
          have n1 : ((1 : Int32)).toInt = 1 := rfl
          rcases pc_bc _ a7 with ⟨c, e⟩ | ⟨c, e⟩
          · rw [hp6.lc] at c
            have : (row 136 b.1 1).toInt = 0 := by omega
            rw [if_pos this] at nn
            rw [e, i_eq]
            exact nn.symm
          · rw [hp6.lc] at c
            rw [if_neg (by omega)] at nn
            rw [e, i_eq, hp6.lc, i_sub (by omega) (by omega), n1]
            exact nn.symm
        have n3 : ¬ b.2 = -3 := fun q => by
          have := hp6.n8.1
          rw [hb2] at q
          have q := congrArg Int32.toInt q
          have q : (row 136 b.1 0).toInt = -3 := q
          omega
        have z : ∀ j, rd M14 2 j = rd M7 2 j := fun j => by rw [e14, rd_wk (by decide)]; exact q4 2 j (by show ¬ (5 ≤ 2 ∧ 2 < 5 + 8); omega)
        refine Or.inr ⟨h5, by rw [ebc], ⟨?_, ?_⟩, Or.inr ⟨n3, hp6, ?_, h4⟩⟩
        · show rd M14 2 0 = _
          rw [z]; exact er1
        · show rd M14 2 1 = _
          rw [z]; exact er2
        · show rd M14 21 2 = 0
          rw [e14, rd_we]
    · have c := i_nle c
      rw [h7] at c
      exfalso; omega
  · refine R2.ir (fun _ => ?_) (fun q => absurd rfl q)
    refine R2.il (fun _ => no p2) (fun c => R2.il (fun c2 => ?_) (fun _ => no p2))
    have c := i_nlt c
    rw [show ((0 : Int32)).toInt = 0 from rfl] at c
    have c2 := i_le.mp c2
    rw [h7] at c2
    exfalso; omega
end LDU
