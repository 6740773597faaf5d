/-! load: what both hold -/
section LS
variable {M M' N N' : Mem} {x : Int32}
theorem no_step : Pc (mX4_readText 2 1 13 x M) (fun q => rd q.1 13 14 = 0) := by
  unfold mX4_readText
  have go : ∀ (y : Int32) (M1 : Mem), Pc (mX4_readText_b18 2 1 13 y M1) (fun q => rd q.1 13 14 = 0) := by
    intro y M1
    unfold mX4_readText_b18
    refine Pc.b (fun M5 _ => Pc.b (fun M7 _ => Pc.b (fun M9 _ => Pc.b (fun M11 _ => ?_))))
    refine Pc.m pc_clear (fun M15 _ p => ?_)
    have p1 : PR 13 M15 r0 := p.1
    have z : rd M15 13 14 = 0 := p1.ns
    refine Pc.m (Fr.pc (xX4_nextToken (k0 := 2) rfl (KS.rf : KS SLx M15 M15))) (fun M18 _ p2 => ?_)
    have p2 : KS SLx M15 M18 := p2
    refine (Fr.pc (xX4_readText_l47 (k0 := 2) (k1 := 1) (k2 := 13) rfl rfl (KS.rf : KS SLx M18 M18))).mono (fun q hq => ?_)
    have hq : KS SLx M18 q.1 := hq
    rw [hq 13 14 (by unfold SLx; omega), p2 13 14 (by unfold SLx; omega)]; exact z
  exact Pc.k (fun _ => Pc.b (fun M1 _ => Pc.i (fun _ => go _ _) (fun _ => go _ _)))
def SL0 (k j : Nat) : Prop := SLc k j ∨ (k = 0 ∧ j = 1)
def SL1 (k j : Nat) : Prop := SL0 k j ∨ (5 ≤ k ∧ k < 13) ∨ (k = 21 ∧ j = 2)
theorem pc_loadC : Pc (mX6_load 0 x M) (fun q => (q.2 = Sum.inr 0 ∧ q.1 = M) ∨ (q.2 = Sum.inl (-3) ∧ KS SL0 M q.1) ∨ (KS SL1 M q.1 ∧ rd q.1 5 14 = 0 ∧ ∃ r : Int32, q.2 = Sum.inl r ∧ 0 ≤ r.toInt)) := by
  unfold mX6_load mX6_load_b12
  refine Pc.i (fun _ => Pc.ok (Or.inl ⟨rfl, rfl⟩)) (fun _ => Pc.i (fun _ => Pc.b (fun M3 e3 => ?_)) (fun _ => Pc.ok (Or.inl ⟨rfl, rfl⟩)))
  have k3 : KS SL0 M M3 := by rw [e3]; exact KS.rf.wr (Or.inr ⟨rfl, rfl⟩)
  refine Pc.m ((Fr.pc (wX4_readText (k0 := 2) (k1 := 1) (k2 := 13) (x2 := x) rfl rfl (KS.rf : KS SLc M3 M3))).and no_step) (fun M7 r6 p => ?_)
  obtain ⟨p1, p2⟩ := p
  have p1 : KS SLc M3 M7 := p1
  have p2 : rd M7 13 14 = 0 := p2
  have k7 : KS SL0 M M7 := k3.trans (p1.mono (fun c j h => Or.inl h))
  refine Pc.i (fun _ => Pc.ok (Or.inr (Or.inl ⟨rfl, k7⟩))) (fun _ => Pc.m (pc_copyFrom (k := 5) (k' := 13) (M := M7) (Or.inl (by omega))) (fun M11 _ p => ?_))
  obtain ⟨c0, _, _, _, c4⟩ := p
  have c4 : KS (fun c _ => 5 ≤ c ∧ c < 5 + 8) M7 M11 := c4
  unfold mX0_forgetAll
  simp only [cal_bnd, cal_some]
  refine Pc.b (fun M14 e14 => Pc.c (Q := fun r => 0 ≤ r.toInt) ?_ (fun r hr => Pc.ok (Or.inr (Or.inr ⟨?_, ?_, r, rfl, hr⟩))))
  · unfold mX1_bendCount
    have n1 : ((1 : Int32)).toInt = 1 := rfl
    refine Pc.i (fun _ => Pc.ok (by decide)) (fun c => Pc.ok ?_)
    have c : 0 < (rd M14 5 0).toInt := i_nle c
    have hb := Int32.toInt_lt (rd M14 5 0)
    rw [i_sub (by omega) (by omega)]; omega
  · rw [e14]
    exact ((k7.mono (fun c j h => Or.inl h)).trans (c4.mono (fun c j h => Or.inr (Or.inl h)))).wr (Or.inr (Or.inr ⟨rfl, rfl⟩))
  · rw [e14, rd_wk (by decide), c0 14 (by omega) (by omega) (by omega) (by omega) (by omega)]; exact p2
def SR1 (k j : Nat) : Prop := SLr k j ∨ k = 136 ∨ (k = 135 ∧ j = 4)
theorem ld_fr : ∀ (n : Nat) (x2 : Int32) (N1 : Mem), KS SLr N N1 → Pc (mX7_load_l68 135 n x2 N1) (fun q => (q.2 = -3 ∧ KS SLr N q.1) ∨ (KS SR1 N q.1 ∧ q.2 = rd q.1 136 0)) := by
  intro n
  induction n with
  | zero => intro x2 N1 _ q e; cases e
  | succ n IH =>
    intro x2 N1 hk
    have b102 : ∀ N2, KS SLr N N2 → Pc (mX7_load_b102 135 x2 N2) (fun q => (q.2 = -3 ∧ KS SLr N q.1) ∨ (KS SR1 N q.1 ∧ q.2 = rd q.1 136 0)) := by
      intro N2 h2
      unfold mX7_load_b102
      refine Pc.b (fun M25 e25 => Pc.b (fun M27 e27 => ?_))
      have k27 : KS SLr N M27 := by rw [e27, e25]; exact (h2.wr (Or.inr ⟨rfl, by decide⟩)).wr (Or.inr ⟨rfl, by decide⟩)
      refine Pc.i (fun _ => Pc.ok (Or.inl ⟨rfl, k27⟩)) (fun _ => Pc.m (pc_copy (a := 137) (b := 136) (N := M27) (by decide)) (fun M32 _ p => Pc.b (fun M33 e33 => Pc.k (fun _ => Pc.ok (Or.inr ⟨?_, rfl⟩)))))
      have p1 : KS (fun k _ => k = 136) M27 M32 := p.1
      rw [e33]
      exact ((k27.mono (fun c j h => Or.inl h)).trans (p1.mono (fun c j h => Or.inr (Or.inl h)))).wr (Or.inr (Or.inr ⟨rfl, rfl⟩))
    show Pc (mX7_load_b68 135 (mX7_load_l68 135 n) x2 N1) _
    unfold mX7_load_b68 mX7_load_b97 mX7_load_b98
    refine Pc.i (fun _ => b102 N1 hk) (fun _ => Pc.i (fun _ => b102 N1 hk) (fun _ => Pc.m (Fr.pc (wX7_statement (KS.rf : KS SLr N1 N1))) (fun M39 r38 p => ?_)))
    have p : KS SLr N1 M39 := p
    refine Pc.i (fun _ => IH _ _ (hk.trans p)) (fun _ => Pc.m (Fr.pc (wX7_closed (KS.rf : KS SLr M39 M39))) (fun M43 r42 p2 => ?_))
    have p2 : KS SLr M39 M43 := p2
    exact Pc.i (fun _ => IH _ _ ((hk.trans p).trans p2)) (fun _ => IH _ _ ((hk.trans p).trans p2))
theorem pc_loadR : Pc (mX7_load 135 x N) (fun q => KS SLr N q.1 ∨ (KS SR1 N q.1 ∧ q.2 = rd q.1 136 0)) := by
  have go : ∀ y : Int32, Pc (mX7_load_b20 135 x y N) (fun q => KS SLr N q.1 ∨ (KS SR1 N q.1 ∧ q.2 = rd q.1 136 0)) := by
    intro y
    unfold mX7_load_b20
    refine Pc.b (fun M5 e5 => ?_)
    have k5 : KS SLr N M5 := by rw [e5]; exact KS.rf.wr (Or.inr ⟨rfl, by decide⟩)
    refine Pc.i (fun _ => Pc.b (fun M8 e8 => Pc.b (fun M10 e10 => Pc.b (fun M12 e12 => Pc.b (fun M14 e14 => Pc.b (fun M16 e16 => ?_)))))) (fun _ => Pc.ok (Or.inl k5))
    have k16 : KS SLr N M16 := by
      rw [e16, e14, e12, e10, e8]
      exact ((((k5.wr (Or.inr ⟨rfl, by decide⟩)).wr (Or.inr ⟨rfl, by decide⟩)).wr (Or.inr ⟨rfl, by decide⟩)).wr (Or.inr ⟨rfl, by decide⟩)).wr (Or.inr ⟨rfl, by decide⟩)
    refine Pc.m (Fr.pc (wX7_reset (KS.rf : KS SLr M16 M16))) (fun M20 _ p => Pc.m (Fr.pc (wX7_advance (KS.rf : KS SLr M20 M20))) (fun M23 _ p2 => ?_))
    have p : KS SLr M16 M20 := p
    have p2 : KS SLr M20 M23 := p2
    exact (ld_fr 5000 1 M23 ((k16.trans p).trans p2)).mono (fun q hq => hq.imp (fun h => h.2) id)
  unfold mX7_load
  exact Pc.c (Pc.self _) (fun r _ => Pc.i (fun _ => go _) (fun _ => go _))
theorem load_SS (h : SS M N) (hB : BB M N) (hM : MI N) (h7 : rd M 0 1 = rd N 135 7) {p : Mem × (Int32 ⊕ Nat)} {q : Mem × Int32} (hp : mX6_load 0 x M = some p) (hq : mX7_load 135 x N = some q) (hI : MI q.1) : SS p.1 q.1 := by
  have kl : KL M p.1 := lX6_load (k0 := 0) (KL.rf : KL M M) p hp
  have hC := pc_loadC p hp
  have hR := pc_loadR q hq
  have slr : KS SLr N q.1 → KS SL0 M p.1 → SS p.1 q.1 := fun r c =>
    (h.cl (fun k j hk => c k j (by unfold SL0 SLc; omega)) (h.2.2.2.2.ks c (fun k j h1 h2 _ z => by unfold SL0 SLc at z; omega) (fun j => kl.rl j))).ks r (fun k j hk z => by unfold SLr at z; omega)
  rcases load_R hB hM h7 p q hp hq with ⟨e1, e2, _, k⟩ | ⟨_, e2, _, e3 | ⟨e3, hP, z21, z4⟩⟩
  · have k : KS (fun k j => k = 135 ∧ j = 5) N q.1 := k
    exact slr (k.mono (fun c j z => Or.inr ⟨z.1, by omega⟩)) (by rw [e1]; exact KS.rf)
  · refine slr ?_ ?_
    · rcases hR with r | ⟨_, r⟩
      · exact r
      · obtain ⟨n, m, hW⟩ := hI.2.1
        have : rd q.1 136 0 = Int32.ofNat n := hW.1
        rw [e3, this] at r
        have := congrArg Int32.toInt r
        rw [show ((-3 : Int32)).toInt = -3 from rfl, t_of (by have := hW.2.1; omega)] at this; omega
    · rcases hC with ⟨w, _⟩ | ⟨_, w⟩ | ⟨_, _, r, w, hr⟩
      · rw [e2] at w; cases w
      · exact w
      · rw [e2] at w
        have := Sum.inl.inj w
        rw [← this, e3] at hr
        exact absurd hr (by decide)
  · have c1 : KS SL1 M p.1 ∧ rd p.1 5 14 = 0 := by
      rcases hC with ⟨w, _⟩ | ⟨w, _⟩ | ⟨w, w2, _⟩
      · rw [e2] at w; cases w
      · rw [e2] at w
        exact absurd (Sum.inl.inj w) e3
      · exact ⟨w, w2⟩
    obtain ⟨e, o, h4, h2, h1, he, ho, _⟩ := h.2.1
    have f53 : row 136 q.1 53 = 0 := hP.ns.symm.trans c1.2
    refine ⟨hP, ⟨0, o, z4, z21, (c1.1 21 1 (by unfold SL1 SL0 SLc; omega)).trans h1, by omega, ho, fun i hi => by omega⟩, RI.flat f53, fun i hi hlt => ?_, h.2.2.2.2.ks c1.1 (fun k j h1 h2 _ z => by unfold SL1 SL0 SLc at z; omega) (fun j => kl.rl j)⟩
    rw [z4, show ((0 : Int32)).toInt = 0 from rfl] at hlt
    omega
theorem feed_SS {a1 a2 a3 a4 a5 : Int32} (h : SS M N) {p : Mem × Int32} {q : Mem × Int32} (hp : mX6_feed 0 a1 a2 a3 a4 a5 M = some p) (hq : mX7_feed 135 a1 a2 a3 a4 a5 N = some q) : SS p.1 q.1 := by
  have kl : KL M p.1 := lX6_feed (k0 := 0) (KL.rf : KL M M) p hp
  have kM : KS Sfdc M p.1 := xX6_feed (KS.rf : KS Sfdc M M) p hp
  have kN : KS Sfdr N q.1 := xX7_feed (KS.rf : KS Sfdr N N) q hq
  exact (h.cl (fun k j hk => kM k j (by unfold Sfdc; omega)) (h.2.2.2.2.ks kM (fun k j h1 h2 _ z => by unfold Sfdc at z; omega) (fun j => kl.rl j))).ks kN (fun k j hk z => by unfold Sfdr at z; omega)
end LS
