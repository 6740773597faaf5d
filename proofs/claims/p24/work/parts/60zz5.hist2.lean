/-! remembering, by both -/
theorem f_mod10 : ∀ x, x < 21 → (Int32.ofNat x - Int32.ofNat x / (10 : Int32) * (10 : Int32)) = Int32.ofNat (x % 10) := by decide +kernel
section HS2
variable {M N N0 : Mem}
/-- the parts remembered are those of the rows remembered -/
def HRel (M N : Mem) : Prop := ∃ e o : Nat, rd N 135 4 = Int32.ofNat e ∧ rd M 21 2 = Int32.ofNat e ∧ rd M 21 1 = Int32.ofNat o ∧ e ≤ 10 ∧ o < 10 ∧ ∀ i, i < e → PR (23 + 8 * ((o + i) % 10)) M (fun j => rd N 139 (86 * i + j))
abbrev SHc (c _ : Nat) : Prop := c = 21 ∨ (23 ≤ c ∧ c < 103)
theorem pc_b32 {e o : Nat} (he : e < 10) (ho : o < 10) (h2 : rd M 21 2 = Int32.ofNat e) (h1 : rd M 21 1 = Int32.ofNat o) {f : Nat → Int32} (hP : PR 5 M f) : Pc (mX0_remember_b32 21 5 M) (fun q => rd q.1 21 2 = Int32.ofNat (e + 1) ∧ rd q.1 21 1 = Int32.ofNat o ∧ PR (23 + 8 * ((o + e) % 10)) q.1 f ∧ KS SHc M q.1 ∧ (∀ i g, i < 10 → i ≠ (o + e) % 10 → PR (23 + 8 * i) M g → PR (23 + 8 * i) q.1 g)) := by
  unfold mX0_remember_b32
  have ea : Int32.ofNat o + Int32.ofNat e = Int32.ofNat (o + e) := (Int32.ofNat_add o e).symm
  have hm : (o + e) % 10 < 10 := Nat.mod_lt _ (by decide)
  rw [h1, h2, ea, f_mod10 (o + e) (by omega), c_of (a := (o + e) % 10) (by omega)]
  refine Pc.k (fun _ => Pc.m (pc_copyFrom (k := 21 + 1 + 1 + 8 * ((o + e) % 10)) (k' := 5) (by omega)) (fun M5 _ p => Pc.b (fun M6 e6 => Pc.ok ?_)))
  obtain ⟨q0, q1, q2, q3, q4⟩ := p
  have ek : 21 + 1 + 1 + 8 * ((o + e) % 10) = 23 + 8 * ((o + e) % 10) := by omega
  have kp : ∀ c j, ¬ (23 + 8 * ((o + e) % 10) ≤ c ∧ c < 23 + 8 * ((o + e) % 10) + 8) → rd M5 c j = rd M c j := fun c j z => q4 c j (by show ¬ (21 + 1 + 1 + 8 * ((o + e) % 10) ≤ c ∧ c < 21 + 1 + 1 + 8 * ((o + e) % 10) + 8); omega)
  have c2 : rd M5 21 2 = Int32.ofNat e := by rw [kp 21 2 (by omega)]; exact h2
  have hn : PR (23 + 8 * ((o + e) % 10)) M5 f := by
    have := hP.copy (k := 21 + 1 + 1 + 8 * ((o + e) % 10)) q0 q1 q2 q3
    rw [ek] at this
    exact this
  rw [c2] at e6
  refine ⟨?_, ?_, ?_, ?_, fun i g hi hne hg => ?_⟩
  · show rd M6 21 2 = _
    rw [e6, rd_we]; exact (Int32.ofNat_add e 1).symm
  · show rd M6 21 1 = _
    rw [e6, rd_wj (by decide), kp 21 1 (by omega)]; exact h1
  · show PR _ M6 f
    exact hn.mem (fun c j a1 a2 => by rw [e6]; exact rd_wk (by omega))
  · show KS SHc M M6
    rw [e6]
    refine KS.wr (fun c j z => kp c j ?_) (Or.inl rfl)
    intro y
    exact z (Or.inr ⟨by omega, by omega⟩)
  · show PR _ M6 g
    refine hg.mem (fun c j a1 a2 => ?_)
    rw [e6, rd_wk (by omega)]
    exact kp c j (by omega)
theorem rem_R (hH : HRel M N) (hP : PR 5 M (row 136 N)) : R2 (mX0_remember 21 5 M) (mX7_remember 135 N) (fun p q => HRel p.1 q.1 ∧ KS SHc M p.1 ∧ KS SHi N q.1) := by
  obtain ⟨e, o, h4, h2, h1, he, ho, hr⟩ := hH
  intro p q hp hq
  obtain ⟨kN, hq⟩ := pc_remR h4 he _ hq
  unfold mX0_remember at hp
  rcases hq with ⟨lt, n4, nr, nw⟩ | ⟨e10, n4, nr, nw⟩
  · have c : ¬ rd M 21 2 = 10 := fun z => by
      rw [h2] at z
      have := o_inj (b := 10) (by omega) (by omega) z
      omega
    obtain ⟨a1, a2, a3, a4, a5⟩ := pc_b32 lt ho h2 h1 hP _ (ite_f c hp)
    refine ⟨⟨e + 1, o, n4, a1, a2, by omega, ho, fun i hi => ?_⟩, a4, kN⟩
    by_cases q' : i = e
    · subst q'
      exact a3.cong (fun p hp => nw p hp)
    · have hne : (o + i) % 10 ≠ (o + e) % 10 := by omega
      have := a5 ((o + i) % 10) _ (Nat.mod_lt _ (by decide)) hne (hr i (by omega))
      exact this.cong (fun p hp => nr _ (by omega))
  · subst e10
    have c : rd M 21 2 = 10 := h2
    have hp := ite_t c hp
    obtain ⟨M8, e8, hp⟩ := bnd_s hp
    obtain ⟨M10, e10, hp⟩ := bnd_s hp
    have eo : Int32.ofNat o + (1 : Int32) = Int32.ofNat (o + 1) := (Int32.ofNat_add o 1).symm
    rw [h1, eo, f_mod10 (o + 1) (by omega)] at e8
    have r8 : rd M8 21 2 = 10 := by rw [e8, rd_wj (by decide)]; exact c
    rw [r8] at e10
    have s2 : rd M10 21 2 = Int32.ofNat 9 := by rw [e10, rd_we]; rfl
    have s1 : rd M10 21 1 = Int32.ofNat ((o + 1) % 10) := by rw [e10, rd_wj (by decide), e8, rd_we]
    have k10 : KS SHc M M10 := by rw [e10, e8]; exact (KS.rf.wr (Or.inl rfl)).wr (Or.inl rfl)
    have m10 : ∀ c j, c ≠ 21 → rd M10 c j = rd M c j := fun c j hc => by rw [e10, rd_wk hc, e8, rd_wk hc]
    have hP10 : PR 5 M10 (row 136 N) := hP.mem (fun c j a1 a2 => m10 c j (by omega))
    obtain ⟨a1, a2, a3, a4, a5⟩ := pc_b32 (e := 9) (by decide) (Nat.mod_lt _ (by decide)) s2 s1 hP10 _ hp
    refine ⟨⟨10, (o + 1) % 10, n4, a1, a2, by omega, Nat.mod_lt _ (by decide), fun i hi => ?_⟩, k10.trans a4, kN⟩
    by_cases q' : i = 9
    · subst q'
      refine a3.cong (fun p hp => ?_)
      have := nw p hp
      rw [show 86 * 9 + p = 774 + p by omega]
      exact this
    · have hne : ((o + 1) % 10 + i) % 10 ≠ ((o + 1) % 10 + 9) % 10 := by omega
      have h0 := hr (i + 1) (by omega)
      have ei : (o + (i + 1)) % 10 = ((o + 1) % 10 + i) % 10 := by omega
      rw [ei] at h0
      have h0' : PR (23 + 8 * (((o + 1) % 10 + i) % 10)) M10 (fun j => rd N 139 (86 * (i + 1) + j)) := h0.mem (fun c j b1 b2 => m10 c j (by omega))
      have := a5 (((o + 1) % 10 + i) % 10) _ (Nat.mod_lt _ (by decide)) hne h0'
      refine this.cong (fun p hp => ?_)
      have := nr (86 * i + p) (by omega)
      rw [show 86 * i + p + 86 = 86 * (i + 1) + p by omega] at this
      exact this
end HS2
