/-! the history of edits -/
section HS
variable {M N N0 : Mem}
abbrev SHi (k j : Nat) : Prop := k = 139 ∨ (k = 135 ∧ j = 4)
theorem ks139 {N1 : Mem} {j : Nat} {v : Int32} (h : KS SHi N N1) : KS SHi N (wr N1 139 j v) := h.wr (Or.inl rfl)
/-- the row is laid behind the others -/
theorem hs_row {e : Nat} (he : e < 10) : ∀ (n i : Nat) (N : Mem), i ≤ 86 → rd N 135 4 = Int32.ofNat e → KS SHi N0 N → (∀ q, ¬ (86 * e ≤ q ∧ q < 86 * e + i) → rd N 139 q = rd N0 139 q) → (∀ p, p < i → rd N 139 (86 * e + p) = rd N0 136 p) → Pc (mX7_remember_l52 135 n (Int32.ofNat i) N) (fun q => KS SHi N0 q.1 ∧ rd q.1 135 4 = Int32.ofNat (e + 1) ∧ (∀ q', ¬ (86 * e ≤ q' ∧ q' < 86 * e + 86) → rd q.1 139 q' = rd N0 139 q') ∧ ∀ p, p < 86 → rd q.1 139 (86 * e + p) = rd N0 136 p) := by
  intro n
  induction n with
  | zero => intro i N _ _ _ _ _; exact Pc.n
  | succ n IH =>
    intro i N hi h4 hk ho hz
    show Pc (mX7_remember_b52 135 (mX7_remember_l52 135 n) (Int32.ofNat i) N) _
    unfold mX7_remember_b52
    have ti : (Int32.ofNat i).toInt = (i : Int) := t_of (by omega)
    have te : (Int32.ofNat e).toInt = (e : Int) := t_of (by omega)
    have ci := c_of (a := i) (by omega)
    rw [h4, ci]
    refine Pc.i (fun c => Pc.b (fun M3 e3 => Pc.ok ?_)) (fun c => Pc.k (fun _ => Pc.k (fun _ => Pc.b (fun M8 e8 => Pc.b (fun y ey => ?_)))))
    · have c := i_le.mp c
      rw [ti, show ((86 : Int32)).toInt = 86 from rfl] at c
      have ei : i = 86 := by omega
      subst ei
      refine ⟨?_, ?_, fun q hq => ?_, fun p hp => ?_⟩
      · show KS SHi N0 M3
        rw [e3]; exact hk.wr (Or.inr ⟨rfl, rfl⟩)
      · show rd M3 135 4 = _
        rw [e3, rd_we]; exact (Int32.ofNat_add e 1).symm
      · show rd M3 139 q = _
        rw [e3, rd_wk (by decide)]; exact ho q hq
      · show rd M3 139 _ = _
        rw [e3, rd_wk (by decide)]; exact hz p hp
    · have c := i_nle c
      rw [ti, show ((86 : Int32)).toInt = 86 from rfl] at c
      have em := i_mulc (a := (86 : Int32)) (b := Int32.ofNat e) (c := 86) rfl (by omega) (by omega)
      have ea := i_add (a := (86 : Int32) * Int32.ofNat e) (b := Int32.ofNat i) (by omega) (by omega)
      rw [i_clamp, show ((86 : Int32) * Int32.ofNat e + Int32.ofNat i).toInt.toNat = 86 * e + i by omega] at e8
      have e8 : M8 = wr N 139 (86 * e + i) (rd N 136 i) := e8
      have ey : y = Int32.ofNat (i + 1) := ey.trans (Int32.ofNat_add i 1).symm
      rw [ey]
      refine IH (i + 1) M8 (by omega) (by rw [e8, rd_wk (by decide)]; exact h4) (by rw [e8]; exact ks139 hk) (fun q hq => ?_) (fun p hp => ?_)
      · rw [e8, rd_wj (by omega)]; exact ho q (by omega)
      · rw [e8]
        by_cases q : p = i
        · subst q; rw [rd_we]; exact hk 136 p (by unfold SHi; omega)
        · rw [rd_wj (by omega)]; exact hz p (by omega)
/-- the rows move down -/
theorem hs_shift : ∀ (n i : Nat) (N : Mem), 86 ≤ i → i ≤ 860 → rd N 135 4 = 10 → KS SHi N0 N → (∀ q, q + 86 < i → rd N 139 q = rd N0 139 (q + 86)) → (∀ q, i ≤ q + 86 → rd N 139 q = rd N0 139 q) → Pc (mX7_remember_l12 135 n (Int32.ofNat i) N) (fun q => KS SHi N0 q.1 ∧ rd q.1 135 4 = 10 ∧ (∀ q', q' < 774 → rd q.1 139 q' = rd N0 139 (q' + 86)) ∧ ∀ p, p < 86 → rd q.1 139 (774 + p) = rd N0 136 p) := by
  intro n
  induction n with
  | zero => intro i N _ _ _ _ _ _; exact Pc.n
  | succ n IH =>
    intro i N hi hi2 h4 hk ho hz
    show Pc (mX7_remember_b12 135 (mX7_remember_l12 135 n) (Int32.ofNat i) N) _
    unfold mX7_remember_b12 mX7_remember_b50
    have ti : (Int32.ofNat i).toInt = (i : Int) := t_of (by omega)
    have ci := c_of (a := i) (by omega)
    have n86 : ((86 : Int32)).toInt = 86 := rfl
    have es := i_sub (a := Int32.ofNat i) (b := 86) (by omega) (by omega)
    rw [ci]
    refine Pc.i (fun c => Pc.b (fun M11 e11 => ?_)) (fun c => Pc.k (fun _ => Pc.k (fun _ => Pc.b (fun M16 e16 => Pc.b (fun y ey => ?_)))))
    · have c := i_le.mp c
      rw [ti, show ((860 : Int32)).toInt = 860 from rfl] at c
      have ei : i = 860 := by omega
      subst ei
      rw [h4] at e11
      have e4 : rd M11 135 4 = Int32.ofNat 9 := by rw [e11, rd_we]; rfl
      have k11 : KS SHi N0 M11 := by rw [e11]; exact hk.wr (Or.inr ⟨rfl, rfl⟩)
      have q11 : ∀ q, rd M11 139 q = rd N 139 q := fun q => by rw [e11, rd_wk (by decide)]
      refine Pc.mono (hs_row (N0 := M11) (e := 9) (by decide) 5000 0 M11 (by omega) e4 KS.rf (fun _ _ => rfl) (fun p hp => by omega)) (fun q r => ⟨k11.trans r.1, r.2.1, fun q' hq' => ?_, fun p hp => ?_⟩)
      · rw [r.2.2.1 q' (by omega), q11]; exact ho q' (by omega)
      · have := r.2.2.2 p hp
        rw [show 86 * 9 + p = 774 + p by omega] at this
        rw [this]; exact k11 136 p (by unfold SHi; omega)
    · have c := i_nle c
      rw [ti, show ((860 : Int32)).toInt = 860 from rfl] at c
      rw [i_clamp, show (Int32.ofNat i - 86).toInt.toNat = i - 86 by omega] at e16
      have e16 : M16 = wr N 139 (i - 86) (rd N 139 i) := e16
      have ey : y = Int32.ofNat (i + 1) := ey.trans (Int32.ofNat_add i 1).symm
      rw [ey]
      refine IH (i + 1) M16 (by omega) (by omega) (by rw [e16, rd_wk (by decide)]; exact h4) (by rw [e16]; exact ks139 hk) (fun q hq => ?_) (fun q hq => ?_)
      · rw [e16]
        by_cases e : q = i - 86
        · subst e
          rw [rd_we, hz i (by omega), show i - 86 + 86 = i by omega]
        · rw [rd_wj e]; exact ho q (by omega)
      · rw [e16, rd_wj (by omega)]; exact hz q (by omega)
theorem pc_remR {e : Nat} (h4 : rd N 135 4 = Int32.ofNat e) (he : e ≤ 10) : Pc (mX7_remember 135 N) (fun q => KS SHi N q.1 ∧ ((e < 10 ∧ rd q.1 135 4 = Int32.ofNat (e + 1) ∧ (∀ q', q' < 86 * e → rd q.1 139 q' = rd N 139 q') ∧ ∀ p, p < 86 → rd q.1 139 (86 * e + p) = rd N 136 p) ∨ (e = 10 ∧ rd q.1 135 4 = 10 ∧ (∀ q', q' < 774 → rd q.1 139 q' = rd N 139 (q' + 86)) ∧ ∀ p, p < 86 → rd q.1 139 (774 + p) = rd N 136 p))) := by
  unfold mX7_remember mX7_remember_b50
  refine Pc.i (fun c => ?_) (fun c => ?_)
  · have e10 : e = 10 := by
      rw [h4] at c
      exact o_inj (b := 10) (by omega) (by omega) c
    exact Pc.mono (hs_shift (N0 := N) 5000 86 N (by omega) (by omega) c KS.rf (fun q hq => by omega) (fun _ _ => rfl)) (fun q r => ⟨r.1, Or.inr ⟨e10, r.2⟩⟩)
  · have lt : e < 10 := by
      apply Decidable.byContradiction
      intro z
      apply c
      rw [h4, show e = 10 by omega]; rfl
    exact Pc.mono (hs_row (N0 := N) lt 5000 0 N (by omega) h4 KS.rf (fun _ _ => rfl) (fun p hp => by omega)) (fun q r => ⟨r.1, Or.inl ⟨lt, r.2.1, fun q' hq' => r.2.2.1 q' (by omega), r.2.2.2⟩⟩)
end HS
