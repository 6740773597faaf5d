/-! the class's bits of hits; legs that cross -/
section MC
variable {M N M0 N0 : Mem} {k k1 b s : Nat}
/-- what the class's bits tell -/
def CB (N : Mem) (b s l : Nat) : Prop := HB N l ∨ (¬ clm b s l ∧ HW N l)
theorem hitC_l (h : SH k b s M N) (h9 : (rd N 136 1).toInt ≤ 9) (ht : ∀ j, j < 10 → rd M (k1 + 2) j = rd N 136 (39 + j)) : ∀ (n j m : Nat), (j : Int) ≤ (rd N 136 1).toInt → m < 2 ^ j → (∀ i, i < j → (m.testBit i = true ↔ CB N b s i)) → Pc (mX2_legsHitting_l10 k k1 M n (Int32.ofNat m) (Int32.ofNat j)) (fun r => ∃ m : Nat, r = Int32.ofNat m ∧ m < 2 ^ (rd N 136 1).toInt.toNat ∧ ∀ i, i < (rd N 136 1).toInt.toNat → (m.testBit i = true ↔ CB N b s i)) := by
  intro n
  induction n with
  | zero => intro j m _ _ _; exact Pc.n
  | succ n IH =>
    intro j m hj hm hbt
    show Pc (mX2_legsHitting_b10 k k1 M (mX2_legsHitting_l10 k k1 M n) (Int32.ofNat m) (Int32.ofNat j)) _
    unfold mX2_legsHitting_b10
    have tj : (Int32.ofNat j).toInt = (j : Int) := t_of (by omega)
    have z0 : rd M (k1 + 2) ((0 : Int32)).toNatClampNeg = rd N 136 39 := ht 0 (by decide)
    have z1 : rd M (k1 + 2) ((1 : Int32)).toNatClampNeg = rd N 136 40 := ht 1 (by decide)
    have z2 : rd M (k1 + 2) ((2 : Int32)).toNatClampNeg = rd N 136 41 := ht 2 (by decide)
    have z3 : rd M (k1 + 2) ((3 : Int32)).toNatClampNeg = rd N 136 42 := ht 3 (by decide)
    have z4 : rd M (k1 + 2) ((4 : Int32)).toNatClampNeg = rd N 136 43 := ht 4 (by decide)
    have z5 : rd M (k1 + 2) ((5 : Int32)).toNatClampNeg = rd N 136 44 := ht 5 (by decide)
    rw [h.2.1, z0, z1, z2, z3, z4, z5]
    have fin : (rd N 136 1).toInt ≤ (j : Int) → Pc (some (Int32.ofNat m)) (fun r => ∃ m : Nat, r = Int32.ofNat m ∧ m < 2 ^ (rd N 136 1).toInt.toNat ∧ ∀ i, i < (rd N 136 1).toInt.toNat → (m.testBit i = true ↔ CB N b s i)) := by
      intro q
      have e : (rd N 136 1).toInt.toNat = j := by omega
      refine Pc.ok ⟨m, rfl, ?_, ?_⟩
      · rw [e]; exact hm
      · rw [e]; exact hbt
    refine Pc.i (fun q => ?_) (fun q => Pc.i (fun q9 => ?_) (fun _ => ?_))
    · have q := i_le.mp q
      rw [tj] at q
      exact fin q
    · have q9 := i_le.mp q9
      rw [tj, show ((9 : Int32)).toInt = 9 from rfl] at q9
      exact fin (by omega)
    · have q := i_nle q
      rw [tj] at q
      have m512 : m < 512 := by
        have : 2 ^ j ≤ 2 ^ 9 := Nat.pow_le_pow_right (by decide) (by omega)
        have h2 : (2 : Nat) ^ 9 = 512 := rfl
        omega
      have en : Int32.ofNat j + (1 : Int32) = Int32.ofNat (j + 1) := (Int32.ofNat_add j 1).symm
      have lg := h.1 j q
      have yes : CB N b s j → Pc (mX2_legsHitting_b89 k k1 M (mX2_legsHitting_l10 k k1 M n) (Int32.ofNat m) (Int32.ofNat j)) (fun r => ∃ m : Nat, r = Int32.ofNat m ∧ m < 2 ^ (rd N 136 1).toInt.toNat ∧ ∀ i, i < (rd N 136 1).toInt.toNat → (m.testBit i = true ↔ CB N b s i)) := by
        intro hR
        unfold mX2_legsHitting_b89 mX2_legsHitting_b94 mX2_legsHitting_b108
        refine Pc.i (fun z => absurd z (by decide)) (fun _ => Pc.b (fun v ev => Pc.b (fun w ew => ?_)))
        rw [f_or9 m m512 j (by omega)] at ev
        rw [ev, ew, en]
        have st := (bit_step (P := CB N b s) (Q := CB N b s j) hm hbt Iff.rfl).1 hR
        exact IH (j + 1) _ (by omega) st.1 st.2
      have no : ¬ CB N b s j → Pc (mX2_legsHitting_b93 k k1 M (mX2_legsHitting_l10 k k1 M n) (Int32.ofNat m) (Int32.ofNat j)) (fun r => ∃ m : Nat, r = Int32.ofNat m ∧ m < 2 ^ (rd N 136 1).toInt.toNat ∧ ∀ i, i < (rd N 136 1).toInt.toNat → (m.testBit i = true ↔ CB N b s i)) := by
        intro hR
        unfold mX2_legsHitting_b93 mX2_legsHitting_b94 mX2_legsHitting_b108
        refine Pc.i (fun _ => Pc.b (fun w ew => ?_)) (fun z => absurd rfl z)
        rw [ew, en]
        have st := (bit_step (P := CB N b s) (Q := CB N b s j) hm hbt Iff.rfl).2 hR
        exact IH (j + 1) _ (by omega) st.1 st.2
      refine Pc.k (fun _ => Pc.k (fun _ => Pc.c (pc_enters (by omega) lg) (fun r p => ?_)))
      rcases p with ⟨rfl, p⟩ | ⟨rfl, p⟩
      · exact Pc.i (fun z => absurd z (by decide)) (fun _ => yes (Or.inl (Or.inl p)))
      refine Pc.i (fun _ => Pc.k (fun _ => Pc.k (fun _ => Pc.c (pc_enters (by omega) lg) (fun r2 p2 => ?_)))) (fun z => absurd rfl z)
      rcases p2 with ⟨rfl, p2⟩ | ⟨rfl, p2⟩
      · exact Pc.i (fun z => absurd z (by decide)) (fun _ => yes (Or.inl (Or.inr p2)))
      refine Pc.i (fun _ => Pc.c (pc_clC h q h9) (fun r4 p4 => ?_)) (fun z => absurd rfl z)
      rcases p4 with ⟨rfl, p4⟩ | ⟨rfl, p4⟩
      · refine Pc.i (fun z => absurd z (by decide)) (fun _ => no ?_)
        intro z
        rcases z with (z | z) | z
        · exact p z
        · exact p2 z
        · exact z.1 p4
      refine Pc.i (fun _ => Pc.k (fun _ => Pc.k (fun _ => Pc.c (pc_enters (by omega) lg) (fun r5 p5 => ?_)))) (fun z => absurd rfl z)
      rcases p5 with ⟨rfl, p5⟩ | ⟨rfl, p5⟩
      · exact Pc.i (fun z => absurd z (by decide)) (fun _ => yes (Or.inr ⟨p4, p5⟩))
      · refine Pc.i (fun _ => no ?_) (fun z => absurd rfl z)
        intro z
        rcases z with (z | z) | z
        · exact p z
        · exact p2 z
        · exact p5 z.2
theorem pc_hitC (h : SH k b s M N) (h0 : 0 ≤ (rd N 136 1).toInt) (h9 : (rd N 136 1).toInt ≤ 9) (ht : ∀ j, j < 10 → rd M (k1 + 2) j = rd N 136 (39 + j)) : Pc (mX2_legsHitting k k1 M) (fun r => ∃ m : Nat, r = Int32.ofNat m ∧ m < 2 ^ (rd N 136 1).toInt.toNat ∧ ∀ i, i < (rd N 136 1).toInt.toNat → (m.testBit i = true ↔ CB N b s i)) := by
  unfold mX2_legsHitting
  exact hitC_l h h9 ht 5000 0 0 (by omega) (by decide) (fun i hi => by omega)
/-! crossing -/
/-- two legs have a point in common -/
def Tch (N : Mem) (i j : Nat) : Prop := min (rd N 141 i).toInt (rd N 143 i).toInt ≤ max (rd N 141 j).toInt (rd N 143 j).toInt ∧ min (rd N 141 j).toInt (rd N 143 j).toInt ≤ max (rd N 141 i).toInt (rd N 143 i).toInt ∧ min (rd N 142 i).toInt (rd N 144 i).toInt ≤ max (rd N 142 j).toInt (rd N 144 j).toInt ∧ min (rd N 142 j).toInt (rd N 144 j).toInt ≤ max (rd N 142 i).toInt (rd N 144 i).toInt
theorem Tch.symm {i j : Nat} (h : Tch N i j) : Tch N j i := ⟨h.2.1, h.1, h.2.2.2, h.2.2.1⟩
def Crs (N : Mem) (L : Nat) : Prop := ∃ i j, i + 2 ≤ j ∧ j < L ∧ Tch N i j
theorem pc_touch {i j : Nat} (hi : i < 100) (hj : j < 100) (h1 : LG k M N i) (h2 : LG k M N j) : Pc (mX2_touch k (Int32.ofNat i) (Int32.ofNat j) M) (fun r => (r = 1 ∧ Tch N i j) ∨ (r = 0 ∧ ¬ Tch N i j)) := by
  unfold mX2_touch Tch
  have ci := c_of (a := i) (by omega)
  have cj := c_of (a := j) (by omega)
  obtain ⟨_, _, a3, a4, a5, a6⟩ := h1
  obtain ⟨_, _, b3, b4, b5, b6⟩ := h2
  rw [ci, cj, a3, a4, a5, a6, b3, b4, b5, b6]
  refine Pc.k (fun _ => Pc.k (fun _ => Pc.i (fun c => Pc.ok (Or.inr ⟨rfl, ?_⟩)) (fun c1 => Pc.k (fun _ => Pc.k (fun _ => Pc.i (fun c => Pc.ok (Or.inr ⟨rfl, ?_⟩)) (fun c2 => Pc.k (fun _ => Pc.k (fun _ => Pc.i (fun c => Pc.ok (Or.inr ⟨rfl, ?_⟩)) (fun c3 => Pc.k (fun _ => Pc.k (fun _ => Pc.i (fun c => Pc.ok (Or.inr ⟨rfl, ?_⟩)) (fun c4 => Pc.ok (Or.inl ⟨rfl, ?_⟩)))))))))))))
  · have c := i_lt.mp c; rw [i_min, i_max] at c; omega
  · have c := i_lt.mp c; rw [i_min, i_max] at c; omega
  · have c := i_lt.mp c; rw [i_min, i_max] at c; omega
  · have c := i_lt.mp c; rw [i_min, i_max] at c; omega
  · have c1 := i_nlt c1; have c2 := i_nlt c2; have c3 := i_nlt c3; have c4 := i_nlt c4
    rw [i_min, i_max] at c1 c2 c3 c4
    exact ⟨c1, c2, c3, c4⟩
theorem crsC_in {ih : Int32 → Option Int32} {P : Int32 → Prop} {i : Nat} (h : ∀ j : Nat, (j : Int) < (rd N 136 1).toInt → LG k M N j) (hi : (i : Int) < (rd N 136 1).toInt) (h9 : (rd N 136 1).toInt ≤ 9) (hi2 : 2 ≤ i) (hno : (∀ j, j + 2 ≤ i → ¬ Tch N j i) → Pc (ih (Int32.ofNat (i + 1))) P) (hye : (∃ j, j + 2 ≤ i ∧ Tch N j i) → P 1) : ∀ (n j : Nat), j + 1 ≤ i → (∀ q, q < j → ¬ Tch N q i) → Pc (mX2_crossesItself_l18 k M ih n (Int32.ofNat i) (Int32.ofNat j)) P := by
  intro n
  induction n with
  | zero => intro j _ _; exact Pc.n
  | succ n IH =>
    intro j hj hq
    show Pc (mX2_crossesItself_b18 k M ih (mX2_crossesItself_l18 k M ih n) (Int32.ofNat i) (Int32.ofNat j)) _
    unfold mX2_crossesItself_b18
    have ti : (Int32.ofNat i).toInt = (i : Int) := t_of (by omega)
    have tj : (Int32.ofNat j).toInt = (j : Int) := t_of (by omega)
    have n1 : ((1 : Int32)).toInt = 1 := rfl
    have e1 := i_sub (a := Int32.ofNat i) (b := 1) (by omega) (by omega)
    have en : Int32.ofNat i + (1 : Int32) = Int32.ofNat (i + 1) := (Int32.ofNat_add i 1).symm
    have em : Int32.ofNat j + (1 : Int32) = Int32.ofNat (j + 1) := (Int32.ofNat_add j 1).symm
    refine Pc.i (fun c => Pc.b (fun v ev => ?_)) (fun c => Pc.c (pc_touch (by omega) (by omega) (h i hi) (h j (by omega))) (fun r p => ?_))
    · have c := i_le.mp c
      rw [e1, ti, tj, n1] at c
      rw [ev, en]
      exact hno (fun q hq2 => hq q (by omega))
    · have c := i_nle c
      rw [e1, ti, tj, n1] at c
      rcases p with ⟨rfl, p⟩ | ⟨rfl, p⟩
      · exact Pc.i (fun z => absurd z (by decide)) (fun _ => Pc.ok (hye ⟨j, by omega, p.symm⟩))
      · refine Pc.i (fun _ => Pc.b (fun v ev => ?_)) (fun z => absurd rfl z)
        rw [ev, em]
        refine IH (j + 1) (by omega) (fun q hq2 => ?_)
        by_cases e : q = j
        · rw [e]; exact fun z => p z.symm
        · exact hq q (by omega)
theorem crsC_l (h : ∀ j : Nat, (j : Int) < (rd N 136 1).toInt → LG k M N j) (h6 : rd M k 6 = rd N 136 1) (h0 : 0 ≤ (rd N 136 1).toInt) (h9 : (rd N 136 1).toInt ≤ 9) : ∀ (n i : Nat), 2 ≤ i → i ≤ 10 → (∀ q j, q + 2 ≤ j → j < i → ¬ Tch N q j) → Pc (mX2_crossesItself_l2 k M n (Int32.ofNat i)) (fun r => (r = 1 ∧ Crs N (rd N 136 1).toInt.toNat) ∨ (r = 0 ∧ ¬ Crs N (rd N 136 1).toInt.toNat)) := by
  intro n
  induction n with
  | zero => intro i _ _ _; exact Pc.n
  | succ n IH =>
    intro i hi hi9 hq
    show Pc (mX2_crossesItself_b2 k M (mX2_crossesItself_l2 k M n) (Int32.ofNat i)) _
    unfold mX2_crossesItself_b2
    have ti : (Int32.ofNat i).toInt = (i : Int) := t_of (by omega)
    rw [h6]
    have fin : (rd N 136 1).toInt ≤ (i : Int) → Pc (some (0 : Int32)) (fun r => (r = 1 ∧ Crs N (rd N 136 1).toInt.toNat) ∨ (r = 0 ∧ ¬ Crs N (rd N 136 1).toInt.toNat)) := by
      intro c
      refine Pc.ok (Or.inr ⟨rfl, ?_⟩)
      rintro ⟨q, j, a1, a2, a3⟩
      exact hq q j a1 (by omega) a3
    refine Pc.i (fun c => ?_) (fun c => Pc.i (fun c9 => ?_) (fun _ => ?_))
    · have c := i_le.mp c
      rw [ti] at c
      exact fin c
    · have c9 := i_le.mp c9
      rw [ti, show ((9 : Int32)).toInt = 9 from rfl] at c9
      exact fin (by omega)
    · have c := i_nle c
      rw [ti] at c
      refine crsC_in h c h9 hi (fun hn => IH (i + 1) (by omega) (by omega) (fun q j a1 a2 => ?_)) (fun hy => ?_) 5000 0 (by omega) (fun q hq2 => by omega)
      · by_cases e : j = i
        · subst e; exact hn q a1
        · exact hq q j a1 (by omega)
      · obtain ⟨j, a1, a2⟩ := hy
        exact Or.inl ⟨rfl, j, i, a1, by omega, a2⟩
theorem pc_crsC (h : ∀ j : Nat, (j : Int) < (rd N 136 1).toInt → LG k M N j) (h6 : rd M k 6 = rd N 136 1) (h0 : 0 ≤ (rd N 136 1).toInt) (h9 : (rd N 136 1).toInt ≤ 9) : Pc (mX2_crossesItself k M) (fun r => (r = 1 ∧ Crs N (rd N 136 1).toInt.toNat) ∨ (r = 0 ∧ ¬ Crs N (rd N 136 1).toInt.toNat)) := by
  unfold mX2_crossesItself
  exact crsC_l h h6 h0 h9 5000 2 (by omega) (by omega) (fun q j a1 a2 => by omega)
end MC

