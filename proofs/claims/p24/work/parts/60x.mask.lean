/-! the legs that hit, as bits -/
theorem f_or9 : ∀ a, a < 512 → ∀ k, k < 9 → (Int32.ofNat a ||| ((1 : Int32) <<< (Int32.ofNat k &&& 31))) = Int32.ofNat (a ||| 2 ^ k) := by decide +kernel
section MK
variable {M N M0 N0 : Mem} {k k1 b s : Nat}
def HB (N : Mem) (l : Nat) : Prop := Ent N l (-(rd N 136 39)) 0 0 (rd N 136 40) ∨ Ent N l (-(rd N 136 41)) 0 (-(rd N 136 42)) 0
def HW (N : Mem) (l : Nat) : Prop := Ent N l 0 (rd N 136 43) 0 (rd N 136 44)
theorem or_0 (x : Int32) : x ||| 0 = x := Int32.or_zero
theorem bit_step {m j : Nat} {P : Nat → Prop} {Q : Prop} (hm : m < 2 ^ j) (hb : ∀ i, i < j → (m.testBit i = true ↔ P i)) (hQ : Q ↔ P j) : (Q → (m ||| 2 ^ j) < 2 ^ (j + 1) ∧ ∀ i, i < j + 1 → ((m ||| 2 ^ j).testBit i = true ↔ P i)) ∧ (¬ Q → m < 2 ^ (j + 1) ∧ ∀ i, i < j + 1 → (m.testBit i = true ↔ P i)) := by
  have h1 : 2 ^ j < 2 ^ (j + 1) := Nat.pow_lt_pow_right (by decide) (Nat.lt_succ_self j)
  refine ⟨fun q => ⟨Nat.or_lt_two_pow (by omega) h1, fun i hi => ?_⟩, fun q => ⟨by omega, fun i hi => ?_⟩⟩
  · rw [Nat.testBit_or, Nat.testBit_two_pow]
    by_cases e : i = j
    · subst e
      simp [hQ.mp q]
    · have : decide (j = i) = false := decide_eq_false (by omega)
      rw [this, Bool.or_false]
      exact hb i (by omega)
  · by_cases e : i = j
    · subst e
      rw [Nat.testBit_lt_two_pow hm]
      exact ⟨fun z => absurd z (by decide), fun z => absurd (hQ.mpr z) q⟩
    · exact hb i (by omega)
theorem pc_toolOf {a c : Int32} {i : Nat} (h : (((39 : Int32) + ((2 : Int32) * a)) + c).toNatClampNeg = i) : Pc (mX7_toolOf 135 a c N) (fun r => r = rd N 136 i) := by
  unfold mX7_toolOf
  rw [h]
  exact Pc.k (fun _ => Pc.ok rfl)
theorem pc_hits {l : Nat} {fr : Int32} (hl : l < 100) : Pc (mX7_hits 135 (Int32.ofNat l) fr N) (fun r => (r = 1 ∧ (HB N l ∨ (¬ fr = 0 ∧ HW N l))) ∨ (r = 0 ∧ ¬ (HB N l ∨ (¬ fr = 0 ∧ HW N l)))) := by
  have hB : Pc (mX7_hitsBeam 135 (Int32.ofNat l) N) (fun r => (r = 1 ∧ Ent N l (-(rd N 136 39)) 0 0 (rd N 136 40)) ∨ (r = 0 ∧ ¬ Ent N l (-(rd N 136 39)) 0 0 (rd N 136 40))) := by
    unfold mX7_hitsBeam
    refine Pc.c (pc_toolOf (i := 39) (by decide)) (fun r e => Pc.c (pc_toolOf (i := 40) (by decide)) (fun r' e' => Pc.c (pc_isInside hl) (fun q p => Pc.k (fun _ => Pc.ok ?_))))
    rw [e, e'] at p; exact p
  have hT : Pc (mX7_hitsTable 135 (Int32.ofNat l) N) (fun r => (r = 1 ∧ Ent N l (-(rd N 136 41)) 0 (-(rd N 136 42)) 0) ∨ (r = 0 ∧ ¬ Ent N l (-(rd N 136 41)) 0 (-(rd N 136 42)) 0)) := by
    unfold mX7_hitsTable
    refine Pc.c (pc_toolOf (i := 41) (by decide)) (fun r e => Pc.c (pc_toolOf (i := 42) (by decide)) (fun r' e' => Pc.c (pc_isInside hl) (fun q p => Pc.k (fun _ => Pc.ok ?_))))
    rw [e, e'] at p; exact p
  have hWg : Pc (mX7_hitsWing 135 (Int32.ofNat l) N) (fun r => (r = 1 ∧ HW N l) ∨ (r = 0 ∧ ¬ HW N l)) := by
    unfold mX7_hitsWing HW
    refine Pc.c (pc_toolOf (i := 43) (by decide)) (fun r e => Pc.c (pc_toolOf (i := 44) (by decide)) (fun r' e' => Pc.c (pc_isInside hl) (fun q p => Pc.k (fun _ => Pc.ok ?_))))
    rw [e, e'] at p; exact p
  unfold mX7_hits HB
  refine Pc.c hB (fun r p => ?_)
  rcases p with ⟨rfl, p⟩ | ⟨rfl, p⟩
  · exact Pc.i (fun z => absurd z (by decide)) (fun _ => Pc.ok (Or.inl ⟨rfl, Or.inl (Or.inl p)⟩))
  refine Pc.i (fun _ => Pc.c hT (fun r2 p2 => ?_)) (fun z => absurd rfl z)
  rcases p2 with ⟨rfl, p2⟩ | ⟨rfl, p2⟩
  · exact Pc.i (fun z => absurd z (by decide)) (fun _ => Pc.ok (Or.inl ⟨rfl, Or.inl (Or.inr p2)⟩))
  refine Pc.i (fun _ => Pc.i (fun c => Pc.ok (Or.inr ⟨rfl, fun z => ?_⟩)) (fun c => Pc.c hWg (fun r3 p3 => ?_))) (fun z => absurd rfl z)
  · rcases z with (z | z) | z
    · exact p z
    · exact p2 z
    · exact z.1 c
  · rcases p3 with ⟨rfl, p3⟩ | ⟨rfl, p3⟩
    · exact Pc.i (fun z => absurd z (by decide)) (fun _ => Pc.ok (Or.inl ⟨rfl, Or.inr ⟨c, p3⟩⟩))
    · refine Pc.i (fun _ => Pc.ok (Or.inr ⟨rfl, fun z => ?_⟩)) (fun z => absurd rfl z)
      rcases z with (z | z) | z
      · exact p z
      · exact p2 z
      · exact p3 z.2
/-- what the reference's bits tell -/
def RB (N : Mem) (b s : Nat) (c fr : Int32) (l : Nat) : Prop := (clm b s l ∧ ¬ c = 0 ∧ HB N l) ∨ (¬ clm b s l ∧ ¬ fr = 0 ∧ (HB N l ∨ HW N l))
theorem hitR_l {c fr : Int32} (hb : b < 100) (hs : s < 2) (h0 : 0 ≤ (rd N 136 1).toInt) (h9 : (rd N 136 1).toInt ≤ 9) : ∀ (n j m : Nat), (j : Int) ≤ (rd N 136 1).toInt → m < 2 ^ j → (∀ i, i < j → (m.testBit i = true ↔ RB N b s c fr i)) → Pc (mX7_hittingLaid_l6 135 N n (Int32.ofNat b) (Int32.ofNat s) c fr (Int32.ofNat m) (Int32.ofNat j)) (fun r => ∃ m : Nat, r = Int32.ofNat m ∧ m < 2 ^ (rd N 136 1).toInt.toNat ∧ ∀ i, i < (rd N 136 1).toInt.toNat → (m.testBit i = true ↔ RB N b s c fr i)) := by
  intro n
  induction n with
  | zero => intro j m _ _ _; exact Pc.n
  | succ n IH =>
    intro j m hj hm hbt
    show Pc (mX7_hittingLaid_b6 135 N (mX7_hittingLaid_l6 135 N n) (Int32.ofNat b) (Int32.ofNat s) c fr (Int32.ofNat m) (Int32.ofNat j)) _
    unfold mX7_hittingLaid_b6
    have tj : (Int32.ofNat j).toInt = (j : Int) := t_of (by omega)
    refine Pc.k (fun _ => Pc.i (fun q => ?_) (fun q => ?_))
    · have q : (rd N 136 1).toInt ≤ (Int32.ofNat j).toInt := i_le.mp q
      rw [tj] at q
      have e : (rd N 136 1).toInt.toNat = j := by omega
      refine Pc.ok ⟨m, rfl, ?_, ?_⟩
      · rw [e]; exact hm
      · rw [e]; exact hbt
    · have q : (Int32.ofNat j).toInt < (rd N 136 1).toInt := i_nle q
      rw [tj] at q
      have m512 : m < 512 := by
        have : 2 ^ j ≤ 2 ^ 9 := Nat.pow_le_pow_right (by decide) (by omega)
        have h2 : (2 : Nat) ^ 9 = 512 := rfl
        omega
      have en : Int32.ofNat j + (1 : Int32) = Int32.ofNat (j + 1) := (Int32.ofNat_add j 1).symm
      have yes : RB N b s c fr j → Pc (mX7_hittingLaid_b73 135 N (mX7_hittingLaid_l6 135 N n) (Int32.ofNat b) (Int32.ofNat s) c fr (Int32.ofNat j) (Int32.ofNat m) ((1 : Int32) <<< (Int32.ofNat j &&& 31))) (fun r => ∃ m : Nat, r = Int32.ofNat m ∧ m < 2 ^ (rd N 136 1).toInt.toNat ∧ ∀ i, i < (rd N 136 1).toInt.toNat → (m.testBit i = true ↔ RB N b s c fr i)) := by
        intro hR
        unfold mX7_hittingLaid_b73
        refine Pc.b (fun v ev => Pc.b (fun w ew => ?_))
        rw [f_or9 m m512 j (by omega)] at ev
        rw [ev, ew, en]
        have st := (bit_step (P := RB N b s c fr) (Q := RB N b s c fr j) hm hbt Iff.rfl).1 hR
        exact IH (j + 1) _ (by omega) st.1 st.2
      have no : ¬ RB N b s c fr j → Pc (mX7_hittingLaid_b72 135 N (mX7_hittingLaid_l6 135 N n) (Int32.ofNat b) (Int32.ofNat s) c fr (Int32.ofNat j) (Int32.ofNat m)) (fun r => ∃ m : Nat, r = Int32.ofNat m ∧ m < 2 ^ (rd N 136 1).toInt.toNat ∧ ∀ i, i < (rd N 136 1).toInt.toNat → (m.testBit i = true ↔ RB N b s c fr i)) := by
        intro hR
        unfold mX7_hittingLaid_b72 mX7_hittingLaid_b73
        refine Pc.b (fun v ev => Pc.b (fun w ew => ?_))
        rw [or_0] at ev
        rw [ev, ew, en]
        have st := (bit_step (P := RB N b s c fr) (Q := RB N b s c fr j) hm hbt Iff.rfl).2 hR
        exact IH (j + 1) _ (by omega) st.1 st.2
      refine Pc.c (pc_clR (b := b) (s := s) (N := N) (j := j) (by omega) hb hs) (fun r4 p4 => ?_)
      unfold mX7_hittingLaid_b33 mX7_hittingLaid_b54
      rcases p4 with ⟨rfl, hcl⟩ | ⟨rfl, hcl⟩
      · refine Pc.i (fun z => absurd z (by decide)) (fun _ => Pc.i (fun _ => Pc.i (fun c0 => no ?_) (fun c0 => Pc.c (pc_hits (by omega)) (fun r p => ?_))) (fun z => absurd rfl z))
        · intro z
          rcases z with z | z
          · exact z.2.1 c0
          · exact z.1 hcl
        · rcases p with ⟨rfl, p⟩ | ⟨rfl, p⟩
          · refine Pc.i (fun z => absurd z (by decide)) (fun _ => yes (Or.inl ⟨hcl, c0, ?_⟩))
            rcases p with p | p
            · exact p
            · exact absurd rfl p.1
          · refine Pc.i (fun _ => no ?_) (fun z => absurd rfl z)
            intro z
            rcases z with z | z
            · exact p (Or.inl z.2.2)
            · exact z.1 hcl
      · refine Pc.i (fun _ => Pc.i (fun z => absurd z (by decide)) (fun _ => Pc.i (fun c0 => no ?_) (fun c0 => Pc.c (pc_hits (by omega)) (fun r p => ?_)))) (fun z => absurd rfl z)
        · intro z
          rcases z with z | z
          · exact hcl z.1
          · exact z.2.1 c0
        · rcases p with ⟨rfl, p⟩ | ⟨rfl, p⟩
          · refine Pc.i (fun z => absurd z (by decide)) (fun _ => yes (Or.inr ⟨hcl, c0, ?_⟩))
            rcases p with p | p
            · exact Or.inl p
            · exact Or.inr p.2
          · refine Pc.i (fun _ => no ?_) (fun z => absurd rfl z)
            intro z
            rcases z with z | z
            · exact hcl z.1
            · rcases z.2.2 with z | z
              · exact p (Or.inl z)
              · exact p (Or.inr ⟨by decide, z⟩)
theorem pc_hitR {c fr : Int32} (hb : b < 100) (hs : s < 2) (h0 : 0 ≤ (rd N 136 1).toInt) (h9 : (rd N 136 1).toInt ≤ 9) : Pc (mX7_hittingLaid 135 (Int32.ofNat b) (Int32.ofNat s) c fr N) (fun r => ∃ m : Nat, r = Int32.ofNat m ∧ m < 2 ^ (rd N 136 1).toInt.toNat ∧ ∀ i, i < (rd N 136 1).toInt.toNat → (m.testBit i = true ↔ RB N b s c fr i)) := by
  unfold mX7_hittingLaid
  exact hitR_l hb hs h0 h9 5000 0 0 (by omega) (by decide) (fun i hi => by omega)
end MK
