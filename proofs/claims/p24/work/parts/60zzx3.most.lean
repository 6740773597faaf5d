/-! mostBends: alike -/
section MB
variable {g : Gm} {k n m a b s c l e : Nat} {M M' N N' N0 : Mem} {P : Mem × Unit → Prop} {x x1 : Int32}
def bcF (x0 : Int32) : Int32 :=
  let a := x0 - (((x0).toUInt32 >>> (((1 : Int32)).toUInt32 &&& Int32.toUInt32 31)).toInt32 &&& (1431655765 : Int32))
  let b := (a &&& (858993459 : Int32)) + (((a).toUInt32 >>> (((2 : Int32)).toUInt32 &&& Int32.toUInt32 31)).toInt32 &&& (858993459 : Int32))
  let c := (b + ((b).toUInt32 >>> (((4 : Int32)).toUInt32 &&& Int32.toUInt32 31)).toInt32) &&& (252645135 : Int32)
  let d := c + ((c).toUInt32 >>> (((8 : Int32)).toUInt32 &&& Int32.toUInt32 31)).toInt32
  let e := d + ((d).toUInt32 >>> (((16 : Int32)).toUInt32 &&& Int32.toUInt32 31)).toInt32
  e &&& (63 : Int32)
theorem bc_eq : mJ6_bitCount_0f7a4 x M = some (bcF x) := rfl
theorem f_bc : ∀ a, a < 256 → bcF (Int32.ofNat a) = Int32.ofNat (8 - cntz a 8) := by decide +kernel
theorem z_8 : ∀ n, n < 9 → ∀ a, a < 2 ^ n → cntz a 8 = cntz a n + (8 - n) := by decide +kernel
theorem z_le : ∀ n, cntz a n ≤ n := by
  intro n
  induction n with
  | zero => exact Nat.le_refl _
  | succ n ih => show cntz a n + _ ≤ _; split <;> omega
theorem z_mono (h : a &&& m = m) : ∀ n, cntz a n ≤ cntz m n := by
  intro n
  induction n with
  | zero => exact Nat.le_refl _
  | succ n ih =>
    show cntz a n + (if a.testBit n then 0 else 1) ≤ cntz m n + (if m.testBit n then 0 else 1)
    cases hm : m.testBit n with
    | false => cases a.testBit n <;> simp <;> omega
    | true =>
      have ha : a.testBit n = true := by
        have h3 : (a &&& m).testBit n = true := by rw [h]; exact hm
        rw [Nat.testBit_and, hm, Bool.and_true] at h3
        exact h3
      rw [ha]; simp; omega
/-- the most of the states that are come to, by the class -/
theorem pc_mostC (hm : rd M 5 13 = Int32.ofNat m) (m256 : m < 256) : Pc (mX3_mostBendsFrom 110 5 M) (fun r => ∃ y : Nat, y ≤ 8 ∧ r = Int32.ofNat y - Int32.ofNat (8 - cntz m 8) ∧ (y = 0 ∨ ∃ b, b < 256 ∧ rc M b ∧ y = 8 - cntz b 8) ∧ ∀ b, b < 256 → rc M b → 8 - cntz b 8 ≤ y) := by
  have key : ∀ (fuel i y : Nat), i ≤ 256 → y ≤ 8 → (y = 0 ∨ ∃ b, b < 256 ∧ rc M b ∧ y = 8 - cntz b 8) → (∀ b, b < i → rc M b → 8 - cntz b 8 ≤ y) → Pc (mX3_mostBendsFrom_l4 110 5 M fuel (Int32.ofNat y) (Int32.ofNat i)) (fun r => ∃ y : Nat, y ≤ 8 ∧ r = Int32.ofNat y - Int32.ofNat (8 - cntz m 8) ∧ (y = 0 ∨ ∃ b, b < 256 ∧ rc M b ∧ y = 8 - cntz b 8) ∧ ∀ b, b < 256 → rc M b → 8 - cntz b 8 ≤ y) := by
    intro fuel
    induction fuel with
    | zero => intro i y _ _ _ _ q e; cases e
    | succ fuel IH =>
      intro i y hi hy h1 h2
      show Pc (mX3_mostBendsFrom_b4 110 5 M (mX3_mostBendsFrom_l4 110 5 M fuel) (Int32.ofNat y) (Int32.ofNat i)) _
      unfold mX3_mostBendsFrom_b4
      have ti : (Int32.ofNat i).toInt = (i : Int) := t_of (by omega)
      have ty : (Int32.ofNat y).toInt = (y : Int) := t_of (by omega)
      have ci : (Int32.ofNat i).toNatClampNeg = i := c_of (by omega)
      refine Pc.i (fun c => ?_) (fun c => ?_)
      · have c := i_le.mp c
        rw [ti, show ((256 : Int32)).toInt = 256 from rfl] at c
        have : i = 256 := by omega
        subst this
        rw [hm, bc_eq, f_bc m m256]
        exact Pc.c (Pc.ok (P := fun r => r = Int32.ofNat (8 - cntz m 8)) rfl) (fun r3 e3 => Pc.ok ⟨y, hy, by rw [e3], h1, h2⟩)
      · have c := i_nle c
        rw [ti, show ((256 : Int32)).toInt = 256 from rfl] at c
        rw [ci]
        have next : ∀ z : Nat, z ≤ 8 → (z = 0 ∨ ∃ b, b < 256 ∧ rc M b ∧ z = 8 - cntz b 8) → (∀ b, b < i + 1 → rc M b → 8 - cntz b 8 ≤ z) → Pc (mX3_mostBendsFrom_b29 110 5 M (mX3_mostBendsFrom_l4 110 5 M fuel) (Int32.ofNat z) (Int32.ofNat i)) (fun r => ∃ y : Nat, y ≤ 8 ∧ r = Int32.ofNat y - Int32.ofNat (8 - cntz m 8) ∧ (y = 0 ∨ ∃ b, b < 256 ∧ rc M b ∧ y = 8 - cntz b 8) ∧ ∀ b, b < 256 → rc M b → 8 - cntz b 8 ≤ y) := by
          intro z hz g1 g2
          unfold mX3_mostBendsFrom_b29
          refine Pc.b (fun w ew => ?_)
          have e : w = Int32.ofNat (i + 1) := by rw [ew]; exact (Int32.ofNat_add i 1).symm
          rw [e]
          exact IH (i + 1) z (by omega) hz g1 g2
        refine Pc.k (fun _ => Pc.i (fun c2 => next y hy h1 (fun b hb hr => ?_)) (fun c2 => ?_))
        · by_cases q : b = i
          · subst q; exact absurd c2 hr
          · exact h2 b (by omega) hr
        · rw [bc_eq, f_bc i (by omega)]
          refine Pc.c (Pc.ok (P := fun r => r = Int32.ofNat (8 - cntz i 8)) rfl) (fun r9 e9 => Pc.b (fun x2 e2 => ?_))
          rw [e9] at e2
          have t9 : (Int32.ofNat (8 - cntz i 8)).toInt = ((8 - cntz i 8 : Nat) : Int) := t_of (by omega)
          have ex : x2 = Int32.ofNat (max y (8 - cntz i 8)) := by
            rw [e2]
            unfold imax
            by_cases z : Int32.ofNat y < Int32.ofNat (8 - cntz i 8)
            · have z' := i_lt.mp z
              rw [if_pos z, Nat.max_eq_right (by omega)]
            · have z' := i_nlt z
              rw [if_neg z, Nat.max_eq_left (by omega)]
          rw [ex]
          refine next _ (by omega) ?_ (fun b hb hr => ?_)
          · by_cases z : y ≤ 8 - cntz i 8
            · rw [Nat.max_eq_right z]; exact Or.inr ⟨i, by omega, c2, rfl⟩
            · rw [Nat.max_eq_left (by omega)]; exact h1
          · by_cases q : b = i
            · subst q; exact Nat.le_max_right _ _
            · exact Nat.le_trans (h2 b (by omega) hr) (Nat.le_max_left _ _)
  unfold mX3_mostBendsFrom
  exact key 5000 0 0 (by omega) (by omega) (Or.inl rfl) (fun b hb => by omega)
/-- by the reference -/
theorem pc_mostR (hN : NM n m N) (hR : ∀ b, b < 2 ^ n → rr N b → b &&& m = m) : Pc (mX7_mostBends_l13 135 5000 (0 : Int32) (0 : Int32) N) (fun q => q.1 = N ∧ ∃ y : Nat, y ≤ 8 ∧ q.2 = Int32.ofNat y ∧ (y = 0 ∨ ∃ b, b < 2 ^ n ∧ rr N b ∧ y = cntz m n - cntz b n) ∧ ∀ b, b < 2 ^ n → rr N b → cntz m n - cntz b n ≤ y) := by
  have hn := hN.2.1
  have hp := z_pow n hn
  have hm := hN.2.2.2
  have key : ∀ (fuel i y : Nat), i ≤ 2 ^ n → y ≤ 8 → (y = 0 ∨ ∃ b, b < 2 ^ n ∧ rr N b ∧ y = cntz m n - cntz b n) → (∀ b, b < i → rr N b → cntz m n - cntz b n ≤ y) → Pc (mX7_mostBends_l13 135 fuel (Int32.ofNat y) (Int32.ofNat i) N) (fun q => q.1 = N ∧ ∃ y : Nat, y ≤ 8 ∧ q.2 = Int32.ofNat y ∧ (y = 0 ∨ ∃ b, b < 2 ^ n ∧ rr N b ∧ y = cntz m n - cntz b n) ∧ ∀ b, b < 2 ^ n → rr N b → cntz m n - cntz b n ≤ y) := by
    intro fuel
    induction fuel with
    | zero => intro i y _ _ _ _ q e; cases e
    | succ fuel IH =>
      intro i y hi hy h1 h2
      show Pc (mX7_mostBends_b13 135 (mX7_mostBends_l13 135 fuel) (Int32.ofNat y) (Int32.ofNat i) N) _
      unfold mX7_mostBends_b13
      rw [pl_full hN]
      refine Pc.c (Pc.ok (P := fun r => r = Int32.ofNat (2 ^ n - 1)) rfl) (fun r9 e9 => ?_)
      subst e9
      have ti : (Int32.ofNat i).toInt = (i : Int) := t_of (by omega)
      have ty : (Int32.ofNat y).toInt = (y : Int) := t_of (by omega)
      have ci : (Int32.ofNat i).toNatClampNeg = i := c_of (by omega)
      refine Pc.i (fun c => Pc.ok ⟨rfl, y, hy, rfl, h1, fun b hb => h2 b ?_⟩) (fun c => ?_)
      · have c := i_lt.mp c
        rw [ti, t_of (by omega)] at c
        omega
      have c := i_nlt c
      rw [ti, t_of (by omega)] at c
      have hi2 : i < 2 ^ n := by omega
      -- a set's bends
      have inner : ∀ (fuel2 b w : Nat), b ≤ n → (rr N i → w = cntz m b - cntz i b) → w ≤ b → Pc (mX7_mostBends_l26 135 (mX7_mostBends_l13 135 fuel) fuel2 (Int32.ofNat y) (Int32.ofNat i) (Int32.ofNat w) (Int32.ofNat b) N) (fun q => q.1 = N ∧ ∃ y : Nat, y ≤ 8 ∧ q.2 = Int32.ofNat y ∧ (y = 0 ∨ ∃ b, b < 2 ^ n ∧ rr N b ∧ y = cntz m n - cntz b n) ∧ ∀ b, b < 2 ^ n → rr N b → cntz m n - cntz b n ≤ y) := by
        intro fuel2
        induction fuel2 with
        | zero => intro b w _ _ _ q e; cases e
        | succ fuel2 IH2 =>
          intro b w hb hw hwb
          show Pc (mX7_mostBends_b26 135 (mX7_mostBends_l13 135 fuel) (mX7_mostBends_l26 135 (mX7_mostBends_l13 135 fuel) fuel2) (Int32.ofNat y) (Int32.ofNat i) (Int32.ofNat w) (Int32.ofNat b) N) _
          unfold mX7_mostBends_b26
          have tb : (Int32.ofNat b).toInt = (b : Int) := t_of (by omega)
          have tw : (Int32.ofNat w).toInt = (w : Int) := t_of (by omega)
          have e0 : rd N (135 + 1) ((0 : Int32)).toNatClampNeg = Int32.ofNat n := hN.1
          have e52 : rd N (135 + 1) ((52 : Int32)).toNatClampNeg = Int32.ofNat m := hN.2.2.1
          rw [e0, e52, ci]
          have fin : ∀ z : Nat, z ≤ 8 → (z = 0 ∨ ∃ b, b < 2 ^ n ∧ rr N b ∧ z = cntz m n - cntz b n) → (∀ b, b < i + 1 → rr N b → cntz m n - cntz b n ≤ z) → ∀ v, v = Int32.ofNat z → Pc (mX7_mostBends_b93 135 (mX7_mostBends_l13 135 fuel) (Int32.ofNat i) v N) (fun q => q.1 = N ∧ ∃ y : Nat, y ≤ 8 ∧ q.2 = Int32.ofNat y ∧ (y = 0 ∨ ∃ b, b < 2 ^ n ∧ rr N b ∧ y = cntz m n - cntz b n) ∧ ∀ b, b < 2 ^ n → rr N b → cntz m n - cntz b n ≤ y) := by
            intro z hz g1 g2 v hv
            unfold mX7_mostBends_b93
            refine Pc.b (fun w ew => ?_)
            have e : w = Int32.ofNat (i + 1) := by rw [ew]; exact (Int32.ofNat_add i 1).symm
            rw [e, hv]
            exact IH (i + 1) z (by omega) hz g1 g2
          refine Pc.k (fun _ => Pc.i (fun c2 => Pc.k (fun _ => Pc.i (fun c3 => ?_) (fun c3 => ?_))) (fun c2 => ?_))
          · refine fin y hy h1 (fun b' hb' hr => ?_) _ rfl
            by_cases q : b' = i
            · subst q; exact absurd c3 hr
            · exact h2 b' (by omega) hr
          · have c2 := i_le.mp c2
            rw [t_of (by omega), tb] at c2
            have eb : b = n := by omega
            subst eb
            have ew := hw c3
            refine fin (max y w) (by omega) ?_ (fun b' hb' hr => ?_) _ ?_
            · by_cases z : y ≤ w
              · rw [Nat.max_eq_right z]; exact Or.inr ⟨i, hi2, c3, ew⟩
              · rw [Nat.max_eq_left (by omega)]; exact h1
            · by_cases q : b' = i
              · subst q; rw [← ew]; exact Nat.le_max_right _ _
              · exact Nat.le_trans (h2 b' (by omega) hr) (Nat.le_max_left _ _)
            · unfold imax
              by_cases z : Int32.ofNat y < Int32.ofNat w
              · have z' := i_lt.mp z
                rw [if_pos z, Nat.max_eq_right (by omega)]
              · have z' := i_nlt z
                rw [if_neg z, Nat.max_eq_left (by omega)]
          · have c2 := i_nle c2
            rw [tb, t_of (by omega)] at c2
            have hb2 : b < n := by omega
            have nx : ∀ d : Nat, (rr N i → w + d = cntz m (b + 1) - cntz i (b + 1)) → w + d ≤ b + 1 → ∀ v, v = Int32.ofNat d → Pc (mX7_mostBends_b67 135 (mX7_mostBends_l13 135 fuel) (mX7_mostBends_l26 135 (mX7_mostBends_l13 135 fuel) fuel2) (Int32.ofNat y) (Int32.ofNat i) (Int32.ofNat b) (Int32.ofNat w) v N) (fun q => q.1 = N ∧ ∃ y : Nat, y ≤ 8 ∧ q.2 = Int32.ofNat y ∧ (y = 0 ∨ ∃ b, b < 2 ^ n ∧ rr N b ∧ y = cntz m n - cntz b n) ∧ ∀ b, b < 2 ^ n → rr N b → cntz m n - cntz b n ≤ y) := by
              intro d hd hd2 v hv
              unfold mX7_mostBends_b67
              refine Pc.b (fun x3 e3 => Pc.b (fun x4 e4 => ?_))
              have e : x4 = Int32.ofNat (b + 1) := by rw [e4]; exact (Int32.ofNat_add b 1).symm
              have e3' : x3 = Int32.ofNat (w + d) := by rw [e3, hv]; exact (Int32.ofNat_add w d).symm
              rw [e, e3']
              exact IH2 (b + 1) (w + d) (by omega) hd hd2
            have hsb : rr N i → i &&& m = m := hR i hi2
            have cz : ∀ a, cntz a (b + 1) = cntz a b + (if a.testBit b then 0 else 1) := fun a => rfl
            have fi := f_has i (by omega) b (by omega)
            have fm := f_has m (by omega) b (by omega)
            unfold mX7_mostBends_b66 mX7_has
            refine Pc.c (Q := fun r => r = if i.testBit b = true then 1 else 0) (Pc.i (fun z => Pc.ok (by rw [if_pos (fi.mp z)])) (fun z => Pc.ok (by rw [if_neg (mt fi.mpr z)]))) (fun r16 e16 => Pc.i (fun c4 => nx 0 (fun hr => ?_) (by omega) _ rfl) (fun c4 => Pc.k (fun _ => Pc.c (Q := fun r => r = if m.testBit b = true then 1 else 0) (Pc.i (fun z => Pc.ok (by rw [if_pos (fm.mp z)])) (fun z => Pc.ok (by rw [if_neg (mt fm.mpr z)]))) (fun r23 e23 => Pc.i (fun c5 => nx 1 (fun hr => ?_) (by omega) _ rfl) (fun c5 => nx 0 (fun hr => ?_) (by omega) _ rfl)))))
            · have hi0 : ¬ i.testBit b = true := fun z => by rw [if_pos z] at e16; rw [e16] at c4; exact absurd c4 (by decide)
              have hm0 : ¬ m.testBit b = true := fun z => hi0 (by
                have h3 : (i &&& m).testBit b = true := by rw [hsb hr]; exact z
                rw [Nat.testBit_and, z, Bool.and_true] at h3; exact h3)
              have := z_mono (hsb hr) b
              rw [cz, cz, if_neg hi0, if_neg hm0, hw hr]; omega
            · have hi1 : i.testBit b = true := by
                by_cases z : i.testBit b = true
                · exact z
                · rw [if_neg z] at e16; exact absurd e16 c4
              have hm0 : ¬ m.testBit b = true := fun z => by rw [if_pos z] at e23; rw [e23] at c5; exact absurd c5 (by decide)
              have := z_mono (hsb hr) b
              rw [cz, cz, if_pos hi1, if_neg hm0, hw hr]; omega
            · have hi1 : i.testBit b = true := by
                by_cases z : i.testBit b = true
                · exact z
                · rw [if_neg z] at e16; exact absurd e16 c4
              have hm1 : m.testBit b = true := by
                by_cases z : m.testBit b = true
                · exact z
                · rw [if_neg z] at e23; exact absurd e23 c5
              have := z_mono (hsb hr) b
              rw [cz, cz, if_pos hi1, if_pos hm1, hw hr]; omega
      exact inner 5000 0 0 (by omega) (fun _ => rfl) (by omega)
  exact key 5000 0 0 (by omega) (by omega) (Or.inl rfl) (fun b hb => by omega)
theorem mostBends_RR (h : SS M N) (hI : MI N) : R2 (mX6_mostBends 0 M) (mX7_mostBends 135 N) (fun p q => p.2 = q.2 ∧ SS p.1 q.1) := by
  unfold mX6_mostBends mX7_mostBends
  refine R2.ml (pc_prep h hI) (fun M3 _ p => ?_)
  obtain ⟨hS, _, m, lc, lg, m2, em, hK, hR, elc, elg⟩ := p
  have hS : SS M3 N := hS
  have n8 := nb8 (pr_9 hS.1)
  have m256 := n_256 n8 m2
  refine R2.br (fun N1 e1 => ?_)
  have hI1 : MI N1 := by rw [e1]; exact (hI.th (v := 0)).1
  have hS1 : SS M3 N1 := by rw [e1]; exact hS.th
  have hR1 : Row (nb 5 M3) m (rd N1 136) := by rw [e1]; exact row_th hR
  refine R2.mr ((pc_layReached hI1.1 hR1.nm).and (Fr.pc (vX7_layReached (KS.rf : KS SLy N1 N1)))) (fun N5 _ p => ?_)
  obtain ⟨⟨hB, hL⟩, hk⟩ := p
  have hk : KS SLy N1 N5 := hk
  refine R2.cl (pc_mostC em m256) (fun r5 h5 => ?_)
  intro p q hp hq
  cases hp
  obtain ⟨q1, y, hy, q2, q3, q4⟩ := pc_mostR hB.1 hL.2.2.1 q hq
  obtain ⟨w, hw, w1, w2, w3⟩ := h5
  refine ⟨?_, by rw [q1]; exact hS1.sly hk⟩
  have same : ∀ b, b < 2 ^ nb 5 M3 → (rc M3 b ↔ rr N5 b) := fun b hb => reach_same hK.1 n8 hS1.1.pb hB.2.1 hL hb
  have zs : ∀ b, b < 2 ^ nb 5 M3 → cntz b 8 = cntz b (nb 5 M3) + (8 - nb 5 M3) := fun b hb => z_8 (nb 5 M3) (by omega) b hb
  have zl : ∀ b, cntz b (nb 5 M3) ≤ nb 5 M3 := fun b => z_le _
  have zm := zs m m2
  have zlm := zl m
  have hmm := w3 m m256 hK.1.2.1
  have e : w = y + (8 - cntz m 8) := by
    apply Nat.le_antisymm
    · rcases w2 with e0 | ⟨b, hb, hr, e0⟩
      · omega
      · have hn := hK.1.2.2.1 b hb hr
        have z1 := zs b hn.1
        have z2 := q4 b hn.1 ((same b hn.1).mp hr)
        have z3 := z_mono hn.2 (nb 5 M3)
        have := zl b
        omega
    · rcases q3 with e0 | ⟨b, hb, hr, e0⟩
      · omega
      · have hr' := (same b hb).mpr hr
        have z0 := w3 b (n_256 n8 hb) hr'
        have z1 := zs b hb
        have z3 := z_mono (hK.1.2.2.1 b (n_256 n8 hb) hr').2 (nb 5 M3)
        have := zl b
        omega
  show r5 = q.2
  rw [w1, q2, i_eq, i_sub (by rw [t_of (by omega), t_of (by omega)]; omega) (by rw [t_of (by omega), t_of (by omega)]; omega), t_of (by omega), t_of (by omega), t_of (by omega)]
  omega
end MB
