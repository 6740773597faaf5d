/-! the planner's tables: which steps are open in a state -/
def op (M : Mem) (a c : Nat) : Bool := bt (rd M (110 + 17) a) c
def Tb (k : Nat) (M : Mem) (w : Int32) (gs : Nat → Int32) (a : Nat) : Prop := (∀ c, c < 2 * nb k M → (bt w c = true → RV k M a c 0 ∧ GV k M a c (gs c) ∧ a.testBit (c / 2) = false) ∧ (bt w c = false → ∃ v : Int32, ¬ v = 0 ∧ RV k M a c v)) ∧ ∀ c, 2 * nb k M ≤ c → bt w c = false
def Tp (k : Nat) (M : Mem) (w : Int32) (gs : Nat → Int32) (a c : Nat) : Prop := (∀ c', c' < c → (bt w c' = true → RV k M a c' 0 ∧ GV k M a c' (gs c') ∧ a.testBit (c' / 2) = false) ∧ (bt w c' = false → ∃ v : Int32, ¬ v = 0 ∧ RV k M a c' v)) ∧ ∀ c', c ≤ c' → bt w c' = false
def TabK (k : Nat) (M : Mem) : Prop := ∀ a, a < 2 ^ nb k M → ¬ rd M (110 + 17) a = -1 → Tb k M (rd M (110 + 17) a) (fun c => rd M (110 + 20) (16 * a + c)) a
def SFs (a c j : Nat) : Prop := SPs 112 c j ∨ (c = 130 ∧ 16 * a ≤ j ∧ j < 16 * a + 16)
section FI
variable {k k' : Nat} {M M' : Mem} {a : Nat}
theorem Tb.bl {w : Int32} {gs : Nat → Int32} (h : Tb k M w gs a) (e : BL k M k' M') : Tb k' M' w gs a := by
  have en := e.bn
  refine ⟨fun c hc => ⟨fun hw => ?_, fun hw => ?_⟩, fun c hc => h.2 c (by rw [← en]; exact hc)⟩
  · have q := (h.1 c (by rw [← en]; exact hc)).1 hw
    exact ⟨q.1.bl e, q.2.1.bl e, q.2.2⟩
  · obtain ⟨v, q1, q2⟩ := (h.1 c (by rw [← en]; exact hc)).2 hw
    exact ⟨v, q1, q2.bl e⟩
theorem Tb.gs {w : Int32} {gs gs' : Nat → Int32} (h : Tb k M w gs a) (e : ∀ c, c < 2 * nb k M → gs' c = gs c) : Tb k M w gs' a := by
  refine ⟨fun c hc => ⟨fun hw => ?_, (h.1 c hc).2⟩, h.2⟩
  have q := (h.1 c hc).1 hw
  rw [e c hc]; exact q
theorem TabK.bl (h : TabK k M) (e : BL k M k' M') (e1 : ∀ a, rd M' (110 + 17) a = rd M (110 + 17) a) (e2 : ∀ j, rd M' (110 + 20) j = rd M (110 + 20) j) : TabK k' M' := by
  intro a ha hw
  rw [e.bn] at ha
  rw [e1] at hw ⊢
  exact ((h a ha hw).bl e).gs (fun c _ => e2 _)
theorem pc_bends (h9 : (rd M k 0).toInt ≤ 9) : Pc (mX1_bendCount k M) (fun r => r = Int32.ofNat (nb k M)) := by
  have n1 : ((1 : Int32)).toInt = 1 := rfl
  unfold mX1_bendCount nb
  refine Pc.i (fun c => Pc.ok ?_) (fun c => Pc.ok ?_)
  · have c : (rd M k 0).toInt ≤ 0 := i_le.mp c
    rw [show ((rd M k 0).toInt - 1).toNat = 0 by omega]; rfl
  · have c : 0 < (rd M k 0).toInt := i_nle c
    rw [i_eq, i_sub (by omega) (by omega), n1, t_of (by omega)]
    omega
theorem nb8 (h9 : (rd M k 0).toInt ≤ 9) : nb k M ≤ 8 := by unfold nb; omega
theorem n_256 {n a : Nat} (h8 : n ≤ 8) (ha : a < 2 ^ n) : a < 256 := by
  have : 2 ^ n ≤ 2 ^ 8 := Nat.pow_le_pow_right (by decide) h8
  have h8 : (2 : Nat) ^ 8 = 256 := rfl
  omega
theorem findS_l (h8 : k + 8 ≤ 112) (h9 : (rd M k 0).toInt ≤ 9) (ha : a < 2 ^ nb k M) : ∀ (fuel c : Nat) (w : Int32) (M1 : Mem), c ≤ 2 * nb k M → KS (SFs a) M M1 → Tp k M w (fun c => rd M1 (110 + 20) (16 * a + c)) a c →
    Pc (mX3_findSteps_l5 110 k fuel (Int32.ofNat a) w (Int32.ofNat c) M1) (fun q => KS (SFs a) M q.1 ∧ Tb k M q.2 (fun c => rd q.1 (110 + 20) (16 * a + c)) a) := by
  have n8 := nb8 h9
  have a256 := n_256 n8 ha
  intro fuel
  induction fuel with
  | zero => intro c w M1 _ _ _ q e; cases e
  | succ fuel IH =>
    intro c w M1 hc hk hp
    have hbl : BL k M k M1 := BL.ks hk (fun c j h1 h2 z => by unfold SFs SPs at z; omega)
    have en := hbl.bn
    show Pc (mX3_findSteps_b5 110 k (mX3_findSteps_l5 110 k fuel) (Int32.ofNat a) w (Int32.ofNat c) M1) _
    unfold mX3_findSteps_b5
    refine Pc.c (pc_bends (by rw [hbl.1]; exact h9)) (fun r2 e2 => ?_)
    have e2 : r2 = Int32.ofNat (nb k M) := by rw [e2, en]
    have t2 : ((2 : Int32) * r2).toInt = 2 * (nb k M : Int) := by
      rw [e2, i_mulc (a := (2 : Int32)) (c := 2) rfl (by rw [t_of (by omega)]; omega) (by rw [t_of (by omega)]; omega), t_of (by omega)]
    have tc : (Int32.ofNat c).toInt = (c : Int) := t_of (by omega)
    have fin : c = 2 * nb k M → Pc (some (M1, w)) (fun q => KS (SFs a) M q.1 ∧ Tb k M q.2 (fun c => rd q.1 (110 + 20) (16 * a + c)) a) := by
      intro e
      subst e
      exact Pc.ok ⟨hk, hp⟩
    refine Pc.i (fun c1 => fin ?_) (fun c1 => Pc.i (fun c2 => fin ?_) (fun c2 => ?_))
    · have c1 := i_le.mp c1
      rw [t2, tc] at c1; omega
    · have c2 := i_le.mp c2
      rw [tc, show ((16 : Int32)).toInt = 16 from rfl] at c2; omega
    have c1 := i_nle c1
    rw [t2, tc] at c1
    have hc2 : c < 2 * nb k M := by omega
    have next : ∀ (w' : Int32) (M2 : Mem), KS (SFs a) M M2 → Tp k M w' (fun c => rd M2 (110 + 20) (16 * a + c)) a (c + 1) → Pc (mX3_findSteps_b63 110 k (mX3_findSteps_l5 110 k fuel) (Int32.ofNat a) w' (Int32.ofNat c) M2) (fun q => KS (SFs a) M q.1 ∧ Tb k M q.2 (fun c => rd q.1 (110 + 20) (16 * a + c)) a) := by
      intro w' M2 hk2 hp2
      unfold mX3_findSteps_b63
      refine Pc.b (fun x ex => ?_)
      have e : x = Int32.ofNat (c + 1) := by rw [ex]; exact (Int32.ofNat_add c 1).symm
      rw [e]
      exact IH (c + 1) w' M2 (by omega) hk2 hp2
    have hb1 : BL k M1 k M := hbl.sy
    refine Pc.m ((reason_V (M := M1) (a := a) (c := c) h8 (by rw [en]; exact ha) (by rw [en]; exact hc2)).and ((reason_0 (k := k) (M := M1) (a := a) (c := c) a256 (by omega)).and (Fr.pc (uX2_reasonFor (k0 := 110 + 2) (k1 := k) (x2 := Int32.ofNat a) (x3 := Int32.ofNat c) (KS.rf : KS (SPs (110 + 2)) M1 M1))))) (fun M8 r7 p => ?_)
    obtain ⟨pV, p0, pK⟩ := p
    have pV : RV k M1 a c r7 := pV
    have pK : KS (SPs 112) M1 M8 := pK
    have hk8 : KS (SFs a) M M8 := hk.trans (pK.mono (fun c j h => Or.inl h))
    have g8 : ∀ j, rd M8 (110 + 20) j = rd M1 (110 + 20) j := fun j => pK _ _ (by unfold SPs; omega)
    have hz : bt w c = false := hp.2 c (Nat.le_refl _)
    refine Pc.i (fun c7 => ?_) (fun c7 => next w M8 hk8 ⟨fun c' h' => ?_, fun c' h' => hp.2 c' (by omega)⟩)
    · refine Pc.b (fun x3 e3 => Pc.c (Pc.self _) (fun r13 e13 => Pc.k (fun _ => Pc.b (fun M17 e17 => ?_))))
      have e13 : mX2_reachToBack 112 M8 = some r13 := e13
      have p0 := p0 c7
      have c7 : r7 = 0 := c7
      subst c7
      have hG := gauge_V (k := k) (M := M1) (M' := M8) (a := a) (c := c) h8 (by rw [en]; exact ha) (by rw [en]; exact hc2) p0.2 e13
      rw [f_15c a256 (by omega)] at e17
      subst e17
      refine next x3 _ (hk8.wr (Or.inr ⟨rfl, by omega, by omega⟩)) ⟨fun c' h' => ?_, fun c' h' => ?_⟩
      · by_cases e : c' = c
        · subst e
          rw [e3, bt_or, bt_sh (by omega), decide_eq_true rfl, Bool.or_true]
          refine ⟨fun _ => ⟨pV.bl hb1, ?_, p0.1⟩, fun z => absurd z (by decide)⟩
          show GV k M a c' (rd (wr M8 (110 + 20) (16 * a + c') r13) (110 + 20) (16 * a + c'))
          rw [rd_we]
          exact hG.bl hb1
        · have eb : bt x3 c' = bt w c' := by rw [e3, bt_or, bt_sh (by omega), decide_eq_false (fun z => e z.symm), Bool.or_false]
          rw [eb]
          have ew : rd (wr M8 (110 + 20) (16 * a + c) r13) (110 + 20) (16 * a + c') = rd M1 (110 + 20) (16 * a + c') := by rw [rd_wj (by omega)]; exact g8 _
          show (bt w c' = true → RV k M a c' 0 ∧ GV k M a c' (rd (wr M8 (110 + 20) (16 * a + c) r13) (110 + 20) (16 * a + c')) ∧ _) ∧ _
          rw [ew]
          exact hp.1 c' (by omega)
      · rw [e3, bt_or, bt_sh (by omega), decide_eq_false (fun z => by omega), Bool.or_false]
        exact hp.2 c' (by omega)
    · by_cases e : c' = c
      · subst e
        exact ⟨fun z => (Bool.false_ne_true (hz.symm.trans z)).elim, fun _ => ⟨r7, c7, pV.bl hb1⟩⟩
      · show (bt w c' = true → RV k M a c' 0 ∧ GV k M a c' (rd M8 (110 + 20) (16 * a + c')) ∧ _) ∧ _
        rw [g8]
        exact hp.1 c' (by omega)
theorem pc_findSteps (h8 : k + 8 ≤ 112) (h9 : (rd M k 0).toInt ≤ 9) (ha : a < 2 ^ nb k M) : Pc (mX3_findSteps 110 k (Int32.ofNat a) M) (fun q => KS (SFs a) M q.1 ∧ Tb k M q.2 (fun c => rd q.1 (110 + 20) (16 * a + c)) a) :=
  findS_l h8 h9 ha 5000 0 0 M (by omega) KS.rf ⟨fun c' h' => by omega, fun c' _ => bt_0⟩
theorem bt_m1 : bt (-1) 31 = true := by decide
theorem Tb.ne {w : Int32} {gs : Nat → Int32} (h : Tb k M w gs a) (n8 : nb k M ≤ 8) : ¬ w = -1 := by
  intro e
  have := h.2 31 (by omega)
  rw [e, bt_m1] at this
  cases this
theorem pc_isOpen {c : Nat} (ha : a < 256) (hc : c < 16) : mX3_isOpen 110 (Int32.ofNat a) (Int32.ofNat c) M = some (if op M a c = true then 1 else 0) := by
  unfold mX3_isOpen op
  have i1 : okb (Int32.ofNat a) 256 = true := ok_in (by rw [t_of (by omega)]; omega) (by rw [t_of (by omega)]; omega)
  have e1 : (Int32.ofNat a).toNatClampNeg = a := c_of (by omega)
  have hb := bt_get (x := rd M (110 + 17) a) hc
  rw [i1, e1]
  show ite2 (((rd M (110 + 17) a >>> (Int32.ofNat c &&& 31)) &&& (1 : Int32)) = 0) (some (0 : Int32)) (some (1 : Int32)) = _
  unfold ite2
  cases e : bt (rd M (110 + 17) a) c with
  | true =>
    rw [if_neg (fun z => by rw [hb.mp z] at e; cases e)]; rfl
  | false =>
    rw [if_pos (hb.mpr e)]; rfl
theorem pc_setBehind {c : Nat} (ha : a < 256) (hc : c < 16) : mX3_setBehind (Int32.ofNat a) (Int32.ofNat c) M = some (Int32.ofNat (a ||| 2 ^ (c / 2))) := by
  unfold mX3_setBehind
  rw [f_shr1c c hc, f_or a ha (c / 2) (by omega)]
end FI
