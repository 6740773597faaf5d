/-! the bits of an int -/
def bt (x : Int32) (c : Nat) : Bool := x.toBitVec.getLsbD c
theorem bt_0 {d : Nat} : bt 0 d = false := by unfold bt; simp
theorem bt_or {x y : Int32} {d : Nat} : bt (x ||| y) d = (bt x d || bt y d) := by unfold bt; simp
theorem bt_ext {x y : Int32} (h : ∀ d, d < 32 → bt x d = bt y d) : x = y := by
  apply Int32.toBitVec_inj.mp
  exact BitVec.eq_of_getLsbD_eq h
theorem sh1_bv : ∀ c, c < 16 → ((1 : Int32) <<< (Int32.ofNat c &&& 31)).toBitVec = BitVec.twoPow 32 c := by decide
theorem bt_sh {c d : Nat} (hc : c < 16) : bt ((1 : Int32) <<< (Int32.ofNat c &&& 31)) d = decide (c = d) := by
  unfold bt
  rw [sh1_bv c hc, BitVec.getLsbD_twoPow]
  have h : decide (c < 32) = true := decide_eq_true (by omega)
  rw [h, Bool.true_and]
theorem sm_bv : ∀ c, c < 16 → ((Int32.ofNat c &&& 31).toBitVec.smod 32).toNat = c := by decide
theorem bt_get {x : Int32} {c : Nat} (hc : c < 16) : (((x >>> (Int32.ofNat c &&& 31)) &&& (1 : Int32)) = 0) ↔ bt x c = false := by
  have e : ∀ d, bt ((x >>> (Int32.ofNat c &&& 31)) &&& (1 : Int32)) d = (decide (d = 0) && bt x c) := by
    intro d
    unfold bt
    rw [Int32.toBitVec_and, BitVec.getLsbD_and, Int32.toBitVec_shiftRight, BitVec.sshiftRight', sm_bv c hc, BitVec.getLsbD_sshiftRight]
    show (_ && (1#32).getLsbD d) = _
    rw [BitVec.getLsbD_one]
    by_cases h : d = 0
    · subst h
      simp
      intro h; omega
    · simp [h]
  constructor
  · intro h
    have := e 0
    rw [h, bt_0] at this
    simpa using this.symm
  · intro h
    refine bt_ext (fun d _ => ?_)
    rw [e, h, bt_0, Bool.and_false]
theorem f_shr1c : ∀ c, c < 16 → Int32.ofNat c >>> ((1 : Int32) &&& 31) = Int32.ofNat (c / 2) := by decide
theorem f_15 {a c : Nat} (ha : a < 256) (hc : c < 16) : (Int32.ofNat a * (16 : Int32) + Int32.ofNat c).toInt = 16 * (a : Int) + c := by
  have ta : (Int32.ofNat a).toInt = (a : Int) := t_of (by omega)
  have tc : (Int32.ofNat c).toInt = (c : Int) := t_of (by omega)
  have e : Int32.ofNat a * (16 : Int32) = (16 : Int32) * Int32.ofNat a := Int32.mul_comm _ _
  rw [e]
  exact ix16 ha hc
theorem f_15c {a c : Nat} (ha : a < 256) (hc : c < 16) : (Int32.ofNat a * (16 : Int32) + Int32.ofNat c).toNatClampNeg = 16 * a + c := by rw [i_clamp, f_15 ha hc]; omega
/-! a part that bends like another -/
def BL (k : Nat) (M : Mem) (k' : Nat) (M' : Mem) : Prop := rd M' k' 0 = rd M k 0 ∧ rd M' k' 2 = rd M k 2 ∧ (∀ j : Nat, j < 9 → (j : Int) < (rd M k 0).toInt → rd M' (k' + 1) j = rd M (k + 1) j) ∧ ∀ j, j < 10 → rd M' (k' + 2) j = rd M (k + 2) j
section BLS
variable {k k' k'' : Nat} {M M' M'' N : Mem} {f : Nat → Int32}
theorem BL.rf : BL k M k M := ⟨rfl, rfl, fun _ _ _ => rfl, fun _ _ => rfl⟩
theorem BL.sy (h : BL k M k' M') : BL k' M' k M := ⟨h.1.symm, h.2.1.symm, fun j h9 hj => (h.2.2.1 j h9 (by rw [← h.1]; exact hj)).symm, fun j hj => (h.2.2.2 j hj).symm⟩
theorem BL.tr (h : BL k M k' M') (h' : BL k' M' k'' M'') : BL k M k'' M'' := ⟨h'.1.trans h.1, h'.2.1.trans h.2.1, fun j h9 hj => (h'.2.2.1 j h9 (by rw [h.1]; exact hj)).trans (h.2.2.1 j h9 hj), fun j hj => (h'.2.2.2 j hj).trans (h.2.2.2 j hj)⟩
theorem PB.bl (hP : PB k M f) (h : BL k M k' M') : PB k' M' f := by
  have hb := hP.lb
  have hl := hP.lc
  refine ⟨?_, hP.lb, hP.nn, fun j hj => ?_, ?_, fun b hb => ?_, ?_, fun j hj => ?_⟩
  · rw [h.1]; exact hP.lc
  · rw [h.2.2.1 j (by omega) (by rw [hl]; exact hj)]; exact hP.leg j hj
  · rw [h.2.1]; exact hP.ub
  · rw [h.2.1]; exact hP.up b hb
  · rw [h.2.1]; exact hP.uz
  · rw [h.2.2.2 j hj]; exact hP.tl j hj
theorem BL.ks {S : Nat → Nat → Prop} (hk : KS S M M') (hs : ∀ c j, k ≤ c → c < k + 8 → ¬ S c j) : BL k M k M' := ⟨hk _ _ (hs _ _ (by omega) (by omega)), hk _ _ (hs _ _ (by omega) (by omega)), fun _ _ _ => hk _ _ (hs _ _ (by omega) (by omega)), fun _ _ => hk _ _ (hs _ _ (by omega) (by omega))⟩
/-- how many bends a part has -/
def nb (k : Nat) (M : Mem) : Nat := ((rd M k 0).toInt - 1).toNat
theorem BL.bn (h : BL k M k' M') : nb k' M' = nb k M := by unfold nb; rw [h.1]
theorem PB.bn (h : PB k M f) : (f 0).toInt = (nb k M : Int) := by
  have h1 := h.nn
  have h2 := h.lb
  unfold nb
  rw [h.lc]
  split at h1 <;> omega
/-- what every state of the reference with such a part says of a step -/
def RV (k : Nat) (M : Mem) (a c : Nat) (v : Int32) : Prop := ∀ N, PB k M (row 136 N) → Pc (mX7_reasonOf 135 (Int32.ofNat (c / 2)) (Int32.ofNat (c % 2)) (Int32.ofNat a) N) (fun q => q.2 = v)
def GV (k : Nat) (M : Mem) (a c : Nat) (v : Int32) : Prop := ∀ N, PB k M (row 136 N) → Pc (mX7_gaugeOf 135 (Int32.ofNat (c / 2)) (Int32.ofNat (c % 2)) (Int32.ofNat a) N) (fun q => q.2 = v)
theorem RV.bl {a c : Nat} {v : Int32} (h : RV k M a c v) (e : BL k M k' M') : RV k' M' a c v := fun N hN => h N (hN.bl e.sy)
theorem GV.bl {a c : Nat} {v : Int32} (h : GV k M a c v) (e : BL k M k' M') : GV k' M' a c v := fun N hN => h N (hN.bl e.sy)
/-- what the class found of a step holds of every such state -/
theorem reason_V {a c : Nat} (h8 : k + 8 ≤ 112) (ha : a < 2 ^ nb k M) (hc : c < 2 * nb k M) : Pc (mX2_reasonFor 112 k (Int32.ofNat a) (Int32.ofNat c) M) (fun q => RV k M a c q.2) := by
  intro q e N hN
  have hn := hN.bn
  have ec : 2 * (c / 2) + c % 2 = c := by omega
  have h := reason_B (k := 112) (b := c / 2) (s := c % 2) h8 hN hn (by omega) (by omega) ha
  rw [ec] at h
  exact fun q' e' => ((h q q' e e').1).symm
theorem gauge_V {a c : Nat} (h8 : k + 8 ≤ 112) (ha : a < 2 ^ nb k M) (hc : c < 2 * nb k M) {g : Int32} (hl : mX2_layStep 112 k (Int32.ofNat a) (Int32.ofNat c) M = some (M', ())) (hg : mX2_reachToBack 112 M' = some g) : GV k M a c g := by
  intro N hN
  have hn := hN.bn
  have ec : 2 * (c / 2) + c % 2 = c := by omega
  have h := gaugeOf_B (k := 112) (b := c / 2) (s := c % 2) h8 hN hn (by omega) (by omega) ha
  rw [ec] at h
  refine fun q' e' => ?_
  have e : cal (mX2_layStep 112 k (Int32.ofNat a) (Int32.ofNat c) M) (fun M1 _ => cap (mX2_reachToBack 112 M1) (fun r => some (M1, r))) = some (M', g) := by
    rw [hl]
    show cap (mX2_reachToBack 112 M') (fun r => some (M', r)) = _
    rw [hg]; rfl
  exact ((h _ q' e e').1).symm
/-- a step that isn't refused: it isn't made, and it is laid -/
theorem reason_0 {a c : Nat} (ha : a < 256) (hc : c < 16) : Pc (mX2_reasonFor 112 k (Int32.ofNat a) (Int32.ofNat c) M) (fun q => q.2 = 0 → a.testBit (c / 2) = false ∧ mX2_layStep 112 k (Int32.ofNat a) (Int32.ofNat c) M = some (q.1, ())) := by
  have hf0 := f_has0 a ha (c / 2) (by omega)
  have go : ∀ y : Int32, Pc (mX2_reasonFor_b20 112 k (Int32.ofNat a) (Int32.ofNat c) (Int32.ofNat (c / 2)) y M) (fun q => q.2 = 0 → a.testBit (c / 2) = false ∧ mX2_layStep 112 k (Int32.ofNat a) (Int32.ofNat c) M = some (q.1, ())) := by
    intro y
    unfold mX2_reasonFor_b20
    have no : ∀ (M1 : Mem) (v : Int32), ¬ v = 0 → Pc (some (M1, v)) (fun q => q.2 = 0 → a.testBit (c / 2) = false ∧ mX2_layStep 112 k (Int32.ofNat a) (Int32.ofNat c) M = some (q.1, ())) := fun M1 v hv => Pc.ok (fun z => absurd z hv)
    refine Pc.i (fun c0 => ?_) (fun _ => no _ _ (by decide))
    have tz := hf0.mp c0
    refine Pc.i (fun _ => no _ _ (by decide)) (fun _ => Pc.i (fun _ => no _ _ (by decide)) (fun _ => Pc.k (fun _ => Pc.k (fun _ => Pc.i (fun _ => ?_) (fun _ => no _ _ (by decide))))))
    refine Pc.m (Pc.self _) (fun M11 u e11 => ?_)
    refine Pc.c (Pc.self _) (fun r13 _ => Pc.k (fun _ => Pc.i (fun _ => no _ _ (by decide)) (fun _ => Pc.k (fun _ => Pc.i (fun _ => ?_) (fun _ => no _ _ (by decide))))))
    refine Pc.c (Pc.self _) (fun r20 _ => Pc.b (fun x8 _ => Pc.i (fun _ => Pc.i (fun _ => ?_) (fun _ => no _ _ (by decide))) (fun _ => no _ _ (by decide))))
    exact Pc.c (Pc.self _) (fun r26 _ => Pc.i (fun _ => Pc.ok (fun _ => ⟨tz, e11⟩)) (fun _ => no _ _ (by decide)))
  unfold mX2_reasonFor
  rw [f_shr1c c hc]
  exact Pc.b (fun x e => by subst e; exact Pc.i (fun _ => go _) (fun _ => go _))
end BLS
