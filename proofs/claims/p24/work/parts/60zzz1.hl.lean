/-! the law's helpers against the class's calls -/
def LX {β : Type} (val : β → Int64) (num : Nat → Int32) (p : Mem × (β ⊕ Nat)) (z : Mem × (Int32 ⊕ Nat)) : Prop := (∀ c j, rd z.1 c j = rd p.1 c j) ∧ KL p.1 z.1 ∧ ((∃ v, p.2 = Sum.inl v ∧ z.2 = Sum.inl 0 ∧ rl z.1 152 0 = val v) ∨ ∃ e, p.2 = Sum.inr e ∧ z.2 = Sum.inl (num e))
def LXd (num : Nat → Int32) (p : Mem × (UInt64 ⊕ Nat)) (z : Mem × (Int32 ⊕ Nat)) : Prop := (∀ c j, rd z.1 c j = rd p.1 c j) ∧ KL p.1 z.1 ∧ ((∃ v, p.2 = Sum.inl v ∧ z.2 = Sum.inl 0 ∧ z.1.2.2 153 0 = v) ∨ ∃ e, p.2 = Sum.inr e ∧ z.2 = Sum.inl (num e))
def b64 (v : Int32) : Int64 := if v = 0 then 0 else 1
section HL
variable {M N : Mem} {a1 a2 a3 a4 a5 : Int32}
theorem SS.fr {M' N' : Mem} (h : SS M N) (kM : KS SPf M M') (kl : KL M M') (kN : KS SQr N N') : SS M' N' :=
  (h.pl kM kl (fun c j z => Or.inl z)).ks kN (fun c j hc z => by unfold SQr at z; omega)
theorem SS.fw {M' N' : Mem} (h : SS M N) (kM : KS SW M M') (kl : KL M M') (kN : KS SQr N N') : SS M' N' :=
  (h.cl (fun c j hc => kM c j (by show ¬ 133 ≤ c; omega)) (h.2.2.2.2.ks kM (fun c j h1 h2 _ z => by have z : 133 ≤ c := z; omega) (fun j => kl.rl j))).ks kN (fun c j hc z => by unfold SQr at z; omega)
theorem SS.fn {N' : Mem} (h : SS M N) (kN : KS SQr N N') : SS M N' := h.ks kN (fun c j hc z => by unfold SQr at z; omega)
theorem SS.same {M' : Mem} (h : SS M N) (e : ∀ c j, rd M' c j = rd M c j) (kl : KL M M') : SS M' N :=
  h.cl (fun c j _ => e c j) (h.2.2.2.2.ks (S := fun _ _ => False) (fun c j _ => e c j) (fun _ _ _ _ _ z => z) (fun j => kl.rl j))
theorem SS.lx {β : Type} {val : β → Int64} {num : Nat → Int32} {p : Mem × (β ⊕ Nat)} {z : Mem × (Int32 ⊕ Nat)} (h : SS p.1 N) (hx : LX val num p z) : SS z.1 N := h.same hx.1 hx.2.1
theorem SS.lxd {num : Nat → Int32} {p : Mem × (UInt64 ⊕ Nat)} {z : Mem × (Int32 ⊕ Nat)} (h : SS p.1 N) (hx : LXd num p z) : SS z.1 N := h.same hx.1 hx.2.1
theorem wl_129 {v : Int64} : KL M (wl M 152 0 v) := by
  show (if (129 : Nat) = 152 then vp_updL (M.2.1 152) 0 v else M.2.1 129) = M.2.1 129
  rw [if_neg (by decide)]
theorem hl_std {β : Type} {X : Option (Mem × (β ⊕ Nat))} {K : Mem → β → Option (Mem × (Int32 ⊕ Nat))} {G : Mem → Nat → Option (Mem × (Int32 ⊕ Nat))} {val : β → Int64} {num : Nat → Int32} (hK : ∀ M3 v, Pc (K M3 v) (fun z => z = (wl M3 152 0 (val v), Sum.inl 0))) (hG : ∀ M3 e, Pc (G M3 e) (fun z => z = (M3, Sum.inl (num e)))) : Pc (calt X K G) (fun z => ∃ p, X = some p ∧ LX val num p z) := by
  intro z hz
  cases X with
  | none => cases hz
  | some y =>
    obtain ⟨M1, r⟩ := y
    cases r with
    | inl v =>
      have e := hK M1 v z hz
      subst e
      exact ⟨_, rfl, fun _ _ => rfl, wl_129, Or.inl ⟨v, rfl, rfl, rl_we⟩⟩
    | inr w =>
      have e := hG M1 w z hz
      subst e
      exact ⟨_, rfl, fun _ _ => rfl, KL.rf, Or.inr ⟨w, rfl, rfl⟩⟩
theorem hl_dbl {X : Option (Mem × (UInt64 ⊕ Nat))} {K : Mem → UInt64 → Option (Mem × (Int32 ⊕ Nat))} {G : Mem → Nat → Option (Mem × (Int32 ⊕ Nat))} {num : Nat → Int32} (hK : ∀ M3 v, Pc (K M3 v) (fun z => z = (wd M3 153 0 v, Sum.inl 0))) (hG : ∀ M3 e, Pc (G M3 e) (fun z => z = (M3, Sum.inl (num e)))) : Pc (calt X K G) (fun z => ∃ p, X = some p ∧ LXd num p z) := by
  intro z hz
  cases X with
  | none => cases hz
  | some y =>
    obtain ⟨M1, r⟩ := y
    cases r with
    | inl v =>
      have e := hK M1 v z hz
      subst e
      refine ⟨_, rfl, fun _ _ => rfl, rfl, Or.inl ⟨v, rfl, rfl, ?_⟩⟩
      show (wd M1 153 0 v).2.2 153 0 = v
      unfold wd
      simp [vf_upd]
    | inr w =>
      have e := hG M1 w z hz
      subst e
      exact ⟨_, rfl, fun _ _ => rfl, KL.rf, Or.inr ⟨w, rfl, rfl⟩⟩
theorem hk_i {β : Type} {f : β → Int64} : ∀ (M3 : Mem) (v : β), Pc (chk (okb (0 : Int32) 1) (bnd (wl M3 152 ((0 : Int32)).toNatClampNeg (f v)) (fun M7 => some (M7, (Sum.inl (0 : Int32) : Int32 ⊕ Nat))))) (fun z => z = (wl M3 152 0 (f v), Sum.inl 0)) := fun M3 v => Pc.k (fun _ => Pc.b (fun M7 e => Pc.ok (by rw [e]; rfl)))
theorem hk_d : ∀ (M3 : Mem) (v : UInt64), Pc (chk (okb (0 : Int32) 1) (bnd (wd M3 153 ((0 : Int32)).toNatClampNeg v) (fun M7 => some (M7, (Sum.inl (0 : Int32) : Int32 ⊕ Nat))))) (fun z => z = (wd M3 153 0 v, Sum.inl 0)) := fun M3 v => Pc.k (fun _ => Pc.b (fun M7 e => Pc.ok (by rw [e]; rfl)))
theorem hk_b : ∀ (M3 : Mem) (v : Int32), Pc (ite2 (v = 0) (chk (okb (0 : Int32) 1) (bnd (wl M3 152 ((0 : Int32)).toNatClampNeg (0 : Int64)) (fun M8 => some (M8, (Sum.inl (0 : Int32) : Int32 ⊕ Nat))))) (chk (okb (0 : Int32) 1) (bnd (wl M3 152 ((0 : Int32)).toNatClampNeg (1 : Int64)) (fun M8 => some (M8, Sum.inl (0 : Int32)))))) (fun z => z = (wl M3 152 0 (b64 v), Sum.inl 0)) := fun M3 v => Pc.i (fun c => Pc.k (fun _ => Pc.b (fun M7 e => Pc.ok (by rw [e]; unfold b64; rw [if_pos c]; rfl)))) (fun c => Pc.k (fun _ => Pc.b (fun M7 e => Pc.ok (by rw [e]; unfold b64; rw [if_neg c]; rfl))))
theorem hg_1 {w : Nat} : ∀ (M3 : Mem) (e : Nat), Pc (ite2 (e = w) (some (M3, (Sum.inl (1 : Int32) : Int32 ⊕ Nat))) none) (fun z => z = (M3, Sum.inl ((fun _ => (1 : Int32)) e))) := fun M3 e => Pc.i (fun _ => Pc.ok rfl) (fun _ => Pc.n)
theorem hg_2 {w : Nat} (hw : w ≠ 1) : ∀ (M3 : Mem) (e : Nat), Pc (ite2 (e = 1) (some (M3, (Sum.inl (1 : Int32) : Int32 ⊕ Nat))) (ite2 (e = w) (some (M3, Sum.inl (2 : Int32))) none)) (fun z => z = (M3, Sum.inl (nmb2 e))) := fun M3 e => Pc.i (fun c => Pc.ok (by subst c; rfl)) (fun _ => Pc.i (fun c => Pc.ok (by subst c; unfold nmb2; rw [if_neg hw])) (fun _ => Pc.n))
theorem hg_3 : ∀ (M3 : Mem) (e : Nat), Pc (ite2 (e = 1) (some (M3, (Sum.inl (1 : Int32) : Int32 ⊕ Nat))) (ite2 (e = 0) (some (M3, Sum.inl (2 : Int32))) (ite2 (e = 2) (some (M3, Sum.inl (3 : Int32))) none))) (fun z => z = (M3, Sum.inl (nmb3 e))) := fun M3 e => Pc.i (fun c => Pc.ok (by subst c; rfl)) (fun _ => Pc.i (fun c => Pc.ok (by subst c; rfl)) (fun _ => Pc.i (fun c => Pc.ok (by subst c; rfl)) (fun _ => Pc.n)))
theorem hl_load : Pc (mL_load 0 152 a1 M) (fun z => ∃ p, mX6_load 0 a1 M = some p ∧ LX Int32.toInt64 (fun _ => (1 : Int32)) p z) := by
  unfold mL_load
  exact hl_std hk_i hg_1
theorem hl_leg : Pc (mL_leg 0 152 a1 M) (fun z => ∃ p, mX6_leg 0 a1 M = some p ∧ LX Int32.toInt64 (fun _ => (1 : Int32)) p z) := by
  unfold mL_leg
  exact hl_std hk_i hg_1
theorem hl_isUp : Pc (mL_isUp 0 152 a1 M) (fun z => ∃ p, mX6_isUp 0 a1 M = some p ∧ LX b64 (fun _ => (1 : Int32)) p z) := by
  unfold mL_isUp mL_isUp_b15
  exact hl_std hk_b hg_1
theorem hl_linePlace : Pc (mL_linePlace 0 153 a1 M) (fun z => ∃ p, mX6_linePlace 0 a1 M = some p ∧ LXd (fun _ => (1 : Int32)) p z) := by
  unfold mL_linePlace
  exact hl_dbl hk_d hg_1
theorem hl_springBackFor {d1 : UInt64} : Pc (mL_springBackFor 0 153 d1 M) (fun z => ∃ p, mX6_springBackFor 0 d1 M = some p ∧ LXd (fun _ => (1 : Int32)) p z) := by
  unfold mL_springBackFor
  exact hl_dbl hk_d hg_1
theorem hl_tool : Pc (mL_tool 0 152 a1 a2 M) (fun z => ∃ p, mX6_tool 0 a1 a2 M = some p ∧ LX Int32.toInt64 (fun _ => (1 : Int32)) p z) := by
  unfold mL_tool
  exact hl_std hk_i hg_1
theorem hl_finishedCorner : Pc (mL_finishedCorner 0 152 a1 a2 M) (fun z => ∃ p, mX6_finishedCorner 0 a1 a2 M = some p ∧ LX Int32.toInt64 nmb2 p z) := by
  unfold mL_finishedCorner
  exact hl_std hk_i (hg_2 (by decide))
theorem hl_step : Pc (mL_step 0 152 a1 a2 M) (fun z => ∃ p, mX6_step 0 a1 a2 M = some p ∧ LX Int32.toInt64 nmb2 p z) := by
  unfold mL_step
  exact hl_std hk_i (hg_2 (by decide))
theorem hl_reason : Pc (mL_reason 0 152 a1 a2 M) (fun z => ∃ p, mX6_reason 0 a1 a2 M = some p ∧ LX Int32.toInt64 nmb2 p z) := by
  unfold mL_reason
  exact hl_std hk_i (hg_2 (by decide))
theorem hl_gauge : Pc (mL_gauge 0 152 a1 a2 M) (fun z => ∃ p, mX6_gauge 0 a1 a2 M = some p ∧ LX Int32.toInt64 nmb2 p z) := by
  unfold mL_gauge
  exact hl_std hk_i (hg_2 (by decide))
theorem hl_corner : Pc (mL_corner 0 152 a1 a2 a3 a4 M) (fun z => ∃ p, mX6_corner 0 a1 a2 a3 a4 M = some p ∧ LX Int32.toInt64 nmb2 p z) := by
  unfold mL_corner
  exact hl_std hk_i (hg_2 (by decide))
theorem hl_top : Pc (mL_top 0 152 a1 a2 M) (fun z => ∃ p, mX6_top 0 a1 a2 M = some p ∧ LX Int32.toInt64 nmb2 p z) := by
  unfold mL_top
  exact hl_std hk_i (hg_2 (by decide))
theorem hl_hitting : Pc (mL_hitting 0 152 a1 a2 M) (fun z => ∃ p, mX6_hitting 0 a1 a2 M = some p ∧ LX Int32.toInt64 nmb2 p z) := by
  unfold mL_hitting
  exact hl_std hk_i (hg_2 (by decide))
theorem hl_refused : Pc (mL_refused 0 152 a1 M) (fun z => ∃ p, mX6_refused 0 a1 M = some p ∧ LX Int32.toInt64 (fun _ => (1 : Int32)) p z) := by
  unfold mL_refused
  exact hl_std hk_i hg_1
theorem hl_costOf : Pc (mL_costOf 0 152 a1 a2 M) (fun z => ∃ p, mX6_costOf 0 a1 a2 M = some p ∧ LX Int32.toInt64 nmb2 p z) := by
  unfold mL_costOf
  exact hl_std hk_i (hg_2 (by decide))
theorem hl_planned : Pc (mL_planned 0 152 a1 M) (fun z => ∃ p, mX6_planned 0 a1 M = some p ∧ LX Int32.toInt64 (fun _ => (1 : Int32)) p z) := by
  unfold mL_planned
  exact hl_std hk_i hg_1
theorem hl_ordersWith : Pc (mL_ordersWith 0 152 a1 a2 M) (fun z => ∃ p, mX6_ordersWith 0 a1 a2 M = some p ∧ LX (fun v : Int64 => v) nmb2 p z) := by
  unfold mL_ordersWith
  exact hl_std hk_i (hg_2 (by decide))
theorem hl_costIfTurned : Pc (mL_costIfTurned 0 152 a1 M) (fun z => ∃ p, mX6_costIfTurned 0 a1 M = some p ∧ LX Int32.toInt64 nmb2 p z) := by
  unfold mL_costIfTurned
  exact hl_std hk_i (hg_2 (by decide))
theorem hl_fold : Pc (mL_fold 0 152 a1 a2 M) (fun z => ∃ p, mX6_fold 0 a1 a2 M = some p ∧ LX Int32.toInt64 nmb3 p z) := by
  unfold mL_fold
  exact hl_std hk_i hg_3
theorem hl_foldNext : Pc (mL_foldNext 0 152 M) (fun z => ∃ p, mX6_foldNext 0 M = some p ∧ LX Int32.toInt64 (fun _ => (1 : Int32)) p z) := by
  unfold mL_foldNext
  exact hl_std hk_i hg_1
theorem hl_setLeg : Pc (mL_setLeg 0 152 a1 a2 M) (fun z => ∃ p, mX6_setLeg 0 a1 a2 M = some p ∧ LX Int32.toInt64 nmb3 p z) := by
  unfold mL_setLeg
  exact hl_std hk_i hg_3
theorem hl_setDirection : Pc (mL_setDirection 0 152 a1 a2 M) (fun z => ∃ p, mX6_setDirection 0 a1 a2 M = some p ∧ LX b64 nmb2 p z) := by
  unfold mL_setDirection mL_setDirection_b16
  exact hl_std hk_b (hg_2 (by decide))
theorem hl_setTool : Pc (mL_setTool 0 152 a1 a2 a3 M) (fun z => ∃ p, mX6_setTool 0 a1 a2 a3 M = some p ∧ LX Int32.toInt64 (fun _ => (1 : Int32)) p z) := by
  unfold mL_setTool
  exact hl_std hk_i hg_1
theorem hl_setSheet : Pc (mL_setSheet 0 152 a1 a2 a3 M) (fun z => ∃ p, mX6_setSheet 0 a1 a2 a3 M = some p ∧ LX Int32.toInt64 (fun _ => (1 : Int32)) p z) := by
  unfold mL_setSheet
  exact hl_std hk_i hg_1
theorem hl_setCost : Pc (mL_setCost 0 152 a1 a2 a3 M) (fun z => ∃ p, mX6_setCost 0 a1 a2 a3 M = some p ∧ LX Int32.toInt64 (fun _ => (1 : Int32)) p z) := by
  unfold mL_setCost
  exact hl_std hk_i hg_1
theorem hl_written : Pc (mL_written 0 152 a1 M) (fun z => ∃ p, mX6_written 0 a1 M = some p ∧ LX Int32.toInt64 (fun _ => (1 : Int32)) p z) := by
  unfold mL_written
  exact hl_std hk_i hg_1
theorem ss_errorKind (h : SS M N) {q} (hq : mX7_errorKind 135 N = some q) : SS M q.1 := h.fn (bX7_errorKind (KS.rf : KS SQr N N) q hq)
theorem ss_errorPosition (h : SS M N) {q} (hq : mX7_errorPosition 135 N = some q) : SS M q.1 := h.fn (bX7_errorPosition (KS.rf : KS SQr N N) q hq)
theorem ss_bends (h : SS M N) {q} (hq : mX7_bends 135 N = some q) : SS M q.1 := h.fn (bX7_bends (KS.rf : KS SQr N N) q hq)
theorem ss_legs (h : SS M N) {q} (hq : mX7_legs 135 N = some q) : SS M q.1 := h.fn (bX7_legs (KS.rf : KS SQr N N) q hq)
theorem ss_leg (h : SS M N) (hI : MI N) {p q} (hp : mX6_leg 0 a1 M = some p) (hq : mX7_leg 135 a1 N = some q) : SS p.1 q.1 := h.fr (bX6_leg (k0 := 0) (KS.rf : KS SPf M M) p hp) (lX6_leg (k0 := 0) (KL.rf : KL M M) p hp) (bX7_leg (KS.rf : KS SQr N N) q hq)
theorem ss_isUp (h : SS M N) (hI : MI N) {p q} (hp : mX6_isUp 0 a1 M = some p) (hq : mX7_isUp 135 a1 N = some q) : SS p.1 q.1 := h.fr (bX6_isUp (k0 := 0) (KS.rf : KS SPf M M) p hp) (lX6_isUp (k0 := 0) (KL.rf : KL M M) p hp) (bX7_isUp (KS.rf : KS SQr N N) q hq)
theorem ss_deduction (h : SS M N) {q} (hq : mX7_deduction 135 N = some q) : SS M q.1 := h.fn (bX7_deduction (KS.rf : KS SQr N N) q hq)
theorem ss_flatLength (h : SS M N) {q} (hq : mX7_flatLength 135 N = some q) : SS M q.1 := h.fn (bX7_flatLength (KS.rf : KS SQr N N) q hq)
theorem ss_linePlace (h : SS M N) (hI : MI N) {p q} (hp : mX6_linePlace 0 a1 M = some p) (hq : mX7_linePlace 135 a1 N = some q) : SS p.1 q.1 := h.fr (bX6_linePlace (k0 := 0) (KS.rf : KS SPf M M) p hp) (lX6_linePlace (k0 := 0) (KL.rf : KL M M) p hp) (bX7_linePlace (KS.rf : KS SQr N N) q hq)
theorem ss_ratio (h : SS M N) {q} (hq : mX7_ratio 135 N = some q) : SS M q.1 := h.fn (bX7_ratio (KS.rf : KS SQr N N) q hq)
theorem ss_springBack (h : SS M N) {q} (hq : mX7_springBack 135 N = some q) : SS M q.1 := h.fn (bX7_springBack (KS.rf : KS SQr N N) q hq)
theorem ss_springBackFor {d1 : UInt64} (h : SS M N) (hI : MI N) {p q} (hp : mX6_springBackFor 0 d1 M = some p) (hq : mX7_springBackFor 135 d1 N = some q) : SS p.1 q.1 := h.fr (bX6_springBackFor (k0 := 0) (KS.rf : KS SPf M M) p hp) (lX6_springBackFor (k0 := 0) (KL.rf : KL M M) p hp) (bX7_springBackFor (KS.rf : KS SQr N N) q hq)
theorem ss_swingAngle (h : SS M N) {q} (hq : mX7_swingAngle 135 N = some q) : SS M q.1 := h.fn (bX7_swingAngle (KS.rf : KS SQr N N) q hq)
theorem ss_tool (h : SS M N) (hI : MI N) {p q} (hp : mX6_tool 0 a1 a2 M = some p) (hq : mX7_tool 135 a1 a2 N = some q) : SS p.1 q.1 := h.fr (bX6_tool (k0 := 0) (KS.rf : KS SPf M M) p hp) (lX6_tool (k0 := 0) (KL.rf : KL M M) p hp) (bX7_tool (KS.rf : KS SQr N N) q hq)
theorem ss_finishedWidth (h : SS M N) (hI : MI N) {p q} (hp : mX6_finishedWidth 0 M = some p) (hq : mX7_finishedWidth 135 N = some q) : SS p.1 q.1 := h.fr (bX6_finishedWidth (k0 := 0) (KS.rf : KS SPf M M) p hp) (lX6_finishedWidth (k0 := 0) (KL.rf : KL M M) p hp) (bX7_finishedWidth (KS.rf : KS SQr N N) q hq)
theorem ss_finishedHeight (h : SS M N) (hI : MI N) {p q} (hp : mX6_finishedHeight 0 M = some p) (hq : mX7_finishedHeight 135 N = some q) : SS p.1 q.1 := h.fr (bX6_finishedHeight (k0 := 0) (KS.rf : KS SPf M M) p hp) (lX6_finishedHeight (k0 := 0) (KL.rf : KL M M) p hp) (bX7_finishedHeight (KS.rf : KS SQr N N) q hq)
theorem ss_isFinishedCrossed (h : SS M N) (hI : MI N) {p q} (hp : mX6_isFinishedCrossed 0 M = some p) (hq : mX7_isFinishedCrossed 135 N = some q) : SS p.1 q.1 := h.fr (bX6_isFinishedCrossed (k0 := 0) (KS.rf : KS SPf M M) p hp) (lX6_isFinishedCrossed (k0 := 0) (KL.rf : KL M M) p hp) (bX7_isFinishedCrossed (KS.rf : KS SQr N N) q hq)
theorem ss_finishedCorner (h : SS M N) (hI : MI N) {p q} (hp : mX6_finishedCorner 0 a1 a2 M = some p) (hq : mX7_finishedCorner 135 a1 a2 N = some q) : SS p.1 q.1 := h.fr (bX6_finishedCorner (k0 := 0) (KS.rf : KS SPf M M) p hp) (lX6_finishedCorner (k0 := 0) (KL.rf : KL M M) p hp) (bX7_finishedCorner (KS.rf : KS SQr N N) q hq)
theorem ss_isSymmetric (h : SS M N) {q} (hq : mX7_isSymmetric 135 N = some q) : SS M q.1 := h.fn (bX7_isSymmetric (KS.rf : KS SQr N N) q hq)
theorem ss_longestLeg (h : SS M N) {q} (hq : mX7_longestLeg 135 N = some q) : SS M q.1 := h.fn (bX7_longestLeg (KS.rf : KS SQr N N) q hq)
theorem ss_made (h : SS M N) {q} (hq : mX7_made 135 N = some q) : SS M q.1 := h.fn (bX7_made (KS.rf : KS SQr N N) q hq)
theorem ss_steps (h : SS M N) {q} (hq : mX7_steps 135 N = some q) : SS M q.1 := h.fn (bX7_steps (KS.rf : KS SQr N N) q hq)
theorem ss_step (h : SS M N) (hI : MI N) {p q} (hp : mX6_step 0 a1 a2 M = some p) (hq : mX7_step 135 a1 a2 N = some q) : SS p.1 q.1 := h.fr (bX6_step (k0 := 0) (KS.rf : KS SPf M M) p hp) (lX6_step (k0 := 0) (KL.rf : KL M M) p hp) (bX7_step (KS.rf : KS SQr N N) q hq)
theorem ss_costSoFar (h : SS M N) {q} (hq : mX7_costSoFar 135 N = some q) : SS M q.1 := h.fn (bX7_costSoFar (KS.rf : KS SQr N N) q hq)
theorem ss_reason (h : SS M N) (hI : MI N) {p q} (hp : mX6_reason 0 a1 a2 M = some p) (hq : mX7_reason 135 a1 a2 N = some q) : SS p.1 q.1 := (reason_RR h hI _ _ hp hq).2
theorem ss_gauge (h : SS M N) (hI : MI N) {p q} (hp : mX6_gauge 0 a1 a2 M = some p) (hq : mX7_gauge 135 a1 a2 N = some q) : SS p.1 q.1 := (gauge_RR h hI _ _ hp hq).2
theorem ss_corner (h : SS M N) (hI : MI N) {p q} (hp : mX6_corner 0 a1 a2 a3 a4 M = some p) (hq : mX7_corner 135 a1 a2 a3 a4 N = some q) : SS p.1 q.1 := h.fr (bX6_corner (k0 := 0) (KS.rf : KS SPf M M) p hp) (lX6_corner (k0 := 0) (KL.rf : KL M M) p hp) (bX7_corner (KS.rf : KS SQr N N) q hq)
theorem ss_top (h : SS M N) (hI : MI N) {p q} (hp : mX6_top 0 a1 a2 M = some p) (hq : mX7_top 135 a1 a2 N = some q) : SS p.1 q.1 := h.fr (bX6_top (k0 := 0) (KS.rf : KS SPf M M) p hp) (lX6_top (k0 := 0) (KL.rf : KL M M) p hp) (bX7_top (KS.rf : KS SQr N N) q hq)
theorem ss_hitting (h : SS M N) (hI : MI N) {p q} (hp : mX6_hitting 0 a1 a2 M = some p) (hq : mX7_hitting 135 a1 a2 N = some q) : SS p.1 q.1 := h.fr (bX6_hitting (k0 := 0) (KS.rf : KS SPf M M) p hp) (lX6_hitting (k0 := 0) (KL.rf : KL M M) p hp) (bX7_hitting (KS.rf : KS SQr N N) q hq)
theorem ss_refused (h : SS M N) (hI : MI N) {p q} (hp : mX6_refused 0 a1 M = some p) (hq : mX7_refused 135 a1 N = some q) : SS p.1 q.1 := h.fr (bX6_refused (k0 := 0) (KS.rf : KS SPf M M) p hp) (lX6_refused (k0 := 0) (KL.rf : KL M M) p hp) (bX7_refused (KS.rf : KS SQr N N) q hq)
theorem ss_possible (h : SS M N) (hI : MI N) {p q} (hp : mX6_possible 0 M = some p) (hq : mX7_possible 135 N = some q) : SS p.1 q.1 := h.fr (bX6_possible (k0 := 0) (KS.rf : KS SPf M M) p hp) (lX6_possible (k0 := 0) (KL.rf : KL M M) p hp) (bX7_possible (KS.rf : KS SQr N N) q hq)
theorem ss_stuck (h : SS M N) (hI : MI N) {p q} (hp : mX6_stuck 0 M = some p) (hq : mX7_stuck 135 N = some q) : SS p.1 q.1 := h.fr (bX6_stuck (k0 := 0) (KS.rf : KS SPf M M) p hp) (lX6_stuck (k0 := 0) (KL.rf : KL M M) p hp) (bX7_stuck (KS.rf : KS SQr N N) q hq)
theorem ss_costOf (h : SS M N) (hI : MI N) {p q} (hp : mX6_costOf 0 a1 a2 M = some p) (hq : mX7_costOf 135 a1 a2 N = some q) : SS p.1 q.1 := (costOf_RR h hI _ _ hp hq).2
theorem ss_orders (h : SS M N) (hI : MI N) {p q} (hp : mX6_orders 0 M = some p) (hq : mX7_orders 135 N = some q) : SS p.1 q.1 := (orders_R h hI _ _ hp hq).2
theorem ss_leastCost (h : SS M N) (hI : MI N) {p q} (hp : mX6_leastCost 0 M = some p) (hq : mX7_leastCost 135 N = some q) : SS p.1 q.1 := (leastCost_R h hI _ _ hp hq).2
theorem ss_plannedSteps (h : SS M N) (hI : MI N) {p q} (hp : mX6_plannedSteps 0 M = some p) (hq : mX7_plannedSteps 135 N = some q) : SS p.1 q.1 := (plannedSteps_R h hI _ _ hp hq).2
theorem ss_planned (h : SS M N) (hI : MI N) {p q} (hp : mX6_planned 0 a1 M = some p) (hq : mX7_planned 135 a1 N = some q) : SS p.1 q.1 := (planned_R h hI _ _ hp hq).2
theorem ss_greatestCost (h : SS M N) (hI : MI N) {p q} (hp : mX6_greatestCost 0 M = some p) (hq : mX7_greatestCost 135 N = some q) : SS p.1 q.1 := (greatestCost_R h hI _ _ hp hq).2
theorem ss_ordersWith (h : SS M N) (hI : MI N) {p q} (hp : mX6_ordersWith 0 a1 a2 M = some p) (hq : mX7_ordersWith 135 a1 a2 N = some q) : SS p.1 q.1 := (ordersWith_RR h hI _ _ hp hq).2
theorem ss_lastSteps (h : SS M N) (hI : MI N) {p q} (hp : mX6_lastSteps 0 M = some p) (hq : mX7_lastSteps 135 N = some q) : SS p.1 q.1 := (lastSteps_RR h hI _ _ hp hq).2
theorem ss_mostBends (h : SS M N) (hI : MI N) {p q} (hp : mX6_mostBends 0 M = some p) (hq : mX7_mostBends 135 N = some q) : SS p.1 q.1 := (mostBends_RR h hI _ _ hp hq).2
theorem ss_greatestBeam (h : SS M N) (hI : MI N) {p q} (hp : mX6_greatestBeam 0 M = some p) (hq : mX7_greatestBeam 135 N = some q) : SS p.1 q.1 := beam_S h hI _ _ hp hq
theorem ss_costIfTurned (h : SS M N) (hI : MI N) {p q} (hp : mX6_costIfTurned 0 a1 M = some p) (hq : mX7_costIfTurned 135 a1 N = some q) : SS p.1 q.1 := (costIfTurned_RR h hI _ _ hp hq).2
theorem ss_fold (h : SS M N) (hI : MI N) {p q} (hp : mX6_fold 0 a1 a2 M = some p) (hq : mX7_fold 135 a1 a2 N = some q) : SS p.1 q.1 := (fold_RR h hI _ _ hp hq).2
theorem ss_foldNext (h : SS M N) (hI : MI N) {p q} (hp : mX6_foldNext 0 M = some p) (hq : mX7_foldNext 135 N = some q) : SS p.1 q.1 := (foldNext_RR h hI _ _ hp hq).2
theorem ss_unfold (h : SS M N) (hI : MI N) {p q} (hp : mX6_unfold 0 M = some p) (hq : mX7_unfold 135 N = some q) : SS p.1 q.1 := (unfold_RR h _ _ hp hq).2
theorem ss_setLeg (h : SS M N) (hI : MI N) {p q} (hp : mX6_setLeg 0 a1 a2 M = some p) (hq : mX7_setLeg 135 a1 a2 N = some q) : SS p.1 q.1 := (setLeg_RR h _ _ hp hq).2
theorem ss_setDirection (h : SS M N) (hI : MI N) (hx : a2 = 0 ∨ a2 = 1) {p q} (hp : mX6_setDirection 0 a1 a2 M = some p) (hq : mX7_setDirection 135 a1 a2 N = some q) : SS p.1 q.1 := (setDirection_RR h hx _ _ hp hq).2
theorem ss_setTool (h : SS M N) (hI : MI N) {p q} (hp : mX6_setTool 0 a1 a2 a3 M = some p) (hq : mX7_setTool 135 a1 a2 a3 N = some q) : SS p.1 q.1 := (setTool_RR h _ _ hp hq).2
theorem ss_setSheet (h : SS M N) (hI : MI N) {p q} (hp : mX6_setSheet 0 a1 a2 a3 M = some p) (hq : mX7_setSheet 135 a1 a2 a3 N = some q) : SS p.1 q.1 := (setSheet_RR h _ _ hp hq).2
theorem ss_setCost (h : SS M N) (hI : MI N) {p q} (hp : mX6_setCost 0 a1 a2 a3 M = some p) (hq : mX7_setCost 135 a1 a2 a3 N = some q) : SS p.1 q.1 := (setCost_RR h _ _ hp hq).2
theorem ss_undo (h : SS M N) (hI : MI N) {p q} (hp : mX6_undo 0 M = some p) (hq : mX7_undo 135 N = some q) : SS p.1 q.1 := (undo_RR h _ _ hp hq).2
theorem ss_write (h : SS M N) (hI : MI N) {p q} (hp : mX6_write 0 M = some p) (hq : mX7_write 135 N = some q) : SS p.1 q.1 := h.fw (zX6_write (k0 := 0) (KS.rf : KS SW M M) p hp) (lX6_write (k0 := 0) (KL.rf : KL M M) p hp) (bX7_write (KS.rf : KS SQr N N) q hq)
theorem ss_written (h : SS M N) (hI : MI N) {p q} (hp : mX6_written 0 a1 M = some p) (hq : mX7_written 135 a1 N = some q) : SS p.1 q.1 := h.fr (bX6_written (k0 := 0) (KS.rf : KS SPf M M) p hp) (lX6_written (k0 := 0) (KL.rf : KL M M) p hp) (bX7_written (KS.rf : KS SQr N N) q hq)
end HL
