/-! the class chooses the plan -/
def Ch (k : Nat) (T M : Mem) : Nat → Nat → Nat → Int32 → Int32 → Int32 → Prop
  | 0, p, _, _, _, _ => rd M 110 3 = Int32.ofNat p
  | j + 1, p, a, l, g, r => (r = -1 ∧ rd M 110 3 = Int32.ofNat p) ∨ (¬ r = -1 ∧ ((mX3_smallestStep 110 k (Int32.ofNat a) l g r T = some (-1) ∧ rd M 110 3 = Int32.ofNat p) ∨ ∃ c, c < 16 ∧ mX3_smallestStep 110 k (Int32.ofNat a) l g r T = some (Int32.ofNat c) ∧ rd M (110 + 1) p = Int32.ofNat c ∧ op T a c = true ∧ Ch k T M j (p + 1) (a ||| 2 ^ (c / 2)) (Int32.ofNat c) (rd T (110 + 20) (16 * a + c)) (rd T (110 + 21) (16 * (a ||| 2 ^ (c / 2)) + c))))
section CP
variable {k k' m : Nat} {M M' M0 T T' : Mem} {a b c : Nat} {l g r : Int32}
theorem thr_op {x6 : Int32} (ha : a < 256) (hc : c < 16) (h : mX3_costThrough 110 k (Int32.ofNat a) l g (Int32.ofNat c) x6 T = some r) (hr : ¬ r = -1) : op T a c = true := by
  unfold mX3_costThrough at h
  rw [pc_isOpen ha hc] at h
  cases ho : op T a c with
  | true => rfl
  | false =>
    rw [ho] at h
    exact absurd (Option.some.inj h).symm hr
theorem pc_small (ha : a < 256) (hr : ¬ r = -1) : Pc (mX3_smallestStep 110 k (Int32.ofNat a) l g r T) (fun s => (s = -1 ∧ ∀ c, c < 16 → ∃ v, mX3_costThrough 110 k (Int32.ofNat a) l g (Int32.ofNat c) 1 T = some v ∧ ¬ v = r) ∨ ∃ c, c < 16 ∧ s = Int32.ofNat c ∧ op T a c = true ∧ mX3_costThrough 110 k (Int32.ofNat a) l g (Int32.ofNat c) 1 T = some r ∧ ∀ c', c' < c → ∃ v, mX3_costThrough 110 k (Int32.ofNat a) l g (Int32.ofNat c') 1 T = some v ∧ ¬ v = r) := by
  have key : ∀ (fuel c : Nat), c ≤ 16 → (∀ c', c' < c → ∃ v, mX3_costThrough 110 k (Int32.ofNat a) l g (Int32.ofNat c') 1 T = some v ∧ ¬ v = r) → Pc (mX3_smallestStep_l3 110 k T fuel (Int32.ofNat a) l g r (Int32.ofNat c)) (fun s => (s = -1 ∧ ∀ c, c < 16 → ∃ v, mX3_costThrough 110 k (Int32.ofNat a) l g (Int32.ofNat c) 1 T = some v ∧ ¬ v = r) ∨ ∃ c, c < 16 ∧ s = Int32.ofNat c ∧ op T a c = true ∧ mX3_costThrough 110 k (Int32.ofNat a) l g (Int32.ofNat c) 1 T = some r ∧ ∀ c', c' < c → ∃ v, mX3_costThrough 110 k (Int32.ofNat a) l g (Int32.ofNat c') 1 T = some v ∧ ¬ v = r) := by
    intro fuel
    induction fuel with
    | zero => intro c _ _ q e; cases e
    | succ fuel IH =>
      intro c hc hp
      show Pc (mX3_smallestStep_b3 110 k T (mX3_smallestStep_l3 110 k T fuel) (Int32.ofNat a) l g r (Int32.ofNat c)) _
      unfold mX3_smallestStep_b3
      have tc : (Int32.ofNat c).toInt = (c : Int) := t_of (by omega)
      have n16 : ((16 : Int32)).toInt = 16 := rfl
      refine Pc.i (fun c1 => Pc.ok (Or.inl ⟨rfl, ?_⟩)) (fun c1 => ?_)
      · have c1 := i_le.mp c1
        have e : c = 16 := by omega
        subst e; exact hp
      · have c1 := i_nle c1
        refine Pc.c (Pc.self _) (fun r3 e3 => Pc.i (fun c2 => Pc.ok (Or.inr ?_)) (fun c2 => Pc.b (fun x ex => ?_)))
        · subst c2
          exact ⟨c, by omega, rfl, thr_op ha (by omega) e3 hr, e3, hp⟩
        · have e : x = Int32.ofNat (c + 1) := by rw [ex]; exact (Int32.ofNat_add c 1).symm
          rw [e]
          refine IH (c + 1) (by omega) (fun c' hc' => ?_)
          by_cases q : c' = c
          · subst q; exact ⟨r3, e3, c2⟩
          · exact hp c' (by omega)
  exact key 5000 0 (by omega) (fun c' h => by omega)
def SCh (c j : Nat) : Prop := c = 111 ∨ (c = 110 ∧ j = 3)
theorem KS.ce {S : Nat → Nat → Prop} (hL : LI k m T 256) (n8 : nb k T ≤ 8) (hk : KS S T T') (hs : ∀ c j, S c j → ¬ (k ≤ c ∧ c < k + 8) ∧ c ≠ 127 ∧ c ≠ 130 ∧ c ≠ 131 ∧ c ≠ 132) (ha : a < 256) (hr : rc T a) : CE k T k T' a := by
  have fr : ∀ c j, ((k ≤ c ∧ c < k + 8) ∨ c = 127 ∨ c = 130 ∨ c = 131 ∨ c = 132) → rd T' c j = rd T c j := fun c j h => hk c j (fun z => by have := hs c j z; omega)
  refine ⟨⟨fr _ _ (by omega), fr _ _ (by omega), fr _ _ (by omega), fr _ _ (by omega), fr _ _ (by omega)⟩, fr _ _ (by omega), fun _ _ => fr _ _ (by omega), fun c hc ho => ⟨(hL.step n8 ha hr hc ho).2.2.2.2.1, fr _ _ (by omega), fr _ _ (by omega)⟩⟩
theorem ch_l (hL : LI k m T 256) (n8 : nb k T ≤ 8) (k8 : k + 8 ≤ 110) : ∀ (fuel p a : Nat) (l g r : Int32) (M : Mem), p ≤ 8 → a < 256 → rc T a → KS SCh T M → rd M 110 3 = Int32.ofNat p → Pc (mX3_choosePlan_l40 110 k fuel (Int32.ofNat a) l g r (Int32.ofNat p) M) (fun q => KS (fun c j => (c = 111 ∧ p ≤ j) ∨ (c = 110 ∧ j = 3)) M q.1 ∧ Ch k T q.1 (8 - p) p a l g r) := by
  intro fuel
  induction fuel with
  | zero => intro p a l g r M _ _ _ _ _ q e; cases e
  | succ fuel IH =>
    intro p a l g r M hp ha hra hk h3
    have hsub : ∀ c j, SCh c j → ¬ (k ≤ c ∧ c < k + 8) ∧ c ≠ 127 ∧ c ≠ 130 ∧ c ≠ 131 ∧ c ≠ 132 := fun c j z => by unfold SCh at z; omega
    have ce := KS.ce hL n8 hk hsub ha hra
    show Pc (mX3_choosePlan_b40 110 k (mX3_choosePlan_l40 110 k fuel) (Int32.ofNat a) l g r (Int32.ofNat p) M) _
    unfold mX3_choosePlan_b40
    have tp : (Int32.ofNat p).toInt = (p : Int) := t_of (by omega)
    have n8' : ((8 : Int32)).toInt = 8 := rfl
    refine Pc.i (fun c1 => Pc.ok ⟨KS.rf, ?_⟩) (fun c1 => ?_)
    · have c1 := i_le.mp c1
      have e : p = 8 := by omega
      subst e; exact h3
    have c1 := i_nle c1
    obtain ⟨j, ej⟩ : ∃ j, 8 - p = j + 1 := ⟨7 - p, by omega⟩
    rw [ej]
    refine Pc.i (fun c2 => Pc.ok ⟨KS.rf, Or.inl ⟨c2, h3⟩⟩) (fun c2 => ?_)
    refine Pc.c ((Pc.self _).and (pc_small (k := k) (T := M) (l := l) (g := g) ha c2)) (fun r15 e15 => ?_)
    obtain ⟨e15, q15⟩ := e15
    rw [small_eq ce ha] at e15
    refine Pc.i (fun c3 => ?_) (fun c3 => ?_)
    · -- nothing fits: no more
      subst c3
      have stay : ∀ (fuel p' : Nat), p' ≤ 8 → Pc (mX3_choosePlan_l40 110 k fuel (Int32.ofNat a) l g r (Int32.ofNat p') M) (fun q => q.1 = M) := by
        intro fuel
        induction fuel with
        | zero => intro p' _ q e; cases e
        | succ fuel IH2 =>
          intro p' hp'
          show Pc (mX3_choosePlan_b40 110 k (mX3_choosePlan_l40 110 k fuel) (Int32.ofNat a) l g r (Int32.ofNat p') M) _
          unfold mX3_choosePlan_b40
          have tp' : (Int32.ofNat p').toInt = (p' : Int) := t_of (by omega)
          refine Pc.i (fun _ => Pc.ok rfl) (fun c5 => Pc.i (fun _ => Pc.ok rfl) (fun _ => ?_))
          have c5 := i_nle c5
          rw [small_eq ce ha, e15]
          refine Pc.c (Pc.ok (P := fun s => s = -1) rfl) (fun s es => Pc.i (fun _ => ?_) (fun z => absurd es z))
          unfold mX3_choosePlan_b127
          refine Pc.b (fun x ex => ?_)
          have e : x = Int32.ofNat (p' + 1) := by rw [ex]; exact (Int32.ofNat_add p' 1).symm
          rw [e]
          exact IH2 (p' + 1) (by omega)
      unfold mX3_choosePlan_b127
      refine Pc.b (fun x ex => ?_)
      have e : x = Int32.ofNat (p + 1) := by rw [ex]; exact (Int32.ofNat_add p 1).symm
      rw [e]
      refine (stay fuel (p + 1) (by omega)).mono (fun q eq => ?_)
      rw [eq]
      exact ⟨KS.rf, Or.inr ⟨c2, Or.inl ⟨e15, h3⟩⟩⟩
    · rcases q15 with ⟨z, _⟩ | ⟨c, hc, es, ho, _, _⟩
      · exact absurd z c3
      subst es
      have hoT : op T a c = true := by rw [← ho]; unfold op; rw [ce.2.1]
      have st := hL.step n8 ha hra hc hoT
      have cp : (Int32.ofNat p).toNatClampNeg = p := c_of (by omega)
      rw [cp]
      refine Pc.k (fun _ => Pc.b (fun M21 e21 => Pc.b (fun M22 e22 => Pc.k (fun _ => Pc.b (fun x4 e4 => ?_)))))
      rw [pc_setBehind ha hc]
      refine Pc.c (Pc.ok (P := fun s => s = Int32.ofNat (a ||| 2 ^ (c / 2))) rfl) (fun r27 e27 => ?_)
      subst e27
      refine Pc.k (fun _ => Pc.b (fun x5 e5 => ?_))
      rw [f_15c st.2.2.2.2.1 hc] at e5
      rw [f_15c ha hc] at e4
      have kM : KS (fun c j => (c = 111 ∧ j = p) ∨ (c = 110 ∧ j = 3)) M M22 := by rw [e22, e21]; exact (KS.rf.wr (Or.inl ⟨rfl, rfl⟩)).wr (Or.inr ⟨rfl, rfl⟩)
      have k22 : KS SCh T M22 := hk.trans (kM.mono (fun c j h => by unfold SCh; omega))
      have e4' : x4 = rd T (110 + 20) (16 * a + c) := by rw [e4]; exact k22 _ _ (by unfold SCh; omega)
      have e5' : x5 = rd T (110 + 21) (16 * (a ||| 2 ^ (c / 2)) + c) := by rw [e5]; exact k22 _ _ (by unfold SCh; omega)
      have ep : Int32.ofNat p + 1 = Int32.ofNat (p + 1) := (Int32.ofNat_add p 1).symm
      have h3' : rd M22 110 3 = Int32.ofNat (p + 1) := by rw [e22, rd_we, ep]
      unfold mX3_choosePlan_b127
      refine Pc.b (fun x ex => ?_)
      have e : x = Int32.ofNat (p + 1) := by rw [ex, ep]
      rw [e]
      refine (IH (p + 1) _ (Int32.ofNat c) x4 x5 M22 (by omega) st.2.2.2.2.1 st.2.2.2.2.2 k22 h3').mono (fun q hq => ?_)
      obtain ⟨kq, hC⟩ := hq
      have kq : KS (fun c j => (c = 111 ∧ p + 1 ≤ j) ∨ (c = 110 ∧ j = 3)) M22 q.1 := kq
      refine ⟨(kM.mono (fun c j h => by omega)).trans (kq.mono (fun c j h => by omega)), Or.inr ⟨c2, Or.inr ⟨c, hc, e15, ?_, hoT, ?_⟩⟩⟩
      · rw [kq (110 + 1) p (by omega), e22, rd_wk (by decide), e21]; exact rd_we
      · rw [show j = 8 - (p + 1) by omega, ← e4', ← e5']
        exact hC
theorem Ch.of (hL : LI k m T 256) (n8 : nb k T ≤ 8) (hT : ∀ a, a < 256 → rc T a → CE k T k' T' a) (h3 : rd M' 110 3 = rd M 110 3) (h1 : ∀ j, rd M' (110 + 1) j = rd M (110 + 1) j) : ∀ (j p a : Nat) (l g r : Int32), a < 256 → rc T a → Ch k T M j p a l g r → Ch k' T' M' j p a l g r := by
  intro j
  induction j with
  | zero => intro p a l g r _ _ h; exact h3.trans h
  | succ j IH =>
    intro p a l g r ha hr h
    have ce := hT a ha hr
    rcases h with ⟨e, h⟩ | ⟨e, ⟨e1, h⟩ | ⟨c, hc, e1, e2, ho, h⟩⟩
    · exact Or.inl ⟨e, h3.trans h⟩
    · exact Or.inr ⟨e, Or.inl ⟨by rw [small_eq ce ha]; exact e1, h3.trans h⟩⟩
    · have st := hL.step n8 ha hr hc ho
      refine Or.inr ⟨e, Or.inr ⟨c, hc, by rw [small_eq ce ha]; exact e1, (h1 p).trans e2, by unfold op; rw [ce.2.1]; exact ho, ?_⟩⟩
      have q := ce.2.2.2 c hc ho
      rw [ce.2.2.1 c hc, q.2.1]
      exact IH _ _ _ _ _ st.2.2.2.2.1 st.2.2.2.2.2 h
/-- the planner's tables are those of a part -/
def PK (k m : Nat) (M : Mem) : Prop := LI k m M 256 ∧ CN k M ∧ LSd k M M 0 ∧ ∃ lc lg, mX1_lastCode k M = some lc ∧ mX1_lastGauge k M = some lg ∧ mX3_costOnward 110 k (Int32.ofNat m) lc lg 1 M = some (rd M 110 0) ∧ mX3_costOnward 110 k (Int32.ofNat m) lc lg 0 M = some (rd M 110 1) ∧ ((rd M 110 0 = -1 ∧ rd M 110 3 = -1) ∨ (¬ rd M 110 0 = -1 ∧ Ch k M M 8 0 m lc lg (rd M 110 0)))
theorem PK.of (h : PK k m M) (n8 : nb k M ≤ 8) (m256 : m < 256) (hB : BL k M k' M') (hG : GL k M k' M') (h0 : rd M' 110 0 = rd M 110 0 ∧ rd M' 110 1 = rd M 110 1 ∧ rd M' 110 3 = rd M 110 3) (h1 : ∀ c j, c = 111 ∨ c = 127 ∨ c = 128 ∨ c = 130 ∨ c = 131 ∨ c = 132 → rd M' c j = rd M c j) (hl : ∀ j, rl M' (110 + 19) j = rl M (110 + 19) j) : PK k' m M' := by
  obtain ⟨hL, hC, hS, lc, lg, e1, e2, e3, e4, e5⟩ := h
  have en := hB.bn
  have eo : op M' = op M := by funext a c; unfold op; rw [h1 _ _ (by omega)]
  have er : rc M' = rc M := by funext a; unfold rc; rw [h1 _ _ (by omega)]
  have ce : ∀ a, a < 256 → rc M a → CE k M k' M' a := fun a ha hr => by
    refine ⟨⟨hB.1, hB.2.1, hG.2.2.2.1, hG.2.2.2.2.1, hG.2.2.2.2.2⟩, h1 _ _ (by omega), fun _ _ => h1 _ _ (by omega), fun c hc ho => ⟨(hL.step n8 ha hr hc ho).2.2.2.2.1, h1 _ _ (by omega), h1 _ _ (by omega)⟩⟩
  refine ⟨?_, ?_, ?_, lc, lg, hG.2.1.trans e1, hG.2.2.1.trans e2, ?_, ?_, ?_⟩
  · obtain ⟨t1, t2, t3, t4, t5⟩ := hL
    refine ⟨t1.bl hB (fun _ => h1 _ _ (by omega)) (fun _ => h1 _ _ (by omega)), ?_, ?_, ?_, ?_⟩
    · rw [er]; exact t2
    · rw [er, en]; exact t3
    · intro b'; rw [er, eo, h1 _ _ (by omega)]; exact t4 b'
    · rw [er, eo]; exact t5
  · intro a ha hr
    rw [er] at hr
    rw [hl, en, eo, hC a ha hr]
    exact csum_eq 16 (fun _ _ => rfl) (fun c _ _ => (hl _).symm)
  · intro b c hb hc hr ho _
    rw [er] at hr
    rw [eo] at ho
    have st := hL.step n8 hb hr hc ho
    have q := hS b c hb hc hr ho (by omega)
    have ce2 := ce _ st.2.2.2.2.1 st.2.2.2.2.2
    unfold LSp
    rw [onw_eq ce2 st.2.2.2.2.1, onw_eq ce2 st.2.2.2.2.1, h1 _ _ (by omega), h1 (110 + 21) _ (by omega), h1 (110 + 22) _ (by omega)]
    exact q
  · rw [onw_eq (ce m m256 hL.2.1) m256, h0.1]; exact e3
  · rw [onw_eq (ce m m256 hL.2.1) m256, h0.2.1]; exact e4
  · rw [h0.1, h0.2.2]
    rcases e5 with q | ⟨q1, q2⟩
    · exact Or.inl q
    · exact Or.inr ⟨q1, Ch.of hL n8 ce h0.2.2 (fun j => h1 _ _ (by omega)) 8 0 m lc lg _ m256 hL.2.1 q2⟩
end CP
