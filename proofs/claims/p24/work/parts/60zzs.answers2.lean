/-! the greatest cost, the planned steps: alike -/
section AN2
variable {g : Gm} {n m a b c l : Nat} {M M' N N' N0 : Mem} {lc lg r x x1 : Int32}
theorem imax_0 {p q : Int32} : 0 ≤ (imax p q).toInt ↔ 0 ≤ p.toInt ∨ 0 ≤ q.toInt := by
  unfold imax
  by_cases z : p < q
  · rw [if_pos z]
    have z := i_lt.mp z
    omega
  · rw [if_neg z]
    have z := i_nlt z
    omega
theorem pos_fold {x0 : Int32} {o : Nat → Bool} {t : Nat → Int32} : ∀ k, (0 ≤ (foldF x0 o imax t k).toInt ↔ 0 ≤ x0.toInt ∨ ∃ c, c < k ∧ o c = true ∧ 0 ≤ (t c).toInt) := by
  intro k
  induction k with
  | zero => exact ⟨fun h => Or.inl h, fun h => h.elim id (fun ⟨c, hc, _⟩ => by omega)⟩
  | succ k IH =>
    show (0 ≤ (if o k = true then imax (foldF x0 o imax t k) (t k) else foldF x0 o imax t k).toInt ↔ _)
    by_cases q : o k = true
    · rw [if_pos q]
      rw [imax_0, IH]
      constructor
      · rintro ((h | ⟨c, hc, h1, h2⟩) | h)
        · exact Or.inl h
        · exact Or.inr ⟨c, by omega, h1, h2⟩
        · exact Or.inr ⟨k, by omega, q, h⟩
      · rintro (h | ⟨c, hc, h1, h2⟩)
        · exact Or.inl (Or.inl h)
        · by_cases e : c = k
          · subst e; exact Or.inr h2
          · exact Or.inl (Or.inr ⟨c, by omega, h1, h2⟩)
    · rw [if_neg q, IH]
      constructor
      · rintro (h | ⟨c, hc, h1, h2⟩)
        · exact Or.inl h
        · exact Or.inr ⟨c, by omega, h1, h2⟩
      · rintro (h | ⟨c, hc, h1, h2⟩)
        · exact Or.inl h
        · by_cases e : c = k
          · subst e; exact absurd h1 q
          · exact Or.inr ⟨c, by omega, h1, h2⟩
theorem cnb_iff : cnb N a c = true ↔ ¬ rd N 145 (16 * a + c) = 0 := by
  unfold cnb
  show (!decide (rd N 145 (16 * a + c) = 0)) = true ↔ _
  by_cases z : rd N 145 (16 * a + c) = 0
  · rw [decide_eq_true z]
    exact ⟨fun h => absurd h (by decide), fun h => absurd z h⟩
  · rw [decide_eq_false z]
    exact ⟨fun _ => z, fun _ => rfl⟩
theorem CTX.hipos (h : CTX g 5 m M N0 N) (hAl : Al (nb 5 M) m N 0) : ∀ z a, 2 ^ nb 5 M - a ≤ z → a < 256 → rc M a → ∀ l lc lg, LST 5 M N a l lc lg → (0 ≤ (rd N (135 + 14) (17 * a + l)).toInt ↔ 0 < mn N a) := by
  have n8 := nb8 h.2.1
  intro z
  induction z with
  | zero =>
    intro a hz ha hr
    have := (h.1.2.2.1 a ha hr).1
    omega
  | succ z IH =>
    intro a hz ha hr l lc lg hl
    have hn := h.1.2.2.1 a ha hr
    have l16 : l ≤ 16 := by rcases hl with ⟨e, _⟩ | ⟨e, _⟩ <;> omega
    have cl := h.2.2.2.2.2.2.1 a (by omega) hn.1 hn.2 l hl.vl
    have G := (hAl a (by omega) hn.1 hn.2).2.2.2
    rw [cl.2, G]
    unfold highF
    rw [pos_fold]
    have e0 : 0 ≤ (if a = 2 ^ nb 5 M - 1 then (0 : Int32) else -1000000).toInt ↔ a = 2 ^ nb 5 M - 1 := by
      by_cases q : a = 2 ^ nb 5 M - 1
      · rw [if_pos q]; exact ⟨fun _ => q, fun _ => by decide⟩
      · rw [if_neg q]; exact ⟨fun z => absurd z (by decide), fun z => absurd z q⟩
    rw [e0]
    have e1 : ∀ c, c < 2 * nb 5 M → cnb N a c = true → (0 ≤ (cst N a l c + rd N (135 + 14) (17 * (a ||| 2 ^ (c / 2)) + c)).toInt ↔ 0 < mn N (a ||| 2 ^ (c / 2))) := by
      intro c hc ho
      have ho' : op M a c = true := by rw [cu_op h.1 h.pb h.2.2.2.2.1 ha hr hc]; exact ho
      have st := h.1.step n8 ha hr (by omega) ho'
      have hb := cst_bd (a := a) (l := l) (c := c) h.2.2.2.1 ha l16 (by omega)
      have hk := (h.kb ha hr c hc ho').2
      have hz8 := (z_full (nb 5 M) (by omega) (a ||| 2 ^ (c / 2)) st.2.2.2.1).1
      have ih := IH _ (by omega) st.2.2.2.2.1 st.2.2.2.2.2 c _ _ (h.lst ha hr (by omega) ho')
      rw [← ih]
      rcases hk with ⟨_, q1, q2⟩ | ⟨q1, q2, q3⟩
      · rw [i_add (by omega) (by omega)]; omega
      · rw [q3, i_add (by omega) (by omega)]; omega
    constructor
    · rintro (h1 | ⟨c, hc, h1, h2⟩)
      · exact Or.inl h1
      · exact Or.inr ⟨c, hc, cnb_iff.mp h1, (e1 c hc h1).mp h2⟩
    · rintro (h1 | ⟨c, hc, h1, h2⟩)
      · exact Or.inl h1
      · have h1 := cnb_iff.mpr h1
        exact Or.inr ⟨c, hc, h1, (e1 c hc h1).mpr h2⟩
theorem CTX.most (h : CTX g 5 m M N0 N) (hAl : Al (nb 5 M) m N 0) (m2 : m < 2 ^ nb 5 M) (hl : LST 5 M N m l lc lg) (hx : mX3_costOnward 110 5 (Int32.ofNat m) lc lg 0 M = some x) : (0 < mn N m → x = rd N (135 + 14) (17 * m + l)) ∧ (¬ 0 < mn N m → x = -1) := by
  have n8 := nb8 h.2.1
  have m256 := n_256 n8 m2
  have hq := (h.tot m256 h.1.2.1 hl).2 x hx
  have hp := h.hipos hAl _ m (Nat.le_refl _) m256 h.1.2.1 l lc lg hl
  have hz := (z_full (nb 5 M) (by omega) m m2).1
  rw [← hp]
  rcases hq with ⟨q0, q1, q2⟩ | ⟨q1, q2, q3⟩
  · exact ⟨fun z => by omega, fun _ => q0⟩
  · exact ⟨fun _ => q3.symm, fun z => by rw [q3] at z; omega⟩
theorem greatestCost_R (h : SS M N) (hI : MI N) : R2 (mX6_greatestCost 0 M) (mX7_greatestCost 135 N) (fun p q => p.2 = q.2 ∧ SS p.1 q.1) := by
  unfold mX7_greatestCost
  refine R2.br (fun N1 e1 => ?_)
  have hI1 : MI N1 := by rw [e1]; exact (hI.th (v := 0)).1
  have hS1 : SS M N1 := by rw [e1]; exact h.th
  unfold mX6_greatestCost
  refine R2.laid hS1 hI1 (fun M3 N5 m lc lg hS m2 em hK hX hN hA hAl _ elc elg hW => ?_)
  have n8 := nb8 (pr_9 hS.1)
  have m256 := n_256 n8 m2
  obtain ⟨_, _, _, lc', lg', q1, q2, q3, q4, q5⟩ := hK
  rw [elc] at q1
  rw [elg] at q2
  cases q1
  cases q2
  refine R2.cr (pc_isOrd hN) (fun r5 p5 => R2.ir (fun c => R2.ok ⟨?_, hS⟩) (fun c => R2.kr (fun _ => R2.cr (lst_of hX hS.2.2.1 m2 em elc elg) (fun r10 p10 => ?_))))
  · have hm : ¬ 0 < mn N5 m := by
      rcases p5 with ⟨_, q⟩ | ⟨q, _⟩
      · exact q
      · rw [q] at c; exact absurd c (by decide)
    obtain ⟨l, hl⟩ := lst_ex hX hS.2.2.1 m2 em elc elg hW
    exact (hX.most hAl m2 hl q4).2 hm
  · obtain ⟨l, e10, l16, hl⟩ := p10
    have hm : 0 < mn N5 m := by
      rcases p5 with ⟨q, _⟩ | ⟨_, q⟩
      · exact absurd q c
      · exact q
    have e52 : rd N5 (135 + 1) ((52 : Int32)).toNatClampNeg = Int32.ofNat m := hN.2.2.1
    rw [e52, e10, ix17c (by omega) (by omega)]
    exact R2.kr (fun _ => R2.ok ⟨(hX.most hAl m2 hl q4).1 hm, hS⟩)
/-- the plan's length, the plan's steps -/
theorem CTX.plan (h : CTX g 5 m M N0 N) (hA : Ald (nb 5 M) m N 0) (m2 : m < 2 ^ nb 5 M) (hK : PK 5 m M) (elc : mX1_lastCode 5 M = some lc) (elg : mX1_lastGauge 5 M = some lg) (hl : LST 5 M N m l lc lg) : (¬ 0 < mn N m → rd M 110 3 = -1) ∧ (0 < mn N m → rd M 110 3 = Int32.ofNat (cntz m (nb 5 M)) ∧ ∀ i, i < cntz m (nb 5 M) → ∃ c, rd M (110 + 1) i = Int32.ofNat c ∧ RCh (nb 5 M) N i m l c) := by
  have n8 := nb8 h.2.1
  have m256 := n_256 n8 m2
  obtain ⟨_, _, _, lc', lg', q1, q2, q3, q4, q5⟩ := hK
  rw [elc] at q1
  rw [elg] at q2
  cases q1
  cases q2
  have hL := h.least hA m2 hl q3
  constructor
  · intro hm
    rcases q5 with ⟨_, q⟩ | ⟨q, _⟩
    · exact q
    · exact absurd (hL.2 hm) q
  · intro hm
    have e := hL.1 hm
    rcases q5 with ⟨q, _⟩ | ⟨q, hC⟩
    · rw [q, show ((-1 : Int32)).toInt = -1 from rfl] at e; omega
    · have hz := (z_full (nb 5 M) (by omega) m m2).1
      have P := ch_plan h hA 8 0 m l lc lg _ m256 h.1.2.1 hl e.1 e.2 hm hz hC
      refine ⟨by rw [P.1, Nat.zero_add], fun i hi => ?_⟩
      obtain ⟨c, h1, h2⟩ := P.2 i hi
      rw [Nat.zero_add] at h1
      exact ⟨c, h1, h2⟩
theorem plannedSteps_R (h : SS M N) (hI : MI N) : R2 (mX6_plannedSteps 0 M) (mX7_plannedSteps 135 N) (fun p q => p.2 = q.2 ∧ SS p.1 q.1) := by
  unfold mX6_plannedSteps mX7_plannedSteps
  refine R2.ml (pc_prep h hI) (fun M3 _ p => ?_)
  obtain ⟨hS, _, m, lc, lg, m2, em, hK, hR, elc, elg⟩ := p
  have hS : SS M3 N := hS
  have n8 := nb8 (pr_9 hS.1)
  have m256 := n_256 n8 m2
  refine R2.br (fun N1 e1 => ?_)
  have hI1 : MI N1 := by rw [e1]; exact (hI.th (v := 0)).1
  have hS1 : SS M3 N1 := by rw [e1]; exact hS.th
  have hR1 : Row (nb 5 M3) m (rd N1 136) := by rw [e1]; exact row_th hR
  refine R2.mr ((pc_layOrders hI1.1 hR1.nm).and (Fr.pc (vX7_layOrders (KS.rf : KS SLy N1 N1)))) (fun N5 _ p => ?_)
  obtain ⟨⟨hO5, hN5, _, hO, _⟩, hk⟩ := p
  have hk : KS SLy N1 N5 := hk
  have hO5 : OKm (w2 gS) N5 := hO5
  -- the costs could be laid as well
  obtain ⟨y, ey, _⟩ := sX7_layCosts' hI1.1 hR1.nm
  have P := pc_layCosts hI1.1 hR1.nm y ey
  have ky : KS SLy N1 y.1 := vX7_layCosts (KS.rf : KS SLy N1 N1) y ey
  have hX := ctx_of hS1 hK rfl P.1 P.2.1 P.2.2.1
  obtain ⟨l, hl⟩ := lst_ex hX (by rw [sly_row ky]; exact hS1.2.2.1) m2 em elc elg (hR1.of (fun j => ky 136 j (by unfold SLy; omega)))
  have hpl := hX.plan P.2.2.2 m2 hK elc elg hl
  have emn : mn N5 m = mn y.1 m := by
    have a1 := cu_cnt hK.1 n8 hS1.1.pb hO hK.2.1 _ m (Nat.le_refl _) m256 hK.1.2.1
    have a2 := cu_cnt hK.1 n8 hS1.1.pb P.1.2.2.1 hK.2.1 _ m (Nat.le_refl _) m256 hK.1.2.1
    unfold mn
    show (rl N5 (135 + 12) m).toInt = (rl y.1 (135 + 12) m).toInt
    rw [← a1, ← a2]
  rw [← emn] at hpl
  refine R2.cr (pc_isOrd hN5) (fun r7 p7 => R2.ir (fun c => R2.ok ⟨?_, hS1.sly hk⟩) (fun c => R2.cr (pc_un hO5 hN5) (fun r11 e11 => R2.ok ⟨?_, hS1.sly hk⟩)))
  · rcases p7 with ⟨_, q⟩ | ⟨q, _⟩
    · exact hpl.1 q
    · rw [q] at c; exact absurd c (by decide)
  · rcases p7 with ⟨q, _⟩ | ⟨_, q⟩
    · exact absurd q c
    · exact (hpl.2 q).1.trans e11.symm
end AN2
