/-! the planner's answers: alike -/
section AN
variable {g : Gm} {n m a b c l : Nat} {M M' N N' N0 : Mem} {lc lg r x : Int32}
theorem SS.sly (h : SS M N) (hk : KS SLy N N') : SS M N' := h.ks hk (fun c j hc z => by unfold SLy at z; omega)
theorem th_row {v : Int32} : row 136 (wr N 135 5 v) = row 136 N := funext (fun _ => rd_wk (by decide))
theorem sly_row (hk : KS SLy N N') : row 136 N' = row 136 N := row_ks hk (fun j z => by unfold SLy at z; omega)
/-- whether there is an order -/
theorem pc_isOrd (hN : NM n m N) : Pc (mX7_isOrder 135 N) (fun r => (r = 0 ∧ ¬ 0 < mn N m) ∨ (r = 1 ∧ 0 < mn N m)) := by
  have hp := z_pow n hN.2.1
  have hm := hN.2.2.2
  unfold mX7_isOrder
  show Pc (chk (okb (52 : Int32) 86) (chk (okb (rd N 136 52) 256) (ite2 ((lg_cmp (rl N 147 ((rd N 136 52)).toNatClampNeg) (0 : Int64)) ≤ 0) (some (0 : Int32)) (some (1 : Int32))))) _
  rw [hN.2.2.1, c_of (by omega)]
  exact Pc.k (fun _ => Pc.k (fun _ => Pc.i (fun c => Pc.ok (Or.inl ⟨rfl, fun z => lg_pos.mpr z c⟩)) (fun c => Pc.ok (Or.inr ⟨rfl, lg_pos.mp c⟩))))
theorem pc_un (h : OKm g N) (hN : NM n m N) : Pc (mX7_unmade 135 N) (fun r => r = Int32.ofNat (cntz m n)) := (pl_unmade h hN).toPc.mono (fun r hr => by
  have := (z_full n hN.2.1 m hN.2.2.2).1
  rw [i_eq, hr, t_of (by omega)])
/-- the class's count for a state that is come to -/
theorem pc_from (hr : rc M a) (ha : a < 256) : Pc (mX3_ordersFrom 110 (Int32.ofNat a) M) (fun v => v = rl M (110 + 19) a) := by
  unfold mX3_ordersFrom mX3_ordersFrom_b24 mX3_ordersFrom_b25
  have ta : (Int32.ofNat a).toInt = (a : Int) := t_of (by omega)
  have ca : (Int32.ofNat a).toNatClampNeg = a := c_of (by omega)
  rw [ca]
  refine Pc.i (fun z => ?_) (fun _ => Pc.i (fun z => ?_) (fun _ => Pc.k (fun _ => Pc.i (fun z => absurd z hr) (fun _ => Pc.i (fun z => absurd z (by decide)) (fun _ => Pc.k (fun _ => Pc.ok rfl))))))
  · have z := i_lt.mp z
    rw [ta, show ((0 : Int32)).toInt = 0 from rfl] at z; omega
  · have z := i_le.mp z
    rw [ta, show ((256 : Int32)).toInt = 256 from rfl] at z; omega
theorem orders_R (h : SS M N) (hI : MI N) : R2 (mX6_orders 0 M) (mX7_orders 135 N) (fun p q => p.2 = q.2 ∧ SS p.1 q.1) := by
  unfold mX6_orders mX7_orders
  refine R2.ml (pc_prep h hI) (fun M3 _ p => ?_)
  obtain ⟨hS, _, m, lc, lg, m2, em, hK, hR, _, _⟩ := p
  have hS : SS M3 N := hS
  have n8 := nb8 (pr_9 hS.1)
  have m256 := n_256 n8 m2
  rw [em]
  refine R2.cl (pc_from hK.1.2.1 m256) (fun v ev => R2.br (fun N1 e1 => ?_))
  have hT : OKm gS N1 := by rw [e1]; exact (hI.th (v := 0)).1.1
  have hN1 : NM (nb 5 M3) m N1 := by rw [e1]; exact (row_th hR).nm
  have er : row 136 N1 = row 136 N := by rw [e1]; exact th_row
  have hS1 : SS M3 N1 := by rw [e1]; exact hS.th
  refine R2.mr ((pc_layOrders hT hN1).and (Fr.pc (vX7_layOrders (KS.rf : KS SLy N1 N1)))) (fun N5 _ p => ?_)
  obtain ⟨⟨_, hN5, _, hO, _⟩, hk⟩ := p
  have hk : KS SLy N1 N5 := hk
  have e52 : rd N5 (135 + 1) ((52 : Int32)).toNatClampNeg = Int32.ofNat m := hN5.2.2.1
  rw [e52, c_of (by omega)]
  refine R2.kr (fun _ => R2.kr (fun _ => R2.ok ⟨?_, hS1.sly hk⟩))
  show v = rl N5 (135 + 12) m
  rw [ev]
  exact cu_cnt hK.1 n8 (by rw [er]; exact hS.1.pb) hO hK.2.1 _ m (Nat.le_refl _) m256 hK.1.2.1
/-- both prepared and laid -/
theorem R2.laid {α β : Type} {R : α → β → Prop} (h : SS M N) (hI : MI N) {K : Mem → Option α} {K' : Mem → Option β} (hk : ∀ M3 N5 m lc lg, SS M3 N5 → m < 2 ^ nb 5 M3 → rd M3 5 13 = Int32.ofNat m → PK 5 m M3 → CTX (w2 gS) 5 m M3 N N5 → NM (nb 5 M3) m N5 → Ald (nb 5 M3) m N5 0 → Al (nb 5 M3) m N5 0 → rd N5 135 5 = rd N 135 5 → mX1_lastCode 5 M3 = some lc → mX1_lastGauge 5 M3 = some lg → Row (nb 5 M3) m (rd N5 136) → R2 (K M3) (K' N5) R) : R2 (cal (mX3_prepare 110 5 M) (fun M3 _ => K M3)) (cal (mX7_layCosts 135 N) (fun N5 _ => K' N5)) R := by
  refine R2.ml (pc_prep h hI) (fun M3 _ p => ?_)
  obtain ⟨hS, _, m, lc, lg, m2, em, hK, hR, e1, e2⟩ := p
  have hS : SS M3 N := hS
  refine R2.mr ((pc_layCosts hI.1 hR.nm).and (Fr.pc (vX7_layCosts (KS.rf : KS SLy N N)))) (fun N5 _ p => ?_)
  obtain ⟨⟨hB, hC, hP, hA⟩, hk5⟩ := p
  have hk5 : KS SLy N N5 := hk5
  exact hk M3 N5 m lc lg (hS.sly hk5) m2 em hK (ctx_of hS hK rfl hB hC hP) hB.1 hA hP.2.2 (hk5 135 5 (by unfold SLy; omega)) e1 e2 (hR.of (fun j => hk5 136 j (by unfold SLy; omega)))
theorem lst_ex (h : CTX g 5 m M N0 N) (hR : RI (row 136 N)) (m2 : m < 2 ^ nb 5 M) (hm : rd M 5 13 = Int32.ofNat m) (elc : mX1_lastCode 5 M = some lc) (elg : mX1_lastGauge 5 M = some lg) (hW : Row n a (rd N 136)) : ∃ l, LST 5 M N m l lc lg := by
  obtain ⟨r, er, _⟩ := pl_last h.2.2.2.1 hW
  obtain ⟨l, _, _, hl⟩ := lst_of h hR m2 hm elc elg r er
  exact ⟨l, hl⟩
/-- the least and the greatest cost of a state, by both -/
theorem CTX.least {k : Nat} (h : CTX g k m M N0 N) (hA : Ald (nb k M) m N 0) (m2 : m < 2 ^ nb k M) (hl : LST k M N m l lc lg) (hx : mX3_costOnward 110 k (Int32.ofNat m) lc lg 1 M = some x) : (0 < mn N m → 0 ≤ x.toInt ∧ x = rd N (135 + 13) (17 * m + l)) ∧ (¬ 0 < mn N m → x = -1) := by
  have n8 := nb8 h.2.1
  have m256 := n_256 n8 m2
  have hq := (h.tot m256 h.1.2.1 hl).1 x hx
  have hd := hA m (by omega) m2 (h.1.2.2.1 m m256 h.1.2.1).2 l hl.vl
  have hz := (z_full (nb k M) (by omega) m m2).1
  have e13 : rd N 148 (17 * m + l) = rd N (135 + 13) (17 * m + l) := rfl
  constructor
  · intro hm
    have hd1 := (hd.1 hm).1
    rw [e13] at hd1
    rcases hq with ⟨_, q⟩ | ⟨q1, q2, q3⟩
    · omega
    · exact ⟨q1, q3.symm⟩
  · intro hm
    have hd1 := hd.2 hm
    rw [e13] at hd1
    rcases hq with ⟨q, _⟩ | ⟨q1, q2, q3⟩
    · exact q
    · rw [q3] at hd1; omega
theorem leastCost_R (h : SS M N) (hI : MI N) : R2 (mX6_leastCost 0 M) (mX7_leastCost 135 N) (fun p q => p.2 = q.2 ∧ SS p.1 q.1) := by
  unfold mX7_leastCost
  refine R2.br (fun N1 e1 => ?_)
  have hI1 : MI N1 := by rw [e1]; exact (hI.th (v := 0)).1
  have hS1 : SS M N1 := by rw [e1]; exact h.th
  unfold mX6_leastCost mX7_leastNow
  simp only [cal_cal]
  refine R2.laid hS1 hI1 (fun M3 N5 m lc lg hS m2 em hK hX hN hA hAl _ elc elg hW => ?_)
  have n8 := nb8 (pr_9 hS.1)
  have m256 := n_256 n8 m2
  obtain ⟨_, _, _, lc', lg', q1, q2, q3, q4, q5⟩ := hK
  rw [elc] at q1
  rw [elg] at q2
  cases q1
  cases q2
  simp only [cal_cap, cal_ite, cal_chk, cal_some]
  refine R2.cr (pc_isOrd hN) (fun r5 p5 => R2.ir (fun c => R2.ok ⟨?_, hS⟩) (fun c => R2.kr (fun _ => R2.cr (lst_of hX hS.2.2.1 m2 em elc elg) (fun r10 p10 => ?_))))
  · -- no order
    have hm : ¬ 0 < mn N5 m := by
      rcases p5 with ⟨_, q⟩ | ⟨q, _⟩
      · exact q
      · rw [q] at c; exact absurd c (by decide)
    have P := lst_ex hX hS.2.2.1 m2 em elc elg hW
    obtain ⟨l, hl⟩ := P
    exact (hX.least hA m2 hl q3).2 hm
  · obtain ⟨l, e10, l16, hl⟩ := p10
    have hm : 0 < mn N5 m := by
      rcases p5 with ⟨q, _⟩ | ⟨_, q⟩
      · exact absurd q c
      · exact q
    have e52 : rd N5 (135 + 1) ((52 : Int32)).toNatClampNeg = Int32.ofNat m := hN.2.2.1
    rw [e52, e10, ix17c (by omega) (by omega)]
    exact R2.kr (fun _ => R2.ok ⟨((hX.least hA m2 hl q3).1 hm).2, hS⟩)
end AN
