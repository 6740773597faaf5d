/-! the costs up to the end: alike -/
def CTX (g : Gm) (k m : Nat) (M N0 N : Mem) : Prop := LI k m M 256 ∧ (rd M k 0).toInt ≤ 9 ∧ PR k M (row 136 N) ∧ OKm g N ∧ LOa (nb k M) m N0 N 0 ∧ GOa (nb k M) N0 N ∧ CLa (nb k M) m N 0 ∧ LSd k M M 0 ∧ row 136 N = row 136 N0
section C3
variable {g : Gm} {k m a b c l : Nat} {M N N0 : Mem} {lc lg : Int32}
theorem foldF_none {x0 : Int32} {o : Nat → Bool} {f : Int32 → Int32 → Int32} {t : Nat → Int32} : ∀ n, (∀ c, c < n → o c = false) → foldF x0 o f t n = x0 := by
  intro n
  induction n with
  | zero => intro _; rfl
  | succ n IH =>
    intro h
    show (if o n = true then f (foldF x0 o f t n) (t n) else foldF x0 o f t n) = x0
    rw [h n (by omega), if_neg (by decide)]
    exact IH (fun c hc => h c (by omega))
theorem cu_low (h : CUa k m M N a l lc lg) (h9 : (rd M k 0).toInt ≤ 9) (ha : a < 2 ^ nb k M) (hf : a = 2 ^ nb k M - 1 → ∀ c, c < 2 * nb k M → op M a c = false) : Pc (mX3_costOnward 110 k (Int32.ofNat a) lc lg 1 M) (fun r => lrl r (lowF (nb k M) N a l (2 * nb k M)) (cntz a (nb k M))) := by
  have n8 := nb8 h9
  have a256 := n_256 n8 ha
  have hz := (z_full (nb k M) (by omega) a ha).1
  have p2 := z_pow (nb k M) (by omega)
  unfold mX3_costOnward
  refine Pc.c (pc_allB h9) (fun r2 e2 => Pc.i (fun c1 => Pc.ok ?_) (fun c1 => low_l h n8 a256 hz 5000 0 (-1) (by omega) (Or.inl ⟨rfl, ?_⟩)))
  · rw [e2] at c1
    have e : a = 2 ^ nb k M - 1 := o_inj (by omega) (by omega) c1
    have en : lowF (nb k M) N a l (2 * nb k M) = 0 := by
      show foldF (if a = 2 ^ nb k M - 1 then 0 else 1000000) _ _ _ _ = 0
      rw [foldF_none _ (fun c hc => by rw [← h.2.2.1 c hc]; exact hf e c hc), if_pos e]
    exact Or.inr ⟨by decide, by rw [show ((0 : Int32)).toInt = 0 from rfl]; omega, en⟩
  · have e : ¬ a = 2 ^ nb k M - 1 := fun z => c1 (by rw [e2, z])
    rw [Nat.min_eq_left (by omega)]
    show (if a = 2 ^ nb k M - 1 then (0 : Int32) else 1000000).toInt = 1000000
    rw [if_neg e]; rfl
theorem cu_high (h : CUa k m M N a l lc lg) (h9 : (rd M k 0).toInt ≤ 9) (ha : a < 2 ^ nb k M) (hf : a = 2 ^ nb k M - 1 → ∀ c, c < 2 * nb k M → op M a c = false) : Pc (mX3_costOnward 110 k (Int32.ofNat a) lc lg 0 M) (fun r => hrl r (highF (nb k M) N a l (2 * nb k M)) (cntz a (nb k M))) := by
  have n8 := nb8 h9
  have a256 := n_256 n8 ha
  have hz := (z_full (nb k M) (by omega) a ha).1
  have p2 := z_pow (nb k M) (by omega)
  unfold mX3_costOnward
  refine Pc.c (pc_allB h9) (fun r2 e2 => Pc.i (fun c1 => Pc.ok ?_) (fun c1 => high_l h n8 a256 hz 5000 0 (-1) (by omega) (Or.inl ⟨rfl, ?_⟩)))
  · rw [e2] at c1
    have e : a = 2 ^ nb k M - 1 := o_inj (by omega) (by omega) c1
    have en : highF (nb k M) N a l (2 * nb k M) = 0 := by
      show foldF (if a = 2 ^ nb k M - 1 then 0 else -1000000) _ _ _ _ = 0
      rw [foldF_none _ (fun c hc => by rw [← h.2.2.1 c hc]; exact hf e c hc), if_pos e]
    exact Or.inr ⟨by decide, by rw [show ((0 : Int32)).toInt = 0 from rfl]; omega, en⟩
  · have e : ¬ a = 2 ^ nb k M - 1 := fun z => c1 (by rw [e2, z])
    rw [Nat.min_eq_left (by omega)]
    show -1000000 ≤ (if a = 2 ^ nb k M - 1 then (0 : Int32) else -1000000).toInt ∧ (if a = 2 ^ nb k M - 1 then (0 : Int32) else -1000000).toInt ≤ _
    rw [if_neg e, show ((-1000000 : Int32)).toInt = -1000000 from rfl]
    omega
/-- what is known behind the steps of a set -/
def KB (k : Nat) (M N : Mem) (a : Nat) : Prop := ∀ c, c < 2 * nb k M → op M a c = true → lrl (rd M (110 + 21) (16 * (a ||| 2 ^ (c / 2)) + c)) (rd N (135 + 13) (17 * (a ||| 2 ^ (c / 2)) + c)) (cntz (a ||| 2 ^ (c / 2)) (nb k M)) ∧ hrl (rd M (110 + 22) (16 * (a ||| 2 ^ (c / 2)) + c)) (rd N (135 + 14) (17 * (a ||| 2 ^ (c / 2)) + c)) (cntz (a ||| 2 ^ (c / 2)) (nb k M))
theorem CTX.pb (h : CTX g k m M N0 N) : PB k M (row 136 N0) := by rw [← h.2.2.2.2.2.2.2.2]; exact h.2.2.1.pb
theorem cst_bd (hK : OKm g N) (ha : a < 256) (hl : l ≤ 16) (hc : c < 16) : 0 ≤ (cst N a l c).toInt ∧ (cst N a l c).toInt ≤ 297 := by
  obtain ⟨v, ev, hv⟩ := cst_ok (a := a) (l := l) (c := c) hK ha hl hc
  unfold cst
  rw [ev]
  exact hv
theorem CTX.cua (h : CTX g k m M N0 N) (ha : a < 256) (hr : rc M a) (hl : l ≤ 16) (hp : PRC k M N a l lc lg) (hk : KB k M N a) : CUa k m M N a l lc lg := by
  have hB := h.pb
  obtain ⟨hL, h9, hP, hK, hO, hG, hC, hS, _⟩ := h
  have n8 := nb8 h9
  refine ⟨hp, fun c hc _ => cst_bd hK ha hl (by omega), fun c hc => cu_op hL hB hO ha hr hc, fun c hc => op_hi hL ha hr hc, fun c hc ho => ?_⟩
  have st := hL.step n8 ha hr (by omega) ho
  have hz := z_set (nb k M) (by omega) a (by omega) (c / 2) (by omega) st.2.1
  have q := hk c hc ho
  rw [show cntz (a ||| 2 ^ (c / 2)) (nb k M) = cntz a (nb k M) - 1 by omega] at q
  exact ⟨st.2.2.2.2.1, q.1, q.2, by omega⟩
theorem CTX.full (h : CTX g k m M N0 N) (ha : a < 256) (hr : rc M a) : a = 2 ^ nb k M - 1 → ∀ c, c < 2 * nb k M → op M a c = false := by
  intro e c hc
  have n8 := nb8 h.2.1
  cases ho : op M a c with
  | false => rfl
  | true => exact absurd e (h.1.full n8 ha hr (by omega) ho)
/-- the last step of a set, and what the class holds for it -/
def LST (k : Nat) (M N : Mem) (a l : Nat) (lc lg : Int32) : Prop := (l = 16 ∧ lc = -1) ∨ (l < 2 * nb k M ∧ a.testBit (l / 2) = true ∧ lc = Int32.ofNat l ∧ lg = rd N (135 + 11) (16 * (a - 2 ^ (l / 2)) + l))
theorem LST.vl (h : LST k M N a l lc lg) : VL (nb k M) a l := by
  rcases h with ⟨e, _⟩ | ⟨e1, e2, _⟩
  · exact Or.inl e
  · exact Or.inr ⟨e1, e2⟩
theorem CTX.prc (h : CTX g k m M N0 N) (ha : a < 256) (hr : rc M a) (hl : LST k M N a l lc lg) : PRC k M N a l lc lg := by
  have n8 := nb8 h.2.1
  rcases hl with ⟨rfl, rfl⟩ | ⟨h1, h2, rfl, h4⟩
  · exact cu_price0
  · exact cu_price h.2.2.1 n8 h.2.2.2.1 h1 ha h2 h4 (fun c hc ho => cu_gauge h.1 h.pb h.2.2.2.2.2.1 ha hr hc ho)
/-- a step behind a state: it is the last one there -/
theorem CTX.lst (h : CTX g k m M N0 N) (hb : b < 256) (hr : rc M b) (hl : l < 16) (ho : op M b l = true) : LST k M N (b ||| 2 ^ (l / 2)) l (Int32.ofNat l) (rd M (110 + 20) (16 * b + l)) := by
  have n8 := nb8 h.2.1
  have st := h.1.step n8 hb hr hl ho
  have no := n_off2 b hb (l / 2) (by omega) st.2.1
  refine Or.inr ⟨st.1, no.2, rfl, ?_⟩
  rw [no.1]
  exact cu_gauge h.1 h.pb h.2.2.2.2.2.1 hb hr st.1 ho
theorem cu_costs (h : CTX g k m M N0 N) : ∀ z b l, 2 ^ nb k M - (b ||| 2 ^ (l / 2)) ≤ z → b < 256 → rc M b → l < 16 → op M b l = true → lrl (rd M (110 + 21) (16 * (b ||| 2 ^ (l / 2)) + l)) (rd N (135 + 13) (17 * (b ||| 2 ^ (l / 2)) + l)) (cntz (b ||| 2 ^ (l / 2)) (nb k M)) ∧ hrl (rd M (110 + 22) (16 * (b ||| 2 ^ (l / 2)) + l)) (rd N (135 + 14) (17 * (b ||| 2 ^ (l / 2)) + l)) (cntz (b ||| 2 ^ (l / 2)) (nb k M)) := by
  have n8 := nb8 h.2.1
  intro z
  induction z with
  | zero =>
    intro b l hz hb hr hl ho
    have st := h.1.step n8 hb hr hl ho
    omega
  | succ z IH =>
    intro b l hz hb hr hl ho
    have st := h.1.step n8 hb hr hl ho
    have hl2 := h.lst hb hr hl ho
    have ra := st.2.2.2.2.2
    have a256 := st.2.2.2.2.1
    have hk : KB k M N (b ||| 2 ^ (l / 2)) := fun c hc hoc => by
      have st2 := h.1.step n8 a256 ra (by omega) hoc
      exact IH (b ||| 2 ^ (l / 2)) c (by omega) a256 ra (by omega) hoc
    have cu := h.cua a256 ra (by omega) (h.prc a256 ra hl2) hk
    have q := h.2.2.2.2.2.2.2.1 b l hb hl hr ho (by omega)
    have hn := h.1.2.2.1 _ a256 ra
    have cl := h.2.2.2.2.2.2.1 (b ||| 2 ^ (l / 2)) (by omega) hn.1 hn.2 l hl2.vl
    rw [cl.1, cl.2]
    exact ⟨cu_low cu h.2.1 st.2.2.2.1 (h.full a256 ra) _ q.1, cu_high cu h.2.1 st.2.2.2.1 (h.full a256 ra) _ q.2⟩
theorem CTX.kb (h : CTX g k m M N0 N) (ha : a < 256) (hr : rc M a) : KB k M N a := fun c hc ho => cu_costs h _ a c (Nat.le_refl _) ha hr (by have := nb8 h.2.1; omega) ho
/-- the costs from a state on -/
theorem CTX.tot (h : CTX g k m M N0 N) (ha : a < 256) (hr : rc M a) (hl : LST k M N a l lc lg) : Pc (mX3_costOnward 110 k (Int32.ofNat a) lc lg 1 M) (fun r => lrl r (rd N (135 + 13) (17 * a + l)) (cntz a (nb k M))) ∧ Pc (mX3_costOnward 110 k (Int32.ofNat a) lc lg 0 M) (fun r => hrl r (rd N (135 + 14) (17 * a + l)) (cntz a (nb k M))) := by
  have n8 := nb8 h.2.1
  have hn := h.1.2.2.1 a ha hr
  have l16 : l ≤ 16 := by rcases hl with ⟨e, _⟩ | ⟨e, _⟩ <;> omega
  have cu := h.cua ha hr l16 (h.prc ha hr hl) (h.kb ha hr)
  have cl := h.2.2.2.2.2.2.1 a (by omega) hn.1 hn.2 l hl.vl
  rw [cl.1, cl.2]
  exact ⟨cu_low cu h.2.1 hn.1 (h.full ha hr), cu_high cu h.2.1 hn.1 (h.full ha hr)⟩
end C3
