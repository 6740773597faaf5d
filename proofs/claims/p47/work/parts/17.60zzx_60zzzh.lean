/-! part 60zzx.reach2 -/
section
/-! the states that the reference comes to -/
def rr (N : Mem) (b : Nat) : Prop := ¬ rd N (135 + 15) b = 0
def LRi (n m : Nat) (N : Mem) (a : Nat) : Prop := (∀ b, b < 256 → rd N (135 + 15) b = 0 ∨ rd N (135 + 15) b = 1) ∧ rr N m ∧ (∀ b, b < 2 ^ n → rr N b → b &&& m = m) ∧ (∀ b, b < a → b < 2 ^ n → rr N b → ∀ c, c < 2 * n → cnb N b c = true → rr N (b ||| 2 ^ (c / 2))) ∧ (∀ b, b < 2 ^ n → rr N b → b = m ∨ ∃ b' c, b' < a ∧ b' < b ∧ c < 2 * n ∧ rr N b' ∧ cnb N b' c = true ∧ b = b' ||| 2 ^ (c / 2))
def LRj (n m : Nat) (N : Mem) (a c : Nat) : Prop := (∀ b, b < 256 → rd N (135 + 15) b = 0 ∨ rd N (135 + 15) b = 1) ∧ rr N m ∧ (∀ b, b < 2 ^ n → rr N b → b &&& m = m) ∧ (∀ b, b < a → b < 2 ^ n → rr N b → ∀ c, c < 2 * n → cnb N b c = true → rr N (b ||| 2 ^ (c / 2))) ∧ (rr N a → ∀ c', c' < c → cnb N a c' = true → rr N (a ||| 2 ^ (c' / 2))) ∧ (∀ b, b < 2 ^ n → rr N b → b = m ∨ ∃ b' c, b' < a + 1 ∧ b' < b ∧ c < 2 * n ∧ rr N b' ∧ cnb N b' c = true ∧ b = b' ||| 2 ^ (c / 2))
/-- what stays while states are reached -/
def RBh (n m : Nat) (N0 N : Mem) : Prop := NM n m N ∧ LOa n m N0 N 0 ∧ (∀ j, rd N (135 + 10) j = 0 ∨ rd N (135 + 10) j = 1)
section R2H
variable {g : Gm} {k n m a b s c l e : Nat} {M M' N N' N0 : Mem} {P : Mem × Unit → Prop} {x x1 : Int32}
theorem RBh.put {j : Nat} {v : Int32} (h : RBh n m N0 N) : RBh n m N0 (wr N (135 + 15) j v) := by
  have e : ∀ k j', k ≠ 150 → rd (wr N (135 + 15) j v) k j' = rd N k j' := fun k j' hk => rd_wk hk
  refine ⟨⟨(e _ _ (by decide)).trans h.1.1, h.1.2.1, (e _ _ (by decide)).trans h.1.2.2.1, h.1.2.2.2⟩, h.2.1.of (fun _ _ _ _ => e _ _ (by decide)) (fun _ _ => rfl), fun j' => ?_⟩
  rw [e _ _ (by decide)]; exact h.2.2 j'
theorem cnb_put {j : Nat} {v : Int32} : cnb (wr N (135 + 15) j v) a c = cnb N a c := by unfold cnb; rw [rd_wk (by decide)]
theorem lr_in (ha : a < 2 ^ n) {ih44 : Int32 → Mem → Option (Mem × Unit)} (H : ∀ N, RBh n m N0 N → LRi n m N (a + 1) → Pc (ih44 (Int32.ofNat (a + 1)) N) P) : ∀ (fuel c : Nat) (N : Mem), RBh n m N0 N → c ≤ 2 * n → LRj n m N a c → Pc (mX7_layReached_l54 135 ih44 fuel (Int32.ofNat a) (Int32.ofNat c) N) P := by
  intro fuel
  induction fuel with
  | zero => intro c N _ _ _ q e; cases e
  | succ fuel IH =>
    intro c N hB hc h
    have hN := hB.1
    have hn := hN.2.1
    have hp := z_pow n hn
    have ca : (Int32.ofNat a).toNatClampNeg = a := c_of (by omega)
    show Pc (mX7_layReached_b54 135 ih44 (mX7_layReached_l54 135 ih44 fuel) (Int32.ofNat a) (Int32.ofNat c) N) _
    unfold mX7_layReached_b54
    have fin : LRi n m N (a + 1) → Pc (mX7_layReached_b107 135 ih44 (Int32.ofNat a) N) P := by
      intro hh
      unfold mX7_layReached_b107
      refine Pc.b (fun x ex => ?_)
      have e : x = Int32.ofNat (a + 1) := by rw [ex]; exact (Int32.ofNat_add a 1).symm
      rw [e]
      exact H N hB hh
    refine Pc.k (fun _ => Pc.i (fun cc => fin ?_) (fun cc => ?_))
    · have cc := i_le.mp cc
      rw [n2_of hN, t_of (by omega)] at cc
      have : c = 2 * n := by omega
      subst this
      refine ⟨h.1, h.2.1, h.2.2.1, fun b hb h2 hr c' hc' ho => ?_, h.2.2.2.2.2⟩
      by_cases e : b = a
      · subst e; exact h.2.2.2.2.1 hr c' hc' ho
      · exact h.2.2.2.1 b (by omega) h2 hr c' hc' ho
    have cc := i_nle cc
    rw [n2_of hN, t_of (by omega)] at cc
    have hc2 : c < 2 * n := by omega
    rw [ca]
    refine Pc.k (fun _ => Pc.i (fun c2 => fin ?_) (fun c2 => ?_))
    · refine ⟨h.1, h.2.1, h.2.2.1, fun b hb h2 hr c' hc' ho => ?_, h.2.2.2.2.2⟩
      by_cases e : b = a
      · subst e; exact absurd c2 hr
      · exact h.2.2.2.1 b (by omega) h2 hr c' hc' ho
    have hra : rr N a := c2
    have hba := h.2.2.1 a ha hra
    have hO := hB.2.1 a (by omega) ha hba
    rw [f_half c (by omega), f_or a (by omega) (c / 2) (by omega), ix16c (by omega) (by omega)]
    refine Pc.k (fun hk1 => Pc.k (fun _ => Pc.k (fun _ => Pc.b (fun M21 e21 => Pc.b (fun x ex => ?_)))))
    have e : x = Int32.ofNat (c + 1) := by rw [ex]; exact (Int32.ofNat_add c 1).symm
    rw [e]
    have hab : a ||| 2 ^ (c / 2) < 2 ^ n := by
      refine Nat.or_lt_two_pow ha ?_
      exact Nat.pow_lt_pow_right (by decide) (by omega)
    have h256 : a ||| 2 ^ (c / 2) < 256 := by omega
    rw [c_of (by omega)] at e21
    -- the value written
    have hv : ∀ x y : Int32, (x = 0 ∨ x = 1) → (y = 0 ∨ y = 1) → vp_nar .boolean (x ||| y) = (if x = 0 ∧ y = 0 then 0 else 1) := by
      intro x y hx hy
      rcases hx with rfl | rfl <;> rcases hy with rfl | rfl <;> decide
    have w1 := h.1 (a ||| 2 ^ (c / 2)) h256
    have w2 := hB.2.2 (16 * a + c)
    rw [hv _ _ w1 w2] at e21
    have hr21 : ∀ b, rr M21 b ↔ rr N b ∨ (b = a ||| 2 ^ (c / 2) ∧ cnb N a c = true) := by
      intro b
      unfold rr
      rw [e21]
      by_cases eb : b = a ||| 2 ^ (c / 2)
      · rw [eb, rd_we]
        unfold cnb
        by_cases z1 : rd N (135 + 15) (a ||| 2 ^ (c / 2)) = 0
        · by_cases z2 : rd N (135 + 10) (16 * a + c) = 0
          · rw [if_pos ⟨z1, z2⟩, decide_eq_true z2]
            exact ⟨fun q => absurd rfl q, fun q => by rcases q with q | ⟨_, q⟩
                                                      · exact absurd z1 q
                                                      · exact absurd q (by decide)⟩
          · rw [if_neg (fun q => z2 q.2), decide_eq_false z2]
            exact ⟨fun _ => Or.inr ⟨rfl, rfl⟩, fun _ => by decide⟩
        · rw [if_neg (fun q => z1 q.1)]
          exact ⟨fun _ => Or.inl z1, fun _ => by decide⟩
      · rw [rd_wj eb]
        exact ⟨fun q => Or.inl q, fun q => q.resolve_right (fun z => eb z.1)⟩
    have hco : ∀ b c', cnb M21 b c' = cnb N b c' := fun b c' => by rw [e21]; exact cnb_put
    have hz : cnb N a c = true → a < (a ||| 2 ^ (c / 2)) := fun ho => (z_set n hn a ha (c / 2) (by omega) ((hO.1 c hc2).2 ho)).2.1
    refine IH (c + 1) M21 (by rw [e21]; exact hB.put) (by omega) ⟨fun b hb => ?_, (hr21 m).mpr (Or.inl h.2.1), fun b hb hr => ?_, fun b hb h2 hr c' hc' ho => ?_, fun hr c' hc' ho => ?_, fun b hb hr => ?_⟩
    · rw [e21]
      by_cases eb : b = a ||| 2 ^ (c / 2)
      · rw [eb, rd_we]
        split
        · exact Or.inl rfl
        · exact Or.inr rfl
      · rw [rd_wj eb]; exact h.1 b hb
    · rcases (hr21 b).mp hr with q | ⟨q, _⟩
      · exact h.2.2.1 b hb q
      · rw [q]; exact z_sup hba
    · rw [hco] at ho
      rcases (hr21 b).mp hr with q | ⟨q, q2⟩
      · exact (hr21 _).mpr (Or.inl (h.2.2.2.1 b hb h2 q c' hc' ho))
      · have := hz q2; omega
    · rw [hco] at ho
      by_cases e : c' = c
      · subst e; exact (hr21 _).mpr (Or.inr ⟨rfl, ho⟩)
      · exact (hr21 _).mpr (Or.inl (h.2.2.2.2.1 hra c' (by omega) ho))
    · rcases (hr21 b).mp hr with q | ⟨q, q2⟩
      · rcases h.2.2.2.2.2 b hb q with e | ⟨b', c', q1, q2, q3, q4, q5, q6⟩
        · exact Or.inl e
        · exact Or.inr ⟨b', c', q1, q2, q3, (hr21 b').mpr (Or.inl q4), by rw [hco]; exact q5, q6⟩
      · have := hz q2
        exact Or.inr ⟨a, c, by omega, by omega, hc2, (hr21 a).mpr (Or.inl hra), by rw [hco]; exact q2, q⟩
theorem lr_out : ∀ (fuel a : Nat) (N : Mem), RBh n m N0 N → a ≤ 2 ^ n → LRi n m N a → Pc (mX7_layReached_l44 135 fuel (Int32.ofNat a) N) (fun q => RBh n m N0 q.1 ∧ LRi n m q.1 (2 ^ n)) := by
  intro fuel
  induction fuel with
  | zero => intro a N _ _ _ q e; cases e
  | succ fuel IH =>
    intro a N hB ha h
    have hN := hB.1
    have hn := hN.2.1
    have hp := z_pow n hn
    show Pc (mX7_layReached_b44 135 (mX7_layReached_l44 135 fuel) (Int32.ofNat a) N) _
    unfold mX7_layReached_b44
    rw [pl_full hN]
    refine Pc.c (Pc.ok (P := fun r => r = Int32.ofNat (2 ^ n - 1)) rfl) (fun r er => ?_)
    subst er
    refine Pc.i (fun c => ?_) (fun c => ?_)
    · have c := i_lt.mp c
      rw [t_of (by omega), t_of (by omega)] at c
      have : a = 2 ^ n := by omega
      subst this
      exact Pc.ok ⟨hB, h⟩
    · have c := i_nlt c
      rw [t_of (by omega), t_of (by omega)] at c
      refine lr_in (n := n) (m := m) (N0 := N0) (by omega) (fun N2 h2 l2 => IH (a + 1) N2 h2 (by omega) l2) 5000 0 N hB (by omega) ⟨h.1, h.2.1, h.2.2.1, h.2.2.2.1, fun _ c' hc' => by omega, fun b hb hr => ?_⟩
      rcases h.2.2.2.2 b hb hr with e | ⟨b', c', q1, q⟩
      · exact Or.inl e
      · exact Or.inr ⟨b', c', by omega, q⟩
theorem lr_init (H : ∀ N, RBh n m N0 N → (∀ b, b < 256 → rd N (135 + 15) b = 0 ∨ rd N (135 + 15) b = 1) → (∀ b, b < 2 ^ n → (rr N b ↔ b = m)) → Pc (mX7_layReached_l44 135 5000 (0 : Int32) N) P) : ∀ (fuel i : Nat) (N : Mem), RBh n m N0 N → (∀ b, b < 256 → rd N (135 + 15) b = 0 ∨ rd N (135 + 15) b = 1) → i ≤ 2 ^ n → (∀ b, b < i → (rr N b ↔ b = m)) → Pc (mX7_layReached_l6 135 fuel (Int32.ofNat i) N) P := by
  intro fuel
  induction fuel with
  | zero => intro i N _ _ _ _ q e; cases e
  | succ fuel IH =>
    intro i N hB hb1 hi h
    have hN := hB.1
    have hn := hN.2.1
    have hp := z_pow n hn
    have hm := hN.2.2.2
    show Pc (mX7_layReached_b6 135 (mX7_layReached_l6 135 fuel) (Int32.ofNat i) N) _
    unfold mX7_layReached_b6
    rw [pl_full hN]
    refine Pc.c (Pc.ok (P := fun r => r = Int32.ofNat (2 ^ n - 1)) rfl) (fun r er => ?_)
    subst er
    have em : rd N (135 + 1) ((52 : Int32)).toNatClampNeg = Int32.ofNat m := hN.2.2.1
    have ci : (Int32.ofNat i).toNatClampNeg = i := c_of (by omega)
    have put : ∀ v : Int32, (v = 0 ∨ v = 1) → i < 2 ^ n → (¬ v = 0 ↔ i = m) → Pc (mX7_layReached_b35 135 (mX7_layReached_l6 135 fuel) (Int32.ofNat i) (Int32.ofNat i) v N) P := by
      intro v hv hi2 hvm
      unfold mX7_layReached_b35
      have ev : vp_nar .boolean v = v := by rcases hv with rfl | rfl <;> decide
      rw [ci, ev]
      refine Pc.k (fun _ => Pc.b (fun M1 e1 => Pc.b (fun x ex => ?_)))
      have e : x = Int32.ofNat (i + 1) := by rw [ex]; exact (Int32.ofNat_add i 1).symm
      rw [e]
      subst e1
      refine IH (i + 1) _ hB.put (fun b hb => ?_) (by omega) (fun b hb => ?_)
      · by_cases q : b = i
        · subst q; rw [rd_we]; exact hv
        · rw [rd_wj q]; exact hb1 b hb
      · unfold rr
        by_cases q : b = i
        · subst q; rw [rd_we]; exact hvm
        · rw [rd_wj q]; exact h b (by omega)
    refine Pc.i (fun c1 => ?_) (fun c1 => Pc.k (fun _ => ?_))
    · have c1 := i_lt.mp c1
      rw [t_of (by omega), t_of (by omega)] at c1
      have e : i = 2 ^ n := by omega
      subst e
      exact H N hB hb1 h
    · have c1 := i_nlt c1
      rw [t_of (by omega), t_of (by omega)] at c1
      rw [em]
      refine Pc.i (fun c2 => put 1 (Or.inr rfl) (by omega) ⟨fun _ => o_inj (by omega) (by omega) c2, fun _ => by decide⟩) (fun c2 => put 0 (Or.inl rfl) (by omega) ⟨fun z => absurd rfl z, fun z => absurd (by rw [z]) c2⟩)
theorem bool_of {k j : Nat} (h : OKm g N) (hb : stdM k j = (0, 1)) : rd N k j = 0 ∨ rd N k j = 1 := by
  have q := h.std k j
  rw [hb] at q
  have q : 0 ≤ (rd N k j).toInt ∧ (rd N k j).toInt ≤ 1 := q
  by_cases z : (rd N k j).toInt = 0
  · exact Or.inl (i_eq.mpr z)
  · exact Or.inr (i_eq.mpr (by show _ = (1 : Int); omega))
theorem pc_layReached (h : OKm g N) (hN : NM n m N) : Pc (mX7_layReached 135 N) (fun q => RBh n m N q.1 ∧ LRi n m q.1 (2 ^ n)) := by
  unfold mX7_layReached
  refine Pc.m (pc_layOrders h hN) (fun N3 _ p => ?_)
  obtain ⟨h3, N3', R3, L3, _⟩ := p
  have h3 : OKm (w2 g) N3 := h3
  have hB : RBh n m N N3 := ⟨N3', L3, fun j => bool_of h3 rfl⟩
  have hm := N3'.2.2.2
  refine lr_init (n := n) (m := m) (N0 := N) (fun N2 hB2 hb2 h2 => lr_out 5000 0 N2 hB2 (by omega) ⟨hb2, (h2 m hm).mpr rfl, fun b hb hr => ?_, fun b hb => by omega, fun b hb hr => Or.inl ((h2 b hb).mp hr)⟩) 5000 0 N3 hB (fun b _ => bool_of h3 rfl) (by omega) (fun b hb => by omega)
  rw [(h2 b hb).mp hr]; exact Nat.and_self m
/-- both come to the same states -/
theorem reach_same (hL : LI k m M 256) (n8 : nb k M ≤ 8) (hB : PB k M (row 136 N0)) (hO : LOa (nb k M) m N0 N 0) (hR : LRi (nb k M) m N (2 ^ nb k M)) (hb : b < 2 ^ nb k M) : rc M b ↔ rr N b := by
  have key : ∀ z b, b < z → b < 2 ^ nb k M → (rc M b ↔ rr N b) := by
    intro z
    induction z with
    | zero => intro b h; omega
    | succ z IH =>
      intro b hz hb
      have b256 := n_256 n8 hb
      constructor
      · intro hr
        rcases hL.2.2.2.2 b b256 hr with e | ⟨b', c, _, q2, q3, q4, q5, q6⟩
        · rw [e]; exact hR.2.1
        · have st := hL.step n8 (by omega) q4 q3 q5
          have hr' := (IH b' (by omega) (by omega)).mp q4
          rw [q6]
          exact hR.2.2.2.1 b' (by omega) (by omega) hr' c st.1 (by rw [← cu_op hL hB hO (by omega) q4 st.1]; exact q5)
      · intro hr
        rcases hR.2.2.2.2 b hb hr with e | ⟨b', c, _, q2, q3, q4, q5, q6⟩
        · rw [e]; exact hL.2.1
        · have hr' := (IH b' (by omega) (by omega)).mpr q4
          have ho : op M b' c = true := by rw [cu_op hL hB hO (by omega) hr' q3]; exact q5
          rw [q6]
          exact (hL.2.2.2.1 b' (by omega) (by omega) hr').2 c (by omega) ho
  exact key (b + 1) b (by omega) hb
end R2H
end
/-! part 60zzx2.last -/
section
/-! lastSteps, mostBends: alike -/
section LM
variable {g : Gm} {k n m a b s c l e : Nat} {M M' N N' N0 : Mem} {P : Mem × Unit → Prop} {x x1 : Int32}
theorem full_bit : ∀ n, n < 9 → ∀ t, t < n → (2 ^ n - 1).testBit t = true ∧ (2 ^ n - 1 - 2 ^ t) < 2 ^ n ∧ (2 ^ n - 1 - 2 ^ t) ||| 2 ^ t = 2 ^ n - 1 := by decide
theorem pc_atEnd {f : Nat → Int32} (hP : PR 5 M f) (hm : rd M 5 13 = Int32.ofNat m) (m2 : m < 2 ^ nb 5 M) : Pc (mX3_stepsAtTheEnd 110 5 M) (fun r => ∀ d, bt r d = true ↔ ∃ t, t < nb 5 M ∧ m.testBit t = false ∧ rc M (2 ^ nb 5 M - 1 - 2 ^ t) ∧ bt (rd M (110 + 17) (2 ^ nb 5 M - 1 - 2 ^ t)) d = true) := by
  have h9 := pr_9 hP
  have n8 := nb8 h9
  have m256 := n_256 n8 m2
  have p2 := z_pow (nb 5 M) (by omega)
  have key : ∀ (fuel t : Nat) (x : Int32), t ≤ nb 5 M → (∀ d, bt x d = true ↔ ∃ t', t' < t ∧ m.testBit t' = false ∧ rc M (2 ^ nb 5 M - 1 - 2 ^ t') ∧ bt (rd M (110 + 17) (2 ^ nb 5 M - 1 - 2 ^ t')) d = true) → Pc (mX3_stepsAtTheEnd_l10 110 5 M fuel (Int32.ofNat (2 ^ nb 5 M - 1)) x (Int32.ofNat t)) (fun r => ∀ d, bt r d = true ↔ ∃ t, t < nb 5 M ∧ m.testBit t = false ∧ rc M (2 ^ nb 5 M - 1 - 2 ^ t) ∧ bt (rd M (110 + 17) (2 ^ nb 5 M - 1 - 2 ^ t)) d = true) := by
    intro fuel
    induction fuel with
    | zero => intro t x _ _ q e; cases e
    | succ fuel IH =>
      intro t x ht h
      show Pc (mX3_stepsAtTheEnd_b10 110 5 M (mX3_stepsAtTheEnd_l10 110 5 M fuel) (Int32.ofNat (2 ^ nb 5 M - 1)) x (Int32.ofNat t)) _
      unfold mX3_stepsAtTheEnd_b10
      refine Pc.c (pc_bends h9) (fun r5 e5 => ?_)
      have tt : (Int32.ofNat t).toInt = (t : Int) := t_of (by omega)
      have t5 : r5.toInt = (nb 5 M : Int) := by rw [e5, t_of (by omega)]
      have fin : t = nb 5 M → Pc (some x) (fun r => ∀ d, bt r d = true ↔ ∃ t, t < nb 5 M ∧ m.testBit t = false ∧ rc M (2 ^ nb 5 M - 1 - 2 ^ t) ∧ bt (rd M (110 + 17) (2 ^ nb 5 M - 1 - 2 ^ t)) d = true) := fun e => by subst e; exact Pc.ok h
      refine Pc.i (fun c => fin (by have c := i_le.mp c; omega)) (fun c => Pc.i (fun c2 => fin (by have c2 := i_le.mp c2; rw [show ((8 : Int32)).toInt = 8 from rfl] at c2; omega)) (fun c2 => ?_))
      have c := i_nle c
      have fb := full_bit (nb 5 M) (by omega) t (by omega)
      have hx := f_ox (2 ^ nb 5 M - 1) (by omega) t (by omega)
      rw [if_pos fb.1] at hx
      rw [hx, hm]
      have hb0 := f_has0 m m256 t (by omega)
      have next : ∀ y : Int32, (∀ d, bt y d = true ↔ ∃ t', t' < t + 1 ∧ m.testBit t' = false ∧ rc M (2 ^ nb 5 M - 1 - 2 ^ t') ∧ bt (rd M (110 + 17) (2 ^ nb 5 M - 1 - 2 ^ t')) d = true) → Pc (mX3_stepsAtTheEnd_b68 110 5 M (mX3_stepsAtTheEnd_l10 110 5 M fuel) (Int32.ofNat (2 ^ nb 5 M - 1)) y (Int32.ofNat t)) (fun r => ∀ d, bt r d = true ↔ ∃ t, t < nb 5 M ∧ m.testBit t = false ∧ rc M (2 ^ nb 5 M - 1 - 2 ^ t) ∧ bt (rd M (110 + 17) (2 ^ nb 5 M - 1 - 2 ^ t)) d = true) := by
        intro y hy
        unfold mX3_stepsAtTheEnd_b68
        refine Pc.b (fun z ez => ?_)
        have e : z = Int32.ofNat (t + 1) := by rw [ez]; exact (Int32.ofNat_add t 1).symm
        rw [e]
        exact IH (t + 1) y (by omega) hy
      have skip : ¬ (m.testBit t = false ∧ rc M (2 ^ nb 5 M - 1 - 2 ^ t)) → ∀ d, bt x d = true ↔ ∃ t', t' < t + 1 ∧ m.testBit t' = false ∧ rc M (2 ^ nb 5 M - 1 - 2 ^ t') ∧ bt (rd M (110 + 17) (2 ^ nb 5 M - 1 - 2 ^ t')) d = true := by
        intro hno d
        rw [h d]
        constructor
        · rintro ⟨t', h1, h2⟩; exact ⟨t', by omega, h2⟩
        · rintro ⟨t', h1, h2, h3, h4⟩
          by_cases e : t' = t
          · subst e; exact absurd ⟨h2, h3⟩ hno
          · exact ⟨t', by omega, h2, h3, h4⟩
      refine Pc.b (fun x5 e5 => ?_)
      subst e5
      have c5 : (Int32.ofNat (2 ^ nb 5 M - 1 - 2 ^ t)).toNatClampNeg = 2 ^ nb 5 M - 1 - 2 ^ t := c_of (Nat.lt_of_lt_of_le fb.2.1 (by omega))
      rw [c5]
      refine Pc.i (fun c3 => Pc.k (fun _ => Pc.i (fun c4 => next x (skip (fun q => q.2 c4))) (fun c4 => Pc.k (fun _ => Pc.b (fun y ey => next y (fun d => ?_)))))) (fun c3 => next x (skip (fun q => c3 (hb0.mpr q.1))))
      rw [ey, bt_or, Bool.or_eq_true, h d]
      constructor
      · rintro (⟨t', h1, h2⟩ | h1)
        · exact ⟨t', by omega, h2⟩
        · exact ⟨t, by omega, hb0.mp c3, c4, h1⟩
      · rintro ⟨t', h1, h2, h3, h4⟩
        by_cases e : t' = t
        · subst e; exact Or.inr h4
        · exact Or.inl ⟨t', by omega, h2, h3, h4⟩
  unfold mX3_stepsAtTheEnd
  refine Pc.c (pc_allB h9) (fun r2 e2 => ?_)
  subst e2
  exact key 5000 0 0 (by omega) (fun d => by rw [bt_0]; exact ⟨fun z => absurd z (by decide), fun ⟨t, h, _⟩ => by omega⟩)
theorem pc_last13 (hN : NM n m N) : Pc (mX7_lastSteps_l13 135 5000 (0 : Int32) (0 : Int32) N) (fun q => q.1 = N ∧ ∀ d, bt q.2 d = true ↔ d < 2 * n ∧ rr N (2 ^ n - 1 - 2 ^ (d / 2)) ∧ cnb N (2 ^ n - 1 - 2 ^ (d / 2)) d = true) := by
  have hn := hN.2.1
  have hp := z_pow n hn
  have key : ∀ (fuel c : Nat) (x : Int32), c ≤ 2 * n → (∀ d, bt x d = true ↔ d < c ∧ rr N (2 ^ n - 1 - 2 ^ (d / 2)) ∧ cnb N (2 ^ n - 1 - 2 ^ (d / 2)) d = true) → Pc (mX7_lastSteps_l13 135 fuel x (Int32.ofNat c) N) (fun q => q.1 = N ∧ ∀ d, bt q.2 d = true ↔ d < 2 * n ∧ rr N (2 ^ n - 1 - 2 ^ (d / 2)) ∧ cnb N (2 ^ n - 1 - 2 ^ (d / 2)) d = true) := by
    intro fuel
    induction fuel with
    | zero => intro c x _ _ q e; cases e
    | succ fuel IH =>
      intro c x hc h
      show Pc (mX7_lastSteps_b13 135 (mX7_lastSteps_l13 135 fuel) x (Int32.ofNat c) N) _
      unfold mX7_lastSteps_b13
      refine Pc.k (fun _ => Pc.i (fun cc => ?_) (fun cc => ?_))
      · have cc := i_le.mp cc
        rw [n2_of hN, t_of (by omega)] at cc
        have : c = 2 * n := by omega
        subst this
        exact Pc.ok ⟨rfl, h⟩
      have cc := i_nle cc
      rw [n2_of hN, t_of (by omega)] at cc
      rw [pl_full hN]
      refine Pc.c (Pc.ok (P := fun r => r = Int32.ofNat (2 ^ n - 1)) rfl) (fun r9 e9 => ?_)
      subst e9
      have fb := full_bit n hn (c / 2) (by omega)
      have hx := f_ox (2 ^ n - 1) (by omega) (c / 2) (by omega)
      rw [if_pos fb.1] at hx
      rw [f_half c (by omega), hx]
      refine Pc.b (fun x3 e3 => ?_)
      subst e3
      have hlt : 2 ^ n - 1 - 2 ^ (c / 2) < 256 := Nat.lt_of_lt_of_le fb.2.1 (by omega)
      have c3 : (Int32.ofNat (2 ^ n - 1 - 2 ^ (c / 2))).toNatClampNeg = 2 ^ n - 1 - 2 ^ (c / 2) := c_of (by omega)
      rw [c3, ix16c hlt (by omega)]
      have next : ∀ y : Int32, (∀ d, bt y d = true ↔ d < c + 1 ∧ rr N (2 ^ n - 1 - 2 ^ (d / 2)) ∧ cnb N (2 ^ n - 1 - 2 ^ (d / 2)) d = true) → ∀ u v : Int32, u ||| v = y → Pc (mX7_lastSteps_b69 135 (mX7_lastSteps_l13 135 fuel) (Int32.ofNat c) u v N) (fun q => q.1 = N ∧ ∀ d, bt q.2 d = true ↔ d < 2 * n ∧ rr N (2 ^ n - 1 - 2 ^ (d / 2)) ∧ cnb N (2 ^ n - 1 - 2 ^ (d / 2)) d = true) := by
        intro y hy u v huv
        unfold mX7_lastSteps_b69
        refine Pc.b (fun x1 e1 => Pc.b (fun x2 e2 => ?_))
        have e : x2 = Int32.ofNat (c + 1) := by rw [e2]; exact (Int32.ofNat_add c 1).symm
        rw [e, e1, huv]
        exact IH (c + 1) y (by omega) hy
      have skip : ¬ (rr N (2 ^ n - 1 - 2 ^ (c / 2)) ∧ cnb N (2 ^ n - 1 - 2 ^ (c / 2)) c = true) → ∀ d, bt x d = true ↔ d < c + 1 ∧ rr N (2 ^ n - 1 - 2 ^ (d / 2)) ∧ cnb N (2 ^ n - 1 - 2 ^ (d / 2)) d = true := by
        intro hno d
        rw [h d]
        constructor
        · rintro ⟨h1, h2⟩; exact ⟨by omega, h2⟩
        · rintro ⟨h1, h2⟩
          by_cases e : d = c
          · subst e; exact absurd h2 hno
          · exact ⟨by omega, h2⟩
      have e0 : x ||| 0 = x := bt_ext (fun d _ => by rw [bt_or, bt_0, Bool.or_false])
      unfold mX7_lastSteps_b68
      refine Pc.k (fun _ => Pc.i (fun z => next x (skip (fun q => q.1 z)) x 0 e0) (fun z => Pc.k (fun _ => Pc.i (fun z2 => next x (skip (fun q => cnb_iff.mp q.2 z2)) x 0 e0) (fun z2 => ?_))))
      refine next _ (fun d => ?_) x _ rfl
      rw [bt_or, bt_sh (by omega), Bool.or_eq_true, h d, decide_eq_true_iff]
      constructor
      · rintro (⟨h1, h2⟩ | h1)
        · exact ⟨by omega, h2⟩
        · subst h1; exact ⟨by omega, z, cnb_iff.mpr z2⟩
      · rintro ⟨h1, h2⟩
        by_cases e : d = c
        · exact Or.inr e.symm
        · exact Or.inl ⟨by omega, h2⟩
  exact key 5000 0 0 (by omega) (fun d => by rw [bt_0]; exact ⟨fun z => absurd z (by decide), fun h => by omega⟩)
theorem lastSteps_RR (h : SS M N) (hI : MI N) : R2 (mX6_lastSteps 0 M) (mX7_lastSteps 135 N) (fun p q => p.2 = q.2 ∧ SS p.1 q.1) := by
  unfold mX6_lastSteps mX7_lastSteps
  refine R2.ml (pc_prep h hI) (fun M3 _ p => ?_)
  obtain ⟨hS, _, m, lc, lg, m2, em, hK, hR, elc, elg⟩ := p
  have hS : SS M3 N := hS
  have n8 := nb8 (pr_9 hS.1)
  have m256 := n_256 n8 m2
  refine R2.br (fun N1 e1 => ?_)
  have hI1 : MI N1 := by rw [e1]; exact (hI.th (v := 0)).1
  have hS1 : SS M3 N1 := by rw [e1]; exact hS.th
  have hR1 : Row (nb 5 M3) m (rd N1 136) := by rw [e1]; exact row_th hR
  refine R2.mr ((pc_layReached hI1.1 hR1.nm).and (Fr.pc (vX7_layReached (KS.rf : KS SLy N1 N1)))) (fun N5 _ p => ?_)
  obtain ⟨⟨hB, hL⟩, hk⟩ := p
  have hk : KS SLy N1 N5 := hk
  refine R2.cl (pc_atEnd hS.1 em m2) (fun r5 h5 => ?_)
  intro p q hp hq
  cases hp
  obtain ⟨q1, q2⟩ := pc_last13 hB.1 q hq
  refine ⟨bt_ext (fun d _ => ?_), by rw [q1]; exact hS1.sly hk⟩
  have hb5 := hS1.1.pb
  have e : bt r5 d = true ↔ bt q.2 d = true := by
    rw [h5 d, q2 d]
    have same : ∀ t, t < nb 5 M3 → (rc M3 (2 ^ nb 5 M3 - 1 - 2 ^ t) ↔ rr N5 (2 ^ nb 5 M3 - 1 - 2 ^ t)) := fun t ht => reach_same hK.1 n8 hb5 hB.2.1 hL (full_bit (nb 5 M3) (by omega) t ht).2.1
    constructor
    · rintro ⟨t, ht, _, hr, ho⟩
      have fb := full_bit (nb 5 M3) (by omega) t ht
      have hlt := n_256 n8 fb.2.1
      have hd : d < 2 * nb 5 M3 := by
        by_cases q : d < 2 * nb 5 M3
        · exact q
        · have hh : op M3 (2 ^ nb 5 M3 - 1 - 2 ^ t) d = false := op_hi hK.1 hlt hr (by omega)
          unfold op at hh
          rw [hh] at ho; cases ho
      have ho' : op M3 (2 ^ nb 5 M3 - 1 - 2 ^ t) d = true := ho
      have st := hK.1.step n8 hlt hr (by omega) ho'
      have et : d / 2 = t := by
        by_cases q : d / 2 = t
        · exact q
        · exfalso
          have h1 := st.2.1
          have h2 := fb.2.2
          have h3 : ((2 ^ nb 5 M3 - 1 - 2 ^ t) ||| 2 ^ t).testBit (d / 2) = true := by
            rw [h2]; exact (full_bit (nb 5 M3) (by omega) (d / 2) (by omega)).1
          rw [Nat.testBit_or, h1, Bool.false_or, Nat.testBit_two_pow] at h3
          have := of_decide_eq_true h3
          omega
      rw [et]
      exact ⟨hd, (same t ht).mp hr, by rw [← cu_op hK.1 hb5 hB.2.1 hlt hr hd]; exact ho'⟩
    · rintro ⟨hd, hr, ho⟩
      have ht : d / 2 < nb 5 M3 := by omega
      have fb := full_bit (nb 5 M3) (by omega) (d / 2) ht
      have hlt := n_256 n8 fb.2.1
      have hr' := (same _ ht).mpr hr
      have ho' : op M3 (2 ^ nb 5 M3 - 1 - 2 ^ (d / 2)) d = true := by rw [cu_op hK.1 hb5 hB.2.1 hlt hr' hd]; exact ho
      have st := hK.1.step n8 hlt hr' (by omega) ho'
      refine ⟨d / 2, ht, ?_, hr', ho'⟩
      -- a bend that is made already is in every state
      have hs := (hK.1.2.2.1 _ hlt hr').2
      cases hc : m.testBit (d / 2) with
      | false => rfl
      | true =>
        have h3 : ((2 ^ nb 5 M3 - 1 - 2 ^ (d / 2)) &&& m).testBit (d / 2) = true := by rw [hs]; exact hc
        rw [Nat.testBit_and, st.2.1] at h3
        cases h3
  cases h1 : bt r5 d with
  | true => exact (e.mp h1).symm
  | false =>
    cases h2 : bt q.2 d with
    | false => rfl
    | true => rw [e.mpr h2] at h1; cases h1
end LM
end
/-! part 60zzx3.most -/
section
/-! mostBends: alike -/
section MB
variable {g : Gm} {k n m a b s c l e : Nat} {M M' N N' N0 : Mem} {P : Mem × Unit → Prop} {x x1 : Int32}
def bcF (x0 : Int32) : Int32 :=
  let a := x0 - (((x0).toUInt32 >>> (((1 : Int32)).toUInt32 &&& Int32.toUInt32 31)).toInt32 &&& (1431655765 : Int32))
  let b := (a &&& (858993459 : Int32)) + (((a).toUInt32 >>> (((2 : Int32)).toUInt32 &&& Int32.toUInt32 31)).toInt32 &&& (858993459 : Int32))
  let c := (b + ((b).toUInt32 >>> (((4 : Int32)).toUInt32 &&& Int32.toUInt32 31)).toInt32) &&& (252645135 : Int32)
  let d := c + ((c).toUInt32 >>> (((8 : Int32)).toUInt32 &&& Int32.toUInt32 31)).toInt32
  let e := d + ((d).toUInt32 >>> (((16 : Int32)).toUInt32 &&& Int32.toUInt32 31)).toInt32
  e &&& (63 : Int32)
theorem bc_eq : mJ6_bitCount_0f7a4 x M = some (bcF x) := rfl
theorem f_bc : ∀ a, a < 256 → bcF (Int32.ofNat a) = Int32.ofNat (8 - cntz a 8) := by decide +kernel
theorem z_8 : ∀ n, n < 9 → ∀ a, a < 2 ^ n → cntz a 8 = cntz a n + (8 - n) := by decide +kernel
theorem z_le : ∀ n, cntz a n ≤ n := by
  intro n
  induction n with
  | zero => exact Nat.le_refl _
  | succ n ih => show cntz a n + _ ≤ _; split <;> omega
theorem z_mono (h : a &&& m = m) : ∀ n, cntz a n ≤ cntz m n := by
  intro n
  induction n with
  | zero => exact Nat.le_refl _
  | succ n ih =>
    show cntz a n + (if a.testBit n then 0 else 1) ≤ cntz m n + (if m.testBit n then 0 else 1)
    cases hm : m.testBit n with
    | false => cases a.testBit n <;> simp <;> omega
    | true =>
      have ha : a.testBit n = true := by
        have h3 : (a &&& m).testBit n = true := by rw [h]; exact hm
        rw [Nat.testBit_and, hm, Bool.and_true] at h3
        exact h3
      rw [ha]; simp; omega
/-- the most of the states that are come to, by the class -/
theorem pc_mostC (hm : rd M 5 13 = Int32.ofNat m) (m256 : m < 256) : Pc (mX3_mostBendsFrom 110 5 M) (fun r => ∃ y : Nat, y ≤ 8 ∧ r = Int32.ofNat y - Int32.ofNat (8 - cntz m 8) ∧ (y = 0 ∨ ∃ b, b < 256 ∧ rc M b ∧ y = 8 - cntz b 8) ∧ ∀ b, b < 256 → rc M b → 8 - cntz b 8 ≤ y) := by
  have key : ∀ (fuel i y : Nat), i ≤ 256 → y ≤ 8 → (y = 0 ∨ ∃ b, b < 256 ∧ rc M b ∧ y = 8 - cntz b 8) → (∀ b, b < i → rc M b → 8 - cntz b 8 ≤ y) → Pc (mX3_mostBendsFrom_l4 110 5 M fuel (Int32.ofNat y) (Int32.ofNat i)) (fun r => ∃ y : Nat, y ≤ 8 ∧ r = Int32.ofNat y - Int32.ofNat (8 - cntz m 8) ∧ (y = 0 ∨ ∃ b, b < 256 ∧ rc M b ∧ y = 8 - cntz b 8) ∧ ∀ b, b < 256 → rc M b → 8 - cntz b 8 ≤ y) := by
    intro fuel
    induction fuel with
    | zero => intro i y _ _ _ _ q e; cases e
    | succ fuel IH =>
      intro i y hi hy h1 h2
      show Pc (mX3_mostBendsFrom_b4 110 5 M (mX3_mostBendsFrom_l4 110 5 M fuel) (Int32.ofNat y) (Int32.ofNat i)) _
      unfold mX3_mostBendsFrom_b4
      have ti : (Int32.ofNat i).toInt = (i : Int) := t_of (by omega)
      have ty : (Int32.ofNat y).toInt = (y : Int) := t_of (by omega)
      have ci : (Int32.ofNat i).toNatClampNeg = i := c_of (by omega)
      refine Pc.i (fun c => ?_) (fun c => ?_)
      · have c := i_le.mp c
        rw [ti, show ((256 : Int32)).toInt = 256 from rfl] at c
        have : i = 256 := by omega
        subst this
        rw [hm, bc_eq, f_bc m m256]
        exact Pc.c (Pc.ok (P := fun r => r = Int32.ofNat (8 - cntz m 8)) rfl) (fun r3 e3 => Pc.ok ⟨y, hy, by rw [e3], h1, h2⟩)
      · have c := i_nle c
        rw [ti, show ((256 : Int32)).toInt = 256 from rfl] at c
        rw [ci]
        have next : ∀ z : Nat, z ≤ 8 → (z = 0 ∨ ∃ b, b < 256 ∧ rc M b ∧ z = 8 - cntz b 8) → (∀ b, b < i + 1 → rc M b → 8 - cntz b 8 ≤ z) → Pc (mX3_mostBendsFrom_b29 110 5 M (mX3_mostBendsFrom_l4 110 5 M fuel) (Int32.ofNat z) (Int32.ofNat i)) (fun r => ∃ y : Nat, y ≤ 8 ∧ r = Int32.ofNat y - Int32.ofNat (8 - cntz m 8) ∧ (y = 0 ∨ ∃ b, b < 256 ∧ rc M b ∧ y = 8 - cntz b 8) ∧ ∀ b, b < 256 → rc M b → 8 - cntz b 8 ≤ y) := by
          intro z hz g1 g2
          unfold mX3_mostBendsFrom_b29
          refine Pc.b (fun w ew => ?_)
          have e : w = Int32.ofNat (i + 1) := by rw [ew]; exact (Int32.ofNat_add i 1).symm
          rw [e]
          exact IH (i + 1) z (by omega) hz g1 g2
        refine Pc.k (fun _ => Pc.i (fun c2 => next y hy h1 (fun b hb hr => ?_)) (fun c2 => ?_))
        · by_cases q : b = i
          · subst q; exact absurd c2 hr
          · exact h2 b (by omega) hr
        · rw [bc_eq, f_bc i (by omega)]
          refine Pc.c (Pc.ok (P := fun r => r = Int32.ofNat (8 - cntz i 8)) rfl) (fun r9 e9 => Pc.b (fun x2 e2 => ?_))
          rw [e9] at e2
          have t9 : (Int32.ofNat (8 - cntz i 8)).toInt = ((8 - cntz i 8 : Nat) : Int) := t_of (by omega)
          have ex : x2 = Int32.ofNat (max y (8 - cntz i 8)) := by
            rw [e2]
            unfold imax
            by_cases z : Int32.ofNat y < Int32.ofNat (8 - cntz i 8)
            · have z' := i_lt.mp z
              rw [if_pos z, Nat.max_eq_right (by omega)]
            · have z' := i_nlt z
              rw [if_neg z, Nat.max_eq_left (by omega)]
          rw [ex]
          refine next _ (by omega) ?_ (fun b hb hr => ?_)
          · by_cases z : y ≤ 8 - cntz i 8
            · rw [Nat.max_eq_right z]; exact Or.inr ⟨i, by omega, c2, rfl⟩
            · rw [Nat.max_eq_left (by omega)]; exact h1
          · by_cases q : b = i
            · subst q; exact Nat.le_max_right _ _
            · exact Nat.le_trans (h2 b (by omega) hr) (Nat.le_max_left _ _)
  unfold mX3_mostBendsFrom
  exact key 5000 0 0 (by omega) (by omega) (Or.inl rfl) (fun b hb => by omega)
/-- by the reference -/
theorem pc_mostR (hN : NM n m N) (hR : ∀ b, b < 2 ^ n → rr N b → b &&& m = m) : Pc (mX7_mostBends_l13 135 5000 (0 : Int32) (0 : Int32) N) (fun q => q.1 = N ∧ ∃ y : Nat, y ≤ 8 ∧ q.2 = Int32.ofNat y ∧ (y = 0 ∨ ∃ b, b < 2 ^ n ∧ rr N b ∧ y = cntz m n - cntz b n) ∧ ∀ b, b < 2 ^ n → rr N b → cntz m n - cntz b n ≤ y) := by
  have hn := hN.2.1
  have hp := z_pow n hn
  have hm := hN.2.2.2
  have key : ∀ (fuel i y : Nat), i ≤ 2 ^ n → y ≤ 8 → (y = 0 ∨ ∃ b, b < 2 ^ n ∧ rr N b ∧ y = cntz m n - cntz b n) → (∀ b, b < i → rr N b → cntz m n - cntz b n ≤ y) → Pc (mX7_mostBends_l13 135 fuel (Int32.ofNat y) (Int32.ofNat i) N) (fun q => q.1 = N ∧ ∃ y : Nat, y ≤ 8 ∧ q.2 = Int32.ofNat y ∧ (y = 0 ∨ ∃ b, b < 2 ^ n ∧ rr N b ∧ y = cntz m n - cntz b n) ∧ ∀ b, b < 2 ^ n → rr N b → cntz m n - cntz b n ≤ y) := by
    intro fuel
    induction fuel with
    | zero => intro i y _ _ _ _ q e; cases e
    | succ fuel IH =>
      intro i y hi hy h1 h2
      show Pc (mX7_mostBends_b13 135 (mX7_mostBends_l13 135 fuel) (Int32.ofNat y) (Int32.ofNat i) N) _
      unfold mX7_mostBends_b13
      rw [pl_full hN]
      refine Pc.c (Pc.ok (P := fun r => r = Int32.ofNat (2 ^ n - 1)) rfl) (fun r9 e9 => ?_)
      subst e9
      have ti : (Int32.ofNat i).toInt = (i : Int) := t_of (by omega)
      have ty : (Int32.ofNat y).toInt = (y : Int) := t_of (by omega)
      have ci : (Int32.ofNat i).toNatClampNeg = i := c_of (by omega)
      refine Pc.i (fun c => Pc.ok ⟨rfl, y, hy, rfl, h1, fun b hb => h2 b ?_⟩) (fun c => ?_)
      · have c := i_lt.mp c
        rw [ti, t_of (by omega)] at c
        omega
      have c := i_nlt c
      rw [ti, t_of (by omega)] at c
      have hi2 : i < 2 ^ n := by omega
      -- a set's bends
      have inner : ∀ (fuel2 b w : Nat), b ≤ n → (rr N i → w = cntz m b - cntz i b) → w ≤ b → Pc (mX7_mostBends_l26 135 (mX7_mostBends_l13 135 fuel) fuel2 (Int32.ofNat y) (Int32.ofNat i) (Int32.ofNat w) (Int32.ofNat b) N) (fun q => q.1 = N ∧ ∃ y : Nat, y ≤ 8 ∧ q.2 = Int32.ofNat y ∧ (y = 0 ∨ ∃ b, b < 2 ^ n ∧ rr N b ∧ y = cntz m n - cntz b n) ∧ ∀ b, b < 2 ^ n → rr N b → cntz m n - cntz b n ≤ y) := by
        intro fuel2
        induction fuel2 with
        | zero => intro b w _ _ _ q e; cases e
        | succ fuel2 IH2 =>
          intro b w hb hw hwb
          show Pc (mX7_mostBends_b26 135 (mX7_mostBends_l13 135 fuel) (mX7_mostBends_l26 135 (mX7_mostBends_l13 135 fuel) fuel2) (Int32.ofNat y) (Int32.ofNat i) (Int32.ofNat w) (Int32.ofNat b) N) _
          unfold mX7_mostBends_b26
          have tb : (Int32.ofNat b).toInt = (b : Int) := t_of (by omega)
          have tw : (Int32.ofNat w).toInt = (w : Int) := t_of (by omega)
          have e0 : rd N (135 + 1) ((0 : Int32)).toNatClampNeg = Int32.ofNat n := hN.1
          have e52 : rd N (135 + 1) ((52 : Int32)).toNatClampNeg = Int32.ofNat m := hN.2.2.1
          rw [e0, e52, ci]
          have fin : ∀ z : Nat, z ≤ 8 → (z = 0 ∨ ∃ b, b < 2 ^ n ∧ rr N b ∧ z = cntz m n - cntz b n) → (∀ b, b < i + 1 → rr N b → cntz m n - cntz b n ≤ z) → ∀ v, v = Int32.ofNat z → Pc (mX7_mostBends_b93 135 (mX7_mostBends_l13 135 fuel) (Int32.ofNat i) v N) (fun q => q.1 = N ∧ ∃ y : Nat, y ≤ 8 ∧ q.2 = Int32.ofNat y ∧ (y = 0 ∨ ∃ b, b < 2 ^ n ∧ rr N b ∧ y = cntz m n - cntz b n) ∧ ∀ b, b < 2 ^ n → rr N b → cntz m n - cntz b n ≤ y) := by
            intro z hz g1 g2 v hv
            unfold mX7_mostBends_b93
            refine Pc.b (fun w ew => ?_)
            have e : w = Int32.ofNat (i + 1) := by rw [ew]; exact (Int32.ofNat_add i 1).symm
            rw [e, hv]
            exact IH (i + 1) z (by omega) hz g1 g2
          refine Pc.k (fun _ => Pc.i (fun c2 => Pc.k (fun _ => Pc.i (fun c3 => ?_) (fun c3 => ?_))) (fun c2 => ?_))
          · refine fin y hy h1 (fun b' hb' hr => ?_) _ rfl
            by_cases q : b' = i
            · subst q; exact absurd c3 hr
            · exact h2 b' (by omega) hr
          · have c2 := i_le.mp c2
            rw [t_of (by omega), tb] at c2
            have eb : b = n := by omega
            subst eb
            have ew := hw c3
            refine fin (max y w) (by omega) ?_ (fun b' hb' hr => ?_) _ ?_
            · by_cases z : y ≤ w
              · rw [Nat.max_eq_right z]; exact Or.inr ⟨i, hi2, c3, ew⟩
              · rw [Nat.max_eq_left (by omega)]; exact h1
            · by_cases q : b' = i
              · subst q; rw [← ew]; exact Nat.le_max_right _ _
              · exact Nat.le_trans (h2 b' (by omega) hr) (Nat.le_max_left _ _)
            · unfold imax
              by_cases z : Int32.ofNat y < Int32.ofNat w
              · have z' := i_lt.mp z
                rw [if_pos z, Nat.max_eq_right (by omega)]
              · have z' := i_nlt z
                rw [if_neg z, Nat.max_eq_left (by omega)]
          · have c2 := i_nle c2
            rw [tb, t_of (by omega)] at c2
            have hb2 : b < n := by omega
            have nx : ∀ d : Nat, (rr N i → w + d = cntz m (b + 1) - cntz i (b + 1)) → w + d ≤ b + 1 → ∀ v, v = Int32.ofNat d → Pc (mX7_mostBends_b67 135 (mX7_mostBends_l13 135 fuel) (mX7_mostBends_l26 135 (mX7_mostBends_l13 135 fuel) fuel2) (Int32.ofNat y) (Int32.ofNat i) (Int32.ofNat b) (Int32.ofNat w) v N) (fun q => q.1 = N ∧ ∃ y : Nat, y ≤ 8 ∧ q.2 = Int32.ofNat y ∧ (y = 0 ∨ ∃ b, b < 2 ^ n ∧ rr N b ∧ y = cntz m n - cntz b n) ∧ ∀ b, b < 2 ^ n → rr N b → cntz m n - cntz b n ≤ y) := by
              intro d hd hd2 v hv
              unfold mX7_mostBends_b67
              refine Pc.b (fun x3 e3 => Pc.b (fun x4 e4 => ?_))
              have e : x4 = Int32.ofNat (b + 1) := by rw [e4]; exact (Int32.ofNat_add b 1).symm
              have e3' : x3 = Int32.ofNat (w + d) := by rw [e3, hv]; exact (Int32.ofNat_add w d).symm
              rw [e, e3']
              exact IH2 (b + 1) (w + d) (by omega) hd hd2
            have hsb : rr N i → i &&& m = m := hR i hi2
            have cz : ∀ a, cntz a (b + 1) = cntz a b + (if a.testBit b then 0 else 1) := fun a => rfl
            have fi := f_has i (by omega) b (by omega)
            have fm := f_has m (by omega) b (by omega)
            unfold mX7_mostBends_b66 mX7_has
            refine Pc.c (Q := fun r => r = if i.testBit b = true then 1 else 0) (Pc.i (fun z => Pc.ok (by rw [if_pos (fi.mp z)])) (fun z => Pc.ok (by rw [if_neg (mt fi.mpr z)]))) (fun r16 e16 => Pc.i (fun c4 => nx 0 (fun hr => ?_) (by omega) _ rfl) (fun c4 => Pc.k (fun _ => Pc.c (Q := fun r => r = if m.testBit b = true then 1 else 0) (Pc.i (fun z => Pc.ok (by rw [if_pos (fm.mp z)])) (fun z => Pc.ok (by rw [if_neg (mt fm.mpr z)]))) (fun r23 e23 => Pc.i (fun c5 => nx 1 (fun hr => ?_) (by omega) _ rfl) (fun c5 => nx 0 (fun hr => ?_) (by omega) _ rfl)))))
            · have hi0 : ¬ i.testBit b = true := fun z => by rw [if_pos z] at e16; rw [e16] at c4; exact absurd c4 (by decide)
              have hm0 : ¬ m.testBit b = true := fun z => hi0 (by
                have h3 : (i &&& m).testBit b = true := by rw [hsb hr]; exact z
                rw [Nat.testBit_and, z, Bool.and_true] at h3; exact h3)
              have := z_mono (hsb hr) b
              rw [cz, cz, if_neg hi0, if_neg hm0, hw hr]; omega
            · have hi1 : i.testBit b = true := by
                by_cases z : i.testBit b = true
                · exact z
                · rw [if_neg z] at e16; exact absurd e16 c4
              have hm0 : ¬ m.testBit b = true := fun z => by rw [if_pos z] at e23; rw [e23] at c5; exact absurd c5 (by decide)
              have := z_mono (hsb hr) b
              rw [cz, cz, if_pos hi1, if_neg hm0, hw hr]; omega
            · have hi1 : i.testBit b = true := by
                by_cases z : i.testBit b = true
                · exact z
                · rw [if_neg z] at e16; exact absurd e16 c4
              have hm1 : m.testBit b = true := by
                by_cases z : m.testBit b = true
                · exact z
                · rw [if_neg z] at e23; exact absurd e23 c5
              have := z_mono (hsb hr) b
              rw [cz, cz, if_pos hi1, if_pos hm1, hw hr]; omega
      exact inner 5000 0 0 (by omega) (fun _ => rfl) (by omega)
  exact key 5000 0 0 (by omega) (by omega) (Or.inl rfl) (fun b hb => by omega)
theorem mostBends_RR (h : SS M N) (hI : MI N) : R2 (mX6_mostBends 0 M) (mX7_mostBends 135 N) (fun p q => p.2 = q.2 ∧ SS p.1 q.1) := by
  unfold mX6_mostBends mX7_mostBends
  refine R2.ml (pc_prep h hI) (fun M3 _ p => ?_)
  obtain ⟨hS, _, m, lc, lg, m2, em, hK, hR, elc, elg⟩ := p
  have hS : SS M3 N := hS
  have n8 := nb8 (pr_9 hS.1)
  have m256 := n_256 n8 m2
  refine R2.br (fun N1 e1 => ?_)
  have hI1 : MI N1 := by rw [e1]; exact (hI.th (v := 0)).1
  have hS1 : SS M3 N1 := by rw [e1]; exact hS.th
  have hR1 : Row (nb 5 M3) m (rd N1 136) := by rw [e1]; exact row_th hR
  refine R2.mr ((pc_layReached hI1.1 hR1.nm).and (Fr.pc (vX7_layReached (KS.rf : KS SLy N1 N1)))) (fun N5 _ p => ?_)
  obtain ⟨⟨hB, hL⟩, hk⟩ := p
  have hk : KS SLy N1 N5 := hk
  refine R2.cl (pc_mostC em m256) (fun r5 h5 => ?_)
  intro p q hp hq
  cases hp
  obtain ⟨q1, y, hy, q2, q3, q4⟩ := pc_mostR hB.1 hL.2.2.1 q hq
  obtain ⟨w, hw, w1, w2, w3⟩ := h5
  refine ⟨?_, by rw [q1]; exact hS1.sly hk⟩
  have same : ∀ b, b < 2 ^ nb 5 M3 → (rc M3 b ↔ rr N5 b) := fun b hb => reach_same hK.1 n8 hS1.1.pb hB.2.1 hL hb
  have zs : ∀ b, b < 2 ^ nb 5 M3 → cntz b 8 = cntz b (nb 5 M3) + (8 - nb 5 M3) := fun b hb => z_8 (nb 5 M3) (by omega) b hb
  have zl : ∀ b, cntz b (nb 5 M3) ≤ nb 5 M3 := fun b => z_le _
  have zm := zs m m2
  have zlm := zl m
  have hmm := w3 m m256 hK.1.2.1
  have e : w = y + (8 - cntz m 8) := by
    apply Nat.le_antisymm
    · rcases w2 with e0 | ⟨b, hb, hr, e0⟩
      · omega
      · have hn := hK.1.2.2.1 b hb hr
        have z1 := zs b hn.1
        have z2 := q4 b hn.1 ((same b hn.1).mp hr)
        have z3 := z_mono hn.2 (nb 5 M3)
        have := zl b
        omega
    · rcases q3 with e0 | ⟨b, hb, hr, e0⟩
      · omega
      · have hr' := (same b hb).mpr hr
        have z0 := w3 b (n_256 n8 hb) hr'
        have z1 := zs b hb
        have z3 := z_mono (hK.1.2.2.1 b (n_256 n8 hb) hr').2 (nb 5 M3)
        have := zl b
        omega
  show r5 = q.2
  rw [w1, q2, i_eq, i_sub (by rw [t_of (by omega), t_of (by omega)]; omega) (by rw [t_of (by omega), t_of (by omega)]; omega), t_of (by omega), t_of (by omega), t_of (by omega)]
  omega
end MB
end
/-! part 60zzx4.turned -/
section
/-! costIfTurned: alike -/
section CTN
variable {g : Gm} {k n m a b s c l e : Nat} {M M' N N' N0 : Mem} {x x1 : Int32}
theorem last_somek {f : Nat → Int32} (hP : PR k M f) : ∃ lc lg, mX1_lastCode k M = some lc ∧ mX1_lastGauge k M = some lg := by
  have hs := hP.sb
  have n1 : ((1 : Int32)).toInt = 1 := rfl
  have hn : rd M k 14 = f 53 := hP.ns
  unfold mX1_lastCode mX1_lastGauge ite2
  rw [hn]
  by_cases c : f 53 ≤ 0
  · rw [if_pos c, if_pos c]; exact ⟨_, _, rfl, rfl⟩
  · rw [if_neg c, if_neg c]
    have c : 0 < (f 53).toInt := i_nle c
    have e := i_sub (a := f 53) (b := 1) (by omega) (by omega)
    have o : okb (f 53 - (1 : Int32)) 8 = true := ok_in (by omega) (by omega)
    rw [o]
    exact ⟨_, _, rfl, rfl⟩
theorem f_xor : ∀ u, u < 256 → ∀ t, t < 8 → (Int32.ofNat u ^^^ ((1 : Int32) <<< (Int32.ofNat t &&& 31))) = Int32.ofNat (u ^^^ 2 ^ t) := by decide +kernel
theorem costIfTurned_RR (h : SS M N) (hI : MI N) : R2 (mX6_costIfTurned 0 x1 M) (mX7_costIfTurned 135 x1 N) (fun p q => XR nmb2 p q ∧ SS p.1 q.1) := by
  obtain ⟨m, m2, em, hR⟩ := row_at hI h.1
  have n8 := nb8 (pr_9 h.1)
  have m256 := n_256 n8 m2
  have hn : (rd N 136 0).toInt = (nb 5 M : Int) := h.1.pb.bn
  have n0 : ((0 : Int32)).toInt = 0 := rfl
  have n1 : ((1 : Int32)).toInt = 1 := rfl
  have ns : rd M 5 14 = rd N 136 53 := h.1.ns
  have sb : 0 ≤ (rd N 136 53).toInt ∧ (rd N 136 53).toInt ≤ 8 := h.1.sb
  unfold mX6_costIfTurned mX7_costIfTurned
  refine R2.cr (pc_isBend hn n8) (fun r2 p2 => R2.kr (fun _ => ?_))
  have bad : ∀ {y1 y2 : Int32} {w : Nat}, (y1 = 0 ∧ w = 1 ∨ ¬ y1 = 0 ∧ y2 = 0 ∧ w = 2) → R2 (some (M, (Sum.inr w : Int32 ⊕ Nat))) (mX7_costIfTurned_b21 135 x1 y1 y2 N) (fun p q => XR nmb2 p q ∧ SS p.1 q.1) := by
    intro y1 y2 w hy
    unfold mX7_costIfTurned_b21
    refine R2.mr pc_good2 (fun N9 r8 p8 => ?_)
    rcases p8 with ⟨z, e8⟩ | ⟨z, z2, e8⟩ | ⟨z, z2, e8⟩
    · cases e8
      refine R2.ir (fun _ => R2.ok ⟨XR.inr ?_, h.th⟩) (fun z => absurd rfl z)
      rcases hy with ⟨_, e⟩ | ⟨q, _⟩
      · rw [e]; exact rd_we
      · exact absurd z q
    · cases e8
      refine R2.ir (fun _ => R2.ok ⟨XR.inr ?_, h.th⟩) (fun z => absurd rfl z)
      rcases hy with ⟨q, e⟩ | ⟨_, _, e⟩
      · exact absurd q z
      · rw [e]; exact rd_we
    · rcases hy with ⟨q, e⟩ | ⟨_, q, e⟩
      · exact absurd q z
      · exact absurd q z2
  refine R2.xl (pc_reqBend h.1 hn) (fun M1 v q => ?_) (fun M1 w q => ?_)
  rotate_left
  · rcases q with ⟨e, _⟩ | ⟨e, q1⟩
    · exact absurd (congrArg Prod.snd e) (by intro z; cases z)
    · cases e
      have e2 : r2 = 0 := by
        rcases p2 with ⟨_, z⟩ | ⟨z, _⟩
        · exact absurd z q1
        · exact z
      exact R2.ir (fun _ => bad (Or.inl ⟨e2, rfl⟩)) (fun _ => bad (Or.inl ⟨e2, rfl⟩))
  rcases q with ⟨e, q1⟩ | ⟨e, _⟩
  rotate_left
  · exact absurd (congrArg Prod.snd e) (by intro z; cases z)
  have eM : M1 = M := congrArg Prod.fst e
  subst eM
  have e2 : r2 = 1 := by
    rcases p2 with ⟨z, _⟩ | ⟨_, z⟩
    · exact z
    · exact absurd q1 z
  have e2n : ¬ r2 = 0 := by rw [e2]; decide
  refine R2.xl pc_reqFlat (fun M2 v q => ?_) (fun M2 w q => ?_)
  rotate_left
  · rcases q with ⟨e, _⟩ | ⟨e, q2⟩
    · exact absurd (congrArg Prod.snd e) (by intro z; cases z)
    · cases e
      refine R2.ir (fun z => ?_) (fun _ => bad (Or.inr ⟨e2n, rfl, rfl⟩))
      have z : rd N 136 53 = 0 := z
      rw [ns, z] at q2
      exact absurd q2 (by decide)
  rcases q with ⟨e, q2⟩ | ⟨e, _⟩
  rotate_left
  · exact absurd (congrArg Prod.snd e) (by intro z; cases z)
  have eM : M2 = M1 := congrArg Prod.fst e
  subst eM
  have s0 : rd N 136 53 = 0 := i_eq.mpr (by rw [ns] at q2; rw [n0]; omega)
  refine R2.ir (fun _ => ?_) (fun z => absurd (show rd N 136 53 = 0 from s0) z)
  obtain ⟨b, hb, eb⟩ : ∃ b : Nat, b < nb 5 M2 ∧ x1 = Int32.ofNat b := ⟨x1.toInt.toNat, by omega, o_of q1.1⟩
  subst eb
  unfold mX7_costIfTurned_b21
  refine R2.mr pc_good2 (fun N8 r7 p8 => ?_)
  rcases p8 with ⟨z, _⟩ | ⟨_, z, _⟩ | ⟨_, _, e8⟩
  · exact absurd z e2n
  · exact absurd z (by decide)
  have eN : N8 = wr N 135 5 0 := congrArg Prod.fst e8
  have er : r7 = 1 := congrArg Prod.snd e8
  subst eN
  subst er
  have tb : (Int32.ofNat b).toInt = (b : Int) := t_of (by omega)
  have n11 : ((11 : Int32)).toInt = 11 := rfl
  have ei : ((11 : Int32) + Int32.ofNat b).toNatClampNeg = 11 + b := by rw [i_clamp, i_add (by omega) (by omega)]; omega
  rw [ei]
  have h8 := h.th (v := 0)
  have hI8 : MI (wr N 135 5 0) := (hI.th (v := 0)).1
  refine R2.ir (fun z => absurd z (by decide)) (fun _ => R2.kr (fun _ => R2.kr (fun _ => R2.br (fun N13 e13 => ?_))))
  -- the part copied and turned
  refine R2.ml ((pc_copyFrom (k := 13) (k' := 5) (M := M2) (Or.inr (by omega))).and (lX1_copyFrom (k0 := 13) (k1 := 5) (KL.rf : KL M2 M2))) (fun M11 _ p => ?_)
  obtain ⟨⟨c0, c1, c2, c3, c4⟩, l11⟩ := p
  have c4 : KS (fun c _ => 13 ≤ c ∧ c < 13 + 8) M2 M11 := c4
  have l11 : KL M2 M11 := l11
  have P11 : PR 13 M11 (row 136 (wr N 135 5 0)) := PR.copy h8.1 c0 c1 c2 c3
  refine R2.bl (fun M12 e12 => ?_)
  have u2 : rd M11 13 2 = rd M2 5 2 := c0 2 (by omega) (by omega) (by omega) (by omega) (by omega)
  have ub := P11.ub
  have uz := P11.uz
  have up := P11.up
  have hn8 : (row 136 (wr N 135 5 0) 0).toInt = (nb 5 M2 : Int) := h8.1.pb.bn
  obtain ⟨u, eu⟩ : ∃ u, (rd M11 13 2).toInt.toNat = u := ⟨_, rfl⟩
  rw [eu] at uz up
  have e2u : rd M11 13 2 = Int32.ofNat u := by rw [← eu]; exact o_of ub.1
  have u256 : u < 256 := by omega
  rw [e2u, f_xor u u256 b (by omega)] at e12
  have hnn : (row 136 (wr N 135 5 0) 0).toInt.toNat = nb 5 M2 := by omega
  rw [hnn] at uz
  have x2n : u ^^^ 2 ^ b < 2 ^ nb 5 M2 := Nat.xor_lt_two_pow uz (Nat.pow_lt_pow_right (by decide) hb)
  have x256 := n_256 n8 x2n
  have tx : (Int32.ofNat (u ^^^ 2 ^ b)).toInt = ((u ^^^ 2 ^ b : Nat) : Int) := t_of (by omega)
  have upb : ∀ b', b' < nb 5 M2 → rd (wr N 135 5 0) 136 (11 + b') = if u.testBit b' then 1 else 0 := fun b' hb' => up b' (by rw [hn8]; omega)
  have P12 : PR 13 M12 (row 136 N13) := by
    rw [e12, e13]
    refine PR.setUps (f := row 136 (wr N 135 5 0)) P11 (fun i hi => rd_wj (by omega)) (by rw [tx]; omega) (by rw [tx, hnn]; omega) (fun b' hb' => ?_)
    rw [hn8] at hb'
    have hb'' : b' < nb 5 M2 := by omega
    have e1 : (Int32.ofNat (u ^^^ 2 ^ b)).toInt.toNat = u ^^^ 2 ^ b := by rw [tx]; omega
    rw [e1, Nat.testBit_xor, Nat.testBit_two_pow]
    by_cases q : b' = b
    · subst q
      show rd (wr (wr N 135 5 0) 136 (11 + b') _) 136 (11 + b') = _
      rw [rd_we]
      show (1 : Int32) - rd (wr N 135 5 0) 136 (11 + b') = _
      rw [upb b' hb'']
      cases u.testBit b' <;> simp
    · show rd (wr (wr N 135 5 0) 136 (11 + b) _) 136 (11 + b') = _
      rw [rd_wj (by omega), upb b' hb'', decide_eq_false (fun z => q z.symm)]
      cases u.testBit b' <;> simp
  have k12 : KS (fun c _ => 13 ≤ c ∧ c < 13 + 8) M2 M12 := by rw [e12]; exact c4.wr ⟨by omega, by omega⟩
  have l12 : KL M2 M12 := by rw [e12]; exact l11.wr
  have V12 : PV M12 := h.2.2.2.2.ks k12 (fun c j h1 h2 _ z => by omega) (fun j => l12.rl j)
  have h912 : (rd M12 13 0).toInt ≤ 9 := by rw [P12.lc]; exact P12.lb.2
  have enb : nb 13 M12 = nb 5 M2 := by
    have a1 := P12.pb.bn
    have a2 : (row 136 N13 0).toInt = (nb 5 M2 : Int) := by rw [e13]; show (rd (wr (wr N 135 5 0) 136 (11 + b) _) 136 0).toInt = _; rw [rd_wj (by omega)]; exact hn8
    omega
  have m12 : rd M12 13 13 = Int32.ofNat m := by
    rw [e12, rd_wj (by omega)]
    exact (c0 13 (by omega) (by omega) (by omega) (by omega) (by omega)).trans em
  obtain ⟨lc, lg, elc, elg⟩ := last_somek P12
  have z53 : rd N13 136 53 = 0 := by rw [e13, rd_wj (by omega), rd_wk (by decide)]; exact s0
  have elc1 : lc = -1 := by
    have q := pc_lastCode (k := 13) (M := M12) (by rw [P12.ns]; show (rd N13 136 53).toInt ≤ 8; rw [z53]; decide) lc elc
    have a : rd M12 13 14 = rd N13 136 53 := P12.ns
    rw [a, z53] at q
    rcases q with ⟨_, q⟩ | ⟨q, _⟩
    · exact q
    · exact absurd q (by decide)
  subst elc1
  refine R2.ml (pc_prepare (k := 13) (by omega) h912 m12 (by rw [enb]; exact m2) V12 elc elg) (fun M16 _ p => ?_)
  obtain ⟨k16, K16, V16⟩ := p
  have k16 : KS SPp M12 M16 := k16
  have K16 : PK 13 m M16 := K16
  have V16 : PV M16 := V16
  have b16 : BL 13 M12 13 M16 := BL.ks k16 (fun c j h1 h2 z => by unfold SPp at z; omega)
  have g16 : GL 13 M12 13 M16 := GL.ks k16 (fun c j h1 h2 z => by unfold SPp at z; omega)
  have P16 : PR 13 M16 (row 136 N13) := P12.ks k16 (fun c j h1 h2 z => by unfold SPp at z; omega)
  have h916 : (rd M16 13 0).toInt ≤ 9 := by rw [P16.lc]; exact P16.lb.2
  have en16 : nb 13 M16 = nb 5 M2 := b16.bn.trans enb
  -- the reference's costs, turned
  have hO13 : OKm gS N13 := by
    rw [e13]
    refine put136 hI8.1 ?_
    rw [bx_up b (by omega)]
    have q := upb b hb
    rw [q]
    cases u.testBit b <;> decide
  have hN13 : NM (nb 13 M16) m N13 := by
    rw [en16, e13]
    have a := (row_th (v := 0) hR).nm
    exact ⟨(rd_wj (by omega)).trans a.1, a.2.1, (rd_wj (by omega)).trans a.2.2.1, a.2.2.2⟩
  unfold mX7_leastNow
  simp only [cal_cal]
  refine R2.mr ((pc_layCosts hO13 hN13).and (Fr.pc (vX7_layCosts (KS.rf : KS SLy N13 N13)))) (fun N5 _ p => ?_)
  obtain ⟨⟨hB, hC, hP, hA⟩, hk5⟩ := p
  have hk5 : KS SLy N13 N5 := hk5
  have hB : CBx (nb 13 M16) m N13 N5 := hB
  have hX : CTX (w2 gS) 13 m M16 N13 N5 := ⟨K16.1, h916, by rw [hB.2.1]; exact P16, hP.1, hB.2.2.1, hB.2.2.2, hC, K16.2.2.1, hB.2.1⟩
  have hl : LST 13 M16 N5 m 16 (-1) lg := Or.inl ⟨rfl, rfl⟩
  obtain ⟨_, _, _, lc', lg', w1, w2, w3, w4, w5⟩ := K16
  rw [g16.2.1, elc] at w1
  rw [g16.2.2.1, elg] at w2
  cases w1
  cases w2
  have hL := hX.least hA (by rw [en16]; exact m2) hl w3
  have back : ∀ v : Int32, v = rd M16 110 0 → R2 (some (M16, (Sum.inl (rd M16 110 0) : Int32 ⊕ Nat))) (chk (okb ((11 : Int32) + Int32.ofNat b) 86) (chk (okb ((11 : Int32) + Int32.ofNat b) 86) (bnd (wr N5 (135 + 1) (11 + b) ((1 : Int32) - (rd N5 (135 + 1) (11 + b)))) (fun M20 => some (M20, v))))) (fun p q => XR nmb2 p q ∧ SS p.1 q.1) := by
    intro v hv
    refine R2.kr (fun _ => R2.kr (fun _ => R2.br (fun N20 e20 => R2.ok ⟨XR.inl ?_ hv.symm, ?_⟩)))
    · rw [e20, rd_wk (by decide), hk5 135 5 (by unfold SLy; omega), e13, rd_wk (by decide)]; exact rd_we
    · have S16 : SS M16 (wr N 135 5 0) := h8.cl (fun c j hc => (k16 c j (by unfold SPp; omega)).trans (k12 c j (by omega))) V16
      refine S16.rf (fun j => ?_) (fun j => ?_) ?_
      · rw [e20]
        by_cases q : j = 11 + b
        · subst q
          show rd (wr N5 136 (11 + b) ((1 : Int32) - rd N5 136 (11 + b))) 136 (11 + b) = _
          rw [rd_we, hk5 136 _ (by unfold SLy; omega), e13]
          show (1 : Int32) - rd (wr (wr N 135 5 0) 136 (11 + b) ((1 : Int32) - rd (wr N 135 5 0) 136 (11 + b))) 136 (11 + b) = _
          rw [rd_we, upb b hb]
          cases u.testBit b <;> rfl
        · show rd (wr N5 136 (11 + b) _) 136 j = _
          rw [rd_wj q, hk5 136 _ (by unfold SLy; omega), e13]
          exact rd_wj q
      · rw [e20, rd_wk (by decide), hk5 139 _ (by unfold SLy; omega), e13]
        exact rd_wk (by decide)
      · rw [e20, rd_wk (by decide), hk5 135 4 (by unfold SLy; omega), e13]
        exact rd_wk (by decide)
  simp only [cal_cap, cal_ite, cal_chk, cal_some]
  have hN5 : NM (nb 13 M16) m N5 := hB.1
  refine R2.cr (pc_isOrd hN5) (fun r5 p5 => R2.ir (fun c => back _ ?_) (fun c => R2.kr (fun _ => ?_)))
  · have hm : ¬ 0 < mn N5 m := by
      rcases p5 with ⟨_, q⟩ | ⟨q, _⟩
      · exact q
      · rw [q] at c; exact absurd c (by decide)
    exact (hL.2 hm).symm
  · have hm : 0 < mn N5 m := by
      rcases p5 with ⟨q, _⟩ | ⟨_, q⟩
      · exact absurd q c
      · exact q
    have z5 : rd N5 136 53 = 0 := (hk5 136 53 (by unfold SLy; omega)).trans z53
    refine R2.cr (pc_lastNow (N := N5) (by rw [z5]; decide) (by rw [z5]; decide)) (fun r10 p10 => R2.kr (fun _ => back _ ?_))
    have e10 : r10 = Int32.ofNat 16 := by
      rcases p10 with ⟨_, e⟩ | ⟨j, hj, e, _⟩
      · exact e
      · rw [z5] at e
        have := congrArg Int32.toInt e
        rw [n0, t_of (by omega)] at this; omega
    have e52 : rd N5 (135 + 1) ((52 : Int32)).toNatClampNeg = Int32.ofNat m := hN5.2.2.1
    rw [e52, e10, ix17c (by omega) (by omega)]
    exact (hL.1 hm).2.symm
end CTN
end
/-! part 60zzx5.beam -/
section
/-! greatestBeam: what both hold stays -/
section GBM
variable {g : Gm} {k n m a b s c l e : Nat} {M M' N N' N0 M0 : Mem} {x x1 x2 x3 : Int32}
/-- what the trial of a beam writes -/
def SBm (c _ : Nat) : Prop := (13 ≤ c ∧ c < 13 + 8) ∨ (110 ≤ c ∧ c ≤ 132)
def BmI (m : Nat) (M : Mem) : Prop := PV M ∧ (rd M 13 0).toInt ≤ 9 ∧ rd M 13 13 = Int32.ofNat m ∧ m < 2 ^ nb 13 M
theorem BmI.set {v : Int32} (h : BmI m M) (e : M' = wr M (13 + 2) 1 v) : BmI m M' := by
  have hk : KS (fun c _ => c = 15) M M' := by rw [e]; exact KS.rf.wr rfl
  have hl : KL M M' := by rw [e]; exact KL.rf.wr
  have en : nb 13 M' = nb 13 M := by unfold nb; rw [hk 13 0 (by omega)]
  exact ⟨h.1.ks hk (fun c j h1 h2 _ z => by omega) (fun j => hl.rl j), by rw [hk 13 0 (by omega)]; exact h.2.1, (hk 13 13 (by omega)).trans h.2.2.1, by rw [en]; exact h.2.2.2⟩
theorem pc_all13 (h : BmI m M) : Pc (mX3_reachesAll 110 13 M) (fun q => KS SPr M q.1 ∧ BmI m q.1 ∧ LI 13 m q.1 256 ∧ (¬ q.2 = 0 ↔ rc q.1 (2 ^ nb 13 q.1 - 1))) := by
  unfold mX3_reachesAll
  refine Pc.m (pc_reachSets (k := 13) (by omega) h.2.1 h.2.2.1 h.2.2.2 h.1.1) (fun M3 _ p => ?_)
  obtain ⟨p1, p2, p3, p4, p5⟩ := p
  have p1 : KS SPr M M3 := p1
  have b3 : BL 13 M 13 M3 := BL.ks p1 (fun c j h1 h2 z => by unfold SPr at z; omega)
  have h9 : (rd M3 13 0).toInt ≤ 9 := by rw [b3.1]; exact h.2.1
  have n8 := nb8 h9
  have p2' : 2 ^ nb 13 M3 ≤ 256 := by
    have : 2 ^ nb 13 M3 ≤ 2 ^ 8 := Nat.pow_le_pow_right (by decide) n8
    have h8 : (2 : Nat) ^ 8 = 256 := rfl
    omega
  refine Pc.c (pc_allB h9) (fun r5 e5 => Pc.k (fun _ => Pc.k (fun _ => Pc.ok ⟨p1, ⟨⟨p2.1.bl (b3.sy.tr p3) (fun _ => rfl) (fun _ => rfl), ?_, fun z => absurd p5 z⟩, h9, ?_, ?_⟩, p2, ?_⟩)))
  · show (rd M3 119 0).toInt ≤ 9
    rw [p3.1]; exact h.2.1
  · exact (p1 13 13 (by unfold SPr; omega)).trans h.2.2.1
  · show m < 2 ^ nb 13 M3
    rw [b3.bn]; exact h.2.2.2
  · rw [e5, c_of (by omega)]
    exact Iff.rfl
theorem bm_l : ∀ (fuel : Nat) (x1 x2 : Int32) (M : Mem), KS SBm M0 M → BmI m M → Pc (mX6_greatestBeam_l16 0 fuel x1 x2 M) (fun q => KS SBm M0 q.1 ∧ PV q.1) := by
  intro fuel
  induction fuel with
  | zero => intro x1 x2 M _ _ q e; cases e
  | succ fuel IH =>
    intro x1 x2 M hk h
    show Pc (mX6_greatestBeam_b16 0 (mX6_greatestBeam_l16 0 fuel) x1 x2 M) _
    unfold mX6_greatestBeam_b16
    refine Pc.i (fun _ => Pc.i (fun _ => Pc.ok ⟨hk, h.1⟩) (fun _ => Pc.ok ⟨hk, h.1⟩)) (fun _ => Pc.b (fun x3 _ => Pc.k (fun _ => Pc.b (fun M9 e9 => ?_))))
    have h9 : BmI m M9 := h.set e9
    have k9 : KS SBm M0 M9 := by rw [e9]; exact hk.wr (Or.inl ⟨by omega, by omega⟩)
    have nx : ∀ (y : Int32) (M' : Mem), KS SBm M0 M' → BmI m M' → Pc (mX6_greatestBeam_b59 0 (mX6_greatestBeam_l16 0 fuel) y x2 M') (fun q => KS SBm M0 q.1 ∧ PV q.1) := by
      intro y M' h1 h2
      unfold mX6_greatestBeam_b59
      exact Pc.b (fun z _ => IH y z M' h1 h2)
    refine Pc.i (fun _ => nx x1 M9 k9 h9) (fun _ => Pc.m (pc_all13 h9) (fun M14 r13 p => ?_))
    obtain ⟨p1, p2, _⟩ := p
    have p1 : KS SPr M9 M14 := p1
    have k14 : KS SBm M0 M14 := k9.trans (p1.mono (fun c j h => by unfold SPr at h; unfold SBm; omega))
    exact Pc.i (fun _ => nx x1 M14 k14 p2) (fun _ => nx x3 M14 k14 p2)
theorem bm_init (h : SS M N) (hm : rd M 5 13 = Int32.ofNat m) (m2 : m < 2 ^ nb 5 M) : Pc (mX1_copyFrom 13 5 M) (fun q => KS SBm M q.1 ∧ BmI m q.1 ∧ PR 13 q.1 (row 136 N)) := by
  intro q hq
  obtain ⟨c0, c1, c2, c3, c4⟩ := pc_copyFrom (k := 13) (k' := 5) (M := M) (Or.inr (by omega)) q hq
  have l11 : KL M q.1 := lX1_copyFrom (k0 := 13) (k1 := 5) (KL.rf : KL M M) q hq
  have e0 := c0 0 (by omega) (by omega) (by omega) (by omega) (by omega)
  have en : nb 13 q.1 = nb 5 M := by unfold nb; rw [e0]
  exact ⟨c4.mono (fun c j h => Or.inl h), ⟨h.2.2.2.2.ks c4 (fun c j h1 h2 _ z => by omega) (fun j => l11.rl j), by rw [e0]; exact pr_9 h.1, (c0 13 (by omega) (by omega) (by omega) (by omega) (by omega)).trans hm, by rw [en]; exact m2⟩, PR.copy h.1 c0 c1 c2 c3⟩
/-- the reference's: the beam is put back -/
def SBr (k j : Nat) : Prop := SLy k j ∨ (k = 135 ∧ j = 5) ∨ (k = 136 ∧ j = 40)
theorem bmr_l (hx : rd N0 136 40 = x1) : ∀ (fuel : Nat) (x2 x3 : Int32) (N : Mem), KS SBr N0 N → Pc (mX7_greatestBeam_l19 135 fuel x1 x2 x3 N) (fun q => KS SBr N0 q.1 ∧ rd q.1 136 40 = rd N0 136 40) := by
  intro fuel
  induction fuel with
  | zero => intro x2 x3 N _ q e; cases e
  | succ fuel IH =>
    intro x2 x3 N hk
    show Pc (mX7_greatestBeam_b19 135 (mX7_greatestBeam_l19 135 fuel) x1 x2 x3 N) _
    unfold mX7_greatestBeam_b19
    have fin : Pc (mX7_greatestBeam_b59 135 x1 x2 N) (fun q => KS SBr N0 q.1 ∧ rd q.1 136 40 = rd N0 136 40) := by
      unfold mX7_greatestBeam_b59
      refine Pc.k (fun _ => Pc.b (fun M8 e8 => Pc.ok ⟨?_, ?_⟩))
      · rw [e8]; exact hk.wr (Or.inr (Or.inr ⟨rfl, rfl⟩))
      · rw [e8, hx]
        show rd (wr N 136 40 x1) 136 40 = x1
        exact rd_we
    refine Pc.i (fun _ => fin) (fun _ => Pc.i (fun _ => Pc.k (fun _ => Pc.b (fun M12 e12 => ?_))) (fun _ => fin))
    have k12 : KS SBr N0 M12 := by rw [e12]; exact hk.wr (Or.inr (Or.inr ⟨rfl, rfl⟩))
    refine Pc.m (Fr.pc (vX7_layOrders (KS.rf : KS SLy M12 M12))) (fun M15 _ p => ?_)
    have p : KS SLy M12 M15 := p
    have k15 : KS SBr N0 M15 := k12.trans (p.mono (fun c j h => Or.inl h))
    unfold mX7_greatestBeam_b52
    exact Pc.c (Pc.self _) (fun r17 _ => Pc.i (fun _ => Pc.b (fun z _ => IH _ z M15 k15)) (fun _ => Pc.b (fun z _ => IH _ z M15 k15)))
theorem pc_beamR : Pc (mX7_greatestBeam 135 N) (fun q => KS SBr N q.1 ∧ rd q.1 136 40 = rd N 136 40) := by
  unfold mX7_greatestBeam
  refine Pc.b (fun M1 e1 => Pc.k (fun _ => Pc.b (fun x1 ex => ?_)))
  have k1 : KS SBr N M1 := by rw [e1]; exact KS.rf.wr (Or.inr (Or.inl ⟨rfl, rfl⟩))
  have ee : rd M1 136 40 = rd N 136 40 := by rw [e1]; exact rd_wk (by decide)
  refine bmr_l (N0 := N) (x1 := x1) ?_ 5000 _ _ M1 k1
  rw [ex]
  exact ee.symm
theorem beam_S (h : SS M N) (hI : MI N) : R2 (mX6_greatestBeam 0 M) (mX7_greatestBeam 135 N) (fun p q => SS p.1 q.1) := by
  obtain ⟨m, m2, em, hR⟩ := row_at hI h.1
  intro p q hp hq
  obtain ⟨r1, r2⟩ := pc_beamR q hq
  unfold mX6_greatestBeam at hp
  obtain ⟨M3, _, p1, p2⟩ := cal_s hp
  obtain ⟨k3, b3, _⟩ := bm_init h em m2 _ p1
  have k3 : KS SBm M M3 := k3
  obtain ⟨k4, v4⟩ := bm_l (M0 := M) 5000 _ _ M3 k3 b3 p p2
  have hS : SS p.1 N := h.cl (fun c j hc => k4 c j (by unfold SBm; omega)) v4
  refine hS.rf (fun j => ?_) (fun j => r1 _ _ (by unfold SBr SLy; omega)) (r1 _ _ (by unfold SBr SLy; omega))
  by_cases e : j = 40
  · subst e; exact r2
  · exact r1 _ _ (by unfold SBr SLy; omega)
end GBM
end
/-! part 60zzx6.edits -/
section
/-! the edits: alike -/
section ED
variable {g : Gm} {k n m a b s c l e : Nat} {M M' N N' N0 : Mem} {x x1 x2 x3 y1 y2 y3 v : Int32} {f f' : Nat → Int32} {τ : Type} {z : τ}
theorem RI.flat (h : f 53 = 0) : RI f := by
  refine ⟨by rw [h]; decide, fun n _ j hj => ?_, fun j m h53 h8 _ _ => ?_⟩
  · rw [h, show ((0 : Int32)).toInt = 0 from rfl] at hj; omega
  · rw [h] at h53
    have := congrArg Int32.toInt h53
    rw [show ((0 : Int32)).toInt = 0 from rfl, t_of (by omega)] at this; omega
theorem RI.upd (h : RI f) (e : ∀ i, i < 19 ∨ 52 ≤ i → f' i = f i) : RI f' := by
  refine ⟨by rw [e 53 (by omega)]; exact h.1, fun n hn j hj => ?_, fun j m h53 h8 h52 hm => ?_⟩
  · rw [e 0 (by omega)] at hn
    rw [e 53 (by omega)] at hj
    rw [e _ (by omega), e _ (by omega)]; exact h.2.1 n hn j hj
  · rw [e _ (by omega)] at h53 h52
    obtain ⟨l, h1, h2, h3, h4, h5⟩ := h.2.2 j m h53 h8 h52 hm
    refine ⟨l, h1, ?_, ?_, h4, ?_⟩
    · rw [e _ (by omega)]; exact h2
    · rw [e _ (by omega)]; exact h3
    · rw [e _ (by omega)]
      exact fun N hN => h5 N (fun j hj => (hN j hj).trans (e j (by omega)))
theorem R2.bad3 {β : Type} {w : Nat} {zz : β} {K' : Mem → Option (Mem × β)} (hy : y1 = 0 ∧ w = 1 ∨ ¬ y1 = 0 ∧ y2 = 0 ∧ w = 0 ∨ ¬ y1 = 0 ∧ ¬ y2 = 0 ∧ y3 = 0 ∧ w = 2) (hS : SS M N) : R2 (some (M, (Sum.inr w : β ⊕ Nat))) (cal (mX7_good__ 135 y1 y2 y3 N) (fun M10 r9 => ite2 (r9 = 0) (some (M10, zz)) (K' M10))) (fun p q => XR nmb3 p q ∧ SS p.1 q.1) := by
  refine R2.mr pc_good3 (fun N9 r8 p8 => ?_)
  rcases p8 with ⟨z, e8⟩ | ⟨z, z2, e8⟩ | ⟨z, z2, z3, e8⟩ | ⟨z, z2, z3, e8⟩
  · cases e8
    refine R2.ir (fun _ => R2.ok ⟨XR.inr ?_, hS.th⟩) (fun z => absurd rfl z)
    rcases hy with ⟨_, e⟩ | ⟨q, _⟩ | ⟨q, _⟩
    · rw [e]; exact rd_we
    · exact absurd z q
    · exact absurd z q
  · cases e8
    refine R2.ir (fun _ => R2.ok ⟨XR.inr ?_, hS.th⟩) (fun z => absurd rfl z)
    rcases hy with ⟨q, e⟩ | ⟨_, _, e⟩ | ⟨_, q, _⟩
    · exact absurd q z
    · rw [e]; exact rd_we
    · exact absurd z2 q
  · cases e8
    refine R2.ir (fun _ => R2.ok ⟨XR.inr ?_, hS.th⟩) (fun z => absurd rfl z)
    rcases hy with ⟨q, e⟩ | ⟨_, q, e⟩ | ⟨_, _, _, e⟩
    · exact absurd q z
    · exact absurd q z2
    · rw [e]; exact rd_we
  · rcases hy with ⟨q, e⟩ | ⟨_, q, e⟩ | ⟨_, _, q, e⟩
    · exact absurd q z
    · exact absurd q z2
    · exact absurd q z3
theorem R2.ok3 {α β : Type} {x : Option α} {zz : β} {K' : Mem → Option (Mem × β)} {R : α → Mem × β → Prop} (h1 : ¬ y1 = 0) (h2 : ¬ y2 = 0) (h3 : ¬ y3 = 0) (h : R2 x (K' (wr N 135 5 0)) R) : R2 x (cal (mX7_good__ 135 y1 y2 y3 N) (fun M10 r9 => ite2 (r9 = 0) (some (M10, zz)) (K' M10))) R := by
  refine R2.mr pc_good3 (fun N9 r8 p8 => ?_)
  rcases p8 with ⟨z, e8⟩ | ⟨z, z2, e8⟩ | ⟨z, z2, z3, e8⟩ | ⟨z, z2, z3, e8⟩
  · exact absurd z h1
  · exact absurd z2 h2
  · exact absurd z3 h3
  · cases e8
    exact R2.ir (fun z => absurd z (by decide)) (fun _ => h)
theorem R2.bad2 {β : Type} {w : Nat} {zz : β} {num : Nat → Int32} {K' : Mem → Option (Mem × β)} (hy : y1 = 0 ∧ num w = 1 ∨ ¬ y1 = 0 ∧ y2 = 0 ∧ num w = 2) (hS : SS M N) : R2 (some (M, (Sum.inr w : β ⊕ Nat))) (cal (mX7_good_ 135 y1 y2 N) (fun M10 r9 => ite2 (r9 = 0) (some (M10, zz)) (K' M10))) (fun p q => XR num p q ∧ SS p.1 q.1) := by
  refine R2.mr pc_good2 (fun N9 r8 p8 => ?_)
  rcases p8 with ⟨z, e8⟩ | ⟨z, z2, e8⟩ | ⟨z, z2, e8⟩
  · cases e8
    refine R2.ir (fun _ => R2.ok ⟨XR.inr ?_, hS.th⟩) (fun z => absurd rfl z)
    rcases hy with ⟨_, e⟩ | ⟨q, _⟩
    · rw [e]; exact rd_we
    · exact absurd z q
  · cases e8
    refine R2.ir (fun _ => R2.ok ⟨XR.inr ?_, hS.th⟩) (fun z => absurd rfl z)
    rcases hy with ⟨q, e⟩ | ⟨_, _, e⟩
    · exact absurd q z
    · rw [e]; exact rd_we
  · rcases hy with ⟨q, e⟩ | ⟨_, q, e⟩
    · exact absurd q z
    · exact absurd q z2
theorem R2.ok2 {α β : Type} {x : Option α} {zz : β} {K' : Mem → Option (Mem × β)} {R : α → Mem × β → Prop} (h1 : ¬ y1 = 0) (h2 : ¬ y2 = 0) (h : R2 x (K' (wr N 135 5 0)) R) : R2 x (cal (mX7_good_ 135 y1 y2 N) (fun M10 r9 => ite2 (r9 = 0) (some (M10, zz)) (K' M10))) R := by
  refine R2.mr pc_good2 (fun N9 r8 p8 => ?_)
  rcases p8 with ⟨z, e8⟩ | ⟨z, z2, e8⟩ | ⟨z, z2, e8⟩
  · exact absurd z h1
  · exact absurd z2 h2
  · cases e8
    exact R2.ir (fun z => absurd z (by decide)) (fun _ => h)
theorem R2.bad1 {β : Type} {w : Nat} {zz : β} {num : Nat → Int32} {K' : Mem → Option (Mem × β)} (hy : y1 = 0) (hw : num w = 1) (hS : SS M N) : R2 (some (M, (Sum.inr w : β ⊕ Nat))) (cal (mX7_good 135 y1 N) (fun M10 r9 => ite2 (r9 = 0) (some (M10, zz)) (K' M10))) (fun p q => XR num p q ∧ SS p.1 q.1) := by
  refine R2.mr pc_good (fun N9 r8 p8 => ?_)
  rcases p8 with ⟨z, e8⟩ | ⟨z, e8⟩
  · cases e8
    refine R2.ir (fun _ => R2.ok ⟨XR.inr ?_, hS.th⟩) (fun q => absurd z q)
    rw [hw]; exact rd_we
  · exact absurd hy z
theorem R2.ok1 {α β : Type} {x : Option α} {zz : β} {K' : Mem → Option (Mem × β)} {R : α → Mem × β → Prop} (h1 : ¬ y1 = 0) (h : R2 x (K' (wr N 135 5 0)) R) : R2 x (cal (mX7_good 135 y1 N) (fun M10 r9 => ite2 (r9 = 0) (some (M10, zz)) (K' M10))) R := by
  refine R2.mr pc_good (fun N9 r8 p8 => ?_)
  rcases p8 with ⟨z, e8⟩ | ⟨z, e8⟩
  · exact absurd z h1
  · cases e8
    exact R2.ir (fun q => absurd q z) (fun _ => h)
/-- both remember, then both set -/
theorem R2.set {σ : Type} {R : Mem × (σ ⊕ Nat) → Mem × Int32 → Prop} {K : Mem → Option (Mem × (σ ⊕ Nat))} {i : Int32} (h : SS M N) (hk : ∀ M3 N3, SS M3 N3 → (∀ c j, ¬ SHc c j → rd M3 c j = rd M c j) → row 136 N3 = row 136 N → rd N3 135 5 = rd N 135 5 → R2 (K M3) (some (wr N3 136 i.toNatClampNeg v, rd N3 136 i.toNatClampNeg)) R) : R2 (cal (mX0_remember 21 5 M) (fun M3 _ => K M3)) (mX7_set 135 i v N) R := by
  unfold mX7_set
  refine R2.mm (rem_S h) (fun M3 _ N3 _ p => ?_)
  obtain ⟨p1, p2, p3⟩ := p
  have p2 : KS SHc M M3 := p2
  have p3 : KS SHi N N3 := p3
  refine R2.kr (fun _ => R2.br (fun x ex => R2.kr (fun _ => R2.br (fun M8 e8 => ?_))))
  have hh := hk M3 N3 p1 p2 (row_ks p3 (fun j z => by unfold SHi at z; omega)) (p3 135 5 (by unfold SHi; omega))
  rw [ex, e8]
  exact hh
theorem PV.p5 (h : PV M) (hk : KS (fun c _ => 5 ≤ c ∧ c < 13) M M') (hl : KL M M') : PV M' := h.ks hk (fun c j _ _ _ z => by omega) (fun j => hl.rl j)
theorem setLeg_RR (h : SS M N) : R2 (mX6_setLeg 0 x1 x2 M) (mX7_setLeg 135 x1 x2 N) (fun p q => XR nmb3 p q ∧ SS p.1 q.1) := by
  have hb := h.1.lb
  obtain ⟨n, hn⟩ : ∃ n : Nat, (rd N 136 1).toInt = (n : Int) := ⟨(rd N 136 1).toInt.toNat, by have : 0 ≤ (rd N 136 1).toInt := hb.1; omega⟩
  have h9 : n ≤ 9 := by have : (rd N 136 1).toInt ≤ 9 := hb.2; omega
  have ns : rd M 5 14 = rd N 136 53 := h.1.ns
  have sb : 0 ≤ (rd N 136 53).toInt ∧ (rd N 136 53).toInt ≤ 8 := h.1.sb
  have n0 : ((0 : Int32)).toInt = 0 := rfl
  have l1 : ((1 : Int64)).toInt = 1 := rfl
  have l9 : ((9999 : Int64)).toInt = 9999 := rfl
  unfold mX6_setLeg mX7_setLeg mX7_setLeg_b30
  refine R2.cr (pc_isLeg hn h9) (fun r2 p2 => R2.cr (pc_btw (Int32.toInt_toInt64 _) l1 l9) (fun r5 p5 => R2.kr (fun _ => ?_)))
  refine R2.xl (pc_reqLeg h.1 (n := n) hn) (fun M1 u q => ?_) (fun M1 w q => ?_)
  rotate_left
  · rcases q with ⟨e, _⟩ | ⟨e, q1⟩
    · exact absurd (congrArg Prod.snd e) (by intro z; cases z)
    · cases e
      have e2 : r2 = 0 := by
        rcases p2 with ⟨_, z⟩ | ⟨z, _⟩
        · exact absurd z q1
        · exact z
      exact R2.ir (fun _ => R2.bad3 (Or.inl ⟨e2, rfl⟩) h) (fun _ => R2.bad3 (Or.inl ⟨e2, rfl⟩) h)
  rcases q with ⟨e, q1⟩ | ⟨e, _⟩
  rotate_left
  · exact absurd (congrArg Prod.snd e) (by intro z; cases z)
  have eM : M1 = M := congrArg Prod.fst e
  subst eM
  have e2 : ¬ r2 = 0 := by
    rcases p2 with ⟨z, _⟩ | ⟨_, z⟩
    · rw [z]; decide
    · exact absurd q1 z
  refine R2.cl (pc_al (w := 1) 0 x2) (fun r6 p6 => ?_)
  have w1 : (wF0.getD 1 0).toInt = 1 := rfl
  have w2 : (wF1.getD 1 0).toInt = 9999 := rfl
  rw [w1, w2] at p6
  refine R2.il (fun c6 => ?_) (fun c6 => ?_)
  · have e5 : r5 = 0 := by
      rcases p5 with ⟨_, z⟩ | ⟨z, _⟩
      · rcases p6 with ⟨q, _⟩ | ⟨_, ⟨_, q⟩ | ⟨q, _⟩ | ⟨q, _⟩⟩
        · rw [q] at c6; exact absurd c6 (by decide)
        · exact absurd z q
        · exact absurd rfl q
        · exact absurd rfl q
      · exact z
    exact R2.ir (fun _ => R2.bad3 (Or.inr (Or.inl ⟨e2, e5, rfl⟩)) h) (fun _ => R2.bad3 (Or.inr (Or.inl ⟨e2, e5, rfl⟩)) h)
  have hr : 1 ≤ x2.toInt ∧ x2.toInt ≤ 9999 := by
    rcases p6 with ⟨_, ⟨_, q⟩ | ⟨q, _⟩ | ⟨q, _⟩⟩ | ⟨q, _⟩
    · exact q
    · exact absurd rfl q
    · exact absurd rfl q
    · exact absurd q c6
  have e5 : ¬ r5 = 0 := by
    rcases p5 with ⟨z, _⟩ | ⟨_, z⟩
    · rw [z]; decide
    · exact absurd hr z
  refine R2.xl pc_reqFlat (fun M2 u q => ?_) (fun M2 w q => ?_)
  rotate_left
  · rcases q with ⟨e, _⟩ | ⟨e, q2⟩
    · exact absurd (congrArg Prod.snd e) (by intro z; cases z)
    · cases e
      refine R2.ir (fun z => ?_) (fun _ => R2.bad3 (Or.inr (Or.inr ⟨e2, e5, rfl, rfl⟩)) h)
      have z : rd N 136 53 = 0 := z
      rw [ns, z] at q2
      exact absurd q2 (by decide)
  rcases q with ⟨e, q2⟩ | ⟨e, _⟩
  rotate_left
  · exact absurd (congrArg Prod.snd e) (by intro z; cases z)
  have eM : M2 = M1 := congrArg Prod.fst e
  subst eM
  have s0 : rd N 136 53 = 0 := i_eq.mpr (by rw [ns] at q2; rw [n0]; omega)
  refine R2.ir (fun _ => R2.ok3 e2 e5 (by decide) ?_) (fun z => absurd (show rd N 136 53 = 0 from s0) z)
  obtain ⟨b, hbn, eb⟩ : ∃ b : Nat, b < n ∧ x1 = Int32.ofNat b := ⟨x1.toInt.toNat, by omega, o_of q1.1⟩
  subst eb
  have tb : (Int32.ofNat b).toInt = (b : Int) := t_of (by omega)
  have n2 : ((2 : Int32)).toInt = 2 := rfl
  have ei : ((2 : Int32) + Int32.ofNat b).toNatClampNeg = 2 + b := by rw [i_clamp, i_add (by omega) (by omega)]; omega
  have cb : (Int32.ofNat b).toNatClampNeg = b := c_of (by omega)
  intro p q hp hq
  obtain ⟨N15, r14, u1, u2⟩ := cal_s hq
  cases u2
  refine R2.set (i := (2 : Int32) + Int32.ofNat b) (v := x2) (K := fun M15 => chk (okb (Int32.ofNat b) 9) (bnd ((rd M15 (5 + 1) (Int32.ofNat b).toNatClampNeg)) (fun x3_51 => chk (okb (Int32.ofNat b) 9) (bnd (wr M15 (5 + 1) (Int32.ofNat b).toNatClampNeg x2) (fun M20 => some (M20, Sum.inl x3_51)))))) (R := fun p q => XR nmb3 p q ∧ SS p.1 q.1) h.th (fun M3 N3 hS hc er e5' => ?_) p (N15, r14) hp u1
  rw [ei, cb]
  refine R2.kl (fun _ => R2.bl (fun x3 ex => R2.kl (fun _ => R2.bl (fun M20 e20 => R2.ok ⟨XR.inl ?_ ?_, ?_⟩))))
  · show rd (wr N3 136 (2 + b) x2) 135 5 = 0
    rw [rd_wk (by decide), e5']; exact rd_we
  · rw [ex]
    have hl : (b : Int) < (row 136 N3 1).toInt := by
      rw [er]; show (b : Int) < (rd (wr N 135 5 0) 136 1).toInt; rw [rd_wk (by decide)]; omega
    exact hS.1.leg b hl
  · have hl : (b : Int) < (row 136 N3 1).toInt := by
      rw [er]; show (b : Int) < (rd (wr N 135 5 0) 136 1).toInt; rw [rd_wk (by decide)]; omega
    have hP : PR 5 M20 (upf (row 136 N3) (2 + b) x2) := by rw [e20]; exact hS.1.setLeg hl
    have z53 : row 136 N3 53 = 0 := by rw [er]; show rd (wr N 135 5 0) 136 53 = 0; rw [rd_wk (by decide)]; exact s0
    have k20 : KS (fun c _ => 5 ≤ c ∧ c < 13) M3 M20 := by rw [e20]; exact KS.rf.wr (by omega)
    have l20 : KL M3 M20 := by rw [e20]; exact KL.rf.wr
    exact hS.row (f := upf (row 136 N3) (2 + b) x2) hP row_wr (RI.flat (by rw [upf_n (by omega)]; exact z53)) (fun c j hc => k20 c j (by omega)) (fun c j hc => rd_wk (by omega)) (hS.2.2.2.2.p5 k20 l20)
end ED
end
/-! part 60zzx7.edits2 -/
section
/-! the edits, further: alike -/
section ED2
variable {g : Gm} {k n m a b s c l e : Nat} {M M' N N' N0 : Mem} {x x1 x2 x3 y1 y2 y3 v : Int32} {f f' : Nat → Int32}
theorem setDirection_RR (h : SS M N) (hx : x2 = 0 ∨ x2 = 1) : R2 (mX6_setDirection 0 x1 x2 M) (mX7_setDirection 135 x1 x2 N) (fun p q => XR nmb2 p q ∧ SS p.1 q.1) := by
  have n8 := nb8 (pr_9 h.1)
  have hn : (rd N 136 0).toInt = (nb 5 M : Int) := h.1.pb.bn
  have ns : rd M 5 14 = rd N 136 53 := h.1.ns
  have sb : 0 ≤ (rd N 136 53).toInt ∧ (rd N 136 53).toInt ≤ 8 := h.1.sb
  have n0 : ((0 : Int32)).toInt = 0 := rfl
  unfold mX6_setDirection mX7_setDirection mX7_setDirection_b21
  refine R2.cr (pc_isBend hn n8) (fun r2 p2 => R2.kr (fun _ => ?_))
  refine R2.xl (pc_reqBend h.1 hn) (fun M1 u q => ?_) (fun M1 w q => ?_)
  rotate_left
  · rcases q with ⟨e, _⟩ | ⟨e, q1⟩
    · exact absurd (congrArg Prod.snd e) (by intro z; cases z)
    · cases e
      have e2 : r2 = 0 := by
        rcases p2 with ⟨_, z⟩ | ⟨z, _⟩
        · exact absurd z q1
        · exact z
      exact R2.ir (fun _ => R2.bad2 (Or.inl ⟨e2, rfl⟩) h) (fun _ => R2.bad2 (Or.inl ⟨e2, rfl⟩) h)
  rcases q with ⟨e, q1⟩ | ⟨e, _⟩
  rotate_left
  · exact absurd (congrArg Prod.snd e) (by intro z; cases z)
  have eM : M1 = M := congrArg Prod.fst e
  subst eM
  have e2 : ¬ r2 = 0 := by
    rcases p2 with ⟨z, _⟩ | ⟨_, z⟩
    · rw [z]; decide
    · exact absurd q1 z
  refine R2.xl pc_reqFlat (fun M2 u q => ?_) (fun M2 w q => ?_)
  rotate_left
  · rcases q with ⟨e, _⟩ | ⟨e, q2⟩
    · exact absurd (congrArg Prod.snd e) (by intro z; cases z)
    · cases e
      refine R2.ir (fun z => ?_) (fun _ => R2.bad2 (Or.inr ⟨e2, rfl, rfl⟩) h)
      have z : rd N 136 53 = 0 := z
      rw [ns, z] at q2
      exact absurd q2 (by decide)
  rcases q with ⟨e, q2⟩ | ⟨e, _⟩
  rotate_left
  · exact absurd (congrArg Prod.snd e) (by intro z; cases z)
  have eM : M2 = M1 := congrArg Prod.fst e
  subst eM
  have s0 : rd N 136 53 = 0 := i_eq.mpr (by rw [ns] at q2; rw [n0]; omega)
  refine R2.ir (fun _ => R2.ok2 e2 (by decide) ?_) (fun z => absurd (show rd N 136 53 = 0 from s0) z)
  obtain ⟨b, hb, eb⟩ : ∃ b : Nat, b < nb 5 M2 ∧ x1 = Int32.ofNat b := ⟨x1.toInt.toNat, by omega, o_of q1.1⟩
  subst eb
  have tb : (Int32.ofNat b).toInt = (b : Int) := t_of (by omega)
  have n11 : ((11 : Int32)).toInt = 11 := rfl
  have ei : ((11 : Int32) + Int32.ofNat b).toNatClampNeg = 11 + b := by rw [i_clamp, i_add (by omega) (by omega)]; omega
  have core : ∀ y : Int32, y = x2 → R2 (cal (mX0_remember 21 5 M2) (fun M11 _ => cap (mX1_goesUp 5 (Int32.ofNat b) M11) (fun r13 => ite2 (r13 = x2) (chk (isB r13) (some (M11, Sum.inl r13))) (bnd (wr M11 5 2 ((rd M11 5 2) ^^^ ((1 : Int32) <<< (Int32.ofNat b &&& 31)))) (fun M17 => chk (isB r13) (some (M17, Sum.inl r13))))))) (mX7_setDirection_b41 135 ((11 : Int32) + Int32.ofNat b) y (wr N 135 5 0)) (fun p q => XR nmb2 p q ∧ SS p.1 q.1) := by
    intro y hy
    unfold mX7_setDirection_b41
    intro p q hp hq
    obtain ⟨N13, r12, u1, u2⟩ := cal_s hq
    have key := R2.set (i := (11 : Int32) + Int32.ofNat b) (v := y) (K := fun M11 => cap (mX1_goesUp 5 (Int32.ofNat b) M11) (fun r13 => ite2 (r13 = x2) (chk (isB r13) (some (M11, Sum.inl r13))) (bnd (wr M11 5 2 ((rd M11 5 2) ^^^ ((1 : Int32) <<< (Int32.ofNat b &&& 31)))) (fun M17 => chk (isB r13) (some (M17, Sum.inl r13)))))) (R := fun (p : Mem × (Int32 ⊕ Nat)) q => p.2 = Sum.inl q.2 ∧ (q.2 = 0 ∨ q.2 = 1) ∧ rd q.1 135 5 = 0 ∧ SS p.1 q.1) h.th (fun M3 N3 hS hc er e5' => ?_) p (N13, r12) hp u1
    · obtain ⟨k1, k2, k3, k4⟩ := key
      have k2 : r12 = 0 ∨ r12 = 1 := k2
      obtain ⟨p1, p2'⟩ := p
      have k1 : p2' = Sum.inl r12 := k1
      subst k1
      by_cases z : r12 = 1
      · have u2 := ite_t z u2
        cases u2
        exact ⟨XR.inl k3 z, k4⟩
      · have u2 := ite_f z u2
        cases u2
        exact ⟨XR.inl k3 (k2.resolve_right z), k4⟩
    · rw [ei]
      have hn3 : (row 136 N3 0).toInt = (nb 5 M2 : Int) := by rw [er]; show (rd (wr N 135 5 0) 136 0).toInt = _; rw [rd_wk (by decide)]; exact hn
      have ub := hS.1.ub
      have uz := hS.1.uz
      have up : ∀ b', b' < nb 5 M2 → rd N3 136 (11 + b') = if (rd M3 5 2).toInt.toNat.testBit b' then 1 else 0 := fun b' hb' => hS.1.up b' (by omega)
      refine R2.cl (pc_goesUp (b := b) ub (by omega)) (fun r13 p13 => ?_)
      have e13 : r13 = rd N3 136 (11 + b) := by rw [p13, up b hb]
      have v01 : rd N3 136 (11 + b) = 0 ∨ rd N3 136 (11 + b) = 1 := by
        rw [up b hb]
        cases (rd M3 5 2).toInt.toNat.testBit b <;> simp
      have z53 : row 136 N3 53 = 0 := by rw [er]; show rd (wr N 135 5 0) 136 53 = 0; rw [rd_wk (by decide)]; exact s0
      have t5 : rd (wr N3 136 (11 + b) y) 135 5 = 0 := by rw [rd_wk (by decide), e5']; exact rd_we
      obtain ⟨u, eu⟩ : ∃ u, (rd M3 5 2).toInt.toNat = u := ⟨_, rfl⟩
      have e2u : rd M3 5 2 = Int32.ofNat u := by rw [← eu]; exact o_of ub.1
      have u256 : u < 256 := by omega
      have hnn : (row 136 N3 0).toInt.toNat = nb 5 M2 := by omega
      rw [eu] at up
      rw [eu, hnn] at uz
      refine R2.il (fun c => R2.kl (fun _ => R2.ok ⟨by rw [e13], v01, t5, ?_⟩)) (fun c => R2.bl (fun M17 e17 => R2.kl (fun _ => R2.ok ⟨by rw [e13], v01, t5, ?_⟩)))
      · -- as it was
        have ey : y = rd N3 136 (11 + b) := by rw [hy, ← c, e13]
        refine hS.rf (fun j => ?_) (fun j => rd_wk (by decide)) (rd_wk (by decide))
        by_cases q : j = 11 + b
        · subst q; rw [rd_we]; exact ey
        · exact rd_wj q
      · rw [e2u, f_xor u u256 b (by omega)] at e17
        have x2n : u ^^^ 2 ^ b < 2 ^ nb 5 M2 := Nat.xor_lt_two_pow uz (Nat.pow_lt_pow_right (by decide) hb)
        have x256 := n_256 n8 x2n
        have tx : (Int32.ofNat (u ^^^ 2 ^ b)).toInt = ((u ^^^ 2 ^ b : Nat) : Int) := t_of (by omega)
        have hP : PR 5 M17 (row 136 (wr N3 136 (11 + b) y)) := by
          rw [e17]
          refine PR.setUps (f := row 136 N3) hS.1 (fun i hi => rd_wj (by omega)) (by rw [tx]; omega) (by rw [tx, hnn]; omega) (fun b' hb' => ?_)
          rw [hn3] at hb'
          have hb'' : b' < nb 5 M2 := by omega
          have e1 : (Int32.ofNat (u ^^^ 2 ^ b)).toInt.toNat = u ^^^ 2 ^ b := by rw [tx]; omega
          rw [e1, Nat.testBit_xor, Nat.testBit_two_pow]
          by_cases q : b' = b
          · subst q
            show rd (wr N3 136 (11 + b') y) 136 (11 + b') = _
            rw [rd_we, decide_eq_true rfl]
            rw [e13, up b' hb''] at c
            rw [hy]
            cases hu : u.testBit b' with
            | true =>
              rw [hu] at c
              have : x2 = 0 := hx.resolve_right (fun z => c (by rw [z]; rfl))
              rw [this]; rfl
            | false =>
              rw [hu] at c
              have : x2 = 1 := hx.resolve_left (fun z => c (by rw [z]; rfl))
              rw [this]; rfl
          · show rd (wr N3 136 (11 + b) y) 136 (11 + b') = _
            rw [rd_wj (by omega), up b' hb'', decide_eq_false (fun z => q z.symm)]
            cases u.testBit b' <;> simp
        have k17 : KS (fun c _ => 5 ≤ c ∧ c < 13) M3 M17 := by rw [e17]; exact KS.rf.wr (by omega)
        have l17 : KL M3 M17 := by rw [e17]; exact KL.rf.wr
        refine hS.row (f := row 136 (wr N3 136 (11 + b) y)) hP rfl (RI.flat ?_) (fun c j hc => k17 c j (by omega)) (fun c j hc => rd_wk (by omega)) (hS.2.2.2.2.p5 k17 l17)
        show rd (wr N3 136 (11 + b) y) 136 53 = 0
        rw [rd_wj (by omega)]; exact z53
  rcases hx with e | e
  · exact R2.ir (fun _ => core 0 e.symm) (fun z => absurd e z)
  · exact R2.ir (fun z => by rw [e] at z; exact absurd z (by decide)) (fun _ => core 1 e.symm)
theorem pc_a0 {w : Nat} {lo hi : Int} (e0 : (wF0.getD w 0).toInt = lo) (e1 : (wF1.getD w 0).toInt = hi) : Pc (mX5_allows w (0 : Int32) v M) (fun r => (r = 1 ∧ lo ≤ v.toInt ∧ v.toInt ≤ hi) ∨ (r = 0 ∧ ¬ (lo ≤ v.toInt ∧ v.toInt ≤ hi))) := by
  refine (pc_al (w := w) 0 v).mono (fun r hr => ?_)
  rw [e0, e1] at hr
  rcases hr with ⟨q, ⟨_, q2⟩ | ⟨q2, _⟩ | ⟨q2, _⟩⟩ | ⟨q, ⟨_, q2⟩ | ⟨q2, _⟩ | ⟨q2, _⟩⟩
  · exact Or.inl ⟨q, q2⟩
  · exact absurd rfl q2
  · exact absurd rfl q2
  · exact Or.inr ⟨q, q2⟩
  · exact absurd rfl q2
  · exact absurd rfl q2
theorem pc_a1 {w : Nat} {hi : Int} (e1 : (wF2.getD w 0).toInt = hi) : Pc (mX5_allows w (1 : Int32) v M) (fun r => (r = 1 ∧ 0 ≤ v.toInt ∧ v.toInt ≤ hi) ∨ (r = 0 ∧ ¬ (0 ≤ v.toInt ∧ v.toInt ≤ hi))) := by
  refine (pc_al (w := w) 1 v).mono (fun r hr => ?_)
  rw [e1] at hr
  rcases hr with ⟨q, ⟨q2, _⟩ | ⟨_, _, q2⟩ | ⟨_, q2, _⟩⟩ | ⟨q, ⟨q2, _⟩ | ⟨_, _, q2⟩ | ⟨_, q2, _⟩⟩
  · exact absurd q2 (by decide)
  · exact Or.inl ⟨q, q2⟩
  · exact absurd rfl q2
  · exact absurd q2 (by decide)
  · exact Or.inr ⟨q, q2⟩
  · exact absurd rfl q2
theorem pc_a2 {w : Nat} {hi : Int} (e1 : (wF3.getD w 0).toInt = hi) : Pc (mX5_allows w (2 : Int32) v M) (fun r => (r = 1 ∧ 0 ≤ v.toInt ∧ v.toInt ≤ hi) ∨ (r = 0 ∧ ¬ (0 ≤ v.toInt ∧ v.toInt ≤ hi))) := by
  refine (pc_al (w := w) 2 v).mono (fun r hr => ?_)
  rw [e1] at hr
  rcases hr with ⟨q, ⟨q2, _⟩ | ⟨_, q2, _⟩ | ⟨_, _, q2⟩⟩ | ⟨q, ⟨q2, _⟩ | ⟨_, q2, _⟩ | ⟨_, _, q2⟩⟩
  · exact absurd q2 (by decide)
  · exact absurd q2 (by decide)
  · exact Or.inl ⟨q, q2⟩
  · exact absurd q2 (by decide)
  · exact absurd q2 (by decide)
  · exact Or.inr ⟨q, q2⟩
/-- a range asked for by both -/
theorem R2.rng {α β : Type} {R : α → β → Prop} {X Y : Option Int32} {P : Prop} {xa : Option α} {xb : Option β} {ya : Option α} {yb : Option β} (hX : Pc X (fun r => (r = 1 ∧ P) ∨ (r = 0 ∧ ¬ P))) (hY : Pc Y (fun r => (r = 1 ∧ P) ∨ (r = 0 ∧ ¬ P))) (h0 : ¬ P → R2 xa xb R) (h1 : P → R2 ya yb R) : R2 (cap X (fun r => ite2 (r = 0) xa ya)) (cap Y (fun r => ite2 (r = 0) xb yb)) R := by
  refine R2.cl hX (fun r p => R2.cr hY (fun r' p' => ?_))
  rcases p with ⟨e, q⟩ | ⟨e, q⟩
  · rcases p' with ⟨e', _⟩ | ⟨_, q'⟩
    · subst e
      subst e'
      exact R2.il (fun z => absurd z (by decide)) (fun _ => R2.ir (fun z => absurd z (by decide)) (fun _ => h1 q))
    · exact absurd q q'
  · rcases p' with ⟨_, q'⟩ | ⟨e', _⟩
    · exact absurd q' q
    · subst e
      subst e'
      exact R2.il (fun _ => R2.ir (fun _ => h0 q) (fun z => absurd rfl z)) (fun z => absurd rfl z)
theorem setSheet_RR (h : SS M N) : R2 (mX6_setSheet 0 x1 x2 x3 M) (mX7_setSheet 135 x1 x2 x3 N) (fun p q => XR (fun _ => 1) p q ∧ SS p.1 q.1) := by
  unfold mX6_setSheet mX7_setSheet mX6_setSheet_b33 mX7_setSheet_b41 mX7_setSheet_b42
  have bt := fun (y : Int32) {lo hi : Int64} {a b : Int} (e1 : lo.toInt = a) (e2 : hi.toInt = b) => (pc_btw (M := N) (Int32.toInt_toInt64 y) e1 e2).mono (fun r (hr : (r = 1 ∧ a ≤ y.toInt ∧ y.toInt ≤ b) ∨ (r = 0 ∧ ¬ (a ≤ y.toInt ∧ y.toInt ≤ b))) => hr)
  refine R2.rng (P := 1 ≤ x1.toInt ∧ x1.toInt ≤ 60) (pc_a0 (w := 0) rfl rfl) (bt x1 rfl rfl) (fun _ => R2.bad1 rfl rfl h) (fun _ => ?_)
  refine R2.rng (P := 0 ≤ x2.toInt ∧ x2.toInt ≤ 200) (pc_a1 (w := 0) rfl) (bt x2 rfl rfl) (fun _ => R2.bad1 rfl rfl h) (fun _ => ?_)
  refine R2.rng (P := 0 ≤ x3.toInt ∧ x3.toInt ≤ 100) (pc_a2 (w := 0) rfl) (bt x3 rfl rfl) (fun _ => R2.bad1 rfl rfl h) (fun _ => ?_)
  refine R2.ok1 (by decide) ?_
  intro p q hp hq
  obtain ⟨N11, r10, u1, u2⟩ := cal_s hq
  have u2 := (chk_s u2).2
  obtain ⟨N14, e14, u2⟩ := bnd_s u2
  have u2 := (chk_s u2).2
  obtain ⟨N17, e17, u2⟩ := bnd_s u2
  cases u2
  refine R2.set (i := (36 : Int32)) (v := x1) (K := fun M15 => bnd ((rd M15 5 3)) (fun x4_62 => cal (mX1_putSheet 5 x1 x2 x3 M15) (fun M19 _ => some (M19, Sum.inl x4_62)))) (R := fun p q => XR (fun _ => 1) p (wr (wr q.1 136 37 x2) 136 38 x3, q.2) ∧ SS p.1 (wr (wr q.1 136 37 x2) 136 38 x3)) h.th (fun M3 N3 hS hc er e5' => ?_) p (N11, r10) hp u1 |> fun w => ?_
  rotate_left
  · refine R2.bl (fun x4 ex => ?_)
    unfold mX1_putSheet
    simp only [cal_bnd, cal_some]
    refine R2.bl (fun M1 e1 => R2.bl (fun M2 e2 => R2.bl (fun M4 e4 => R2.ok ⟨XR.inl ?_ ?_, ?_⟩)))
    · show rd (wr (wr (wr N3 136 36 x1) 136 37 x2) 136 38 x3) 135 5 = 0
      rw [rd_wk (by decide), rd_wk (by decide), rd_wk (by decide), e5']; exact rd_we
    · rw [ex]; exact hS.1.sh.1
    · have hP : PR 5 M4 (upf (upf (upf (row 136 N3) 36 x1) 37 x2) 38 x3) := by rw [e4, e2, e1]; exact hS.1.sheet
      have k20 : KS (fun c _ => 5 ≤ c ∧ c < 13) M3 M4 := by rw [e4, e2, e1]; exact ((KS.rf.wr (by omega)).wr (by omega)).wr (by omega)
      have l20 : KL M3 M4 := by rw [e4, e2, e1]; exact KL.rf.wr.wr.wr
      refine hS.row (f := upf (upf (upf (row 136 N3) 36 x1) 37 x2) 38 x3) hP ?_ (hS.2.2.1.upd (fun i hi => by rw [upf_n (by omega), upf_n (by omega), upf_n (by omega)])) (fun c j hc => k20 c j (by omega)) (fun c j hc => ?_) (hS.2.2.2.2.p5 k20 l20)
      · rw [row_wr, row_wr]
        show upf (upf (row 136 (wr N3 136 36 x1)) 37 x2) 38 x3 = _
        rw [row_wr]
      · rw [rd_wk (by omega), rd_wk (by omega), rd_wk (by omega)]
  · rw [e17, e14]; exact w
theorem setCost_RR (h : SS M N) : R2 (mX6_setCost 0 x1 x2 x3 M) (mX7_setCost 135 x1 x2 x3 N) (fun p q => XR (fun _ => 1) p q ∧ SS p.1 q.1) := by
  unfold mX6_setCost mX7_setCost mX6_setCost_b33 mX7_setCost_b41 mX7_setCost_b42
  have bt := fun (y : Int32) {lo hi : Int64} {a b : Int} (e1 : lo.toInt = a) (e2 : hi.toInt = b) => (pc_btw (M := N) (Int32.toInt_toInt64 y) e1 e2).mono (fun r (hr : (r = 1 ∧ a ≤ y.toInt ∧ y.toInt ≤ b) ∨ (r = 0 ∧ ¬ (a ≤ y.toInt ∧ y.toInt ≤ b))) => hr)
  refine R2.rng (P := 0 ≤ x1.toInt ∧ x1.toInt ≤ 99) (pc_a0 (w := 10) rfl rfl) (bt x1 rfl rfl) (fun _ => R2.bad1 rfl rfl h) (fun _ => ?_)
  refine R2.rng (P := 0 ≤ x2.toInt ∧ x2.toInt ≤ 99) (pc_a1 (w := 10) rfl) (bt x2 rfl rfl) (fun _ => R2.bad1 rfl rfl h) (fun _ => ?_)
  refine R2.rng (P := 0 ≤ x3.toInt ∧ x3.toInt ≤ 99) (pc_a2 (w := 10) rfl) (bt x3 rfl rfl) (fun _ => R2.bad1 rfl rfl h) (fun _ => ?_)
  refine R2.ok1 (by decide) ?_
  intro p q hp hq
  obtain ⟨N11, r10, u1, u2⟩ := cal_s hq
  have u2 := (chk_s u2).2
  obtain ⟨N14, e14, u2⟩ := bnd_s u2
  have u2 := (chk_s u2).2
  obtain ⟨N17, e17, u2⟩ := bnd_s u2
  cases u2
  refine R2.set (i := (49 : Int32)) (v := x1) (K := fun M15 => bnd ((rd M15 5 7)) (fun x4_62 => cal (mX1_putCosts 5 x1 x2 x3 M15) (fun M19 _ => some (M19, Sum.inl x4_62)))) (R := fun p q => XR (fun _ => 1) p (wr (wr q.1 136 50 x2) 136 51 x3, q.2) ∧ SS p.1 (wr (wr q.1 136 50 x2) 136 51 x3)) h.th (fun M3 N3 hS hc er e5' => ?_) p (N11, r10) hp u1 |> fun w => ?_
  rotate_left
  · refine R2.bl (fun x4 ex => ?_)
    unfold mX1_putCosts
    simp only [cal_bnd, cal_some]
    refine R2.bl (fun M1 e1 => R2.bl (fun M2 e2 => R2.bl (fun M4 e4 => R2.ok ⟨XR.inl ?_ ?_, ?_⟩)))
    · show rd (wr (wr (wr N3 136 49 x1) 136 50 x2) 136 51 x3) 135 5 = 0
      rw [rd_wk (by decide), rd_wk (by decide), rd_wk (by decide), e5']; exact rd_we
    · rw [ex]; exact hS.1.co.1
    · have hP : PR 5 M4 (upf (upf (upf (row 136 N3) 49 x1) 50 x2) 51 x3) := by rw [e4, e2, e1]; exact hS.1.costs
      have k20 : KS (fun c _ => 5 ≤ c ∧ c < 13) M3 M4 := by rw [e4, e2, e1]; exact ((KS.rf.wr (by omega)).wr (by omega)).wr (by omega)
      have l20 : KL M3 M4 := by rw [e4, e2, e1]; exact KL.rf.wr.wr.wr
      refine hS.row (f := upf (upf (upf (row 136 N3) 49 x1) 50 x2) 51 x3) hP ?_ (hS.2.2.1.upd (fun i hi => by rw [upf_n (by omega), upf_n (by omega), upf_n (by omega)])) (fun c j hc => k20 c j (by omega)) (fun c j hc => ?_) (hS.2.2.2.2.p5 k20 l20)
      · rw [row_wr, row_wr]
        show upf (upf (row 136 (wr N3 136 49 x1)) 50 x2) 51 x3 = _
        rw [row_wr]
      · rw [rd_wk (by omega), rd_wk (by omega), rd_wk (by omega)]
  · rw [e17, e14]; exact w
end ED2
end
/-! part 60zzx8.edits3 -/
section
/-! setTool, unfold, undo: alike -/
section ED3
variable {g : Gm} {k n m a b s c l e t : Nat} {M M' N N' N0 : Mem} {x x1 x2 x3 y1 y2 y3 v : Int32} {f f' : Nat → Int32}
def PT (t : Nat) (x2 x3 : Int32) : Prop := (0 ≤ x2.toInt ∧ x2.toInt ≤ 9999) ∧ (t ≤ 2 → 0 ≤ x3.toInt ∧ x3.toInt ≤ 9999) ∧ (t = 3 → x2.toInt ≤ x3.toInt ∧ x3.toInt ≤ 9999) ∧ (t = 4 → x3 = 0)
theorem pc_told (ht : t < 5) : Pc (mX7_areTold (Int32.ofNat t) x2 x3 N) (fun r => (r = 1 ∧ PT t x2 x3) ∨ (r = 0 ∧ ¬ PT t x2 x3)) := by
  unfold mX7_areTold mX7_areTold_b48
  have l0 : ((0 : Int64)).toInt = 0 := rfl
  have l9 : ((9999 : Int64)).toInt = 9999 := rfl
  refine Pc.c (pc_btw (Int32.toInt_toInt64 x2) l0 l9) (fun r2 p2 => Pc.i (fun c => Pc.ok (Or.inr ⟨rfl, fun z => ?_⟩)) (fun c => ?_))
  · rcases p2 with ⟨e, _⟩ | ⟨_, q⟩
    · rw [e] at c; exact absurd c (by decide)
    · exact q z.1
  have h2 : 0 ≤ x2.toInt ∧ x2.toInt ≤ 9999 := by
    rcases p2 with ⟨_, q⟩ | ⟨e, _⟩
    · exact q
    · exact absurd e c
  have tt : (Int32.ofNat t).toInt = (t : Int) := t_of (by omega)
  have lowt : t ≤ 2 → Pc (cap (mX7_between (x3).toInt64 (0 : Int64) (9999 : Int64) N) (fun r7 => chk (isB r7) (some r7))) (fun r => (r = 1 ∧ PT t x2 x3) ∨ (r = 0 ∧ ¬ PT t x2 x3)) := by
    intro h
    refine Pc.c (pc_btw (Int32.toInt_toInt64 x3) l0 l9) (fun r p => Pc.k (fun _ => Pc.ok ?_))
    rcases p with ⟨e, q⟩ | ⟨e, q⟩
    · exact Or.inl ⟨e, h2, fun _ => q, fun z => by omega, fun z => by omega⟩
    · exact Or.inr ⟨e, fun z => q (z.2.1 h)⟩
  have ne : ∀ d : Nat, d < 5 → ¬ t = d → ¬ Int32.ofNat t = Int32.ofNat d := fun d hd h z => h (o_inj (by omega) (by omega) z)
  have eq : ∀ d : Nat, d < 5 → Int32.ofNat t = Int32.ofNat d → t = d := fun d hd z => o_inj (by omega) (by omega) z
  refine Pc.i (fun z => lowt (by have := eq 0 (by omega) z; omega)) (fun z0 => Pc.i (fun z => lowt (by have := eq 1 (by omega) z; omega)) (fun z1 => Pc.i (fun z => lowt (by have := eq 2 (by omega) z; omega)) (fun z2 => Pc.i (fun z => ?_) (fun z3 => Pc.i (fun z => Pc.i (fun w => Pc.ok (Or.inl ⟨rfl, h2, fun q => ?_, fun q => ?_, fun _ => w⟩)) (fun w => Pc.ok (Or.inr ⟨rfl, fun q => w (q.2.2.2 (eq 4 (by omega) z))⟩))) (fun z4 => ?_)))))
  · have e3 := eq 3 (by omega) z
    refine Pc.c (pc_btw (Int32.toInt_toInt64 x3) (Int32.toInt_toInt64 x2) l9) (fun r p => Pc.k (fun _ => Pc.ok ?_))
    rcases p with ⟨e, q⟩ | ⟨e, q⟩
    · exact Or.inl ⟨e, h2, fun z => by omega, fun _ => q, fun z => by omega⟩
    · exact Or.inr ⟨e, fun z => q (z.2.2.1 e3)⟩
  · have := eq 4 (by omega) z; omega
  · have := eq 4 (by omega) z; omega
  · exfalso
    have : t = 0 ∨ t = 1 ∨ t = 2 ∨ t = 3 ∨ t = 4 := by omega
    rcases this with rfl | rfl | rfl | rfl | rfl
    · exact z0 rfl
    · exact z1 rfl
    · exact z2 rfl
    · exact z3 rfl
    · exact z4 rfl
theorem tool_c {β : Type} {y : Option β} {R : Mem × (Int32 ⊕ Nat) → β → Prop} (ht : t < 5) (h1 : PT t x2 x3 → R2 (cal (mX0_remember 21 5 M) (fun M16 _ => chk (okb ((2 : Int32) * Int32.ofNat t) 10) (bnd ((rd M16 (5 + 2) (((2 : Int32) * Int32.ofNat t)).toNatClampNeg)) (fun x5_65 => cal (mX1_putTool 5 (Int32.ofNat t) x2 x3 M16) (fun M21 _ => some (M21, Sum.inl x5_65)))))) y R) (h0 : ¬ PT t x2 x3 → R2 (some (M, Sum.inr 0)) y R) : R2 (mX6_setTool 0 (Int32.ofNat t) x2 x3 M) y R := by
  have beh : ∀ (w : Nat) (hi : Int), (wF2.getD w 0).toInt = hi → Pc (mX5_allowsBehind w x2 (1 : Int32) x3 M) (fun r => (r = 1 ∧ (0 ≤ x3.toInt ∧ x3.toInt ≤ hi) ∧ (w = 8 → x2.toInt ≤ x3.toInt)) ∨ (r = 0 ∧ ¬ ((0 ≤ x3.toInt ∧ x3.toInt ≤ hi) ∧ (w = 8 → x2.toInt ≤ x3.toInt)))) := by
    intro w hi e
    unfold mX5_allowsBehind mX5_allowsBehind_b21
    refine Pc.c (pc_a1 (w := w) e) (fun r2 p2 => Pc.i (fun c => Pc.ok (Or.inr ⟨rfl, fun z => ?_⟩)) (fun c => ?_))
    · rcases p2 with ⟨e, _⟩ | ⟨_, q⟩
      · rw [e] at c; exact absurd c (by decide)
      · exact q z.1
    have h2 : 0 ≤ x3.toInt ∧ x3.toInt ≤ hi := by
      rcases p2 with ⟨_, q⟩ | ⟨e, _⟩
      · exact q
      · exact absurd e c
    refine Pc.i (fun w8 => Pc.i (fun z => Pc.ok (Or.inr ⟨rfl, fun q => ?_⟩)) (fun z => Pc.ok (Or.inl ⟨rfl, h2, fun _ => ?_⟩))) (fun w8 => Pc.ok (Or.inl ⟨rfl, h2, fun q => absurd q w8⟩))
    · have z := i_lt.mp z
      have := q.2 w8
      omega
    · have z := i_nlt z
      omega
  have core : ∀ (w : Nat) (hi : Int), (wF0.getD w 0).toInt = 0 → (wF1.getD w 0).toInt = 9999 → (wF2.getD w 0).toInt = hi → (PT t x2 x3 ↔ (0 ≤ x2.toInt ∧ x2.toInt ≤ 9999) ∧ (0 ≤ x3.toInt ∧ x3.toInt ≤ hi) ∧ (w = 8 → x2.toInt ≤ x3.toInt)) → R2 (chk (decide (w < 11)) (cap (mX5_allows w (0 : Int32) x2 M) (fun r7 => ite2 (r7 = 0) (some (M, Sum.inr 0)) (cap (mX5_allowsBehind w x2 (1 : Int32) x3 M) (fun r11 => ite2 (r11 = 0) (some (M, Sum.inr 0)) (cal (mX0_remember 21 5 M) (fun M16 _ => chk (okb ((2 : Int32) * Int32.ofNat t) 10) (bnd ((rd M16 (5 + 2) (((2 : Int32) * Int32.ofNat t)).toNatClampNeg)) (fun x5_65 => cal (mX1_putTool 5 (Int32.ofNat t) x2 x3 M16) (fun M21 _ => some (M21, Sum.inl x5_65))))))))))) y R := by
    intro w hi e0 e1 e2 hP
    refine R2.kl (fun _ => R2.cl (pc_a0 (w := w) e0 e1) (fun r7 p7 => R2.il (fun c => h0 (fun z => ?_)) (fun c => R2.cl (beh w hi e2) (fun r11 p11 => R2.il (fun c2 => h0 (fun z => ?_)) (fun c2 => h1 (hP.mpr ?_))))))
    · rcases p7 with ⟨e, _⟩ | ⟨_, q⟩
      · rw [e] at c; exact absurd c (by decide)
      · exact q (hP.mp z).1
    · rcases p11 with ⟨e, _⟩ | ⟨_, q⟩
      · rw [e] at c2; exact absurd c2 (by decide)
      · exact q (hP.mp z).2
    · have a7 : 0 ≤ x2.toInt ∧ x2.toInt ≤ 9999 := by
        rcases p7 with ⟨_, q⟩ | ⟨e, _⟩
        · exact q
        · exact absurd e c
      have a11 : (0 ≤ x3.toInt ∧ x3.toInt ≤ hi) ∧ (w = 8 → x2.toInt ≤ x3.toInt) := by
        rcases p11 with ⟨_, q⟩ | ⟨e, _⟩
        · exact q
        · exact absurd e c2
      exact ⟨a7, a11⟩
  have n0 : ((0 : Int32)).toInt = 0 := rfl
  unfold mX6_setTool mX6_setTool_b32
  have : t = 0 ∨ t = 1 ∨ t = 2 ∨ t = 3 ∨ t = 4 := by omega
  rcases this with rfl | rfl | rfl | rfl | rfl
  · refine R2.cl (Q := fun r => r = some 5) (Pc.ok rfl) (fun r e => ?_)
    rw [e]
    exact core 5 9999 rfl rfl rfl ⟨fun h => ⟨h.1, h.2.1 (by omega), fun z => by omega⟩, fun h => ⟨h.1, fun _ => h.2.1, fun z => by omega, fun z => by omega⟩⟩
  · refine R2.cl (Q := fun r => r = some 6) (Pc.ok rfl) (fun r e => ?_)
    rw [e]
    exact core 6 9999 rfl rfl rfl ⟨fun h => ⟨h.1, h.2.1 (by omega), fun z => by omega⟩, fun h => ⟨h.1, fun _ => h.2.1, fun z => by omega, fun z => by omega⟩⟩
  · refine R2.cl (Q := fun r => r = some 7) (Pc.ok rfl) (fun r e => ?_)
    rw [e]
    exact core 7 9999 rfl rfl rfl ⟨fun h => ⟨h.1, h.2.1 (by omega), fun z => by omega⟩, fun h => ⟨h.1, fun _ => h.2.1, fun z => by omega, fun z => by omega⟩⟩
  · refine R2.cl (Q := fun r => r = some 8) (Pc.ok rfl) (fun r e => ?_)
    rw [e]
    exact core 8 9999 rfl rfl rfl ⟨fun h => ⟨h.1, by have := h.2.2.1 rfl; have := h.1; omega, fun _ => (h.2.2.1 rfl).1⟩, fun h => ⟨h.1, fun z => by omega, fun _ => ⟨h.2.2 rfl, h.2.1.2⟩, fun z => by omega⟩⟩
  · refine R2.cl (Q := fun r => r = some 9) (Pc.ok rfl) (fun r e => ?_)
    rw [e]
    refine core 9 0 rfl rfl rfl ⟨fun h => ⟨h.1, ?_, fun z => by omega⟩, fun h => ⟨h.1, fun z => by omega, fun z => by omega, fun _ => i_eq.mpr ?_⟩⟩
    · rw [h.2.2.2 rfl, n0]; omega
    · rw [n0]; have := h.2.1; omega
theorem setTool_RR (h : SS M N) : R2 (mX6_setTool 0 x1 x2 x3 M) (mX7_setTool 135 x1 x2 x3 N) (fun p q => XR (fun _ => 1) p q ∧ SS p.1 q.1) := by
  have n0 : ((0 : Int32)).toInt = 0 := rfl
  unfold mX7_setTool
  by_cases hx : 0 ≤ x1.toInt ∧ x1.toInt ≤ 4
  · obtain ⟨t, ht, et⟩ : ∃ t : Nat, t < 5 ∧ x1 = Int32.ofNat t := ⟨x1.toInt.toNat, by omega, o_of hx.1⟩
    subst et
    have tt : (Int32.ofNat t).toInt = (t : Int) := t_of (by omega)
    have n39 : ((39 : Int32)).toInt = 39 := rfl
    have n1 : ((1 : Int32)).toInt = 1 := rfl
    have m2 := i_mulc (a := (2 : Int32)) (b := Int32.ofNat t) (c := 2) rfl (by omega) (by omega)
    have e39 : ((39 : Int32) + (2 : Int32) * Int32.ofNat t).toInt = 39 + 2 * (t : Int) := by rw [i_add (by omega) (by omega)]; omega
    have c39 : ((39 : Int32) + (2 : Int32) * Int32.ofNat t).toNatClampNeg = 39 + 2 * t := by rw [i_clamp, e39]; omega
    have c40 : (((39 : Int32) + (2 : Int32) * Int32.ofNat t) + (1 : Int32)).toNatClampNeg = 40 + 2 * t := by rw [i_clamp, i_add (by omega) (by omega), e39]; omega
    have c2t : ((2 : Int32) * Int32.ofNat t).toNatClampNeg = 2 * t := by rw [i_clamp, m2]; omega
    have c2t1 : ((2 : Int32) * Int32.ofNat t + (1 : Int32)).toNatClampNeg = 2 * t + 1 := by rw [i_clamp, i_add (by omega) (by omega), m2]; omega
    refine R2.cr (pc_told ht) (fun r2 p2 => tool_c ht (fun hp => ?_) (fun hp => ?_))
    · have e2 : ¬ r2 = 0 := by
        rcases p2 with ⟨e, _⟩ | ⟨_, q⟩
        · rw [e]; decide
        · exact absurd hp q
      refine R2.ok1 e2 ?_
      intro p q hp' hq
      obtain ⟨N10, r9, u1, u2⟩ := cal_s hq
      have u2 := (chk_s u2).2
      obtain ⟨N13, e13, u2⟩ := bnd_s u2
      cases u2
      rw [c40] at e13
      refine R2.set (i := (39 : Int32) + (2 : Int32) * Int32.ofNat t) (v := x2) (K := fun M16 => chk (okb ((2 : Int32) * Int32.ofNat t) 10) (bnd ((rd M16 (5 + 2) (((2 : Int32) * Int32.ofNat t)).toNatClampNeg)) (fun x5_65 => cal (mX1_putTool 5 (Int32.ofNat t) x2 x3 M16) (fun M21 _ => some (M21, Sum.inl x5_65))))) (R := fun p q => XR (fun _ => 1) p (wr q.1 136 (40 + 2 * t) x3, q.2) ∧ SS p.1 (wr q.1 136 (40 + 2 * t) x3)) h.th (fun M3 N3 hS hc er e5' => ?_) p (N10, r9) hp' u1 |> fun w => ?_
      rotate_left
      · rw [c39, c2t]
        refine R2.kl (fun _ => R2.bl (fun x5 ex => ?_))
        unfold mX1_putTool
        rw [c2t, c2t1]
        simp only [cal_ite, cal_bnd, cal_chk, cal_some]
        refine R2.il (fun z => ?_) (fun _ => R2.il (fun z => ?_) (fun _ => R2.kl (fun _ => R2.bl (fun M5 e5 => R2.kl (fun _ => R2.bl (fun M8 e8 => R2.ok ⟨XR.inl ?_ ?_, ?_⟩))))))
        · have z := i_lt.mp z
          rw [tt, n0] at z; omega
        · have z := i_le.mp z
          rw [tt, show ((5 : Int32)).toInt = 5 from rfl] at z; omega
        · show rd (wr (wr N3 136 (39 + 2 * t) x2) 136 (40 + 2 * t) x3) 135 5 = 0
          rw [rd_wk (by decide), rd_wk (by decide), e5']; exact rd_we
        · rw [ex]; exact hS.1.tl (2 * t) (by omega)
        · have hP : PR 5 M8 (upf (upf (row 136 N3) (39 + 2 * t) x2) (40 + 2 * t) x3) := by rw [e8, e5]; exact hS.1.tool ht hp.2.2.2
          have k20 : KS (fun c _ => 5 ≤ c ∧ c < 13) M3 M8 := by rw [e8, e5]; exact (KS.rf.wr (by omega)).wr (by omega)
          have l20 : KL M3 M8 := by rw [e8, e5]; exact KL.rf.wr.wr
          refine hS.row (f := upf (upf (row 136 N3) (39 + 2 * t) x2) (40 + 2 * t) x3) hP ?_ (hS.2.2.1.upd (fun i hi => by rw [upf_n (by omega), upf_n (by omega)])) (fun c j hc => k20 c j (by omega)) (fun c j hc => ?_) (hS.2.2.2.2.p5 k20 l20)
          · rw [row_wr]
            show upf (row 136 (wr N3 136 (39 + 2 * t) x2)) (40 + 2 * t) x3 = _
            rw [row_wr]
          · rw [rd_wk (by omega), rd_wk (by omega)]
      · rw [e13]; exact w
    · have e2 : r2 = 0 := by
        rcases p2 with ⟨_, q⟩ | ⟨e, _⟩
        · exact absurd q hp
        · exact e
      exact R2.bad1 e2 rfl h
  · -- no such tool
    have ne : ∀ d : Nat, d < 5 → ¬ x1 = Int32.ofNat d := fun d hd z => hx (by rw [z, t_of (by omega)]; omega)
    have t0 : Pc (mX7_areTold x1 x2 x3 N) (fun r => r = 0) := by
      unfold mX7_areTold
      refine Pc.c (Pc.self _) (fun r2 _ => Pc.i (fun _ => Pc.ok rfl) (fun _ => Pc.i (fun z => absurd z (ne 0 (by omega))) (fun _ => Pc.i (fun z => absurd z (ne 1 (by omega))) (fun _ => Pc.i (fun z => absurd z (ne 2 (by omega))) (fun _ => Pc.i (fun z => absurd z (ne 3 (by omega))) (fun _ => Pc.i (fun z => absurd z (ne 4 (by omega))) (fun _ => Pc.ok rfl)))))))
    refine R2.cr t0 (fun r2 e2 => ?_)
    unfold mX6_setTool mX6_setTool_b32
    refine R2.cl (Q := fun r => r = none) ?_ (fun r e => ?_)
    · unfold mX5_ofTool
      exact Pc.i (fun z => absurd z (ne 0 (by omega))) (fun _ => Pc.i (fun z => absurd z (ne 1 (by omega))) (fun _ => Pc.i (fun z => absurd z (ne 2 (by omega))) (fun _ => Pc.i (fun z => absurd z (ne 3 (by omega))) (fun _ => Pc.i (fun z => absurd z (ne 4 (by omega))) (fun _ => Pc.ok rfl)))))
    · rw [e]
      exact R2.bad1 e2 rfl h
theorem unfold_RR (h : SS M N) : R2 (mX6_unfold 0 M) (mX7_unfold 135 N) (fun p q => p.2 = q.2 ∧ SS p.1 q.1) := by
  intro p q hp hq
  obtain ⟨u1, u2, u3, u4, u5, u6⟩ := unfold_R h.2.1 h.1 p q hp hq
  have kl : KL M p.1 := lX6_unfold (k0 := 0) (KL.rf : KL M M) p hp
  obtain ⟨e, o, h4, h2, h1, he, ho, hr⟩ := id h.2.1
  -- the reference's row and history
  have hN : HI q.1 ∧ rd q.1 136 53 = 0 := by
    unfold mX7_unfold at hq
    obtain ⟨N1, v1, hq⟩ := bnd_s hq
    obtain ⟨N5, _, v2, hq⟩ := cal_s hq
    have hq := (chk_s hq).2
    obtain ⟨x, _, hq⟩ := bnd_s hq
    have hq := (chk_s hq).2
    obtain ⟨N10, v3, hq⟩ := bnd_s hq
    have hq := (chk_s hq).2
    obtain ⟨N13, v4, hq⟩ := bnd_s hq
    have hT := h.th (v := 0)
    rw [← v1] at hT
    have hi5 : HI N5 := hi_rem (e := e) hT.2.2.2.1 hT.2.2.1 (by rw [v1, rd_wj (by decide)]; exact h4) he _ v2
    have l36 := (unf_l 5000 54 N13 (by omega) KS.rf (by omega) q hq).1
    have l36 : KS (fun k j => k = 136 ∧ 54 ≤ j) N13 q.1 := l36
    have f139 : ∀ j, rd q.1 139 j = rd N5 139 j := fun j => by rw [l36 139 j (by omega), v4, rd_wk (by decide), v3, rd_wk (by decide)]
    have f4 : rd q.1 135 4 = rd N5 135 4 := by rw [l36 135 4 (by omega), v4, rd_wk (by decide), v3, rd_wk (by decide)]
    refine ⟨fun i hi hlt => ?_, ?_⟩
    · rw [f4] at hlt
      exact (hi5 i hi hlt).cong (fun p _ => f139 _)
    · rw [l36 136 53 (by omega), v4]
      show rd (wr N10 136 52 0) 136 53 = 0
      rw [rd_wj (by decide), v3]
      exact rd_we
  refine ⟨u1, u4, u3, RI.flat hN.2, hN.1, h.2.2.2.2.ks u5 (fun c j h1 h2 _ z => by unfold SEc at z; omega) (fun j => kl.rl j)⟩
theorem undo_RR (h : SS M N) : R2 (mX6_undo 0 M) (mX7_undo 135 N) (fun p q => p.2 = q.2 ∧ SS p.1 q.1) := by
  intro p q hp hq
  obtain ⟨u1, u2, u3, u4, u5, u6⟩ := undo_R h.2.1 h.1 p q hp hq
  have kl : KL M p.1 := lX6_undo (k0 := 0) (KL.rf : KL M M) p hp
  obtain ⟨e, o, h4, h2, h1, he, ho, hr⟩ := id h.2.1
  have hN : HI q.1 ∧ RI (row 136 q.1) := by
    unfold mX7_undo at hq
    obtain ⟨N1, v1, hq⟩ := bnd_s hq
    have n4 : rd N1 135 4 = Int32.ofNat e := by rw [v1, rd_wj (by decide)]; exact h4
    have hT := h.th (v := 0)
    rw [← v1] at hT
    by_cases z : rd N1 135 4 = 0
    · have hq := ite_t z hq
      cases hq
      exact ⟨hT.2.2.2.1, hT.2.2.1⟩
    · have hq := ite_f z hq
      obtain ⟨N4, v2, hq⟩ := bnd_s hq
      have e0 : 0 < e := by
        apply Decidable.byContradiction
        intro w
        apply z
        rw [n4, show e = 0 by omega]; rfl
      have em : rd N4 135 4 = Int32.ofNat (e - 1) := by
        rw [v2, rd_we, n4, i_eq, i_sub (by rw [t_of (by omega), show ((1 : Int32)).toInt = 1 from rfl]; omega) (by rw [t_of (by omega), show ((1 : Int32)).toInt = 1 from rfl]; omega), t_of (by omega), t_of (by omega), show ((1 : Int32)).toInt = 1 from rfl]; omega
      have f139 : ∀ j, rd N4 139 j = rd N1 139 j := fun j => by rw [v2, rd_wk (by decide)]
      obtain ⟨w1, w2, w3, _, _⟩ := und_l (e := e - 1) (by omega) 5000 0 N4 (by omega) em KS.rf (fun p hp => by omega) q hq
      have w1 : KS SUr N4 q.1 := w1
      refine ⟨fun i hi hlt => ?_, ?_⟩
      · rw [w2, t_of (by omega)] at hlt
        exact (hT.2.2.2.1 i hi (by rw [n4, t_of (by omega)]; omega)).cong (fun p _ => (w1 139 _ (by unfold SUr; omega)).trans (f139 _))
      · exact (hT.2.2.2.1 (e - 1) (by omega) (by rw [n4, t_of (by omega)]; omega)).cong (fun p hp => (w3 p hp).trans (f139 _))
  exact ⟨u1, u4, u3, hN.2, hN.1, h.2.2.2.2.ks u5 (fun c j h1 h2 _ z => by unfold SUc at z; omega) (fun j => kl.rl j)⟩
end ED3
end
/-! part 60zzx9.load -/
section
/-! load: what both hold -/
section LS
variable {M M' N N' : Mem} {x : Int32}
theorem no_step : Pc (mX4_readText 2 1 13 x M) (fun q => rd q.1 13 14 = 0) := by
  unfold mX4_readText
  have go : ∀ (y : Int32) (M1 : Mem), Pc (mX4_readText_b18 2 1 13 y M1) (fun q => rd q.1 13 14 = 0) := by
    intro y M1
    unfold mX4_readText_b18
    refine Pc.b (fun M5 _ => Pc.b (fun M7 _ => Pc.b (fun M9 _ => Pc.b (fun M11 _ => ?_))))
    refine Pc.m pc_clear (fun M15 _ p => ?_)
    have p1 : PR 13 M15 r0 := p.1
    have z : rd M15 13 14 = 0 := p1.ns
    refine Pc.m (Fr.pc (xX4_nextToken (k0 := 2) rfl (KS.rf : KS SLx M15 M15))) (fun M18 _ p2 => ?_)
    have p2 : KS SLx M15 M18 := p2
    refine (Fr.pc (xX4_readText_l47 (k0 := 2) (k1 := 1) (k2 := 13) rfl rfl (KS.rf : KS SLx M18 M18))).mono (fun q hq => ?_)
    have hq : KS SLx M18 q.1 := hq
    rw [hq 13 14 (by unfold SLx; omega), p2 13 14 (by unfold SLx; omega)]; exact z
  exact Pc.k (fun _ => Pc.b (fun M1 _ => Pc.i (fun _ => go _ _) (fun _ => go _ _)))
def SL0 (k j : Nat) : Prop := SLc k j ∨ (k = 0 ∧ j = 1)
def SL1 (k j : Nat) : Prop := SL0 k j ∨ (5 ≤ k ∧ k < 13) ∨ (k = 21 ∧ j = 2)
theorem pc_loadC : Pc (mX6_load 0 x M) (fun q => (q.2 = Sum.inr 0 ∧ q.1 = M) ∨ (q.2 = Sum.inl (-3) ∧ KS SL0 M q.1) ∨ (KS SL1 M q.1 ∧ rd q.1 5 14 = 0 ∧ ∃ r : Int32, q.2 = Sum.inl r ∧ 0 ≤ r.toInt)) := by
  unfold mX6_load mX6_load_b12
  refine Pc.i (fun _ => Pc.ok (Or.inl ⟨rfl, rfl⟩)) (fun _ => Pc.i (fun _ => Pc.b (fun M3 e3 => ?_)) (fun _ => Pc.ok (Or.inl ⟨rfl, rfl⟩)))
  have k3 : KS SL0 M M3 := by rw [e3]; exact KS.rf.wr (Or.inr ⟨rfl, rfl⟩)
  refine Pc.m ((Fr.pc (wX4_readText (k0 := 2) (k1 := 1) (k2 := 13) (x2 := x) rfl rfl (KS.rf : KS SLc M3 M3))).and no_step) (fun M7 r6 p => ?_)
  obtain ⟨p1, p2⟩ := p
  have p1 : KS SLc M3 M7 := p1
  have p2 : rd M7 13 14 = 0 := p2
  have k7 : KS SL0 M M7 := k3.trans (p1.mono (fun c j h => Or.inl h))
  refine Pc.i (fun _ => Pc.ok (Or.inr (Or.inl ⟨rfl, k7⟩))) (fun _ => Pc.m (pc_copyFrom (k := 5) (k' := 13) (M := M7) (Or.inl (by omega))) (fun M11 _ p => ?_))
  obtain ⟨c0, _, _, _, c4⟩ := p
  have c4 : KS (fun c _ => 5 ≤ c ∧ c < 5 + 8) M7 M11 := c4
  unfold mX0_forgetAll
  simp only [cal_bnd, cal_some]
  refine Pc.b (fun M14 e14 => Pc.c (Q := fun r => 0 ≤ r.toInt) ?_ (fun r hr => Pc.ok (Or.inr (Or.inr ⟨?_, ?_, r, rfl, hr⟩))))
  · unfold mX1_bendCount
    have n1 : ((1 : Int32)).toInt = 1 := rfl
    refine Pc.i (fun _ => Pc.ok (by decide)) (fun c => Pc.ok ?_)
    have c : 0 < (rd M14 5 0).toInt := i_nle c
    have hb := Int32.toInt_lt (rd M14 5 0)
    rw [i_sub (by omega) (by omega)]; omega
  · rw [e14]
    exact ((k7.mono (fun c j h => Or.inl h)).trans (c4.mono (fun c j h => Or.inr (Or.inl h)))).wr (Or.inr (Or.inr ⟨rfl, rfl⟩))
  · rw [e14, rd_wk (by decide), c0 14 (by omega) (by omega) (by omega) (by omega) (by omega)]; exact p2
def SR1 (k j : Nat) : Prop := SLr k j ∨ k = 136 ∨ (k = 135 ∧ j = 4)
theorem ld_fr : ∀ (n : Nat) (x2 : Int32) (N1 : Mem), KS SLr N N1 → Pc (mX7_load_l68 135 n x2 N1) (fun q => (q.2 = -3 ∧ KS SLr N q.1) ∨ (KS SR1 N q.1 ∧ q.2 = rd q.1 136 0)) := by
  intro n
  induction n with
  | zero => intro x2 N1 _ q e; cases e
  | succ n IH =>
    intro x2 N1 hk
    have b102 : ∀ N2, KS SLr N N2 → Pc (mX7_load_b102 135 x2 N2) (fun q => (q.2 = -3 ∧ KS SLr N q.1) ∨ (KS SR1 N q.1 ∧ q.2 = rd q.1 136 0)) := by
      intro N2 h2
      unfold mX7_load_b102
      refine Pc.b (fun M25 e25 => Pc.b (fun M27 e27 => ?_))
      have k27 : KS SLr N M27 := by rw [e27, e25]; exact (h2.wr (Or.inr ⟨rfl, by decide⟩)).wr (Or.inr ⟨rfl, by decide⟩)
      refine Pc.i (fun _ => Pc.ok (Or.inl ⟨rfl, k27⟩)) (fun _ => Pc.m (pc_copy (a := 137) (b := 136) (N := M27) (by decide)) (fun M32 _ p => Pc.b (fun M33 e33 => Pc.k (fun _ => Pc.ok (Or.inr ⟨?_, rfl⟩)))))
      have p1 : KS (fun k _ => k = 136) M27 M32 := p.1
      rw [e33]
      exact ((k27.mono (fun c j h => Or.inl h)).trans (p1.mono (fun c j h => Or.inr (Or.inl h)))).wr (Or.inr (Or.inr ⟨rfl, rfl⟩))
    show Pc (mX7_load_b68 135 (mX7_load_l68 135 n) x2 N1) _
    unfold mX7_load_b68 mX7_load_b97 mX7_load_b98
    refine Pc.i (fun _ => b102 N1 hk) (fun _ => Pc.i (fun _ => b102 N1 hk) (fun _ => Pc.m (Fr.pc (wX7_statement (KS.rf : KS SLr N1 N1))) (fun M39 r38 p => ?_)))
    have p : KS SLr N1 M39 := p
    refine Pc.i (fun _ => IH _ _ (hk.trans p)) (fun _ => Pc.m (Fr.pc (wX7_closed (KS.rf : KS SLr M39 M39))) (fun M43 r42 p2 => ?_))
    have p2 : KS SLr M39 M43 := p2
    exact Pc.i (fun _ => IH _ _ ((hk.trans p).trans p2)) (fun _ => IH _ _ ((hk.trans p).trans p2))
theorem pc_loadR : Pc (mX7_load 135 x N) (fun q => KS SLr N q.1 ∨ (KS SR1 N q.1 ∧ q.2 = rd q.1 136 0)) := by
  have go : ∀ y : Int32, Pc (mX7_load_b20 135 x y N) (fun q => KS SLr N q.1 ∨ (KS SR1 N q.1 ∧ q.2 = rd q.1 136 0)) := by
    intro y
    unfold mX7_load_b20
    refine Pc.b (fun M5 e5 => ?_)
    have k5 : KS SLr N M5 := by rw [e5]; exact KS.rf.wr (Or.inr ⟨rfl, by decide⟩)
    refine Pc.i (fun _ => Pc.b (fun M8 e8 => Pc.b (fun M10 e10 => Pc.b (fun M12 e12 => Pc.b (fun M14 e14 => Pc.b (fun M16 e16 => ?_)))))) (fun _ => Pc.ok (Or.inl k5))
    have k16 : KS SLr N M16 := by
      rw [e16, e14, e12, e10, e8]
      exact ((((k5.wr (Or.inr ⟨rfl, by decide⟩)).wr (Or.inr ⟨rfl, by decide⟩)).wr (Or.inr ⟨rfl, by decide⟩)).wr (Or.inr ⟨rfl, by decide⟩)).wr (Or.inr ⟨rfl, by decide⟩)
    refine Pc.m (Fr.pc (wX7_reset (KS.rf : KS SLr M16 M16))) (fun M20 _ p => Pc.m (Fr.pc (wX7_advance (KS.rf : KS SLr M20 M20))) (fun M23 _ p2 => ?_))
    have p : KS SLr M16 M20 := p
    have p2 : KS SLr M20 M23 := p2
    exact (ld_fr 5000 1 M23 ((k16.trans p).trans p2)).mono (fun q hq => hq.imp (fun h => h.2) id)
  unfold mX7_load
  exact Pc.c (Pc.self _) (fun r _ => Pc.i (fun _ => go _) (fun _ => go _))
theorem load_SS (h : SS M N) (hB : BB M N) (hM : MI N) (h7 : rd M 0 1 = rd N 135 7) {p : Mem × (Int32 ⊕ Nat)} {q : Mem × Int32} (hp : mX6_load 0 x M = some p) (hq : mX7_load 135 x N = some q) (hI : MI q.1) : SS p.1 q.1 := by
  have kl : KL M p.1 := lX6_load (k0 := 0) (KL.rf : KL M M) p hp
  have hC := pc_loadC p hp
  have hR := pc_loadR q hq
  have slr : KS SLr N q.1 → KS SL0 M p.1 → SS p.1 q.1 := fun r c =>
    (h.cl (fun k j hk => c k j (by unfold SL0 SLc; omega)) (h.2.2.2.2.ks c (fun k j h1 h2 _ z => by unfold SL0 SLc at z; omega) (fun j => kl.rl j))).ks r (fun k j hk z => by unfold SLr at z; omega)
  rcases load_R hB hM h7 p q hp hq with ⟨e1, e2, _, k⟩ | ⟨_, e2, _, e3 | ⟨e3, hP, z21, z4⟩⟩
  · have k : KS (fun k j => k = 135 ∧ j = 5) N q.1 := k
    exact slr (k.mono (fun c j z => Or.inr ⟨z.1, by omega⟩)) (by rw [e1]; exact KS.rf)
  · refine slr ?_ ?_
    · rcases hR with r | ⟨_, r⟩
      · exact r
      · obtain ⟨n, m, hW⟩ := hI.2.1
        have : rd q.1 136 0 = Int32.ofNat n := hW.1
        rw [e3, this] at r
        have := congrArg Int32.toInt r
        rw [show ((-3 : Int32)).toInt = -3 from rfl, t_of (by have := hW.2.1; omega)] at this; omega
    · rcases hC with ⟨w, _⟩ | ⟨_, w⟩ | ⟨_, _, r, w, hr⟩
      · rw [e2] at w; cases w
      · exact w
      · rw [e2] at w
        have := Sum.inl.inj w
        rw [← this, e3] at hr
        exact absurd hr (by decide)
  · have c1 : KS SL1 M p.1 ∧ rd p.1 5 14 = 0 := by
      rcases hC with ⟨w, _⟩ | ⟨w, _⟩ | ⟨w, w2, _⟩
      · rw [e2] at w; cases w
      · rw [e2] at w
        exact absurd (Sum.inl.inj w) e3
      · exact ⟨w, w2⟩
    obtain ⟨e, o, h4, h2, h1, he, ho, _⟩ := h.2.1
    have f53 : row 136 q.1 53 = 0 := hP.ns.symm.trans c1.2
    refine ⟨hP, ⟨0, o, z4, z21, (c1.1 21 1 (by unfold SL1 SL0 SLc; omega)).trans h1, by omega, ho, fun i hi => by omega⟩, RI.flat f53, fun i hi hlt => ?_, h.2.2.2.2.ks c1.1 (fun k j h1 h2 _ z => by unfold SL1 SL0 SLc at z; omega) (fun j => kl.rl j)⟩
    rw [z4, show ((0 : Int32)).toInt = 0 from rfl] at hlt
    omega
theorem feed_SS {a1 a2 a3 a4 a5 : Int32} (h : SS M N) {p : Mem × Int32} {q : Mem × Int32} (hp : mX6_feed 0 a1 a2 a3 a4 a5 M = some p) (hq : mX7_feed 135 a1 a2 a3 a4 a5 N = some q) : SS p.1 q.1 := by
  have kl : KL M p.1 := lX6_feed (k0 := 0) (KL.rf : KL M M) p hp
  have kM : KS Sfdc M p.1 := xX6_feed (KS.rf : KS Sfdc M M) p hp
  have kN : KS Sfdr N q.1 := xX7_feed (KS.rf : KS Sfdr N N) q hq
  exact (h.cl (fun k j hk => kM k j (by unfold Sfdc; omega)) (h.2.2.2.2.ks kM (fun k j h1 h2 _ z => by unfold Sfdc at z; omega) (fun j => kl.rl j))).ks kN (fun k j hk z => by unfold Sfdr at z; omega)
end LS
end
/-! part 60zzz1.hl -/
section
/-! the law's helpers against the class's calls -/
def LX {β : Type} (val : β → Int64) (num : Nat → Int32) (p : Mem × (β ⊕ Nat)) (z : Mem × (Int32 ⊕ Nat)) : Prop := (∀ c j, rd z.1 c j = rd p.1 c j) ∧ KL p.1 z.1 ∧ ((∃ v, p.2 = Sum.inl v ∧ z.2 = Sum.inl 0 ∧ rl z.1 152 0 = val v) ∨ ∃ e, p.2 = Sum.inr e ∧ z.2 = Sum.inl (num e))
def LXd (num : Nat → Int32) (p : Mem × (UInt64 ⊕ Nat)) (z : Mem × (Int32 ⊕ Nat)) : Prop := (∀ c j, rd z.1 c j = rd p.1 c j) ∧ KL p.1 z.1 ∧ ((∃ v, p.2 = Sum.inl v ∧ z.2 = Sum.inl 0 ∧ z.1.2.2 153 0 = v) ∨ ∃ e, p.2 = Sum.inr e ∧ z.2 = Sum.inl (num e))
def b64 (v : Int32) : Int64 := if v = 0 then 0 else 1
section HL
variable {M N : Mem} {a1 a2 a3 a4 a5 : Int32}
theorem SS.fr {M' N' : Mem} (h : SS M N) (kM : KS SPf M M') (kl : KL M M') (kN : KS SQr N N') : SS M' N' :=
  (h.pl kM kl (fun c j z => Or.inl z)).ks kN (fun c j hc z => by unfold SQr at z; omega)
theorem SS.fw {M' N' : Mem} (h : SS M N) (kM : KS SW M M') (kl : KL M M') (kN : KS SQr N N') : SS M' N' :=
  (h.cl (fun c j hc => kM c j (by show ¬ 133 ≤ c; omega)) (h.2.2.2.2.ks kM (fun c j h1 h2 _ z => by have z : 133 ≤ c := z; omega) (fun j => kl.rl j))).ks kN (fun c j hc z => by unfold SQr at z; omega)
theorem SS.fn {N' : Mem} (h : SS M N) (kN : KS SQr N N') : SS M N' := h.ks kN (fun c j hc z => by unfold SQr at z; omega)
theorem SS.same {M' : Mem} (h : SS M N) (e : ∀ c j, rd M' c j = rd M c j) (kl : KL M M') : SS M' N :=
  h.cl (fun c j _ => e c j) (h.2.2.2.2.ks (S := fun _ _ => False) (fun c j _ => e c j) (fun _ _ _ _ _ z => z) (fun j => kl.rl j))
theorem SS.lx {β : Type} {val : β → Int64} {num : Nat → Int32} {p : Mem × (β ⊕ Nat)} {z : Mem × (Int32 ⊕ Nat)} (h : SS p.1 N) (hx : LX val num p z) : SS z.1 N := h.same hx.1 hx.2.1
theorem SS.lxd {num : Nat → Int32} {p : Mem × (UInt64 ⊕ Nat)} {z : Mem × (Int32 ⊕ Nat)} (h : SS p.1 N) (hx : LXd num p z) : SS z.1 N := h.same hx.1 hx.2.1
theorem wl_129 {v : Int64} : KL M (wl M 152 0 v) := by
  show (if (129 : Nat) = 152 then vp_updL (M.2.1 152) 0 v else M.2.1 129) = M.2.1 129
  rw [if_neg (by decide)]
theorem hl_std {β : Type} {X : Option (Mem × (β ⊕ Nat))} {K : Mem → β → Option (Mem × (Int32 ⊕ Nat))} {G : Mem → Nat → Option (Mem × (Int32 ⊕ Nat))} {val : β → Int64} {num : Nat → Int32} (hK : ∀ M3 v, Pc (K M3 v) (fun z => z = (wl M3 152 0 (val v), Sum.inl 0))) (hG : ∀ M3 e, Pc (G M3 e) (fun z => z = (M3, Sum.inl (num e)))) : Pc (calt X K G) (fun z => ∃ p, X = some p ∧ LX val num p z) := by
  intro z hz
  cases X with
  | none => cases hz
  | some y =>
    obtain ⟨M1, r⟩ := y
    cases r with
    | inl v =>
      have e := hK M1 v z hz
      subst e
      exact ⟨_, rfl, fun _ _ => rfl, wl_129, Or.inl ⟨v, rfl, rfl, rl_we⟩⟩
    | inr w =>
      have e := hG M1 w z hz
      subst e
      exact ⟨_, rfl, fun _ _ => rfl, KL.rf, Or.inr ⟨w, rfl, rfl⟩⟩
theorem hl_dbl {X : Option (Mem × (UInt64 ⊕ Nat))} {K : Mem → UInt64 → Option (Mem × (Int32 ⊕ Nat))} {G : Mem → Nat → Option (Mem × (Int32 ⊕ Nat))} {num : Nat → Int32} (hK : ∀ M3 v, Pc (K M3 v) (fun z => z = (wd M3 153 0 v, Sum.inl 0))) (hG : ∀ M3 e, Pc (G M3 e) (fun z => z = (M3, Sum.inl (num e)))) : Pc (calt X K G) (fun z => ∃ p, X = some p ∧ LXd num p z) := by
  intro z hz
  cases X with
  | none => cases hz
  | some y =>
    obtain ⟨M1, r⟩ := y
    cases r with
    | inl v =>
      have e := hK M1 v z hz
      subst e
      refine ⟨_, rfl, fun _ _ => rfl, rfl, Or.inl ⟨v, rfl, rfl, ?_⟩⟩
      show (wd M1 153 0 v).2.2 153 0 = v
      unfold wd
      simp [vf_upd]
    | inr w =>
      have e := hG M1 w z hz
      subst e
      exact ⟨_, rfl, fun _ _ => rfl, KL.rf, Or.inr ⟨w, rfl, rfl⟩⟩
theorem hk_i {β : Type} {f : β → Int64} : ∀ (M3 : Mem) (v : β), Pc (chk (okb (0 : Int32) 1) (bnd (wl M3 152 ((0 : Int32)).toNatClampNeg (f v)) (fun M7 => some (M7, (Sum.inl (0 : Int32) : Int32 ⊕ Nat))))) (fun z => z = (wl M3 152 0 (f v), Sum.inl 0)) := fun M3 v => Pc.k (fun _ => Pc.b (fun M7 e => Pc.ok (by rw [e]; rfl)))
theorem hk_d : ∀ (M3 : Mem) (v : UInt64), Pc (chk (okb (0 : Int32) 1) (bnd (wd M3 153 ((0 : Int32)).toNatClampNeg v) (fun M7 => some (M7, (Sum.inl (0 : Int32) : Int32 ⊕ Nat))))) (fun z => z = (wd M3 153 0 v, Sum.inl 0)) := fun M3 v => Pc.k (fun _ => Pc.b (fun M7 e => Pc.ok (by rw [e]; rfl)))
theorem hk_b : ∀ (M3 : Mem) (v : Int32), Pc (ite2 (v = 0) (chk (okb (0 : Int32) 1) (bnd (wl M3 152 ((0 : Int32)).toNatClampNeg (0 : Int64)) (fun M8 => some (M8, (Sum.inl (0 : Int32) : Int32 ⊕ Nat))))) (chk (okb (0 : Int32) 1) (bnd (wl M3 152 ((0 : Int32)).toNatClampNeg (1 : Int64)) (fun M8 => some (M8, Sum.inl (0 : Int32)))))) (fun z => z = (wl M3 152 0 (b64 v), Sum.inl 0)) := fun M3 v => Pc.i (fun c => Pc.k (fun _ => Pc.b (fun M7 e => Pc.ok (by rw [e]; unfold b64; rw [if_pos c]; rfl)))) (fun c => Pc.k (fun _ => Pc.b (fun M7 e => Pc.ok (by rw [e]; unfold b64; rw [if_neg c]; rfl))))
theorem hg_1 {w : Nat} : ∀ (M3 : Mem) (e : Nat), Pc (ite2 (e = w) (some (M3, (Sum.inl (1 : Int32) : Int32 ⊕ Nat))) none) (fun z => z = (M3, Sum.inl ((fun _ => (1 : Int32)) e))) := fun M3 e => Pc.i (fun _ => Pc.ok rfl) (fun _ => Pc.n)
theorem hg_2 {w : Nat} (hw : w ≠ 1) : ∀ (M3 : Mem) (e : Nat), Pc (ite2 (e = 1) (some (M3, (Sum.inl (1 : Int32) : Int32 ⊕ Nat))) (ite2 (e = w) (some (M3, Sum.inl (2 : Int32))) none)) (fun z => z = (M3, Sum.inl (nmb2 e))) := fun M3 e => Pc.i (fun c => Pc.ok (by subst c; rfl)) (fun _ => Pc.i (fun c => Pc.ok (by subst c; unfold nmb2; rw [if_neg hw])) (fun _ => Pc.n))
theorem hg_3 : ∀ (M3 : Mem) (e : Nat), Pc (ite2 (e = 1) (some (M3, (Sum.inl (1 : Int32) : Int32 ⊕ Nat))) (ite2 (e = 0) (some (M3, Sum.inl (2 : Int32))) (ite2 (e = 2) (some (M3, Sum.inl (3 : Int32))) none))) (fun z => z = (M3, Sum.inl (nmb3 e))) := fun M3 e => Pc.i (fun c => Pc.ok (by subst c; rfl)) (fun _ => Pc.i (fun c => Pc.ok (by subst c; rfl)) (fun _ => Pc.i (fun c => Pc.ok (by subst c; rfl)) (fun _ => Pc.n)))
theorem hl_load : Pc (mL_load 0 152 a1 M) (fun z => ∃ p, mX6_load 0 a1 M = some p ∧ LX Int32.toInt64 (fun _ => (1 : Int32)) p z) := by
  unfold mL_load
  exact hl_std hk_i hg_1
theorem hl_leg : Pc (mL_leg 0 152 a1 M) (fun z => ∃ p, mX6_leg 0 a1 M = some p ∧ LX Int32.toInt64 (fun _ => (1 : Int32)) p z) := by
  unfold mL_leg
  exact hl_std hk_i hg_1
theorem hl_isUp : Pc (mL_isUp 0 152 a1 M) (fun z => ∃ p, mX6_isUp 0 a1 M = some p ∧ LX b64 (fun _ => (1 : Int32)) p z) := by
  unfold mL_isUp mL_isUp_b15
  exact hl_std hk_b hg_1
theorem hl_linePlace : Pc (mL_linePlace 0 153 a1 M) (fun z => ∃ p, mX6_linePlace 0 a1 M = some p ∧ LXd (fun _ => (1 : Int32)) p z) := by
  unfold mL_linePlace
  exact hl_dbl hk_d hg_1
theorem hl_springBackFor {d1 : UInt64} : Pc (mL_springBackFor 0 153 d1 M) (fun z => ∃ p, mX6_springBackFor 0 d1 M = some p ∧ LXd (fun _ => (1 : Int32)) p z) := by
  unfold mL_springBackFor
  exact hl_dbl hk_d hg_1
theorem hl_tool : Pc (mL_tool 0 152 a1 a2 M) (fun z => ∃ p, mX6_tool 0 a1 a2 M = some p ∧ LX Int32.toInt64 (fun _ => (1 : Int32)) p z) := by
  unfold mL_tool
  exact hl_std hk_i hg_1
theorem hl_finishedCorner : Pc (mL_finishedCorner 0 152 a1 a2 M) (fun z => ∃ p, mX6_finishedCorner 0 a1 a2 M = some p ∧ LX Int32.toInt64 nmb2 p z) := by
  unfold mL_finishedCorner
  exact hl_std hk_i (hg_2 (by decide))
theorem hl_step : Pc (mL_step 0 152 a1 a2 M) (fun z => ∃ p, mX6_step 0 a1 a2 M = some p ∧ LX Int32.toInt64 nmb2 p z) := by
  unfold mL_step
  exact hl_std hk_i (hg_2 (by decide))
theorem hl_reason : Pc (mL_reason 0 152 a1 a2 M) (fun z => ∃ p, mX6_reason 0 a1 a2 M = some p ∧ LX Int32.toInt64 nmb2 p z) := by
  unfold mL_reason
  exact hl_std hk_i (hg_2 (by decide))
theorem hl_gauge : Pc (mL_gauge 0 152 a1 a2 M) (fun z => ∃ p, mX6_gauge 0 a1 a2 M = some p ∧ LX Int32.toInt64 nmb2 p z) := by
  unfold mL_gauge
  exact hl_std hk_i (hg_2 (by decide))
theorem hl_corner : Pc (mL_corner 0 152 a1 a2 a3 a4 M) (fun z => ∃ p, mX6_corner 0 a1 a2 a3 a4 M = some p ∧ LX Int32.toInt64 nmb2 p z) := by
  unfold mL_corner
  exact hl_std hk_i (hg_2 (by decide))
theorem hl_top : Pc (mL_top 0 152 a1 a2 M) (fun z => ∃ p, mX6_top 0 a1 a2 M = some p ∧ LX Int32.toInt64 nmb2 p z) := by
  unfold mL_top
  exact hl_std hk_i (hg_2 (by decide))
theorem hl_hitting : Pc (mL_hitting 0 152 a1 a2 M) (fun z => ∃ p, mX6_hitting 0 a1 a2 M = some p ∧ LX Int32.toInt64 nmb2 p z) := by
  unfold mL_hitting
  exact hl_std hk_i (hg_2 (by decide))
theorem hl_refused : Pc (mL_refused 0 152 a1 M) (fun z => ∃ p, mX6_refused 0 a1 M = some p ∧ LX Int32.toInt64 (fun _ => (1 : Int32)) p z) := by
  unfold mL_refused
  exact hl_std hk_i hg_1
theorem hl_costOf : Pc (mL_costOf 0 152 a1 a2 M) (fun z => ∃ p, mX6_costOf 0 a1 a2 M = some p ∧ LX Int32.toInt64 nmb2 p z) := by
  unfold mL_costOf
  exact hl_std hk_i (hg_2 (by decide))
theorem hl_planned : Pc (mL_planned 0 152 a1 M) (fun z => ∃ p, mX6_planned 0 a1 M = some p ∧ LX Int32.toInt64 (fun _ => (1 : Int32)) p z) := by
  unfold mL_planned
  exact hl_std hk_i hg_1
theorem hl_ordersWith : Pc (mL_ordersWith 0 152 a1 a2 M) (fun z => ∃ p, mX6_ordersWith 0 a1 a2 M = some p ∧ LX (fun v : Int64 => v) nmb2 p z) := by
  unfold mL_ordersWith
  exact hl_std hk_i (hg_2 (by decide))
theorem hl_costIfTurned : Pc (mL_costIfTurned 0 152 a1 M) (fun z => ∃ p, mX6_costIfTurned 0 a1 M = some p ∧ LX Int32.toInt64 nmb2 p z) := by
  unfold mL_costIfTurned
  exact hl_std hk_i (hg_2 (by decide))
theorem hl_fold : Pc (mL_fold 0 152 a1 a2 M) (fun z => ∃ p, mX6_fold 0 a1 a2 M = some p ∧ LX Int32.toInt64 nmb3 p z) := by
  unfold mL_fold
  exact hl_std hk_i hg_3
theorem hl_foldNext : Pc (mL_foldNext 0 152 M) (fun z => ∃ p, mX6_foldNext 0 M = some p ∧ LX Int32.toInt64 (fun _ => (1 : Int32)) p z) := by
  unfold mL_foldNext
  exact hl_std hk_i hg_1
theorem hl_setLeg : Pc (mL_setLeg 0 152 a1 a2 M) (fun z => ∃ p, mX6_setLeg 0 a1 a2 M = some p ∧ LX Int32.toInt64 nmb3 p z) := by
  unfold mL_setLeg
  exact hl_std hk_i hg_3
theorem hl_setDirection : Pc (mL_setDirection 0 152 a1 a2 M) (fun z => ∃ p, mX6_setDirection 0 a1 a2 M = some p ∧ LX b64 nmb2 p z) := by
  unfold mL_setDirection mL_setDirection_b16
  exact hl_std hk_b (hg_2 (by decide))
theorem hl_setTool : Pc (mL_setTool 0 152 a1 a2 a3 M) (fun z => ∃ p, mX6_setTool 0 a1 a2 a3 M = some p ∧ LX Int32.toInt64 (fun _ => (1 : Int32)) p z) := by
  unfold mL_setTool
  exact hl_std hk_i hg_1
theorem hl_setSheet : Pc (mL_setSheet 0 152 a1 a2 a3 M) (fun z => ∃ p, mX6_setSheet 0 a1 a2 a3 M = some p ∧ LX Int32.toInt64 (fun _ => (1 : Int32)) p z) := by
  unfold mL_setSheet
  exact hl_std hk_i hg_1
theorem hl_setCost : Pc (mL_setCost 0 152 a1 a2 a3 M) (fun z => ∃ p, mX6_setCost 0 a1 a2 a3 M = some p ∧ LX Int32.toInt64 (fun _ => (1 : Int32)) p z) := by
  unfold mL_setCost
  exact hl_std hk_i hg_1
theorem hl_written : Pc (mL_written 0 152 a1 M) (fun z => ∃ p, mX6_written 0 a1 M = some p ∧ LX Int32.toInt64 (fun _ => (1 : Int32)) p z) := by
  unfold mL_written
  exact hl_std hk_i hg_1
theorem ss_errorKind (h : SS M N) {q} (hq : mX7_errorKind 135 N = some q) : SS M q.1 := h.fn (bX7_errorKind (KS.rf : KS SQr N N) q hq)
theorem ss_errorPosition (h : SS M N) {q} (hq : mX7_errorPosition 135 N = some q) : SS M q.1 := h.fn (bX7_errorPosition (KS.rf : KS SQr N N) q hq)
theorem ss_bends (h : SS M N) {q} (hq : mX7_bends 135 N = some q) : SS M q.1 := h.fn (bX7_bends (KS.rf : KS SQr N N) q hq)
theorem ss_legs (h : SS M N) {q} (hq : mX7_legs 135 N = some q) : SS M q.1 := h.fn (bX7_legs (KS.rf : KS SQr N N) q hq)
theorem ss_leg (h : SS M N) (hI : MI N) {p q} (hp : mX6_leg 0 a1 M = some p) (hq : mX7_leg 135 a1 N = some q) : SS p.1 q.1 := h.fr (bX6_leg (k0 := 0) (KS.rf : KS SPf M M) p hp) (lX6_leg (k0 := 0) (KL.rf : KL M M) p hp) (bX7_leg (KS.rf : KS SQr N N) q hq)
theorem ss_isUp (h : SS M N) (hI : MI N) {p q} (hp : mX6_isUp 0 a1 M = some p) (hq : mX7_isUp 135 a1 N = some q) : SS p.1 q.1 := h.fr (bX6_isUp (k0 := 0) (KS.rf : KS SPf M M) p hp) (lX6_isUp (k0 := 0) (KL.rf : KL M M) p hp) (bX7_isUp (KS.rf : KS SQr N N) q hq)
theorem ss_deduction (h : SS M N) {q} (hq : mX7_deduction 135 N = some q) : SS M q.1 := h.fn (bX7_deduction (KS.rf : KS SQr N N) q hq)
theorem ss_flatLength (h : SS M N) {q} (hq : mX7_flatLength 135 N = some q) : SS M q.1 := h.fn (bX7_flatLength (KS.rf : KS SQr N N) q hq)
theorem ss_linePlace (h : SS M N) (hI : MI N) {p q} (hp : mX6_linePlace 0 a1 M = some p) (hq : mX7_linePlace 135 a1 N = some q) : SS p.1 q.1 := h.fr (bX6_linePlace (k0 := 0) (KS.rf : KS SPf M M) p hp) (lX6_linePlace (k0 := 0) (KL.rf : KL M M) p hp) (bX7_linePlace (KS.rf : KS SQr N N) q hq)
theorem ss_ratio (h : SS M N) {q} (hq : mX7_ratio 135 N = some q) : SS M q.1 := h.fn (bX7_ratio (KS.rf : KS SQr N N) q hq)
theorem ss_springBack (h : SS M N) {q} (hq : mX7_springBack 135 N = some q) : SS M q.1 := h.fn (bX7_springBack (KS.rf : KS SQr N N) q hq)
theorem ss_springBackFor {d1 : UInt64} (h : SS M N) (hI : MI N) {p q} (hp : mX6_springBackFor 0 d1 M = some p) (hq : mX7_springBackFor 135 d1 N = some q) : SS p.1 q.1 := h.fr (bX6_springBackFor (k0 := 0) (KS.rf : KS SPf M M) p hp) (lX6_springBackFor (k0 := 0) (KL.rf : KL M M) p hp) (bX7_springBackFor (KS.rf : KS SQr N N) q hq)
theorem ss_swingAngle (h : SS M N) {q} (hq : mX7_swingAngle 135 N = some q) : SS M q.1 := h.fn (bX7_swingAngle (KS.rf : KS SQr N N) q hq)
theorem ss_tool (h : SS M N) (hI : MI N) {p q} (hp : mX6_tool 0 a1 a2 M = some p) (hq : mX7_tool 135 a1 a2 N = some q) : SS p.1 q.1 := h.fr (bX6_tool (k0 := 0) (KS.rf : KS SPf M M) p hp) (lX6_tool (k0 := 0) (KL.rf : KL M M) p hp) (bX7_tool (KS.rf : KS SQr N N) q hq)
theorem ss_finishedWidth (h : SS M N) (hI : MI N) {p q} (hp : mX6_finishedWidth 0 M = some p) (hq : mX7_finishedWidth 135 N = some q) : SS p.1 q.1 := h.fr (bX6_finishedWidth (k0 := 0) (KS.rf : KS SPf M M) p hp) (lX6_finishedWidth (k0 := 0) (KL.rf : KL M M) p hp) (bX7_finishedWidth (KS.rf : KS SQr N N) q hq)
theorem ss_finishedHeight (h : SS M N) (hI : MI N) {p q} (hp : mX6_finishedHeight 0 M = some p) (hq : mX7_finishedHeight 135 N = some q) : SS p.1 q.1 := h.fr (bX6_finishedHeight (k0 := 0) (KS.rf : KS SPf M M) p hp) (lX6_finishedHeight (k0 := 0) (KL.rf : KL M M) p hp) (bX7_finishedHeight (KS.rf : KS SQr N N) q hq)
theorem ss_isFinishedCrossed (h : SS M N) (hI : MI N) {p q} (hp : mX6_isFinishedCrossed 0 M = some p) (hq : mX7_isFinishedCrossed 135 N = some q) : SS p.1 q.1 := h.fr (bX6_isFinishedCrossed (k0 := 0) (KS.rf : KS SPf M M) p hp) (lX6_isFinishedCrossed (k0 := 0) (KL.rf : KL M M) p hp) (bX7_isFinishedCrossed (KS.rf : KS SQr N N) q hq)
theorem ss_finishedCorner (h : SS M N) (hI : MI N) {p q} (hp : mX6_finishedCorner 0 a1 a2 M = some p) (hq : mX7_finishedCorner 135 a1 a2 N = some q) : SS p.1 q.1 := h.fr (bX6_finishedCorner (k0 := 0) (KS.rf : KS SPf M M) p hp) (lX6_finishedCorner (k0 := 0) (KL.rf : KL M M) p hp) (bX7_finishedCorner (KS.rf : KS SQr N N) q hq)
theorem ss_isSymmetric (h : SS M N) {q} (hq : mX7_isSymmetric 135 N = some q) : SS M q.1 := h.fn (bX7_isSymmetric (KS.rf : KS SQr N N) q hq)
theorem ss_longestLeg (h : SS M N) {q} (hq : mX7_longestLeg 135 N = some q) : SS M q.1 := h.fn (bX7_longestLeg (KS.rf : KS SQr N N) q hq)
theorem ss_made (h : SS M N) {q} (hq : mX7_made 135 N = some q) : SS M q.1 := h.fn (bX7_made (KS.rf : KS SQr N N) q hq)
theorem ss_steps (h : SS M N) {q} (hq : mX7_steps 135 N = some q) : SS M q.1 := h.fn (bX7_steps (KS.rf : KS SQr N N) q hq)
theorem ss_step (h : SS M N) (hI : MI N) {p q} (hp : mX6_step 0 a1 a2 M = some p) (hq : mX7_step 135 a1 a2 N = some q) : SS p.1 q.1 := h.fr (bX6_step (k0 := 0) (KS.rf : KS SPf M M) p hp) (lX6_step (k0 := 0) (KL.rf : KL M M) p hp) (bX7_step (KS.rf : KS SQr N N) q hq)
theorem ss_costSoFar (h : SS M N) {q} (hq : mX7_costSoFar 135 N = some q) : SS M q.1 := h.fn (bX7_costSoFar (KS.rf : KS SQr N N) q hq)
theorem ss_reason (h : SS M N) (hI : MI N) {p q} (hp : mX6_reason 0 a1 a2 M = some p) (hq : mX7_reason 135 a1 a2 N = some q) : SS p.1 q.1 := (reason_RR h hI _ _ hp hq).2
theorem ss_gauge (h : SS M N) (hI : MI N) {p q} (hp : mX6_gauge 0 a1 a2 M = some p) (hq : mX7_gauge 135 a1 a2 N = some q) : SS p.1 q.1 := (gauge_RR h hI _ _ hp hq).2
theorem ss_corner (h : SS M N) (hI : MI N) {p q} (hp : mX6_corner 0 a1 a2 a3 a4 M = some p) (hq : mX7_corner 135 a1 a2 a3 a4 N = some q) : SS p.1 q.1 := h.fr (bX6_corner (k0 := 0) (KS.rf : KS SPf M M) p hp) (lX6_corner (k0 := 0) (KL.rf : KL M M) p hp) (bX7_corner (KS.rf : KS SQr N N) q hq)
theorem ss_top (h : SS M N) (hI : MI N) {p q} (hp : mX6_top 0 a1 a2 M = some p) (hq : mX7_top 135 a1 a2 N = some q) : SS p.1 q.1 := h.fr (bX6_top (k0 := 0) (KS.rf : KS SPf M M) p hp) (lX6_top (k0 := 0) (KL.rf : KL M M) p hp) (bX7_top (KS.rf : KS SQr N N) q hq)
theorem ss_hitting (h : SS M N) (hI : MI N) {p q} (hp : mX6_hitting 0 a1 a2 M = some p) (hq : mX7_hitting 135 a1 a2 N = some q) : SS p.1 q.1 := h.fr (bX6_hitting (k0 := 0) (KS.rf : KS SPf M M) p hp) (lX6_hitting (k0 := 0) (KL.rf : KL M M) p hp) (bX7_hitting (KS.rf : KS SQr N N) q hq)
theorem ss_refused (h : SS M N) (hI : MI N) {p q} (hp : mX6_refused 0 a1 M = some p) (hq : mX7_refused 135 a1 N = some q) : SS p.1 q.1 := h.fr (bX6_refused (k0 := 0) (KS.rf : KS SPf M M) p hp) (lX6_refused (k0 := 0) (KL.rf : KL M M) p hp) (bX7_refused (KS.rf : KS SQr N N) q hq)
theorem ss_possible (h : SS M N) (hI : MI N) {p q} (hp : mX6_possible 0 M = some p) (hq : mX7_possible 135 N = some q) : SS p.1 q.1 := h.fr (bX6_possible (k0 := 0) (KS.rf : KS SPf M M) p hp) (lX6_possible (k0 := 0) (KL.rf : KL M M) p hp) (bX7_possible (KS.rf : KS SQr N N) q hq)
theorem ss_stuck (h : SS M N) (hI : MI N) {p q} (hp : mX6_stuck 0 M = some p) (hq : mX7_stuck 135 N = some q) : SS p.1 q.1 := h.fr (bX6_stuck (k0 := 0) (KS.rf : KS SPf M M) p hp) (lX6_stuck (k0 := 0) (KL.rf : KL M M) p hp) (bX7_stuck (KS.rf : KS SQr N N) q hq)
theorem ss_costOf (h : SS M N) (hI : MI N) {p q} (hp : mX6_costOf 0 a1 a2 M = some p) (hq : mX7_costOf 135 a1 a2 N = some q) : SS p.1 q.1 := (costOf_RR h hI _ _ hp hq).2
theorem ss_orders (h : SS M N) (hI : MI N) {p q} (hp : mX6_orders 0 M = some p) (hq : mX7_orders 135 N = some q) : SS p.1 q.1 := (orders_R h hI _ _ hp hq).2
theorem ss_leastCost (h : SS M N) (hI : MI N) {p q} (hp : mX6_leastCost 0 M = some p) (hq : mX7_leastCost 135 N = some q) : SS p.1 q.1 := (leastCost_R h hI _ _ hp hq).2
theorem ss_plannedSteps (h : SS M N) (hI : MI N) {p q} (hp : mX6_plannedSteps 0 M = some p) (hq : mX7_plannedSteps 135 N = some q) : SS p.1 q.1 := (plannedSteps_R h hI _ _ hp hq).2
theorem ss_planned (h : SS M N) (hI : MI N) {p q} (hp : mX6_planned 0 a1 M = some p) (hq : mX7_planned 135 a1 N = some q) : SS p.1 q.1 := (planned_R h hI _ _ hp hq).2
theorem ss_greatestCost (h : SS M N) (hI : MI N) {p q} (hp : mX6_greatestCost 0 M = some p) (hq : mX7_greatestCost 135 N = some q) : SS p.1 q.1 := (greatestCost_R h hI _ _ hp hq).2
theorem ss_ordersWith (h : SS M N) (hI : MI N) {p q} (hp : mX6_ordersWith 0 a1 a2 M = some p) (hq : mX7_ordersWith 135 a1 a2 N = some q) : SS p.1 q.1 := (ordersWith_RR h hI _ _ hp hq).2
theorem ss_lastSteps (h : SS M N) (hI : MI N) {p q} (hp : mX6_lastSteps 0 M = some p) (hq : mX7_lastSteps 135 N = some q) : SS p.1 q.1 := (lastSteps_RR h hI _ _ hp hq).2
theorem ss_mostBends (h : SS M N) (hI : MI N) {p q} (hp : mX6_mostBends 0 M = some p) (hq : mX7_mostBends 135 N = some q) : SS p.1 q.1 := (mostBends_RR h hI _ _ hp hq).2
theorem ss_greatestBeam (h : SS M N) (hI : MI N) {p q} (hp : mX6_greatestBeam 0 M = some p) (hq : mX7_greatestBeam 135 N = some q) : SS p.1 q.1 := beam_S h hI _ _ hp hq
theorem ss_costIfTurned (h : SS M N) (hI : MI N) {p q} (hp : mX6_costIfTurned 0 a1 M = some p) (hq : mX7_costIfTurned 135 a1 N = some q) : SS p.1 q.1 := (costIfTurned_RR h hI _ _ hp hq).2
theorem ss_fold (h : SS M N) (hI : MI N) {p q} (hp : mX6_fold 0 a1 a2 M = some p) (hq : mX7_fold 135 a1 a2 N = some q) : SS p.1 q.1 := (fold_RR h hI _ _ hp hq).2
theorem ss_foldNext (h : SS M N) (hI : MI N) {p q} (hp : mX6_foldNext 0 M = some p) (hq : mX7_foldNext 135 N = some q) : SS p.1 q.1 := (foldNext_RR h hI _ _ hp hq).2
theorem ss_unfold (h : SS M N) (hI : MI N) {p q} (hp : mX6_unfold 0 M = some p) (hq : mX7_unfold 135 N = some q) : SS p.1 q.1 := (unfold_RR h _ _ hp hq).2
theorem ss_setLeg (h : SS M N) (hI : MI N) {p q} (hp : mX6_setLeg 0 a1 a2 M = some p) (hq : mX7_setLeg 135 a1 a2 N = some q) : SS p.1 q.1 := (setLeg_RR h _ _ hp hq).2
theorem ss_setDirection (h : SS M N) (hI : MI N) (hx : a2 = 0 ∨ a2 = 1) {p q} (hp : mX6_setDirection 0 a1 a2 M = some p) (hq : mX7_setDirection 135 a1 a2 N = some q) : SS p.1 q.1 := (setDirection_RR h hx _ _ hp hq).2
theorem ss_setTool (h : SS M N) (hI : MI N) {p q} (hp : mX6_setTool 0 a1 a2 a3 M = some p) (hq : mX7_setTool 135 a1 a2 a3 N = some q) : SS p.1 q.1 := (setTool_RR h _ _ hp hq).2
theorem ss_setSheet (h : SS M N) (hI : MI N) {p q} (hp : mX6_setSheet 0 a1 a2 a3 M = some p) (hq : mX7_setSheet 135 a1 a2 a3 N = some q) : SS p.1 q.1 := (setSheet_RR h _ _ hp hq).2
theorem ss_setCost (h : SS M N) (hI : MI N) {p q} (hp : mX6_setCost 0 a1 a2 a3 M = some p) (hq : mX7_setCost 135 a1 a2 a3 N = some q) : SS p.1 q.1 := (setCost_RR h _ _ hp hq).2
theorem ss_undo (h : SS M N) (hI : MI N) {p q} (hp : mX6_undo 0 M = some p) (hq : mX7_undo 135 N = some q) : SS p.1 q.1 := (undo_RR h _ _ hp hq).2
theorem ss_write (h : SS M N) (hI : MI N) {p q} (hp : mX6_write 0 M = some p) (hq : mX7_write 135 N = some q) : SS p.1 q.1 := h.fw (zX6_write (k0 := 0) (KS.rf : KS SW M M) p hp) (lX6_write (k0 := 0) (KL.rf : KL M M) p hp) (bX7_write (KS.rf : KS SQr N N) q hq)
theorem ss_written (h : SS M N) (hI : MI N) {p q} (hp : mX6_written 0 a1 M = some p) (hq : mX7_written 135 a1 N = some q) : SS p.1 q.1 := h.fr (bX6_written (k0 := 0) (KS.rf : KS SPf M M) p hp) (lX6_written (k0 := 0) (KL.rf : KL M M) p hp) (bX7_written (KS.rf : KS SQr N N) q hq)
end HL
end
/-! part 60zzz3.an -/
section
/-! what the calls answer: the short names -/
section AN
variable {M N : Mem} {x1 x2 x3 : Int32}
theorem an_fold (h : SS M N) (hI : MI N) : R2 (mX6_fold 0 x1 x2 M) (mX7_fold 135 x1 x2 N) (XR (nmb3)) := (fold_RR h hI).mono (fun p q z => z.1)
end AN
end
/-! part 60zzzc.mono -/
section
/-! a lower beam hits no more -/
section MB
variable {g : Gm} {k k1 n m a b s c l e : Nat} {M M' N N' N0 NA NB : Mem} {x x1 x2 v hA hB : Int32}
/-- places laid from the same part are the same -/
def PE (NA NB : Mem) (L : Nat) : Prop := ∀ j, j < L → (rd NA 143 j = rd NB 143 j ∧ rd NA 144 j = rd NB 144 j) ∧ (min (rd NA 141 j).toInt (rd NA 143 j).toInt = min (rd NB 141 j).toInt (rd NB 143 j).toInt ∧ max (rd NA 141 j).toInt (rd NA 143 j).toInt = max (rd NB 141 j).toInt (rd NB 143 j).toInt) ∧ (min (rd NA 142 j).toInt (rd NA 144 j).toInt = min (rd NB 142 j).toInt (rd NB 144 j).toInt ∧ max (rd NA 142 j).toInt (rd NA 144 j).toInt = max (rd NB 142 j).toInt (rd NB 144 j).toInt)
theorem LG.pe {j : Nat} (h1 : LG k M NA j) (h2 : LG k M NB j) : (rd NA 143 j = rd NB 143 j ∧ rd NA 144 j = rd NB 144 j) ∧ (min (rd NA 141 j).toInt (rd NA 143 j).toInt = min (rd NB 141 j).toInt (rd NB 143 j).toInt ∧ max (rd NA 141 j).toInt (rd NA 143 j).toInt = max (rd NB 141 j).toInt (rd NB 143 j).toInt) ∧ (min (rd NA 142 j).toInt (rd NA 144 j).toInt = min (rd NB 142 j).toInt (rd NB 144 j).toInt ∧ max (rd NA 142 j).toInt (rd NA 144 j).toInt = max (rd NB 142 j).toInt (rd NB 144 j).toInt) := by
  obtain ⟨a1, a2, a3, a4, a5, a6⟩ := h1
  obtain ⟨b1, b2, b3, b4, b5, b6⟩ := h2
  refine ⟨⟨a1.symm.trans b1, a2.symm.trans b2⟩, ⟨?_, ?_⟩, ⟨?_, ?_⟩⟩
  · have := congrArg Int32.toInt (a3.symm.trans b3); rwa [i_min, i_min] at this
  · have := congrArg Int32.toInt (a4.symm.trans b4); rwa [i_max, i_max] at this
  · have := congrArg Int32.toInt (a5.symm.trans b5); rwa [i_min, i_min] at this
  · have := congrArg Int32.toInt (a6.symm.trans b6); rwa [i_max, i_max] at this
theorem Ent.pe {x2 x3 x4 x5 x5' : Int32} (hp : PE NA NB n) (hl : l < n) (h5 : x5'.toInt ≤ x5.toInt) (h : Ent NB l x2 x3 x4 x5') : Ent NA l x2 x3 x4 x5 := by
  obtain ⟨_, ⟨p1, p2⟩, ⟨p3, p4⟩⟩ := hp l hl
  unfold Ent at h ⊢
  rw [p1, p2, p3, p4]
  omega
theorem Tch.pe {i j : Nat} (hp : PE NA NB n) (hi : i < n) (hj : j < n) (h : Tch NB i j) : Tch NA i j := by
  obtain ⟨_, ⟨p1, p2⟩, ⟨p3, p4⟩⟩ := hp i hi
  obtain ⟨_, ⟨q1, q2⟩, ⟨q3, q4⟩⟩ := hp j hj
  unfold Tch at h ⊢
  rw [p1, p2, p3, p4, q1, q2, q3, q4]
  exact h
end MB
end
/-! part 60zzzd.gbeam -/
section
/-! the greatest beam: halving and counting down find the same -/
section GB2
variable {g : Gm} {n m a b s c l e : Nat} {M M' N N' N0 : Mem} {x x1 x2 x3 v : Int32}
theorem PB.beam {f : Nat → Int32} (h : PB 13 M f) : PB 13 (wr M (13 + 2) 1 v) (upf f 40 v) := by
  have e : ∀ c j, c ≠ 15 → rd (wr M (13 + 2) 1 v) c j = rd M c j := fun c j hc => rd_wk (by omega)
  have u : ∀ j, j ≠ 40 → upf f 40 v j = f j := fun j hj => upf_n hj
  have lb := h.lb
  have nn := h.n8
  refine ⟨?_, ?_, ?_, fun j hj => ?_, ?_, fun b hb => ?_, ?_, fun j hj => ?_⟩
  · rw [e _ _ (by omega), u _ (by omega)]; exact h.lc
  · rw [u _ (by omega)]; exact lb
  · rw [u _ (by omega), u _ (by omega)]; exact h.nn
  · rw [u 1 (by omega)] at hj
    rw [e _ _ (by omega), u _ (by omega)]; exact h.leg j hj
  · rw [e _ _ (by omega)]; exact h.ub
  · rw [u 0 (by omega)] at hb
    rw [e _ _ (by omega), u _ (by omega)]; exact h.up b hb
  · rw [e _ _ (by omega), u 0 (by omega)]; exact h.uz
  · by_cases q : j = 1
    · subst q
      rw [rd_we]; exact upf_e.symm
    · rw [rd_wj q, u _ (by omega)]; exact h.tl j hj
def FC (N : Mem) (n m x : Nat) : Prop := ∃ M', LI 13 m M' 256 ∧ nb 13 M' = n ∧ PB 13 M' (upf (row 136 N) 40 (Int32.ofNat (100 * x))) ∧ ¬ rc M' (2 ^ n - 1)
end GB2
end
/-! part 60zzze.text -/
section
/-! the text that is written: the StringBuilder and the reference's chars -/
def byc (M : Mem) (i : Nat) : Int32 := rd M (sbv 133 (rd M 133 0)) i
def SBk (k _ : Nat) : Prop := 133 ≤ k
def SWr (k j : Nat) : Prop := k = 151 ∨ (k = 135 ∧ j = 30)
/-- what holds of the builder -/
def BI (M : Mem) (n : Nat) : Prop := rd M 133 1 = 0 ∧ (rd M 133 3).toInt = (n : Int) ∧ n ≤ sbn (rd M 133 0)
/-- the class adds these, the reference -/
def AC (M : Mem) (n : Nat) (cs : List Int32) (M' : Mem) : Prop := KS SBk M M' ∧ (∀ j, rl M' 129 j = rl M 129 j) ∧ BI M' (n + cs.length) ∧ (∀ i, i < n → byc M' i = byc M i) ∧ ∀ i, i < cs.length → byc M' (n + i) = cs.getD i 0
def PC2 (N : Mem) (n : Nat) (cs : List Int32) (N' : Mem) : Prop := KS SWr N N' ∧ (rd N' 135 30).toInt = ((n + cs.length : Nat) : Int) ∧ (∀ i, i < n → rd N' 151 i = rd N 151 i) ∧ ∀ i, i < cs.length → rd N' 151 (n + i) = cs.getD i 0
/-- the texts are alike -/
def TX (M N : Mem) (n : Nat) : Prop := BI M n ∧ (rd N 135 30).toInt = (n : Int) ∧ ∀ i, i < n → byc M i = rd N 151 i ∧ 0 ≤ (rd N 151 i).toInt ∧ (rd N 151 i).toInt ≤ 127
section TXS
variable {M M' M'' N N' N'' : Mem} {n m k : Nat} {cs ds : List Int32} {x x1 v : Int32}
theorem AC.trans (a : AC M n cs M') (b : AC M' (n + cs.length) ds M'') : AC M n (cs ++ ds) M'' := by
  refine ⟨a.1.trans b.1, fun j => (b.2.1 j).trans (a.2.1 j), ?_, fun i hi => ?_, fun i hi => ?_⟩
  · rw [List.length_append, ← Nat.add_assoc]; exact b.2.2.1
  · rw [b.2.2.2.1 i (by omega)]; exact a.2.2.2.1 i hi
  · rw [List.length_append] at hi
    by_cases q : i < cs.length
    · rw [b.2.2.2.1 (n + i) (by omega), a.2.2.2.2 i q, List.getD_eq_getElem?_getD, List.getD_eq_getElem?_getD, List.getElem?_append_left q]
    · have := b.2.2.2.2 (i - cs.length) (by omega)
      rw [show n + cs.length + (i - cs.length) = n + i by omega] at this
      rw [this, List.getD_eq_getElem?_getD, List.getD_eq_getElem?_getD, List.getElem?_append_right (by omega)]
theorem PC2.trans (a : PC2 N n cs N') (b : PC2 N' (n + cs.length) ds N'') : PC2 N n (cs ++ ds) N'' := by
  refine ⟨a.1.trans b.1, ?_, fun i hi => ?_, fun i hi => ?_⟩
  · rw [List.length_append, ← Nat.add_assoc]; exact b.2.1
  · rw [b.2.2.1 i (by omega)]; exact a.2.2.1 i hi
  · rw [List.length_append] at hi
    by_cases q : i < cs.length
    · rw [b.2.2.1 (n + i) (by omega), a.2.2.2 i q, List.getD_eq_getElem?_getD, List.getD_eq_getElem?_getD, List.getElem?_append_left q]
    · have := b.2.2.2 (i - cs.length) (by omega)
      rw [show n + cs.length + (i - cs.length) = n + i by omega] at this
      rw [this, List.getD_eq_getElem?_getD, List.getD_eq_getElem?_getD, List.getElem?_append_right (by omega)]
end TXS
end
/-! part 60zzzh.write -/
section
/-! written alike -/
section WRT
variable {M M' M0 N N' N0 : Mem} {n m k b w : Nat} {x1 v g : Int32}
/-- what is told while it is written -/
def WK (M0 N0 M N : Mem) : Prop := (∀ c j, c < 133 → rd M c j = rd M0 c j) ∧ ∀ j, rd N 136 j = rd N0 136 j
theorem WK.pc {cs : List Int32} (h : WK M0 N0 M N) (p : PC2 N n cs N') : WK M0 N0 M N' := ⟨h.1, fun j => (p.1 136 j (by unfold SWr; omega)).trans (h.2 j)⟩
theorem TX.len (h : TX M N n) : rd M 133 3 = rd N 135 30 := i_eq.mpr (h.1.2.1.trans h.2.1.symm)
end WRT
end
