/-! the states that the reference comes to -/
def rr (N : Mem) (b : Nat) : Prop := ¬ rd N (135 + 15) b = 0
def LRi (n m : Nat) (N : Mem) (a : Nat) : Prop := (∀ b, b < 256 → rd N (135 + 15) b = 0 ∨ rd N (135 + 15) b = 1) ∧ rr N m ∧ (∀ b, b < 2 ^ n → rr N b → b &&& m = m) ∧ (∀ b, b < a → b < 2 ^ n → rr N b → ∀ c, c < 2 * n → cnb N b c = true → rr N (b ||| 2 ^ (c / 2))) ∧ (∀ b, b < 2 ^ n → rr N b → b = m ∨ ∃ b' c, b' < a ∧ b' < b ∧ c < 2 * n ∧ rr N b' ∧ cnb N b' c = true ∧ b = b' ||| 2 ^ (c / 2))
def LRj (n m : Nat) (N : Mem) (a c : Nat) : Prop := (∀ b, b < 256 → rd N (135 + 15) b = 0 ∨ rd N (135 + 15) b = 1) ∧ rr N m ∧ (∀ b, b < 2 ^ n → rr N b → b &&& m = m) ∧ (∀ b, b < a → b < 2 ^ n → rr N b → ∀ c, c < 2 * n → cnb N b c = true → rr N (b ||| 2 ^ (c / 2))) ∧ (rr N a → ∀ c', c' < c → cnb N a c' = true → rr N (a ||| 2 ^ (c' / 2))) ∧ (∀ b, b < 2 ^ n → rr N b → b = m ∨ ∃ b' c, b' < a + 1 ∧ b' < b ∧ c < 2 * n ∧ rr N b' ∧ cnb N b' c = true ∧ b = b' ||| 2 ^ (c / 2))
/-- what stays while states are reached -/
def RBh (n m : Nat) (N0 N : Mem) : Prop := NM n m N ∧ LOa n m N0 N 0 ∧ (∀ j, rd N (135 + 10) j = 0 ∨ rd N (135 + 10) j = 1)
section R2H
variable {g : Gm} {k n m a b s c l e : Nat} {M M' N N' N0 : Mem} {P : Mem × Unit → Prop} {x x1 : Int32}
theorem RBh.put {j : Nat} {v : Int32} (h : RBh n m N0 N) : RBh n m N0 (wr N (135 + 15) j v) := by
  have e : ∀ k j', k ≠ 150 → rd (wr N (135 + 15) j v) k j' = rd N k j' := fun k j' hk => rd_wk hk
  refine ⟨⟨(e _ _ (by decide)).trans h.1.1, h.1.2.1, (e _ _ (by decide)).trans h.1.2.2.1, h.1.2.2.2⟩, h.2.1.of (fun _ _ _ _ => e _ _ (by decide)) (fun _ _ => rfl), fun j' => ?_⟩
  rw [e _ _ (by decide)]; exact h.2.2 j'
theorem cnb_put {j : Nat} {v : Int32} : cnb (wr N (135 + 15) j v) a c = cnb N a c := by unfold cnb; rw [rd_wk (by decide)]
theorem lr_in (ha : a < 2 ^ n) {ih44 : Int32 → Mem → Option (Mem × Unit)} (H : ∀ N, RBh n m N0 N → LRi n m N (a + 1) → Pc (ih44 (Int32.ofNat (a + 1)) N) P) : ∀ (fuel c : Nat) (N : Mem), RBh n m N0 N → c ≤ 2 * n → LRj n m N a c → Pc (mX7_layReached_l54 135 ih44 fuel (Int32.ofNat a) (Int32.ofNat c) N) P := by
  intro fuel
  induction fuel with
  | zero => intro c N _ _ _ q e; cases e
  | succ fuel IH =>
    intro c N hB hc h
    have hN := hB.1
    have hn := hN.2.1
    have hp := z_pow n hn
    have ca : (Int32.ofNat a).toNatClampNeg = a := c_of (by omega)
    show Pc (mX7_layReached_b54 135 ih44 (mX7_layReached_l54 135 ih44 fuel) (Int32.ofNat a) (Int32.ofNat c) N) _
    unfold mX7_layReached_b54
    have fin : LRi n m N (a + 1) → Pc (mX7_layReached_b107 135 ih44 (Int32.ofNat a) N) P := by
      intro hh
      unfold mX7_layReached_b107
      refine Pc.b (fun x ex => ?_)
      have e : x = Int32.ofNat (a + 1) := by rw [ex]; exact (Int32.ofNat_add a 1).symm
      rw [e]
      exact H N hB hh
    refine Pc.k (fun _ => Pc.i (fun cc => fin ?_) (fun cc => ?_))
    · have cc := i_le.mp cc
      rw [n2_of hN, t_of (by omega)] at cc
      have : c = 2 * n := by omega
      subst this
      refine ⟨h.1, h.2.1, h.2.2.1, fun b hb h2 hr c' hc' ho => ?_, h.2.2.2.2.2⟩
      by_cases e : b = a
      · subst e; exact h.2.2.2.2.1 hr c' hc' ho
      · exact h.2.2.2.1 b (by omega) h2 hr c' hc' ho
    have cc := i_nle cc
    rw [n2_of hN, t_of (by omega)] at cc
    have hc2 : c < 2 * n := by omega
    rw [ca]
    refine Pc.k (fun _ => Pc.i (fun c2 => fin ?_) (fun c2 => ?_))
    · refine ⟨h.1, h.2.1, h.2.2.1, fun b hb h2 hr c' hc' ho => ?_, h.2.2.2.2.2⟩
      by_cases e : b = a
      · subst e; exact absurd c2 hr
      · exact h.2.2.2.1 b (by omega) h2 hr c' hc' ho
    have hra : rr N a := c2
    have hba := h.2.2.1 a ha hra
    have hO := hB.2.1 a (by omega) ha hba
    rw [f_half c (by omega), f_or a (by omega) (c / 2) (by omega), ix16c (by omega) (by omega)]
    refine Pc.k (fun hk1 => Pc.k (fun _ => Pc.k (fun _ => Pc.b (fun M21 e21 => Pc.b (fun x ex => ?_)))))
    have e : x = Int32.ofNat (c + 1) := by rw [ex]; exact (Int32.ofNat_add c 1).symm
    rw [e]
    have hab : a ||| 2 ^ (c / 2) < 2 ^ n := by
      refine Nat.or_lt_two_pow ha ?_
      exact Nat.pow_lt_pow_right (by decide) (by omega)
    have h256 : a ||| 2 ^ (c / 2) < 256 := by omega
    rw [c_of (by omega)] at e21
    -- the value written
    have hv : ∀ x y : Int32, (x = 0 ∨ x = 1) → (y = 0 ∨ y = 1) → vp_nar .boolean (x ||| y) = (if x = 0 ∧ y = 0 then 0 else 1) := by
      intro x y hx hy
      rcases hx with rfl | rfl <;> rcases hy with rfl | rfl <;> decide
    have w1 := h.1 (a ||| 2 ^ (c / 2)) h256
    have w2 := hB.2.2 (16 * a + c)
    rw [hv _ _ w1 w2] at e21
    have hr21 : ∀ b, rr M21 b ↔ rr N b ∨ (b = a ||| 2 ^ (c / 2) ∧ cnb N a c = true) := by
      intro b
      unfold rr
      rw [e21]
      by_cases eb : b = a ||| 2 ^ (c / 2)
      · rw [eb, rd_we]
        unfold cnb
        by_cases z1 : rd N (135 + 15) (a ||| 2 ^ (c / 2)) = 0
        · by_cases z2 : rd N (135 + 10) (16 * a + c) = 0
          · rw [if_pos ⟨z1, z2⟩, decide_eq_true z2]
            exact ⟨fun q => absurd rfl q, fun q => by rcases q with q | ⟨_, q⟩
                                                      · exact absurd z1 q
                                                      · exact absurd q (by decide)⟩
          · rw [if_neg (fun q => z2 q.2), decide_eq_false z2]
            exact ⟨fun _ => Or.inr ⟨rfl, rfl⟩, fun _ => by decide⟩
        · rw [if_neg (fun q => z1 q.1)]
          exact ⟨fun _ => Or.inl z1, fun _ => by decide⟩
      · rw [rd_wj eb]
        exact ⟨fun q => Or.inl q, fun q => q.resolve_right (fun z => eb z.1)⟩
    have hco : ∀ b c', cnb M21 b c' = cnb N b c' := fun b c' => by rw [e21]; exact cnb_put
    have hz : cnb N a c = true → a < (a ||| 2 ^ (c / 2)) := fun ho => (z_set n hn a ha (c / 2) (by omega) ((hO.1 c hc2).2 ho)).2.1
    refine IH (c + 1) M21 (by rw [e21]; exact hB.put) (by omega) ⟨fun b hb => ?_, (hr21 m).mpr (Or.inl h.2.1), fun b hb hr => ?_, fun b hb h2 hr c' hc' ho => ?_, fun hr c' hc' ho => ?_, fun b hb hr => ?_⟩
    · rw [e21]
      by_cases eb : b = a ||| 2 ^ (c / 2)
      · rw [eb, rd_we]
        split
        · exact Or.inl rfl
        · exact Or.inr rfl
      · rw [rd_wj eb]; exact h.1 b hb
    · rcases (hr21 b).mp hr with q | ⟨q, _⟩
      · exact h.2.2.1 b hb q
      · rw [q]; exact z_sup hba
    · rw [hco] at ho
      rcases (hr21 b).mp hr with q | ⟨q, q2⟩
      · exact (hr21 _).mpr (Or.inl (h.2.2.2.1 b hb h2 q c' hc' ho))
      · have := hz q2; omega
    · rw [hco] at ho
      by_cases e : c' = c
      · subst e; exact (hr21 _).mpr (Or.inr ⟨rfl, ho⟩)
      · exact (hr21 _).mpr (Or.inl (h.2.2.2.2.1 hra c' (by omega) ho))
    · rcases (hr21 b).mp hr with q | ⟨q, q2⟩
      · rcases h.2.2.2.2.2 b hb q with e | ⟨b', c', q1, q2, q3, q4, q5, q6⟩
        · exact Or.inl e
        · exact Or.inr ⟨b', c', q1, q2, q3, (hr21 b').mpr (Or.inl q4), by rw [hco]; exact q5, q6⟩
      · have := hz q2
        exact Or.inr ⟨a, c, by omega, by omega, hc2, (hr21 a).mpr (Or.inl hra), by rw [hco]; exact q2, q⟩
theorem lr_out : ∀ (fuel a : Nat) (N : Mem), RBh n m N0 N → a ≤ 2 ^ n → LRi n m N a → Pc (mX7_layReached_l44 135 fuel (Int32.ofNat a) N) (fun q => RBh n m N0 q.1 ∧ LRi n m q.1 (2 ^ n)) := by
  intro fuel
  induction fuel with
  | zero => intro a N _ _ _ q e; cases e
  | succ fuel IH =>
    intro a N hB ha h
    have hN := hB.1
    have hn := hN.2.1
    have hp := z_pow n hn
    show Pc (mX7_layReached_b44 135 (mX7_layReached_l44 135 fuel) (Int32.ofNat a) N) _
    unfold mX7_layReached_b44
    rw [pl_full hN]
    refine Pc.c (Pc.ok (P := fun r => r = Int32.ofNat (2 ^ n - 1)) rfl) (fun r er => ?_)
    subst er
    refine Pc.i (fun c => ?_) (fun c => ?_)
    · have c := i_lt.mp c
      rw [t_of (by omega), t_of (by omega)] at c
      have : a = 2 ^ n := by omega
      subst this
      exact Pc.ok ⟨hB, h⟩
    · have c := i_nlt c
      rw [t_of (by omega), t_of (by omega)] at c
      refine lr_in (n := n) (m := m) (N0 := N0) (by omega) (fun N2 h2 l2 => IH (a + 1) N2 h2 (by omega) l2) 5000 0 N hB (by omega) ⟨h.1, h.2.1, h.2.2.1, h.2.2.2.1, fun _ c' hc' => by omega, fun b hb hr => ?_⟩
      rcases h.2.2.2.2 b hb hr with e | ⟨b', c', q1, q⟩
      · exact Or.inl e
      · exact Or.inr ⟨b', c', by omega, q⟩
theorem lr_init (H : ∀ N, RBh n m N0 N → (∀ b, b < 256 → rd N (135 + 15) b = 0 ∨ rd N (135 + 15) b = 1) → (∀ b, b < 2 ^ n → (rr N b ↔ b = m)) → Pc (mX7_layReached_l44 135 5000 (0 : Int32) N) P) : ∀ (fuel i : Nat) (N : Mem), RBh n m N0 N → (∀ b, b < 256 → rd N (135 + 15) b = 0 ∨ rd N (135 + 15) b = 1) → i ≤ 2 ^ n → (∀ b, b < i → (rr N b ↔ b = m)) → Pc (mX7_layReached_l6 135 fuel (Int32.ofNat i) N) P := by
  intro fuel
  induction fuel with
  | zero => intro i N _ _ _ _ q e; cases e
  | succ fuel IH =>
    intro i N hB hb1 hi h
    have hN := hB.1
    have hn := hN.2.1
    have hp := z_pow n hn
    have hm := hN.2.2.2
    show Pc (mX7_layReached_b6 135 (mX7_layReached_l6 135 fuel) (Int32.ofNat i) N) _
    unfold mX7_layReached_b6
    rw [pl_full hN]
    refine Pc.c (Pc.ok (P := fun r => r = Int32.ofNat (2 ^ n - 1)) rfl) (fun r er => ?_)
    subst er
    have em : rd N (135 + 1) ((52 : Int32)).toNatClampNeg = Int32.ofNat m := hN.2.2.1
    have ci : (Int32.ofNat i).toNatClampNeg = i := c_of (by omega)
    have put : ∀ v : Int32, (v = 0 ∨ v = 1) → i < 2 ^ n → (¬ v = 0 ↔ i = m) → Pc (mX7_layReached_b35 135 (mX7_layReached_l6 135 fuel) (Int32.ofNat i) (Int32.ofNat i) v N) P := by
      intro v hv hi2 hvm
      unfold mX7_layReached_b35
      have ev : vp_nar .boolean v = v := by rcases hv with rfl | rfl <;> decide
      rw [ci, ev]
      refine Pc.k (fun _ => Pc.b (fun M1 e1 => Pc.b (fun x ex => ?_)))
      have e : x = Int32.ofNat (i + 1) := by rw [ex]; exact (Int32.ofNat_add i 1).symm
      rw [e]
      subst e1
      refine IH (i + 1) _ hB.put (fun b hb => ?_) (by omega) (fun b hb => ?_)
      · by_cases q : b = i
        · subst q; rw [rd_we]; exact hv
        · rw [rd_wj q]; exact hb1 b hb
      · unfold rr
        by_cases q : b = i
        · subst q; rw [rd_we]; exact hvm
        · rw [rd_wj q]; exact h b (by omega)
    refine Pc.i (fun c1 => ?_) (fun c1 => Pc.k (fun _ => ?_))
    · have c1 := i_lt.mp c1
      rw [t_of (by omega), t_of (by omega)] at c1
      have e : i = 2 ^ n := by omega
      subst e
      exact H N hB hb1 h
    · have c1 := i_nlt c1
      rw [t_of (by omega), t_of (by omega)] at c1
      rw [em]
      refine Pc.i (fun c2 => put 1 (Or.inr rfl) (by omega) ⟨fun _ => o_inj (by omega) (by omega) c2, fun _ => by decide⟩) (fun c2 => put 0 (Or.inl rfl) (by omega) ⟨fun z => absurd rfl z, fun z => absurd (by rw [z]) c2⟩)
theorem bool_of {k j : Nat} (h : OKm g N) (hb : stdM k j = (0, 1)) : rd N k j = 0 ∨ rd N k j = 1 := by
  have q := h.std k j
  rw [hb] at q
  have q : 0 ≤ (rd N k j).toInt ∧ (rd N k j).toInt ≤ 1 := q
  by_cases z : (rd N k j).toInt = 0
  · exact Or.inl (i_eq.mpr z)
  · exact Or.inr (i_eq.mpr (by show _ = (1 : Int); omega))
theorem pc_layReached (h : OKm g N) (hN : NM n m N) : Pc (mX7_layReached 135 N) (fun q => RBh n m N q.1 ∧ LRi n m q.1 (2 ^ n)) := by
  unfold mX7_layReached
  refine Pc.m (pc_layOrders h hN) (fun N3 _ p => ?_)
  obtain ⟨h3, N3', R3, L3, _⟩ := p
  have h3 : OKm (w2 g) N3 := h3
  have hB : RBh n m N N3 := ⟨N3', L3, fun j => bool_of h3 rfl⟩
  have hm := N3'.2.2.2
  refine lr_init (n := n) (m := m) (N0 := N) (fun N2 hB2 hb2 h2 => lr_out 5000 0 N2 hB2 (by omega) ⟨hb2, (h2 m hm).mpr rfl, fun b hb hr => ?_, fun b hb => by omega, fun b hb hr => Or.inl ((h2 b hb).mp hr)⟩) 5000 0 N3 hB (fun b _ => bool_of h3 rfl) (by omega) (fun b hb => by omega)
  rw [(h2 b hb).mp hr]; exact Nat.and_self m
/-- both come to the same states -/
theorem reach_same (hL : LI k m M 256) (n8 : nb k M ≤ 8) (hB : PB k M (row 136 N0)) (hO : LOa (nb k M) m N0 N 0) (hR : LRi (nb k M) m N (2 ^ nb k M)) (hb : b < 2 ^ nb k M) : rc M b ↔ rr N b := by
  have key : ∀ z b, b < z → b < 2 ^ nb k M → (rc M b ↔ rr N b) := by
    intro z
    induction z with
    | zero => intro b h; omega
    | succ z IH =>
      intro b hz hb
      have b256 := n_256 n8 hb
      constructor
      · intro hr
        rcases hL.2.2.2.2 b b256 hr with e | ⟨b', c, _, q2, q3, q4, q5, q6⟩
        · rw [e]; exact hR.2.1
        · have st := hL.step n8 (by omega) q4 q3 q5
          have hr' := (IH b' (by omega) (by omega)).mp q4
          rw [q6]
          exact hR.2.2.2.1 b' (by omega) (by omega) hr' c st.1 (by rw [← cu_op hL hB hO (by omega) q4 st.1]; exact q5)
      · intro hr
        rcases hR.2.2.2.2 b hb hr with e | ⟨b', c, _, q2, q3, q4, q5, q6⟩
        · rw [e]; exact hL.2.1
        · have hr' := (IH b' (by omega) (by omega)).mpr q4
          have ho : op M b' c = true := by rw [cu_op hL hB hO (by omega) hr' q3]; exact q5
          rw [q6]
          exact (hL.2.2.2.1 b' (by omega) (by omega) hr').2 c (by omega) ho
  exact key (b + 1) b (by omega) hb
end R2H
