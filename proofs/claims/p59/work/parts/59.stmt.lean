/-! the class reads the law's text, statement by statement -/
section STx
variable {M M0 : Mem} {u : List Nat} {P : Mem × Unit → Prop} {w n : Nat}
theorem r2_of {α : Type} {x : Option α} {Q : α → Prop} (h : Pc x Q) : R2 x (some ()) (fun a _ => Q a) := fun a _ e _ => h a e
theorem pc_of {α : Type} {x : Option α} {Q : α → Prop} (h : R2 x (some ()) (fun a _ => Q a)) : Pc x Q := fun a e => h a () e rfl
/-- what reading a statement writes -/
abbrev SRd (k j : Nat) : Prop := (k = 2 ∧ 4 ≤ j ∧ j ≤ 7) ∨ k = 3
theorem ks_rd {M M' : Mem} (h : KS SC M M') : KS SRd M M' := h.mono (fun k j h => Or.inl h)
theorem Tu.r {M M' : Mem} (h : Tu u M) (k : KS SRd M M') : Tu u M' := h.ks k (fun j h => by rcases h with h | h <;> omega) (fun h => by rcases h with h | h <;> omega)
/-- digits that spell a number -/
def DG (d : List Nat) (v : Nat) : Prop := (∀ c ∈ d, isDg c) ∧ 0 < d.length ∧ d.length ≤ 4 ∧ nv d = v
def dgB (d : List Nat) (v : Nat) : Bool := d.all (fun c => decide (48 ≤ c) && decide (c ≤ 57)) && decide (0 < d.length) && decide (d.length ≤ 4) && decide (nv d = v)
theorem dgB_s {d : List Nat} {v : Nat} (h : dgB d v = true) : DG d v := by
  unfold dgB at h
  simp only [Bool.and_eq_true, decide_eq_true_eq, List.all_eq_true] at h
  obtain ⟨⟨⟨h1, h2⟩, h3⟩, h4⟩ := h
  exact ⟨fun c hc => h1 c hc, h2, h3, h4⟩
theorem dg_all2 : ∀ q, q < 40 → ∀ r, r < 100 → dgB (dg (100 * q + r)) (100 * q + r) = true := by decide +kernel
theorem dg_all (v : Nat) (h : v < 4000) : dgB (dg v) v = true := by
  have := dg_all2 (v / 100) (by omega) (v % 100) (by omega)
  rw [show 100 * (v / 100) + v % 100 = v by omega] at this
  exact this
theorem dg_ok {v : Nat} (h : v < 4000) : DG (dg v) v := dgB_s (dg_all v h)
/-- a number of a statement is read -/
theorem rn_num {i v : Nat} {a d z : List Nat} {c : Nat} (hw : w < 11) (hw4 : w ≠ 4) (hi : i < cntW w) (hi2 : i < 2) (hu : u = a ++ 32 :: (d ++ c :: z)) (hd : DG d v) (hc : ¬ isDg c) (hT : Tu u M) (h5 : rd M 2 5 = Int32.ofNat a.length) (hb : (rd M 13 10).toInt ≤ 8)
    (h0 : i = 0 → (wF0.getD w 0).toInt ≤ v ∧ (v : Int) ≤ (wF1.getD w 0).toInt) (h1 : i = 1 → (v : Int) ≤ (wF2.getD w 0).toInt ∧ (w = 8 → (rd M 3 0).toInt ≤ v))
    (h : ∀ n' M', Tu u M' → KS SRd M M' → rd M' 2 5 = Int32.ofNat (a.length + 1 + d.length) → rd M' 3 i = Int32.ofNat v → (∀ j, j ≠ i → rd M' 3 j = rd M 3 j) → Pc (mX4_readStatement_l55v1 2 13 w n' 0 (Int32.ofNat (i + 1)) M') P) : Pc (mX4_readStatement_l55v1 2 13 w n 0 (Int32.ofNat i) M) P := by
  have hv : v < 100000 := by
    have h2 := nv_b d hd.1
    have h3 : 10 ^ d.length ≤ 10 ^ 4 := Nat.pow_le_pow_right (by decide) hd.2.2.1
    have h4 := hd.2.2.2
    omega
  refine pc_of (step_n hw hi (fun n' M' e' => r2_of ?_))
  have k' : KS SRd M M' := by rw [e']; exact KS.rf.wr (Or.inr rfl)
  have T' : Tu u M' := hT.r k'
  have g5 : rd M' 2 5 = Int32.ofNat a.length := by rw [e', rd_wk (by omega)]; exact h5
  refine Pc.m (nt_num (b := true) (by rw [hu]; rfl) T' g5 hd.1 hd.2.1 hd.2.2.1 hc) (fun M55 _ ⟨T55, k55, t4, t5, t6, t7⟩ => ?_)
  have hb55 : (rd M55 13 10).toInt ≤ 8 := by rw [k55 13 10 (fun q => by have := q.1; omega), e', rd_wk (by omega)]; exact hb
  have v7 : rd M55 2 7 = Int32.ofNat v := by rw [t7 rfl, hd.2.2.2]
  have tv : (rd M55 2 7).toInt = (v : Int) := by rw [v7, t_of hv]
  have e3 : ∀ j, j ≠ i → rd M55 3 j = rd M 3 j := fun j hj => by rw [k55 3 j (fun q => by have := q.1; omega), e', rd_eq, if_neg (by omega)]
  refine Pc.c (pc_eon (by omega) hb55) (fun r er => Pc.k (fun _ => Pc.b (fun M61 e61 => ?_)))
  have hal : Alw w i 13 M55 := by
    unfold Alw
    by_cases e : i = 0
    · rw [if_pos e, tv]
      exact ⟨h0 e, fun q => absurd q hw4⟩
    · have e1 : i = 1 := by omega
      rw [if_neg e, if_pos e1, tv]
      exact ⟨⟨by omega, (h1 e1).1⟩, fun q => by rw [e3 0 (by omega)]; exact (h1 e1).2 q⟩
  have hr : r = 0 := by
    rcases er with ⟨q, _⟩ | ⟨_, q, _⟩ | ⟨_, ⟨q, _⟩ | ⟨_, q⟩⟩
    · rw [t6] at q; exact absurd q (by decide)
    · exact absurd t6 q
    · exact q
    · exact absurd hal q
  subst hr
  unfold mX4_readStatement_b110v1
  refine Pc.b (fun x hx => ?_)
  have ex : x = Int32.ofNat (i + 1) := hx.trans (o_add (b := 1) (by omega))
  rw [ex]
  rw [c_of (by omega), v7] at e61
  have k61 : KS SRd M M61 := (k'.trans (ks_rd k55)).trans (by rw [e61]; exact KS.rf.wr (Or.inr rfl))
  refine h n' M61 (hT.r k61) k61 ?_ ?_ (fun j hj => ?_)
  · rw [e61, rd_wk (by omega), t5]
    rfl
  · rw [e61, rd_we]
  · rw [e61, rd_eq, if_neg (by omega)]; exact e3 j hj
/-- numbers that there are not -/
theorem rn_no {i : Nat} (hw : w < 11) (hi : cntW w ≤ i) (h3 : i < 3) (h : ∀ n' M', KS SRd M M' → (∀ j, j ≠ i → rd M' 3 j = rd M 3 j) → rd M' 2 5 = rd M 2 5 → Pc (mX4_readStatement_l55v1 2 13 w n' 0 (Int32.ofNat (i + 1)) M') P) : Pc (mX4_readStatement_l55v1 2 13 w n 0 (Int32.ofNat i) M) P :=
  pc_of (step_z hw hi h3 (fun n' M' e => r2_of (h n' M' (by rw [e]; exact KS.rf.wr (Or.inr rfl)) (fun j hj => by rw [e, rd_eq, if_neg (by omega)]) (by rw [e, rd_wk (by omega)]))))
/-- the semicolon -/
theorem rn_end {a z : List Nat} (hu : u = a ++ 59 :: z) (hT : Tu u M) (h5 : rd M 2 5 = Int32.ofNat a.length) (h : ∀ M', Tu u M' → KS SC M M' → rd M' 2 5 = Int32.ofNat (a.length + 1) → Pc (mX4_accept 2 w 13 M') P) : Pc (mX4_readStatement_l55v1 2 13 w n 0 (Int32.ofNat 3) M) P := by
  refine pc_of (step_e (r2_of ?_))
  refine Pc.m (nt_semi hu hT h5) (fun M40 _ ⟨T40, k40, t4, t5, t6, _⟩ => ?_)
  refine Pc.c pc_ein (fun r er => ?_)
  have hr : r = 0 := by
    rcases er with ⟨q, _⟩ | ⟨_, _, q⟩ | ⟨_, q, _⟩
    · rw [t6] at q; exact absurd q (by decide)
    · exact q
    · exact absurd t6 q
  subst hr
  unfold mX4_readStatement_b131v1
  refine Pc.i (fun _ => ?_) (fun q => absurd rfl q)
  exact Pc.m (h M40 T40 k40 t5) (fun M37 _ hq => Pc.ok hq)
/-- a memory of its own for what was read -/
def gh (M : Mem) : Mem := (fun a j => if a = 135 then (if j = 10 then rd M 2 3 else if j = 11 then rd M 2 4 else if j = 12 then rd M 2 5 else if j = 13 then rd M 2 6 else if j = 14 then rd M 2 7 else 0) else if a = 140 then rd M 1 j else 0, M.2)
theorem gh_TT {p q : Nat} {k : Int32} {v : Nat} (hT : Tu u M) (hk : TK p q k v M) (hpq : p ≤ q) (hq : q ≤ u.length) (hp : p < u.length) : TT M (gh M) := by
  have h6 := hT.2.1
  have e3 : (rd (gh M) 135 10).toInt = (u.length : Int) := by show (rd M 2 3).toInt = _; rw [hT.1, t_of (by omega)]
  have e4 : (rd (gh M) 135 11).toInt = (p : Int) := by show (rd M 2 4).toInt = _; rw [hk.1, t_of (by omega)]
  have e5 : (rd (gh M) 135 12).toInt = (q : Int) := by show (rd M 2 5).toInt = _; rw [hk.2.1, t_of (by omega)]
  refine ⟨⟨rfl, by rw [e3]; omega, fun i hi => ?_⟩, rfl, rfl, rfl, fun _ => rfl, by rw [e4]; omega, by rw [e4, e5]; omega, by rw [e5, e3]; omega, fun _ => by rw [e4, e3]; omega⟩
  rw [e3] at hi
  have hi : i < u.length := by omega
  refine Or.inl ⟨rfl, ?_⟩
  show 0 ≤ (rd M 1 i).toInt ∧ (rd M 1 i).toInt ≤ 127
  obtain ⟨b1, b2⟩ := hT.at hi
  rw [hT.2.2.2 i hi, b2]
  have hm : u.getD i 0 ∈ u := by
    rw [List.getD_eq_getElem?_getD, List.getElem?_eq_getElem hi]
    exact List.getElem_mem hi
  have := hT.2.2.1 _ hm
  omega
theorem st_nb : ∀ w, w < 11 → (stN w).length = stLen w ∧ 0 < stLen w ∧ stLen w ≤ 6 ∧ (∀ c ∈ stN w, 97 ≤ c ∧ c ≤ 122) ∧ ∀ j, j < 8 → j < stLen w → Int32.ofNat ((stN w).getD j 0) = (stB w).getD j 0 := by decide +kernel
/-- the word that stands there is found -/
theorem rf_word {a z : List Nat} (hw : w < 11) (hu : u = a ++ (stN w ++ z)) (hz : 0 < z.length) (hT : Tu u M) (hk : TK a.length (a.length + (stN w).length) 2 0 M) (h : Pc (mX4_readStatement_b32v1 2 13 w M) P) : Pc (mX4_readStatement 2 13 M) P := by
  obtain ⟨s1, s2, s3, s4, s5⟩ := st_nb w hw
  have h6 := hT.2.1
  have hlen : u.length = a.length + ((stN w).length + z.length) := by rw [hu, List.length_append, List.length_append]
  have hTT := gh_TT hT hk (by omega) (by omega) (by omega)
  have hSp : Sp (gh M) w := by
    refine ⟨?_, fun j hj => ?_⟩
    · show (rd M 2 5).toInt - (rd M 2 4).toInt = _
      rw [hk.1, hk.2.1, t_of (by omega), t_of (by omega), s1]; omega
    · show rd M 1 ((rd M 2 4).toInt.toNat + j) = _
      rw [hk.1, t_of (by omega), show ((a.length : Int).toNat) = a.length from rfl, hT.2.2.2 _ (by omega), hu, g_at (by omega)]
      exact s5 j (by omega) hj
  unfold mX4_readStatement
  refine Pc.i (fun _ => Pc.k (fun _ => ?_)) (fun q => absurd hk.2.2.1 q)
  have hf : Pc (mX5_find 1 (rd M 2 4) (rd M 2 5 - rd M 2 4) M) (fun r => r = some w) := by
    refine (pc_find hTT).mono (fun r hr => ?_)
    rcases hr with ⟨_, q⟩ | ⟨w', q, h1, h2⟩
    · exact absurd hSp (q w hw)
    · rw [q, h2.one hSp h1 hw]
  refine Pc.c hf (fun r hr => ?_)
  subst hr
  exact Pc.k (fun _ => h)
/-- a statement with one number -/
def sw1 (w v : Nat) : List Nat := stN w ++ 32 :: (dg v ++ [59])
def sw2 (w v v2 : Nat) : List Nat := stN w ++ 32 :: (dg v ++ 32 :: (dg v2 ++ [59]))
theorem nd_59 : ¬ isDg 59 := by unfold isDg; decide
theorem nd_32 : ¬ isDg 32 := by unfold isDg; decide
/-- what is read before a statement is accepted -/
def RdE (u : List Nat) (p : Nat) (M M' : Mem) : Prop := Tu u M' ∧ KS SRd M M' ∧ rd M' 2 5 = Int32.ofNat p
theorem st_1 {v : Nat} {a z : List Nat} (hw : w < 11) (hw4 : w ≠ 4) (h1 : cntW w = 1) (hv : v < 4000) (h0 : (wF0.getD w 0).toInt ≤ v ∧ (v : Int) ≤ (wF1.getD w 0).toInt) (hu : u = a ++ (sw1 w v ++ z)) (hT : Tu u M) (hk : TK a.length (a.length + (stN w).length) 2 0 M) (hb : (rd M 13 10).toInt ≤ 8) (he : Pc (mX4_errorOfWord w 13 M) (fun e => e = 0))
    (h : ∀ M', RdE u (a.length + (sw1 w v).length) M M' → rd M' 3 0 = Int32.ofNat v → Pc (mX4_accept 2 w 13 M') P) : Pc (mX4_readStatement 2 13 M) P := by
  have hd := dg_ok hv
  have hu2 : u = a ++ (stN w ++ (32 :: (dg v ++ 59 :: z))) := by rw [hu]; unfold sw1; simp only [List.append_assoc, List.cons_append, List.nil_append]
  refine rf_word hw hu2 (by simp) hT hk ?_
  unfold mX4_readStatement_b32v1
  refine Pc.c he (fun e e0 => ?_)
  subst e0
  unfold mX4_readStatement_b51v1
  refine rn_num (i := 0) (a := a ++ stN w) (z := z) hw hw4 (by omega) (by omega) (by rw [hu2, List.append_assoc]) hd nd_59 hT (by rw [List.length_append]; exact hk.2.1) hb (fun _ => h0) (fun q => absurd q (by decide)) (fun n1 M1 T1 k1 p1 v1 _ => ?_)
  refine rn_no hw (by omega) (by omega) (fun n2 M2 k2 f2 g2 => ?_)
  refine rn_no hw (by omega) (by omega) (fun n3 M3 k3 f3 g3 => ?_)
  have k03 : KS SRd M M3 := (k1.trans k2).trans k3
  refine rn_end (a := a ++ stN w ++ 32 :: dg v) (z := z) (by rw [hu2]; simp only [List.append_assoc, List.cons_append]) (hT.r k03) ?_ (fun M4 T4 k4 p4 => ?_)
  · rw [g3, g2, p1]
    congr 1
    simp only [List.length_append, List.length_cons]; omega
  · refine h M4 ⟨T4, k03.trans (ks_rd k4), ?_⟩ ?_
    · rw [p4]
      congr 1
      unfold sw1
      simp only [List.length_append, List.length_cons, List.length_nil]; omega
    · rw [k4 3 0 (fun q => by have := q.1; omega), f3 0 (by omega), f2 0 (by omega), v1]
theorem rn_noz {i : Nat} (hw : w < 11) (hi : cntW w ≤ i) (h3 : i < 3) (h : ∀ n' M', KS SRd M M' → (∀ j, j ≠ i → rd M' 3 j = rd M 3 j) → rd M' 2 5 = rd M 2 5 → rd M' 3 i = 0 → Pc (mX4_readStatement_l55v1 2 13 w n' 0 (Int32.ofNat (i + 1)) M') P) : Pc (mX4_readStatement_l55v1 2 13 w n 0 (Int32.ofNat i) M) P :=
  pc_of (step_z hw hi h3 (fun n' M' e => r2_of (h n' M' (by rw [e]; exact KS.rf.wr (Or.inr rfl)) (fun j hj => by rw [e, rd_eq, if_neg (by omega)]) (by rw [e, rd_wk (by omega)]) (by rw [e, rd_we]))))
theorem st_1z {v : Nat} {a z : List Nat} (hw : w < 11) (hw4 : w ≠ 4) (h1 : cntW w = 1) (hv : v < 4000) (h0 : (wF0.getD w 0).toInt ≤ v ∧ (v : Int) ≤ (wF1.getD w 0).toInt) (hu : u = a ++ (sw1 w v ++ z)) (hT : Tu u M) (hk : TK a.length (a.length + (stN w).length) 2 0 M) (hb : (rd M 13 10).toInt ≤ 8) (he : Pc (mX4_errorOfWord w 13 M) (fun e => e = 0))
    (h : ∀ M', RdE u (a.length + (sw1 w v).length) M M' → rd M' 3 0 = Int32.ofNat v → rd M' 3 1 = Int32.ofNat 0 → Pc (mX4_accept 2 w 13 M') P) : Pc (mX4_readStatement 2 13 M) P := by
  have hd := dg_ok hv
  have hu2 : u = a ++ (stN w ++ (32 :: (dg v ++ 59 :: z))) := by rw [hu]; unfold sw1; simp only [List.append_assoc, List.cons_append, List.nil_append]
  refine rf_word hw hu2 (by simp) hT hk ?_
  unfold mX4_readStatement_b32v1
  refine Pc.c he (fun e e0 => ?_)
  subst e0
  unfold mX4_readStatement_b51v1
  refine rn_num (i := 0) (a := a ++ stN w) (z := z) hw hw4 (by omega) (by omega) (by rw [hu2, List.append_assoc]) hd nd_59 hT (by rw [List.length_append]; exact hk.2.1) hb (fun _ => h0) (fun q => absurd q (by decide)) (fun n1 M1 T1 k1 p1 v1 _ => ?_)
  refine rn_noz hw (by omega) (by omega) (fun n2 M2 k2 f2 g2 z2 => ?_)
  refine rn_no hw (by omega) (by omega) (fun n3 M3 k3 f3 g3 => ?_)
  have k03 : KS SRd M M3 := (k1.trans k2).trans k3
  refine rn_end (a := a ++ stN w ++ 32 :: dg v) (z := z) (by rw [hu2]; simp only [List.append_assoc, List.cons_append]) (hT.r k03) ?_ (fun M4 T4 k4 p4 => ?_)
  · rw [g3, g2, p1]
    congr 1
    simp only [List.length_append, List.length_cons]; omega
  · refine h M4 ⟨T4, k03.trans (ks_rd k4), ?_⟩ ?_ ?_
    · rw [p4]
      congr 1
      unfold sw1
      simp only [List.length_append, List.length_cons, List.length_nil]; omega
    · rw [k4 3 0 (fun q => by have := q.1; omega), f3 0 (by omega), f2 0 (by omega), v1]
    · rw [k4 3 1 (fun q => by have := q.1; omega), f3 1 (by omega), z2]; rfl
theorem st_2 {v v2 : Nat} {a z : List Nat} (hw : w < 11) (hw4 : w ≠ 4) (h1 : cntW w = 2) (hv : v < 4000) (hv2 : v2 < 4000) (h0 : (wF0.getD w 0).toInt ≤ v ∧ (v : Int) ≤ (wF1.getD w 0).toInt) (h02 : (v2 : Int) ≤ (wF2.getD w 0).toInt ∧ (w = 8 → v ≤ v2)) (hu : u = a ++ (sw2 w v v2 ++ z)) (hT : Tu u M) (hk : TK a.length (a.length + (stN w).length) 2 0 M) (hb : (rd M 13 10).toInt ≤ 8) (he : Pc (mX4_errorOfWord w 13 M) (fun e => e = 0))
    (h : ∀ M', RdE u (a.length + (sw2 w v v2).length) M M' → rd M' 3 0 = Int32.ofNat v → rd M' 3 1 = Int32.ofNat v2 → Pc (mX4_accept 2 w 13 M') P) : Pc (mX4_readStatement 2 13 M) P := by
  have hd := dg_ok hv
  have hd2 := dg_ok hv2
  have hu2 : u = a ++ (stN w ++ (32 :: (dg v ++ 32 :: (dg v2 ++ 59 :: z)))) := by rw [hu]; unfold sw2; simp only [List.append_assoc, List.cons_append, List.nil_append]
  refine rf_word hw hu2 (by simp) hT hk ?_
  unfold mX4_readStatement_b32v1
  refine Pc.c he (fun e e0 => ?_)
  subst e0
  unfold mX4_readStatement_b51v1
  refine rn_num (i := 0) (a := a ++ stN w) (z := dg v2 ++ 59 :: z) hw hw4 (by omega) (by omega) (by rw [hu2, List.append_assoc]) hd nd_32 hT (by rw [List.length_append]; exact hk.2.1) hb (fun _ => h0) (fun q => absurd q (by decide)) (fun n1 M1 T1 k1 p1 v1 _ => ?_)
  have hb1 : (rd M1 13 10).toInt ≤ 8 := by rw [k1 13 10 (fun q => by rcases q with q | q <;> omega)]; exact hb
  refine rn_num (i := 1) (a := a ++ stN w ++ 32 :: dg v) (z := z) hw hw4 (by omega) (by omega) (by rw [hu2]; simp only [List.append_assoc, List.cons_append]) hd2 nd_59 T1 ?_ hb1 (fun q => absurd q (by decide)) (fun _ => ⟨h02.1, fun q => by rw [v1, t_of (by omega)]; have := h02.2 q; omega⟩) (fun n2 M2 T2 k2 p2 v2' f2 => ?_)
  · rw [p1]
    congr 1
    simp only [List.length_append, List.length_cons]; omega
  refine rn_no hw (by omega) (by omega) (fun n3 M3 k3 f3 g3 => ?_)
  have k03 : KS SRd M M3 := (k1.trans k2).trans k3
  refine rn_end (a := a ++ stN w ++ 32 :: dg v ++ 32 :: dg v2) (z := z) (by rw [hu2]; simp only [List.append_assoc, List.cons_append]) (hT.r k03) ?_ (fun M4 T4 k4 p4 => ?_)
  · rw [g3, p2]
    congr 1
    simp only [List.length_append, List.length_cons]; omega
  · refine h M4 ⟨T4, k03.trans (ks_rd k4), ?_⟩ ?_ ?_
    · rw [p4]
      congr 1
      unfold sw2
      simp only [List.length_append, List.length_cons, List.length_nil]; omega
    · rw [k4 3 0 (fun q => by have := q.1; omega), f3 0 (by omega), f2 0 (by omega), v1]
    · rw [k4 3 1 (fun q => by have := q.1; omega), f3 1 (by omega), v2']
end STx
