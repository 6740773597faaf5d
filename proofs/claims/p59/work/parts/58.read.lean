/-! the class reads the law's text, token by token -/
theorem p_let4 {x : Int32} {M : Mem} : Pc (mX4_isLetter x M) (fun r => r = 0 ↔ ¬ (97 ≤ x.toInt ∧ x.toInt ≤ 122)) := by
  unfold mX4_isLetter
  refine Pc.i (fun c => Pc.ok ?_) (fun c => Pc.i (fun d => Pc.ok ?_) (fun d => Pc.ok ?_))
  · have c := i_lt.mp c; exact ⟨fun _ h => by have := h.1; have e : ((97 : Int32)).toInt = 97 := rfl; omega, fun _ => rfl⟩
  · have d := i_lt.mp d; exact ⟨fun _ h => by have := h.2; have e : ((122 : Int32)).toInt = 122 := rfl; omega, fun _ => rfl⟩
  · have c := i_nlt c
    have d := i_nlt d
    exact ⟨fun h => absurd h (by decide), fun h => absurd ⟨c, d⟩ h⟩
theorem p_dig4 {x : Int32} {M : Mem} : Pc (mX4_isDigit x M) (fun r => r = 0 ↔ ¬ (48 ≤ x.toInt ∧ x.toInt ≤ 57)) := by
  unfold mX4_isDigit
  refine Pc.i (fun c => Pc.ok ?_) (fun c => Pc.i (fun d => Pc.ok ?_) (fun d => Pc.ok ?_))
  · have c := i_lt.mp c; exact ⟨fun _ h => by have := h.1; have e : ((48 : Int32)).toInt = 48 := rfl; omega, fun _ => rfl⟩
  · have d := i_lt.mp d; exact ⟨fun _ h => by have := h.2; have e : ((57 : Int32)).toInt = 57 := rfl; omega, fun _ => rfl⟩
  · have c := i_nlt c
    have d := i_nlt d
    exact ⟨fun h => absurd h (by decide), fun h => absurd ⟨c, d⟩ h⟩
/-- the reader's text -/
def Tu (u : List Nat) (M : Mem) : Prop := rd M 2 3 = Int32.ofNat u.length ∧ u.length ≤ 600 ∧ As7 u ∧ ∀ j, j < u.length → rd M 1 j = Int32.ofNat (u.getD j 0)
theorem Tu.ks {u : List Nat} {M M' : Mem} {S : Nat → Nat → Prop} (h : Tu u M) (k : KS S M M') (h1 : ∀ j, ¬ S 1 j) (h2 : ¬ S 2 3) : Tu u M' := ⟨(k 2 3 h2).trans h.1, h.2.1, h.2.2.1, fun j hj => (k 1 j (h1 j)).trans (h.2.2.2 j hj)⟩
theorem Tu.c {u : List Nat} {M M' : Mem} (h : Tu u M) (k : KS SC M M') : Tu u M' := h.ks k (fun j h => by have := h.1; omega) (fun h => by have := h.2.1; omega)
theorem g_at {a d z : List Nat} {i : Nat} (hi : i < d.length) : (a ++ (d ++ z)).getD (a.length + i) 0 = d.getD i 0 := by
  rw [List.getD_eq_getElem?_getD, List.getElem?_append_right (by omega), List.getElem?_append_left (by omega), ← List.getD_eq_getElem?_getD, show a.length + i - a.length = i by omega]
theorem g_hd {a z : List Nat} {x : Nat} : (a ++ x :: z).getD a.length 0 = x := by
  rw [List.getD_eq_getElem?_getD, List.getElem?_append_right (Nat.le_refl _), Nat.sub_self]; rfl
/-- the byte at a place -/
theorem Tu.at {u : List Nat} {M : Mem} {p : Nat} (h : Tu u M) (hp : p < u.length) : rd M 1 (Int32.ofNat p).toNatClampNeg = Int32.ofNat (u.getD p 0) ∧ (Int32.ofNat (u.getD p 0)).toInt = (u.getD p 0 : Int) := by
  have h6 := h.2.1
  refine ⟨by rw [c_of (by omega)]; exact h.2.2.2 p hp, t_of ?_⟩
  have hm : u.getD p 0 ∈ u := by
    rw [List.getD_eq_getElem?_getD, List.getElem?_eq_getElem hp]
    exact List.getElem_mem hp
  have := h.2.2.1 _ hm
  omega
def isLt (c : Nat) : Prop := 97 ≤ c ∧ c ≤ 122
def isDg (c : Nat) : Prop := 48 ≤ c ∧ c ≤ 57
section RDx
variable {M M0 : Mem} {u : List Nat} {P : Mem × Unit → Prop}
/-- a word is taken to its end -/
theorem tw_go {p m : Nat} (hm : ∀ i, i < m → isLt (u.getD (p + i) 0)) (hm6 : m ≤ 6) (hp : p + m < u.length) (hc : ¬ isLt (u.getD (p + m) 0)) : ∀ (n i : Nat) (M : Mem), i ≤ m → Tu u M → rd M 2 5 = Int32.ofNat (p + i) → rd M 2 4 = Int32.ofNat p → Pc (mX4_takeWord_l0 2 n M) (fun q => rd q.1 2 4 = Int32.ofNat p ∧ rd q.1 2 5 = Int32.ofNat (p + m) ∧ rd q.1 2 6 = 2) := by
  intro n
  induction n with
  | zero => intro i M _ _ _ _; exact Pc.n
  | succ n IH =>
    intro i M hi hT h5 h4
    have h6 := hT.2.1
    show Pc (mX4_takeWord_b0 2 (mX4_takeWord_l0 2 n) M) _
    unfold mX4_takeWord_b0
    rw [hT.1, h5]
    refine Pc.i (fun c => ?_) (fun _ => Pc.k (fun _ => Pc.k (fun _ => Pc.c p_let4 (fun r hr => ?_))))
    · have c := i_le.mp c
      rw [t_of (by omega), t_of (by omega)] at c
      omega
    · obtain ⟨b1, b2⟩ := hT.at (p := p + i) (by omega)
      rw [b1, b2] at hr
      by_cases e : i = m
      · subst e
        refine Pc.i (fun _ => ?_) (fun c => absurd (hr.mpr (fun q => hc (by unfold isLt; omega))) c)
        unfold mX4_takeWord_b39
        have hs : (rd M 2 5 - rd M 2 4).toInt = (i : Int) := by
          rw [h5, h4, i_sub (by rw [t_of (by omega), t_of (by omega)]; omega) (by rw [t_of (by omega), t_of (by omega)]; omega), t_of (by omega), t_of (by omega)]
          omega
        refine Pc.i (fun c => ?_) (fun _ => Pc.b (fun M5 e5 => Pc.ok ?_))
        · have c := i_lt.mp c
          rw [hs, show ((6 : Int32)).toInt = 6 from rfl] at c
          omega
        · rw [e5]
          exact ⟨by rw [rd_eq, if_neg (by omega)]; exact h4, by rw [rd_eq, if_neg (by omega)]; exact h5, rd_we⟩
      · have hl := hm i (by omega)
        unfold isLt at hl
        refine Pc.i (fun c => absurd ⟨by omega, by omega⟩ (hr.mp c)) (fun _ => Pc.b (fun M13 e13 => ?_))
        refine IH (i + 1) M13 (by omega) (hT.c (by rw [e13]; exact KS.rf.wr (by decide))) ?_ ?_
        · rw [e13, rd_we]
          exact o_add (b := 1) (by omega)
        · rw [e13, rd_eq, if_neg (by omega)]; exact h4
/-- the number that digits spell -/
def nv (d : List Nat) : Nat := d.foldl (fun a c => 10 * a + (c - 48)) 0
theorem nv_app {d : List Nat} {c : Nat} : nv (d ++ [c]) = 10 * nv d + (c - 48) := by
  unfold nv; rw [List.foldl_append]; rfl
theorem nv_g : ∀ (d : List Nat) (a : Nat), (∀ c ∈ d, isDg c) → d.foldl (fun a c => 10 * a + (c - 48)) a < (a + 1) * 10 ^ d.length := by
  intro d
  induction d with
  | nil => intro a _; show a < (a + 1) * 1; omega
  | cons c r IH =>
    intro a h
    have h2 := h c (by simp)
    unfold isDg at h2
    have h1 := IH (10 * a + (c - 48)) (fun x hx => h x (List.mem_cons_of_mem _ hx))
    have h3 : (10 * a + (c - 48) + 1) * 10 ^ r.length ≤ (10 * (a + 1)) * 10 ^ r.length := Nat.mul_le_mul_right _ (by omega)
    have h4 : (10 * (a + 1)) * 10 ^ r.length = (a + 1) * 10 ^ (r.length + 1) := by rw [Nat.pow_succ, Nat.mul_comm 10 (a + 1), Nat.mul_assoc, Nat.mul_comm 10]
    show r.foldl (fun a c => 10 * a + (c - 48)) (10 * a + (c - 48)) < (a + 1) * 10 ^ (r.length + 1)
    exact Nat.lt_of_lt_of_le h1 (Nat.le_trans h3 (Nat.le_of_eq h4))
theorem nv_b (d : List Nat) (h : ∀ c ∈ d, isDg c) : nv d < 10 ^ d.length := by
  have h9 := nv_g d 0 h
  rw [Nat.zero_add, Nat.one_mul] at h9
  exact h9
/-- a number is taken to its end -/
theorem tn_go {p : Nat} {d : List Nat} (hd : ∀ i, i < d.length → u.getD (p + i) 0 = d.getD i 0) (hD : ∀ c ∈ d, isDg c) (hm4 : d.length ≤ 4) (hp : p + d.length < u.length) (hc : ¬ isDg (u.getD (p + d.length) 0)) : ∀ (n i : Nat) (M : Mem), i ≤ d.length → Tu u M → rd M 2 5 = Int32.ofNat (p + i) → rd M 2 4 = Int32.ofNat p → rd M 2 7 = Int32.ofNat (nv (d.take i)) → Pc (mX4_takeNumber_l0 2 n M) (fun q => rd q.1 2 4 = Int32.ofNat p ∧ rd q.1 2 5 = Int32.ofNat (p + d.length) ∧ rd q.1 2 6 = 3 ∧ rd q.1 2 7 = Int32.ofNat (nv d)) := by
  intro n
  induction n with
  | zero => intro i M _ _ _ _ _; exact Pc.n
  | succ n IH =>
    intro i M hi hT h5 h4 h7
    have h6 := hT.2.1
    show Pc (mX4_takeNumber_b0 2 (mX4_takeNumber_l0 2 n) M) _
    unfold mX4_takeNumber_b0
    have hs : (rd M 2 5 - rd M 2 4).toInt = (i : Int) := by
      rw [h5, h4, i_sub (by rw [t_of (by omega), t_of (by omega)]; omega) (by rw [t_of (by omega), t_of (by omega)]; omega), t_of (by omega), t_of (by omega)]
      omega
    rw [hT.1]
    refine Pc.i (fun c => ?_) (fun _ => Pc.k (fun _ => Pc.k (fun _ => Pc.c p_dig4 (fun r hr => ?_))))
    · have c := i_le.mp c
      rw [h5, t_of (by omega), t_of (by omega)] at c
      omega
    · obtain ⟨b1, b2⟩ := hT.at (p := p + i) (by omega)
      rw [h5, b1, b2] at hr
      by_cases e : i = d.length
      · subst e
        refine Pc.i (fun _ => ?_) (fun c => absurd (hr.mpr (fun q => hc (by unfold isDg; omega))) c)
        unfold mX4_takeNumber_b76
        refine Pc.i (fun c => ?_) (fun _ => Pc.b (fun M5 e5 => Pc.ok ?_))
        · have c := i_lt.mp c
          rw [hs, show ((4 : Int32)).toInt = 4 from rfl] at c
          omega
        · rw [e5]
          rw [List.take_length] at h7
          exact ⟨by rw [rd_eq, if_neg (by omega)]; exact h4, by rw [rd_eq, if_neg (by omega)]; exact h5, rd_we, by rw [rd_eq, if_neg (by omega)]; exact h7⟩
      · have hil : i < d.length := by omega
        have hdi := hd i hil
        have hmem : d.getD i 0 ∈ d := by
          rw [List.getD_eq_getElem?_getD, List.getElem?_eq_getElem hil]
          exact List.getElem_mem hil
        have hdg := hD _ hmem
        unfold isDg at hdg
        rw [hdi] at hr b1 b2
        refine Pc.i (fun c => absurd ⟨by omega, by omega⟩ (hr.mp c)) (fun _ => Pc.i (fun c => ?_) (fun _ => Pc.k (fun _ => Pc.k (fun _ => Pc.b (fun M18 e18 => ?_)))))
        · have c := i_le.mp c
          rw [hs, show ((4 : Int32)).toInt = 4 from rfl] at c
          omega
        · have htk : d.take (i + 1) = d.take i ++ [d.getD i 0] := by
            rw [List.take_succ, List.getElem?_eq_getElem hil, List.getD_eq_getElem?_getD, List.getElem?_eq_getElem hil]; rfl
          have hnb := nv_b (d.take i) (fun c hc => hD c (List.mem_of_mem_take hc))
          have hnb2 : nv (d.take i) < 1000 := by
            have h9 : (d.take i).length ≤ 3 := by rw [List.length_take]; omega
            have : 10 ^ (d.take i).length ≤ 10 ^ 3 := Nat.pow_le_pow_right (by decide) h9
            omega
          have hv : rd M18 2 7 = Int32.ofNat (nv (d.take (i + 1))) := by
            rw [e18, rd_we, h7, h5, b1, htk, nv_app, i_eq]
            have e1 : ((10 : Int32) * Int32.ofNat (nv (d.take i))).toInt = 10 * (nv (d.take i) : Int) := by
              rw [i_mulc (c := 10) rfl (by rw [t_of (by omega)]; omega) (by rw [t_of (by omega)]; omega), t_of (by omega)]
            have e2 : (Int32.ofNat (d.getD i 0) - (48 : Int32)).toInt = (d.getD i 0 : Int) - 48 := by
              rw [i_sub (by rw [b2]; show _ ≤ _ - (48 : Int); omega) (by rw [b2]; show _ - (48 : Int) ≤ _; omega), b2]; rfl
            rw [i_add (by rw [e1, e2]; omega) (by rw [e1, e2]; omega), e1, e2, t_of (by omega)]
            omega
          unfold mX4_takeNumber_b63
          refine Pc.b (fun M14 e14 => ?_)
          have k18 : KS SC M M18 := by rw [e18]; exact KS.rf.wr (by decide)
          have g5 : rd M18 2 5 = Int32.ofNat (p + i) := by rw [e18, rd_eq, if_neg (by omega)]; exact h5
          have g4 : rd M18 2 4 = Int32.ofNat p := by rw [e18, rd_eq, if_neg (by omega)]; exact h4
          refine IH (i + 1) M14 (by omega) (hT.c (k18.trans (by rw [e14]; exact KS.rf.wr (by decide)))) ?_ ?_ ?_
          · rw [e14, rd_we, g5]
            exact o_add (b := 1) (by omega)
          · rw [e14, rd_eq, if_neg (by omega)]; exact g4
          · rw [e14, rd_eq, if_neg (by omega)]; exact hv
/-- what stands behind the spaces -/
theorem nt_in {n p : Nat} (hT : Tu u M) (h4 : rd M 2 4 = Int32.ofNat p) (hp : p ≤ u.length) (hs : p < u.length → u.getD p 0 ≠ 32 ∧ u.getD p 0 ≠ 10) (h : Pc (mX4_nextToken_b47 2 M) P) : Pc (mX4_nextToken_l8 2 n M) P := by
  have h6 := hT.2.1
  cases n with
  | zero => exact Pc.n
  | succ n =>
    show Pc (mX4_nextToken_b8 2 (mX4_nextToken_l8 2 n) M) P
    unfold mX4_nextToken_b8
    rw [hT.1, h4]
    refine Pc.i (fun _ => h) (fun c => Pc.k (fun _ => Pc.k (fun _ => Pc.c pc_spc4 (fun r hr => ?_))))
    have c := i_nle c
    rw [t_of (by omega), t_of (by omega)] at c
    have hp2 : p < u.length := by omega
    obtain ⟨b1, b2⟩ := hT.at hp2
    obtain ⟨s1, s2⟩ := hs hp2
    refine Pc.i (fun _ => h) (fun c9 => absurd (hr.mpr (fun q => ?_)) c9)
    rw [b1] at q
    rcases q with q | q
    · have := congrArg Int32.toInt q
      rw [b2, show ((32 : Int32)).toInt = 32 from rfl] at this
      omega
    · have := congrArg Int32.toInt q
      rw [b2, show ((10 : Int32)).toInt = 10 from rfl] at this
      omega
theorem nt_sp {n p : Nat} (hT : Tu u M) (h4 : rd M 2 4 = Int32.ofNat p) (hp : p < u.length) (hs : u.getD p 0 = 32) (h : ∀ n', Pc (mX4_nextToken_l8 2 n' (wr M 2 4 (Int32.ofNat (p + 1)))) P) : Pc (mX4_nextToken_l8 2 n M) P := by
  have h6 := hT.2.1
  cases n with
  | zero => exact Pc.n
  | succ n =>
    show Pc (mX4_nextToken_b8 2 (mX4_nextToken_l8 2 n) M) P
    unfold mX4_nextToken_b8
    rw [hT.1, h4]
    refine Pc.i (fun c => ?_) (fun _ => Pc.k (fun _ => Pc.k (fun _ => Pc.c pc_spc4 (fun r hr => ?_))))
    · have c := i_le.mp c
      rw [t_of (by omega), t_of (by omega)] at c
      omega
    · obtain ⟨b1, b2⟩ := hT.at hp
      rw [b1, hs] at hr
      refine Pc.i (fun c9 => absurd (Or.inl rfl) (hr.mp c9)) (fun _ => Pc.b (fun M42 e42 => ?_))
      rw [e42, show Int32.ofNat p + (1 : Int32) = Int32.ofNat (p + 1) from o_add (b := 1) (by omega)]
      exact h n
/-- a token: its kind, its number, where it stands -/
def TK (p q : Nat) (k : Int32) (v : Nat) (M : Mem) : Prop := rd M 2 4 = Int32.ofNat p ∧ rd M 2 5 = Int32.ofNat q ∧ rd M 2 6 = k ∧ (k = 3 → rd M 2 7 = Int32.ofNat v)
/-- begin: what b47 sets first -/
theorem nt_b {p : Nat} (hT : Tu u M) (h4 : rd M 2 4 = Int32.ofNat p) (hp : p < u.length) (h : ∀ M6, Tu u M6 → rd M6 2 4 = Int32.ofNat p → rd M6 2 5 = Int32.ofNat p → rd M6 2 7 = 0 → (isLt (u.getD p 0) → Pc (mX4_takeWord 2 M6) P) ∧ (isDg (u.getD p 0) → Pc (mX4_takeNumber 2 M6) P) ∧ (¬ isLt (u.getD p 0) → ¬ isDg (u.getD p 0) → Pc (mX4_nextToken_b143 2 (if u.getD p 0 = 59 then 4 else 1) M6) P)) : Pc (mX4_nextToken_b47 2 M) P := by
  have h6 := hT.2.1
  unfold mX4_nextToken_b47
  refine Pc.b (fun M4 e4 => Pc.b (fun M6 e6 => ?_))
  have k6 : KS SC M M6 := by rw [e6, e4]; exact (KS.rf.wr (by decide)).wr (by decide)
  have T6 := hT.c k6
  have g4 : rd M6 2 4 = Int32.ofNat p := by rw [e6, rd_eq, if_neg (by omega), e4, rd_eq, if_neg (by omega)]; exact h4
  have g5 : rd M6 2 5 = Int32.ofNat p := by rw [e6, rd_eq, if_neg (by omega), e4, rd_we]; exact h4
  have g7 : rd M6 2 7 = 0 := by rw [e6, rd_we]
  obtain ⟨h1, h2, h3⟩ := h M6 T6 g4 g5 g7
  obtain ⟨b1, b2⟩ := T6.at hp
  rw [T6.1, g4]
  have un : ∀ {x : Option (Mem × Unit)}, Pc x P → Pc (cal x (fun M30 _ => some (M30, ()))) P := fun hx => Pc.m hx (fun M r hq => Pc.ok hq)
  refine Pc.i (fun _ => Pc.k (fun _ => Pc.k (fun _ => Pc.c p_let4 (fun r hr => ?_)))) (fun c => ?_)
  · rw [b1, b2] at hr
    refine Pc.i (fun c => ?_) (fun c => ?_)
    · have nl : ¬ isLt (u.getD p 0) := fun q => hr.mp c ⟨by unfold isLt at q; omega, by unfold isLt at q; omega⟩
      refine Pc.k (fun _ => Pc.k (fun _ => Pc.c p_dig4 (fun r hr => ?_)))
      rw [b1, b2] at hr
      refine Pc.i (fun c => ?_) (fun c => ?_)
      · have nd : ¬ isDg (u.getD p 0) := fun q => hr.mp c ⟨by unfold isDg at q; omega, by unfold isDg at q; omega⟩
        have h3 := h3 nl nd
        refine Pc.k (fun _ => Pc.k (fun _ => ?_))
        rw [b1]
        refine Pc.i (fun c => ?_) (fun c => ?_)
        · have := congrArg Int32.toInt c
          rw [b2, show ((59 : Int32)).toInt = 59 from rfl] at this
          rw [if_pos (by omega)] at h3
          exact h3
        · rw [if_neg (fun q => c (by rw [q]; rfl))] at h3
          exact h3
      · refine un (h2 ?_)
        by_cases q : isDg (u.getD p 0)
        · exact q
        · exact absurd (hr.mpr (fun z => q (by unfold isDg; omega))) c
    · refine un (h1 ?_)
      by_cases q : isLt (u.getD p 0)
      · exact q
      · exact absurd (hr.mpr (fun z => q (by unfold isLt; omega))) c
  · have c := i_nlt c
    rw [t_of (by omega), t_of (by omega)] at c
    omega
/-- a space at most, then a token that b47 reads -/
theorem nt_go {p : Nat} {b : Bool} (hT : Tu u M) (h5 : rd M 2 5 = Int32.ofNat p) (hp : p + (if b then 1 else 0) ≤ u.length) (hb : b = true → u.getD p 0 = 32) (hs : p + (if b then 1 else 0) < u.length → u.getD (p + (if b then 1 else 0)) 0 ≠ 32 ∧ u.getD (p + (if b then 1 else 0)) 0 ≠ 10) (h : ∀ M', Tu u M' → rd M' 2 4 = Int32.ofNat (p + (if b then 1 else 0)) → Pc (mX4_nextToken_b47 2 M') P) : Pc (mX4_nextToken 2 M) P := by
  have h6 := hT.2.1
  unfold mX4_nextToken
  refine Pc.b (fun M1 e1 => ?_)
  have T1 : Tu u M1 := hT.c (by rw [e1]; exact KS.rf.wr (by decide))
  have g4 : rd M1 2 4 = Int32.ofNat p := by rw [e1, rd_we]; exact h5
  cases b with
  | false => exact nt_in T1 g4 hp hs (h M1 T1 g4)
  | true =>
    have hp : p + 1 ≤ u.length := hp
    refine nt_sp T1 g4 (by omega) (hb rfl) (fun n' => ?_)
    have T2 : Tu u (wr M1 2 4 (Int32.ofNat (p + 1))) := T1.c (KS.rf.wr (by decide))
    exact nt_in T2 rd_we hp hs (h _ T2 rd_we)
/-- a word -/
theorem nt_word {a d z : List Nat} {c : Nat} {b : Bool} (hu : u = a ++ ((if b then [32] else []) ++ (d ++ c :: z))) (hT : Tu u M) (h5 : rd M 2 5 = Int32.ofNat a.length) (hd : ∀ x ∈ d, isLt x) (hd0 : 0 < d.length) (hd6 : d.length ≤ 6) (hc : ¬ isLt c) : Pc (mX4_nextToken 2 M) (fun q => Tu u q.1 ∧ KS SC M q.1 ∧ TK (a.length + (if b then 1 else 0)) (a.length + (if b then 1 else 0) + d.length) 2 0 q.1) := by
  have hlen : u.length = a.length + (if b then 1 else 0) + d.length + 1 + z.length := by
    rw [hu]; cases b <;> simp <;> omega
  have gd : ∀ i, i < d.length → u.getD (a.length + (if b then 1 else 0) + i) 0 = d.getD i 0 := fun i hi => by
    rw [hu]
    cases b with
    | false => exact g_at hi
    | true =>
      have := g_at (a := a ++ [32]) (d := d) (z := c :: z) hi
      rw [List.length_append, List.append_assoc] at this
      exact this
  have gc : u.getD (a.length + (if b then 1 else 0) + d.length) 0 = c := by
    rw [hu]
    cases b with
    | false =>
      have := g_hd (a := a ++ d) (x := c) (z := z)
      rw [List.length_append, List.append_assoc] at this
      exact this
    | true =>
      have := g_hd (a := a ++ [32] ++ d) (x := c) (z := z)
      rw [List.length_append, List.length_append, List.append_assoc, List.append_assoc] at this
      exact this
  have gl : ∀ i, i < d.length → isLt (d.getD i 0) := fun i hi => hd _ (by rw [List.getD_eq_getElem?_getD, List.getElem?_eq_getElem hi]; exact List.getElem_mem hi)
  have g0 := gl 0 hd0
  have h0 := gd 0 hd0
  rw [Nat.add_zero] at h0
  have key : Pc (mX4_nextToken 2 M) (fun q => TK (a.length + (if b then 1 else 0)) (a.length + (if b then 1 else 0) + d.length) 2 0 q.1) := by
    refine nt_go (p := a.length) (b := b) hT h5 (by omega) (fun hb => ?_) (fun _ => ?_) (fun M' T' g4 => ?_)
    · subst hb; rw [hu]; exact g_hd
    · rw [h0]; unfold isLt at g0; omega
    · refine nt_b T' g4 (by omega) (fun M6 T6 k4 k5 k7 => ⟨fun _ => ?_, fun q => ?_, fun q => ?_⟩)
      · unfold mX4_takeWord
        refine (tw_go (p := a.length + (if b then 1 else 0)) (m := d.length) (fun i hi => by rw [gd i hi]; exact gl i hi) hd6 (by omega) (by rw [gc]; exact hc) 5000 0 M6 (by omega) T6 k5 k4).mono (fun q h => ⟨h.1, h.2.1, h.2.2, fun e => absurd e (by decide)⟩)
      · rw [h0] at q; unfold isLt at g0; unfold isDg at q; omega
      · rw [h0] at q; exact absurd g0 q
  exact (key.and fr_next).mono (fun q h => ⟨hT.c h.2, h.2, h.1⟩)
/-- a number -/
theorem nt_num {a d z : List Nat} {c : Nat} {b : Bool} (hu : u = a ++ ((if b then [32] else []) ++ (d ++ c :: z))) (hT : Tu u M) (h5 : rd M 2 5 = Int32.ofNat a.length) (hd : ∀ x ∈ d, isDg x) (hd0 : 0 < d.length) (hd4 : d.length ≤ 4) (hc : ¬ isDg c) : Pc (mX4_nextToken 2 M) (fun q => Tu u q.1 ∧ KS SC M q.1 ∧ TK (a.length + (if b then 1 else 0)) (a.length + (if b then 1 else 0) + d.length) 3 (nv d) q.1) := by
  have hlen : u.length = a.length + (if b then 1 else 0) + d.length + 1 + z.length := by
    rw [hu]; cases b <;> simp <;> omega
  have gd : ∀ i, i < d.length → u.getD (a.length + (if b then 1 else 0) + i) 0 = d.getD i 0 := fun i hi => by
    rw [hu]
    cases b with
    | false => exact g_at hi
    | true =>
      have := g_at (a := a ++ [32]) (d := d) (z := c :: z) hi
      rw [List.length_append, List.append_assoc] at this
      exact this
  have gc : u.getD (a.length + (if b then 1 else 0) + d.length) 0 = c := by
    rw [hu]
    cases b with
    | false =>
      have := g_hd (a := a ++ d) (x := c) (z := z)
      rw [List.length_append, List.append_assoc] at this
      exact this
    | true =>
      have := g_hd (a := a ++ [32] ++ d) (x := c) (z := z)
      rw [List.length_append, List.length_append, List.append_assoc, List.append_assoc] at this
      exact this
  have g0 : isDg (d.getD 0 0) := hd _ (by rw [List.getD_eq_getElem?_getD, List.getElem?_eq_getElem hd0]; exact List.getElem_mem hd0)
  have h0 := gd 0 hd0
  rw [Nat.add_zero] at h0
  have key : Pc (mX4_nextToken 2 M) (fun q => TK (a.length + (if b then 1 else 0)) (a.length + (if b then 1 else 0) + d.length) 3 (nv d) q.1) := by
    refine nt_go (p := a.length) (b := b) hT h5 (by omega) (fun hb => ?_) (fun _ => ?_) (fun M' T' g4 => ?_)
    · subst hb; rw [hu]; exact g_hd
    · rw [h0]; unfold isDg at g0; omega
    · refine nt_b T' g4 (by omega) (fun M6 T6 k4 k5 k7 => ⟨fun q => ?_, fun _ => ?_, fun _ q => ?_⟩)
      · rw [h0] at q; unfold isDg at g0; unfold isLt at q; omega
      · unfold mX4_takeNumber
        refine (tn_go (p := a.length + (if b then 1 else 0)) gd hd hd4 (by omega) (by rw [gc]; exact hc) 5000 0 M6 (by omega) T6 k5 k4 k7).mono (fun q h => ⟨h.1, h.2.1, h.2.2.1, fun _ => h.2.2.2⟩)
      · rw [h0] at q; exact absurd g0 q
  exact (key.and fr_next).mono (fun q h => ⟨hT.c h.2, h.2, h.1⟩)
/-- the semicolon -/
theorem nt_semi {a z : List Nat} (hu : u = a ++ 59 :: z) (hT : Tu u M) (h5 : rd M 2 5 = Int32.ofNat a.length) : Pc (mX4_nextToken 2 M) (fun q => Tu u q.1 ∧ KS SC M q.1 ∧ TK a.length (a.length + 1) 4 0 q.1) := by
  have h6 := hT.2.1
  have hlen : u.length = a.length + 1 + z.length := by rw [hu]; simp; omega
  have g0 : u.getD a.length 0 = 59 := by rw [hu]; exact g_hd
  have key : Pc (mX4_nextToken 2 M) (fun q => TK a.length (a.length + 1) 4 0 q.1) := by
    refine nt_go (p := a.length) (b := false) hT h5 (by show a.length ≤ _; omega) (fun hb => by cases hb) (fun _ => ?_) (fun M' T' g4 => ?_)
    · show u.getD a.length 0 ≠ _ ∧ u.getD a.length 0 ≠ _
      rw [g0]; decide
    · have g4 : rd M' 2 4 = Int32.ofNat a.length := g4
      refine nt_b T' g4 (by omega) (fun M6 T6 k4 k5 k7 => ⟨fun q => ?_, fun q => ?_, fun _ _ => ?_⟩)
      · rw [g0] at q; exact absurd q (by unfold isLt; decide)
      · rw [g0] at q; exact absurd q (by unfold isDg; decide)
      · rw [g0, if_pos rfl]
        unfold mX4_nextToken_b143
        refine Pc.b (fun M24 e24 => Pc.b (fun M26 e26 => Pc.ok ?_))
        have f5 : rd M24 2 5 = Int32.ofNat a.length := by rw [e24, rd_eq, if_neg (by omega)]; exact k5
        rw [f5, show Int32.ofNat a.length + (1 : Int32) = Int32.ofNat (a.length + 1) from o_add (b := 1) (by omega)] at e26
        rw [e26]
        refine ⟨?_, rd_we, ?_, fun e => absurd e (by decide)⟩
        · rw [rd_eq, if_neg (by omega), e24, rd_eq, if_neg (by omega)]; exact k4
        · rw [rd_eq, if_neg (by omega), e24, rd_we]
  exact (key.and fr_next).mono (fun q h => ⟨hT.c h.2, h.2, h.1⟩)
/-- the end -/
theorem nt_end (hT : Tu u M) (h5 : rd M 2 5 = Int32.ofNat u.length) : Pc (mX4_nextToken 2 M) (fun q => Tu u q.1 ∧ KS SC M q.1 ∧ TK u.length u.length 0 0 q.1) := by
  have h6 := hT.2.1
  have key : Pc (mX4_nextToken 2 M) (fun q => TK u.length u.length 0 0 q.1) := by
    refine nt_go (p := u.length) (b := false) hT h5 (Nat.le_refl _) (fun hb => by cases hb) (fun h => absurd h (by show ¬ u.length < u.length; omega)) (fun M' T' g4 => ?_)
    have g4 : rd M' 2 4 = Int32.ofNat u.length := g4
    unfold mX4_nextToken_b47
    refine Pc.b (fun M4 e4 => Pc.b (fun M6 e6 => ?_))
    have k6 : KS SC M' M6 := by rw [e6, e4]; exact (KS.rf.wr (by decide)).wr (by decide)
    have T6 := T'.c k6
    have k4 : rd M6 2 4 = Int32.ofNat u.length := by rw [e6, rd_eq, if_neg (by omega), e4, rd_eq, if_neg (by omega)]; exact g4
    have k5 : rd M6 2 5 = Int32.ofNat u.length := by rw [e6, rd_eq, if_neg (by omega), e4, rd_we]; exact g4
    rw [T6.1, k4]
    refine Pc.i (fun c => ?_) (fun _ => Pc.b (fun M34 e34 => Pc.ok ?_))
    · have c := i_lt.mp c
      omega
    · rw [e34]
      exact ⟨by rw [rd_eq, if_neg (by omega)]; exact k4, by rw [rd_eq, if_neg (by omega)]; exact k5, rd_we, fun e => absurd e (by decide)⟩
  exact (key.and fr_next).mono (fun q h => ⟨hT.c h.2, h.2, h.1⟩)
end RDx
