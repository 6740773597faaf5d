/-! the class reads the law's text, all of it -/
section TXt
variable {M M0 : Mem} {u : List Nat} {n : Nat}
/-- a part: its legs, the bits of its bends, its tools; nothing made -/
def SPt (k : Nat) (L : List Nat) (U : Nat) (t : Nat → Nat) (M : Mem) : Prop := rd M k 0 = Int32.ofNat L.length ∧ (∀ j, j < L.length → rd M (k + 1) j = Int32.ofNat (L.getD j 0)) ∧ rd M k 2 = Int32.ofNat U ∧ rd M k 10 = 0 ∧ (∀ j, j < 10 → rd M (k + 2) j = Int32.ofNat (t j)) ∧ rd M k 13 = 0 ∧ rd M k 14 = 0
theorem SPt.ks {k : Nat} {L : List Nat} {U : Nat} {t : Nat → Nat} {M M' : Mem} {S : Nat → Nat → Prop} (h : SPt k L U t M) (hk : KS S M M') (hs : ∀ c j, k ≤ c → c < k + 8 → ¬ S c j) : SPt k L U t M' := by
  obtain ⟨h1, h2, h3, h4, h5, h6, h7⟩ := h
  have e : ∀ c j, k ≤ c → c < k + 8 → rd M' c j = rd M c j := fun c j a b => hk c j (hs c j a b)
  exact ⟨(e k 0 (by omega) (by omega)).trans h1, fun j hj => (e (k + 1) j (by omega) (by omega)).trans (h2 j hj), (e k 2 (by omega) (by omega)).trans h3, (e k 10 (by omega) (by omega)).trans h4, fun j hj => (e (k + 2) j (by omega) (by omega)).trans (h5 j hj), (e k 13 (by omega) (by omega)).trans h6, (e k 14 (by omega) (by omega)).trans h7⟩
theorem SPt.r {L : List Nat} {U : Nat} {t : Nat → Nat} {M M' : Mem} (h : SPt 13 L U t M) (hk : KS SRd M M') : SPt 13 L U t M' := h.ks hk (fun c j h1 h2 q => by rcases q with q | q <;> omega)
/-- a statement: its word, its numbers -/
abbrev Stm : Type := Nat × Nat × Nat
def stx (q : Stm) : List Nat := if cntW q.1 = 2 then sw2 q.1 q.2.1 q.2.2 else sw1 q.1 q.2.1
abbrev Pst : Type := List Nat × Nat × (Nat → Nat)
def eff (q : Stm) (s : Pst) : Pst := if q.1 < 5 then (s.1 ++ [q.2.1], if q.1 = 2 then s.2.1 ||| 2 ^ (s.1.length - 1) else s.2.1, s.2.2) else (s.1, s.2.1, fun j => if j = 2 * (q.1 - 5) + 1 then (if cntW q.1 = 2 then q.2.2 else 0) else if j = 2 * (q.1 - 5) then q.2.1 else s.2.2 j)
/-- it is right where it stands -/
def okS (q : Stm) (s : Pst) : Prop := q.2.1 < 4000 ∧ q.2.2 < 4000 ∧ s.2.1 < 256 ∧ ((q.1 = 1 ∧ s.1.length = 0 ∧ 1 ≤ q.2.1) ∨ ((q.1 = 2 ∨ q.1 = 3) ∧ 0 < s.1.length ∧ s.1.length < 9 ∧ 1 ≤ q.2.1) ∨ q.1 = 5 ∨ q.1 = 7 ∨ q.1 = 9 ∨ (q.1 = 8 ∧ q.2.1 ≤ q.2.2))
theorem wF_ok : ∀ w, w = 1 ∨ w = 2 ∨ w = 3 ∨ w = 5 ∨ w = 7 ∨ w = 8 ∨ w = 9 → (wF1.getD w 0).toInt = 9999 ∧ (wF0.getD w 0).toInt = (if w < 5 then 1 else 0) ∧ (5 ≤ w → w ≤ 8 → (wF2.getD w 0).toInt = 9999) ∧ (cntW w = if 5 ≤ w ∧ w ≤ 8 then 2 else 1) := by
  intro w h
  rcases h with rfl | rfl | rfl | rfl | rfl | rfl | rfl <;> decide
/-- no error of the word -/
theorem ew_ok {q : Stm} {L : List Nat} {U : Nat} {t : Nat → Nat} (h : okS q (L, U, t)) (hS : SPt 13 L U t M) : Pc (mX4_errorOfWord q.1 13 M) (fun e => e = 0) := by
  obtain ⟨-, -, -, h⟩ := h
  have h0 := hS.1
  rcases h with ⟨hw, hl, -⟩ | ⟨hw, hl, hl9, -⟩ | hw
  · rw [hw]
    have hl : L.length = 0 := hl
    rw [hl] at h0
    refine eow_leg.mono (fun e he => ?_)
    rcases he with ⟨q, _⟩ | ⟨_, q⟩
    · rw [h0] at q; exact absurd q (by decide)
    · exact q
  · have hl : 0 < L.length := hl
    have hl9 : L.length < 9 := hl9
    have ht : (rd M 13 0).toInt = (L.length : Int) := by rw [h0, t_of (by omega)]
    refine (eow_bend hw (by rw [ht]; omega)).mono (fun e he => ?_)
    rcases he with ⟨q, _⟩ | ⟨q, _⟩ | ⟨_, q⟩
    · omega
    · omega
    · exact q
  · refine (eow_other (by omega)).mono (fun e he => ?_)
    rcases he with ⟨q, _⟩ | ⟨_, q⟩
    · omega
    · exact q
theorem SPt.tool {L : List Nat} {U : Nat} {t : Nat → Nat} {M' : Mem} {x v v2 : Nat} (h : SPt 13 L U t M) (hx : x < 5) (hv : rd M 3 0 = Int32.ofNat v) (hv2 : rd M 3 1 = Int32.ofNat v2) (e : M' = wr (wr M 15 (2 * x) (rd M 3 0)) 15 (2 * x + 1) (rd M 3 1)) : SPt 13 L U (fun j => if j = 2 * x + 1 then v2 else if j = 2 * x then v else t j) M' := by
  obtain ⟨h1, h2, h3, h4, h5, h6, h7⟩ := h
  subst e
  have o : ∀ c j, c ≠ 15 → rd (wr (wr M 15 (2 * x) (rd M 3 0)) 15 (2 * x + 1) (rd M 3 1)) c j = rd M c j := fun c j hc => by rw [rd_wk (by omega), rd_wk (by omega)]
  refine ⟨(o _ _ (by omega)).trans h1, fun j hj => (o _ _ (by omega)).trans (h2 j hj), (o _ _ (by omega)).trans h3, (o _ _ (by omega)).trans h4, fun j hj => ?_, (o _ _ (by omega)).trans h6, (o _ _ (by omega)).trans h7⟩
  show rd (wr (wr M 15 (2 * x) (rd M 3 0)) 15 (2 * x + 1) (rd M 3 1)) 15 j = Int32.ofNat (if j = 2 * x + 1 then v2 else if j = 2 * x then v else t j)
  rw [rd_eq]
  by_cases e1 : j = 2 * x + 1
  · rw [if_pos ⟨rfl, e1⟩, if_pos e1]; exact hv2
  · rw [if_neg (fun q => e1 q.2), if_neg e1, rd_eq]
    by_cases e2 : j = 2 * x
    · rw [if_pos ⟨rfl, e2⟩, if_pos e2]; exact hv
    · rw [if_neg (fun q => e2 q.2), if_neg e2]; exact h5 j hj
theorem SPt.leg {L : List Nat} {U : Nat} {t : Nat → Nat} {M' : Mem} {w v : Nat} (h : SPt 13 L U t M) (hL : L.length < 9) (hw : w = 2 → 0 < L.length) (hU : U < 256) (hv : rd M 3 0 = Int32.ofNat v) (e : ∀ k j, rd M' k j = rd (wr (wr (wr M 14 L.length (rd M 3 0)) 13 2 (if 0 < L.length ∧ w = 2 then rd M 13 2 ||| ((1 : Int32) <<< ((rd M 13 0 - 1) &&& 31)) else rd M 13 2)) 13 0 (rd M 13 0 + 1)) k j) : SPt 13 (L ++ [v]) (if w = 2 then U ||| 2 ^ (L.length - 1) else U) t M' := by
  obtain ⟨h1, h2, h3, h4, h5, h6, h7⟩ := h
  refine ⟨?_, fun j hj => ?_, ?_, ?_, fun j hj => ?_, ?_, ?_⟩
  · rw [e, rd_we, h1, List.length_append]
    exact o_add (b := 1) (by omega)
  · rw [e, rd_wk (by omega), rd_wk (by omega), rd_eq, getD_app]
    rw [List.length_append, List.length_singleton] at hj
    by_cases q : j = L.length
    · rw [if_pos ⟨rfl, q⟩, if_neg (by omega), q, Nat.sub_self]; exact hv
    · rw [if_neg (fun z => q z.2), if_pos (by omega)]; exact h2 j (by omega)
  · rw [e, rd_eq, if_neg (by omega), rd_we]
    by_cases q : w = 2
    · have hl := hw q
      rw [if_pos ⟨hl, q⟩, if_pos q, h3, h1]
      have e1 : Int32.ofNat L.length - 1 = Int32.ofNat (L.length - 1) := by
        rw [i_eq, i_sub (by rw [t_of (by omega)]; show _ ≤ _ - (1 : Int); omega) (by rw [t_of (by omega)]; show _ - (1 : Int) ≤ _; omega), t_of (by omega), t_of (by omega)]
        show _ - (1 : Int) = _
        omega
      rw [e1]
      exact f_or U hU (L.length - 1) (by omega)
    · rw [if_neg (fun z => q z.2), if_neg q]; exact h3
  · rw [e, rd_eq, if_neg (by omega), rd_eq, if_neg (by omega), rd_wk (by omega)]; exact h4
  · rw [e, rd_wk (by omega), rd_wk (by omega), rd_wk (by omega)]; exact h5 j hj
  · rw [e, rd_eq, if_neg (by omega), rd_eq, if_neg (by omega), rd_wk (by omega)]; exact h6
  · rw [e, rd_eq, if_neg (by omega), rd_eq, if_neg (by omega), rd_wk (by omega)]; exact h7
/-- what reading a text writes -/
abbrev SRt (k j : Nat) : Prop := (k = 2 ∧ 4 ≤ j ∧ j ≤ 7) ∨ k = 3 ∨ (13 ≤ k ∧ k ≤ 20)
theorem ks_rt {M M' : Mem} (h : KS SRd M M') : KS SRt M M' := h.mono (fun k j h => by rcases h with h | h; exact Or.inl h; exact Or.inr (Or.inl h))
/-- a statement is read -/
theorem st_go {q : Stm} {L : List Nat} {U : Nat} {t : Nat → Nat} {a z : List Nat} (h : okS q (L, U, t)) (hu : u = a ++ (stx q ++ z)) (hT : Tu u M) (hk : TK a.length (a.length + (stN q.1).length) 2 0 M) (hS : SPt 13 L U t M) : Pc (mX4_readStatement 2 13 M) (fun y => Tu u y.1 ∧ KS SRt M y.1 ∧ rd y.1 2 5 = Int32.ofNat (a.length + (stx q).length) ∧ SPt 13 (eff q (L, U, t)).1 (eff q (L, U, t)).2.1 (eff q (L, U, t)).2.2 y.1) := by
  have he := ew_ok h hS
  obtain ⟨hv, hv2, hU, hw⟩ := h
  have hU : U < 256 := hU
  have hb : (rd M 13 10).toInt ≤ 8 := by rw [hS.2.2.2.1]; decide
  have hw7 : q.1 = 1 ∨ q.1 = 2 ∨ q.1 = 3 ∨ q.1 = 5 ∨ q.1 = 7 ∨ q.1 = 8 ∨ q.1 = 9 := by omega
  obtain ⟨f1, f0, f2, fc⟩ := wF_ok q.1 hw7
  have lo : (wF0.getD q.1 0).toInt ≤ q.2.1 := by
    rw [f0]
    split
    · rcases hw with ⟨-, -, h9⟩ | ⟨-, -, -, h9⟩ | h9 <;> omega
    · omega
  have d4 : ∀ c j, 13 ≤ c → c < 13 + 8 → ¬ SRd c j := fun c j h1 h2 h3 => by rcases h3 with h3 | h3 <;> omega
  by_cases h5 : q.1 < 5
  · -- a leg
    have c1 : cntW q.1 = 1 := by rw [fc, if_neg (by omega)]
    have es : stx q = sw1 q.1 q.2.1 := by unfold stx; rw [if_neg (by omega)]
    have ee : eff q (L, U, t) = (L ++ [q.2.1], if q.1 = 2 then U ||| 2 ^ (L.length - 1) else U, t) := by unfold eff; rw [if_pos h5]
    have hL : L.length < 9 ∧ (q.1 = 2 → 0 < L.length) := by
      rcases hw with ⟨e1, h9, -⟩ | ⟨-, h8, h9, -⟩ | h9
      · have h9 : L.length = 0 := h9
        exact ⟨by omega, fun z => by omega⟩
      · exact ⟨h9, fun _ => h8⟩
      · omega
    rw [es] at hu ⊢
    rw [ee]
    refine st_1 (by omega) (by omega) c1 hv ⟨lo, by rw [f1]; omega⟩ hu hT hk hb he (fun M' ⟨T', k', p'⟩ v' => ?_)
    have S' := hS.ks k' d4
    have hm : (rd M' 13 0).toInt = (L.length : Int) := by rw [S'.1, t_of (by omega)]
    refine (acc_leg (by omega) hm hL.1).mono (fun y hy => ?_)
    have ky : KS (fun k j => 13 ≤ k ∧ k ≤ 14) M' y.1 := fun k j hkj => by rw [hy, rd_wk (by omega), rd_wk (by omega), rd_wk (by omega)]
    refine ⟨T'.ks ky (fun j h => by omega) (fun h => by omega), (ks_rt k').trans (ky.mono (fun k j h => Or.inr (Or.inr ⟨h.1, by omega⟩))), ?_, S'.leg hL.1 hL.2 hU v' hy⟩
    rw [ky 2 5 (fun h => by omega)]; exact p'
  · have ea : q.1 = 5 + (q.1 - 5) := by omega
    have hU' : U < 256 := hU
    by_cases h9 : q.1 = 9
    · have c1 : cntW q.1 = 1 := by rw [fc, if_neg (by omega)]
      have es : stx q = sw1 q.1 q.2.1 := by unfold stx; rw [if_neg (by omega)]
      have ee : eff q (L, U, t) = (L, U, fun j => if j = 2 * (q.1 - 5) + 1 then 0 else if j = 2 * (q.1 - 5) then q.2.1 else t j) := by unfold eff; rw [if_neg h5, if_neg (by omega : ¬ cntW q.1 = 2)]
      rw [es] at hu ⊢
      rw [ee]
      refine st_1z (by omega) (by omega) c1 hv ⟨lo, by rw [f1]; omega⟩ hu hT hk hb he (fun M' ⟨T', k', p'⟩ v' z' => ?_)
      have S' := hS.ks k' d4
      have ha := acc_tool (M := M') (t := q.1 - 5) (by omega)
      rw [← ea] at ha
      refine ha.mono (fun y hy => ?_)
      have ky : KS (fun k j => k = 15) M' y.1 := fun k j hk => by rw [hy, rd_wk (show k ≠ 15 from hk), rd_wk (show k ≠ 15 from hk)]
      refine ⟨T'.ks ky (fun j h => by omega) (fun h => by omega), (ks_rt k').trans (ky.mono (fun k j h => Or.inr (Or.inr (by omega)))), ?_, ?_⟩
      · rw [ky 2 5 (fun h => by omega)]; exact p'
      · exact S'.tool (x := q.1 - 5) (by omega) v' z' hy
    · have c2 : cntW q.1 = 2 := by rw [fc, if_pos (by omega)]
      have es : stx q = sw2 q.1 q.2.1 q.2.2 := by unfold stx; rw [if_pos c2]
      have ee : eff q (L, U, t) = (L, U, fun j => if j = 2 * (q.1 - 5) + 1 then q.2.2 else if j = 2 * (q.1 - 5) then q.2.1 else t j) := by unfold eff; rw [if_neg h5, if_pos c2]
      rw [es] at hu ⊢
      rw [ee]
      refine st_2 (by omega) (by omega) c2 hv hv2 ⟨lo, by rw [f1]; omega⟩ ⟨by rw [f2 (by omega) (by omega)]; omega, fun e8 => by rcases hw with h | h | h <;> omega⟩ hu hT hk hb he (fun M' ⟨T', k', p'⟩ v' z' => ?_)
      have S' := hS.ks k' d4
      have ha := acc_tool (M := M') (t := q.1 - 5) (by omega)
      rw [← ea] at ha
      refine ha.mono (fun y hy => ?_)
      have ky : KS (fun k j => k = 15) M' y.1 := fun k j hk => by rw [hy, rd_wk (show k ≠ 15 from hk), rd_wk (show k ≠ 15 from hk)]
      refine ⟨T'.ks ky (fun j h => by omega) (fun h => by omega), (ks_rt k').trans (ky.mono (fun k j h => Or.inr (Or.inr (by omega)))), ?_, ?_⟩
      · rw [ky 2 5 (fun h => by omega)]; exact p'
      · exact S'.tool (x := q.1 - 5) (by omega) v' z' hy
/-- right from the first to the last -/
def okL : List Stm → Pst → Prop
  | [], _ => True
  | q :: S, s => okS q s ∧ okL S (eff q s)
def effL (S : List Stm) (s : Pst) : Pst := S.foldl (fun s q => eff q s) s
theorem stx_w {q : Stm} : ∃ y, stx q = stN q.1 ++ 32 :: y := by
  unfold stx
  split
  · exact ⟨_, rfl⟩
  · exact ⟨_, rfl⟩
/-- all statements -/
theorem rs_run : ∀ (S : List Stm) (s : Pst) (a : List Nat) (M : Mem) (i n : Nat), u = a ++ S.flatMap stx → Tu u M → rd M 2 5 = Int32.ofNat a.length → rd M 2 0 = 0 → SPt 13 s.1 s.2.1 s.2.2 M → okL S s → i + S.length < 600 → Pc (cal (mX4_nextToken 2 M) (fun M28 _ => mX4_readText_l47 2 1 13 n (Int32.ofNat i) M28)) (fun y => y.2 = 1 ∧ rd y.1 2 0 = 0 ∧ KS SRt M y.1 ∧ SPt 13 (effL S s).1 (effL S s).2.1 (effL S s).2.2 y.1) := by
  intro S
  induction S with
  | nil =>
    intro s a M i n hu hT h5 h0 hS _ hi
    have hu : u = a := by rw [hu]; simp
    subst hu
    refine Pc.m (nt_end hT h5) (fun M1 _ ⟨T1, k1, t4, t5, t6, _⟩ => ?_)
    cases n with
    | zero => exact Pc.n
    | succ n =>
      show Pc (mX4_readText_b47 2 1 13 (mX4_readText_l47 2 1 13 n) (Int32.ofNat i) M1) _
      have g0 : rd M1 2 0 = 0 := (k1 2 0 (fun q => by omega)).trans h0
      have fin : Pc (mX4_readText_b84 2 1 13 M1) (fun y => y.2 = 1 ∧ rd y.1 2 0 = 0 ∧ KS SRt M y.1 ∧ SPt 13 (effL [] s).1 (effL [] s).2.1 (effL [] s).2.2 y.1) := by
        unfold mX4_readText_b84
        exact Pc.i (fun _ => Pc.ok ⟨rfl, g0, ks_rt (ks_rd k1), hS.r (ks_rd k1)⟩) (fun q => absurd g0 q)
      unfold mX4_readText_b47
      exact Pc.i (fun _ => fin) (fun _ => Pc.i (fun _ => fin) (fun q => absurd t6 q))
  | cons q S IH =>
    intro s a M i n hu hT h5 h0 hS hok hi
    obtain ⟨L, U, t⟩ := s
    obtain ⟨ho, hok⟩ := hok
    have hw11 : q.1 < 11 := by obtain ⟨-, -, -, h⟩ := ho; omega
    obtain ⟨s1, s2, s3, s4, s5⟩ := st_nb q.1 hw11
    obtain ⟨y, ey⟩ := stx_w (q := q)
    have hu2 : u = a ++ (stx q ++ S.flatMap stx) := by rw [hu, List.flatMap_cons]
    have hu3 : u = a ++ ((if false then [32] else []) ++ (stN q.1 ++ 32 :: (y ++ S.flatMap stx))) := by rw [hu2, ey]; simp
    refine Pc.m (nt_word (b := false) hu3 hT h5 (fun x hx => s4 x hx) (by omega) (by omega) (by unfold isLt; decide)) (fun M1 _ ⟨T1, k1, hk⟩ => ?_)
    have hk : TK a.length (a.length + (stN q.1).length) 2 0 M1 := hk
    cases n with
    | zero => exact Pc.n
    | succ n =>
      show Pc (mX4_readText_b47 2 1 13 (mX4_readText_l47 2 1 13 n) (Int32.ofNat i) M1) _
      have g0 : rd M1 2 0 = 0 := (k1 2 0 (fun q => by omega)).trans h0
      unfold mX4_readText_b47
      rw [List.length_cons] at hi
      refine Pc.i (fun c => ?_) (fun _ => Pc.i (fun c => ?_) (fun _ => Pc.i (fun _ => ?_) (fun c => absurd g0 c)))
      · have c := i_le.mp c
        rw [t_of (by omega), show ((600 : Int32)).toInt = 600 from rfl] at c
        omega
      · rw [hk.2.2.1] at c; exact absurd c (by decide)
      · refine Pc.m (st_go ho hu2 T1 hk (hS.r (ks_rd k1))) (fun M2 _ ⟨T2, k2, p2, S2⟩ => ?_)
        have e1 : Int32.ofNat i + (1 : Int32) = Int32.ofNat (i + 1) := o_add (b := 1) (by omega)
        rw [show (fun (M28 : Mem) (_ : Unit) => bnd (Int32.ofNat i + (1 : Int32)) (fun x4_78 => mX4_readText_l47 2 1 13 n x4_78 M28)) = (fun M28 _ => mX4_readText_l47 2 1 13 n (Int32.ofNat (i + 1)) M28) from by rw [← e1]; rfl]
        refine (IH (eff q (L, U, t)) (a ++ stx q) M2 (i + 1) n (by rw [hu2, List.append_assoc]) T2 (by rw [List.length_append]; exact p2) ((k2 2 0 (fun z => by rcases z with z | z | z <;> omega)).trans g0) S2 hok (by omega)).mono (fun y hy => ?_)
        exact ⟨hy.1, hy.2.1, ((ks_rt (ks_rd k1)).trans k2).trans hy.2.2.1, hy.2.2.2⟩
end TXt
