/-! the text of the law: its loop, all of it -/
theorem STx.keep {K K' : Nat → Nat × Nat} {M M' : Mem} {k a : Nat} {t : List Nat} (h : STx K M k a t) (h1 : K' k = K k ∧ Sm M M' k) (h2 : K' a = K a ∧ Sm M M' a) : STx K' M' k a t := by
  obtain ⟨⟨x1, x2⟩, x3, x4, x5, x6⟩ := h
  exact ⟨⟨h1.1.trans x1, h2.1.trans x2⟩, by rw [h1.2.1]; exact x3, fun j hj => by rw [h2.2.1]; exact x4 j hj, x5, x6⟩
theorem kLaw.keep {K K' : Nat → Nat × Nat} {b k : Nat} (h : kLaw b K k) (he : ∀ j, (K j).1 ≠ 0 → j = k ∨ j = k + 2 ∨ j = k + 3 → K' j = K j) : kLaw b K' k := by
  obtain ⟨h1, h2, h3⟩ := h
  exact ⟨(he _ (by rw [h1]; simp) (Or.inl rfl)).trans h1, (he _ (by rw [h2]; simp) (Or.inr (Or.inl rfl))).trans h2, (he _ (by rw [h3]; simp) (Or.inr (Or.inr rfl))).trans h3⟩
theorem kLaw.nz {K : Nat → Nat × Nat} {b k : Nat} (h : kLaw b K k) : (K k).1 ≠ 0 ∧ (K (k + 2)).1 ≠ 0 ∧ (K (k + 3)).1 ≠ 0 := ⟨by rw [h.1]; simp, by rw [h.2.1]; simp, by rw [h.2.2]; simp⟩
/-- what was there at the begin is as it was, but for the object of the law -/
def Fz (kd : Nat → Nat × Nat) (M0 : Mem) (K : Nat → Nat × Nat) (M : Mem) (k0 : Nat) : Prop := ∀ j, (kd j).1 ≠ 0 → K j = kd j ∧ (j ≠ k0 → j ≠ k0 + 2 → j ≠ k0 + 3 → Sm M0 M j)
/-- what the object of the law holds -/
def LW (M0 M : Mem) (k0 i nb l0 : Nat) (its : List (Bool × Nat)) : Prop := M.1 k0 1 = Int32.ofNat i ∧ M.1 k0 2 = Int32.ofNat nb ∧ (∀ j, j = 5 ∨ j = 6 ∨ j = 7 ∨ j = 8 → M.1 k0 j = M0.1 k0 j) ∧ (∀ j, j ≤ its.length → M.1 (k0 + 2) j = Int32.ofNat ((l0 :: its.map (fun q => q.2)).getD j 0)) ∧ (∀ j, j < its.length → M.1 (k0 + 3) j = if (its.getD j (false, 0)).1 then 1 else 0)
def Its (l0 : Nat) (its : List (Bool × Nat)) : Prop := (100 ≤ l0 ∧ l0 < 700) ∧ ∀ q ∈ its, 100 ≤ q.2 ∧ q.2 < 700
theorem LW.keep {M0 M M' : Mem} {k0 i nb l0 : Nat} {its : List (Bool × Nat)} (h : LW M0 M k0 i nb l0 its) (h1 : Sm M M' k0) (h2 : Sm M M' (k0 + 2)) (h3 : Sm M M' (k0 + 3)) : LW M0 M' k0 i nb l0 its := by
  obtain ⟨a1, a2, a3, a4, a5⟩ := h
  refine ⟨by rw [h1.1]; exact a1, by rw [h1.1]; exact a2, fun j hj => by rw [h1.1]; exact a3 j hj, fun j hj => by rw [h2.1]; exact a4 j hj, fun j hj => by rw [h3.1]; exact a5 j hj⟩
/-- a turn of the loop writes -/
theorem LW.turn {M0 M : Mem} {k0 i nb l0 b c : Nat} {its : List (Bool × Nat)} {u : Bool} (h : LW M0 M k0 i nb l0 its) (hb : b = its.length) : LW M0 (wr (wr (wr (wr M k0 1 (Int32.ofNat (i + 1))) (k0 + 3) b (if u then 1 else 0)) k0 1 (Int32.ofNat (i + 2))) (k0 + 2) (b + 1) (Int32.ofNat c)) k0 (i + 2) nb l0 (its ++ [(u, c)]) := by
  subst hb
  obtain ⟨a1, a2, a3, a4, a5⟩ := h
  have e0 : ∀ (A : Mem) (v : Int32), (wr A (k0 + 2) (its.length + 1) v).1 k0 = A.1 k0 := fun A v => (wr_o (M := A) (j := its.length + 1) (v := v) k0 (by omega)).1
  have e1 : ∀ (A : Mem) (v : Int32), (wr A (k0 + 3) its.length v).1 k0 = A.1 k0 := fun A v => (wr_o (M := A) (j := its.length) (v := v) k0 (by omega)).1
  have f0 : ∀ (A : Mem) (v : Int32), (wr A k0 1 v).1 (k0 + 2) = A.1 (k0 + 2) := fun A v => (wr_o (M := A) (j := 1) (v := v) (k0 + 2) (by omega)).1
  have f1 : ∀ (A : Mem) (v : Int32), (wr A (k0 + 3) its.length v).1 (k0 + 2) = A.1 (k0 + 2) := fun A v => (wr_o (M := A) (j := its.length) (v := v) (k0 + 2) (by omega)).1
  have g0 : ∀ (A : Mem) (v : Int32), (wr A (k0 + 2) (its.length + 1) v).1 (k0 + 3) = A.1 (k0 + 3) := fun A v => (wr_o (M := A) (j := its.length + 1) (v := v) (k0 + 3) (by omega)).1
  have g1 : ∀ (A : Mem) (v : Int32), (wr A k0 1 v).1 (k0 + 3) = A.1 (k0 + 3) := fun A v => (wr_o (M := A) (j := 1) (v := v) (k0 + 3) (by omega)).1
  refine ⟨?_, ?_, fun j hj => ?_, fun j hj => ?_, fun j hj => ?_⟩
  · rw [e0, wr_at, if_pos rfl]
  · rw [e0, wr_at, if_neg (by decide), e1, wr_at, if_neg (by decide)]; exact a2
  · rw [e0, wr_at, if_neg (by omega), e1, wr_at, if_neg (by omega)]; exact a3 j hj
  · rw [List.length_append, List.length_singleton] at hj
    rw [wr_at, f0, f1, f0, List.map_append, ← List.cons_append, getD_app, List.length_cons, List.length_map]
    by_cases e : j = its.length + 1
    · rw [if_pos e, if_neg (by omega), e, show its.length + 1 - (its.length + 1) = 0 by omega]; rfl
    · rw [if_neg e, if_pos (by omega)]; exact a4 j (by omega)
  · rw [List.length_append, List.length_singleton] at hj
    rw [g0, g1, wr_at, g1]
    by_cases e : j = its.length
    · subst e
      rw [if_pos rfl, List.getD_eq_getElem?_getD, List.getElem?_append_right (Nat.le_refl _), Nat.sub_self]
      rfl
    · rw [if_neg e, List.getD_eq_getElem?_getD, List.getElem?_append_left (by omega), ← List.getD_eq_getElem?_getD]
      exact a5 j (by omega)
/-- a text at its end -/
abbrev PX (kd : Nat → Nat × Nat) (ad : Nat → Nat) (M0 : Mem) (b0 k0 : Nat) (t0 : List Nat) : PS := fun K' M' r => ∃ nb l0 its i kt at', its.length = nb ∧ 1 ≤ nb ∧ nb ≤ 5 ∧ Its l0 its ∧ i ≤ 100 ∧ LW M0 M' k0 i nb l0 its ∧ kLaw b0 K' k0 ∧ Fz kd M0 K' M' k0 ∧ STx K' M' kt at' (t0 ++ txs l0 its) ∧ (kd kt).1 = 0 ∧ (kd at').1 = 0 ∧ r = some (.ref (ad kt))
set_option maxHeartbeats 8000000 in
theorem tL_text_loop {p : Program} {l : Launch} {e : Env} {s : State} {m : MethodId} {args : Array Value} {below : List Frame} {meth : Method} {c : Code} {G : GT} {kd : Nat → Nat × Nat} {ad : Nat → Nat} {M0 : Mem} {k0 kT : Nat} {t0 : List Nat} (C : Cx p s m args meth c cL_text 4 (some (.object "java/lang/String")) RL G kd ad) (hex : Ex (AS kd ad s.heap.size) s s.heap) (hinj : ∀ i j, ad i = ad j → i = j) (hsu : Su ad s.heap.size) (hL : G.2.2 401 < 100000) (ht0 : 30 ≤ t0.length ∧ t0.length ≤ 52) (hkk : (kd k0).1 ≠ 0 ∧ (kd (k0 + 2)).1 ≠ 0 ∧ (kd (k0 + 3)).1 ≠ 0) : ∀ (r : Nat) (its : List (Bool × Nat)) (nb l0 i kt at' : Nat) (K : Nat → Nat × Nat) (M : Mem) (H : Heap) (locs : List Loc) (ls : Array Slot), its.length + r = nb → 1 ≤ nb → nb ≤ 5 → Its l0 its → i = 6 + 2 * its.length → LW M0 M k0 i nb l0 its → kLaw (G.2.2 400) K k0 → Fz kd M0 K M k0 → STx K M kt at' (t0 ++ txs l0 its) → (kd kt).1 = 0 → (kd at').1 = 0 → Kx kd K ad s.heap.size → Inv G K ad s.heap M H locs → lv_has ls 4 [(3, .int (Int32.ofNat its.length)), (2, .ref (ad kt)), (0, .ref (ad k0)), (1, .ref (ad kT))] →
    W p l e (rmO 7 60 36000) s m args below meth c H locs (10 * (its.length + 1)) (6000 * (its.length + 1)) (MQ below (Qs G kd ad s.heap.size (PX kd ad M0 (G.2.2 400) k0 t0)) args s 60 36000 (AS kd ad s.heap.size)) (F0 m 65 ls []) := by
  have hsx0 := C.2.2.2.2.2.2.2.2.2
  obtain ⟨hx, hb, hml, hr, hown, hts, hlk, hK, -, -⟩ := C
  intro r
  induction r with
  | zero =>
    intro its nb l0 i kt at' K M H locs ls hn h1 h5 hIt hi hLW hkL hF hST hkt hat hX hI hl
    refine lv_iload_n hx hb (dc tbL_text_0_k 36 rfl) rfl (lv_at hl 0 rfl) ?_
    refine lv_aload_n hx hb (dc tbL_text_0_k 37 rfl) rfl (lv_at hl 2 rfl) ?_
    refine ggL_2 hx hb hts hown hK hI hkL.1 q_t2_193 (dc tbL_text_0_k 38 rfl) ?_
    refine lv_et (b := Int32.ofNat nb) hLW.2.1 ?_
    refine lv_icmp_ge (tgt := 168) hx hb (dc tbL_text_0_k 39 rfl) rfl (fun c9 => ?_) (fun c9 => absurd (i_le.mpr (by rw [t_of (by omega), t_of (by omega)]; omega)) c9)
    refine lv_aload_n hx hb (dc tbL_text_2_k 11 rfl) rfl (lv_at hl 1 rfl) ?_
    refine W.widen (k := 60) (n := 36000) (by omega) (by omega) ?_
    exact d_aret hx hb hr (Or.inl ⟨_, rfl⟩) hlk hX hI ⟨nb, l0, its, i, kt, at', by omega, h1, h5, hIt, by omega, hLW, hkL, hF, hST, hkt, hat, rfl⟩ (dc tbL_text_2_k 12 rfl)
  | succ r IH =>
    intro its nb l0 i kt at' K M H locs ls hn h1 h5 hIt hi hLW hkL hF hST hkt hat hX hI hl
    have hlen := txs_len (l0 := l0) ⟨hIt.1.1, by have := hIt.1.2; omega⟩ its (fun q hq => ⟨(hIt.2 q hq).1, by have := (hIt.2 q hq).2; omega⟩)
    have htl : (t0 ++ txs l0 its).length = t0.length + (txs l0 its).length := List.length_append
    refine lv_iload_n hx hb (dc tbL_text_0_k 36 rfl) rfl (lv_at hl 0 rfl) ?_
    refine lv_aload_n hx hb (dc tbL_text_0_k 37 rfl) rfl (lv_at hl 2 rfl) ?_
    refine ggL_2 hx hb hts hown hK hI hkL.1 q_t2_193 (dc tbL_text_0_k 38 rfl) ?_
    refine lv_et (b := Int32.ofNat nb) hLW.2.1 ?_
    refine lv_icmp_ge (tgt := 168) hx hb (dc tbL_text_0_k 39 rfl) rfl (fun c9 => absurd (i_le.mp c9) (by rw [t_of (by omega), t_of (by omega)]; omega)) (fun _ => ?_)
    have hsx : Sx G (AS K ad s.heap.size) s s.heap := by rw [hX.AS]; exact hsx0
    have hap : Apt K ad := fun _ _ _ _ h => hinj _ _ h
    refine lv_aload_n hx hb (dc tbL_text_1_k 0 rfl) rfl (lv_at hl 2 rfl) ?_
    refine ggL_4 hx hb hts hown hK hI hkL.1 q_t2_195 (dc tbL_text_1_k 1 rfl) ?_
    refine lv_iload_n hx hb (dc tbL_text_1_k 2 rfl) rfl (lv_at hl 0 rfl) ?_
    refine lv_aload_n hx hb (dc tbL_text_1_k 3 rfl) rfl (lv_at hl 2 rfl) ?_
    refine lv_iconst (v := 3) hx hb (dc tbL_text_1_k 4 rfl) (by decide) ?_
    refine d_callV (n := 1) (C := RL) hx hb hml hown hts hK hap hsx hI (tL_chosen l (m := 3) hkL hL (by omega) (by omega) hLW.1 H.size) cv_L_chosen q_t3_191 rfl rfl ⟨Nat.le_of_ble_eq_true rfl, Nat.le_of_ble_eq_true rfl⟩ hkL.1 (by simp) rfl (ci := 9) rfl rfl hl.1 rfl (Nat.le_of_ble_eq_true rfl) (dc tbL_text_1_k 5 rfl) ⟨by show 10 * (its.length + 1) + 0 + 0 ≤ 60; omega, by show 6000 * (its.length + 1) + 0 + 0 ≤ 36000; omega⟩ (fun Ka Ma va H locs hP hXa hI9 => ?_)
    obtain ⟨rfl, rfl, c3, hc3, rfl⟩ := hP
    have hI := hI9
    have key : ∀ u : Bool, ∀ H locs, Inv G Ka ad s.heap (wr M k0 1 (Int32.ofNat (i + 1))) H locs → W p l e (rmO 7 60 36000) s m args below meth c H locs (10 * (its.length + 1) + 0) (6000 * (its.length + 1) + 0) (MQ below (Qs G kd ad s.heap.size (PX kd ad M0 (G.2.2 400) k0 t0)) args s 60 36000 (AS kd ad s.heap.size)) (F0 m 91 ls [.int (if u then 1 else 0), .int (Int32.ofNat its.length), .ref (ad (k0 + 3))]) := by
      intro u H locs hI
      refine g_zast hx hb hK hap hI hkL.2.2 (okb_in (o_ok (v := its.length) (by omega) (by omega))) (dc tbL_text_1_k 10 rfl) rfl (fun H locs hI => ?_)
      have en : vp_nar .boolean (if u then 1 else 0) = if u then 1 else 0 := by cases u <;> decide
      rw [c_of (by omega), en] at hI
      refine lv_aload_n hx hb (dc tbL_text_1_k 11 rfl) rfl (lv_at hl 2 rfl) ?_
      refine ggL_3 hx hb hts hown hK hI hkL.1 q_t2_194 (dc tbL_text_1_k 12 rfl) ?_
      refine lv_iload_n hx hb (dc tbL_text_1_k 13 rfl) rfl (lv_at hl 0 rfl) ?_
      refine lv_iconst (v := 1) hx hb (dc tbL_text_1_k 14 rfl) (by decide) ?_
      refine lv_iadd hx hb (dc tbL_text_1_k 15 rfl) ?_
      refine lv_et (b := Int32.ofNat (its.length + 1)) (o_add (b := 1) (by omega)) ?_
      refine lv_bipush (v := 100) hx hb (dc tbL_text_1_k 16 rfl) (by decide) ?_
      refine lv_bipush (v := 10) hx hb (dc tbL_text_1_k 17 rfl) (by decide) ?_
      refine lv_aload_n hx hb (dc tbL_text_1_k 18 rfl) rfl (lv_at hl 2 rfl) ?_
      refine lv_bipush (v := 60) hx hb (dc tbL_text_1_k 19 rfl) (by decide) ?_
      refine d_callV (n := 1) (C := RL) hx hb hml hown hts hK hap hsx hI (tL_chosen l (m := 60) (i := i + 1) hkL hL (by omega) (by omega) (by rw [(wr_o (M := wr M k0 1 (Int32.ofNat (i + 1))) (j := its.length) k0 (by omega)).1, wr_at, if_pos rfl]) H.size) cv_L_chosen q_t3_191 rfl rfl ⟨Nat.le_of_ble_eq_true rfl, Nat.le_of_ble_eq_true rfl⟩ hkL.1 (by simp) rfl (ci := 9) rfl rfl hl.1 rfl (Nat.le_of_ble_eq_true rfl) (dc tbL_text_1_k 20 rfl) ⟨by show 10 * (its.length + 1) + 0 + 0 ≤ 60; omega, by show 6000 * (its.length + 1) + 0 + 0 ≤ 36000; omega⟩ (fun Kb Mb vb H locs hP hXb hI9 => ?_)
      obtain ⟨rfl, rfl, c6, hc6, rfl⟩ := hP
      have hI := hI9
      refine lv_imul hx hb (dc tbL_text_1_k 21 rfl) ?_
      refine lv_et (b := Int32.ofNat (10 * c6)) (by rw [i_eq, i_mulc (c := 10) rfl (by rw [t_of (by omega)]; omega) (by rw [t_of (by omega)]; omega), t_of (by omega), t_of (by omega)]; omega) ?_
      refine lv_iadd hx hb (dc tbL_text_1_k 22 rfl) ?_
      refine lv_et (b := Int32.ofNat (100 + 10 * c6)) (o_add (a := 100) (by omega)) ?_
      refine g_iast hx hb hK hap hI hkL.2.1 (okb_in (o_ok (v := its.length + 1) (by omega) (by omega))) (dc tbL_text_1_k 23 rfl) rfl (fun H locs hI => ?_)
      rw [c_of (by omega)] at hI
      have hLW2 := hLW.turn (b := its.length) (c := 100 + 10 * c6) (u := u) rfl
      generalize hM2 : wr (wr (wr (wr M k0 1 (Int32.ofNat (i + 1))) (k0 + 3) its.length (if u then 1 else 0)) k0 1 (Int32.ofNat (i + 2))) (k0 + 2) (its.length + 1) (Int32.ofNat (100 + 10 * c6)) = M2 at hI hLW2
      have hS2 : ∀ j, j ≠ k0 → j ≠ k0 + 2 → j ≠ k0 + 3 → Sm M M2 j := fun j h1 h2 h3 => by
        rw [← hM2]
        exact (((wr_s1 h1).trans (wr_s1 h3)).trans (wr_s1 h1)).trans (wr_s1 h2)
      have hF2 : Fz kd M0 Kb M2 k0 := fun j hj => ⟨(hF j hj).1, fun h1 h2 h3 => ((hF j hj).2 h1 h2 h3).trans (hS2 j h1 h2 h3)⟩
      have hkt0 : kt ≠ k0 ∧ kt ≠ k0 + 2 ∧ kt ≠ k0 + 3 := ⟨fun e => hkk.1 (by rw [← e]; exact hkt), fun e => hkk.2.1 (by rw [← e]; exact hkt), fun e => hkk.2.2 (by rw [← e]; exact hkt)⟩
      have hat0 : at' ≠ k0 ∧ at' ≠ k0 + 2 ∧ at' ≠ k0 + 3 := ⟨fun e => hkk.1 (by rw [← e]; exact hat), fun e => hkk.2.1 (by rw [← e]; exact hat), fun e => hkk.2.2 (by rw [← e]; exact hat)⟩
      have hST2 : STx Kb M2 kt at' (t0 ++ txs l0 its) := hST.keep ⟨rfl, hS2 kt hkt0.1 hkt0.2.1 hkt0.2.2⟩ ⟨rfl, hS2 at' hat0.1 hat0.2.1 hat0.2.2⟩
      clear hST hS2 hLW hM2
      clear hF
      revert hI hLW2 hF2 hST2
      generalize M2 = M
      intro hI hLW hF hST
      obtain ⟨K, hKK⟩ : ∃ K9 : Nat → Nat × Nat, K9 = Kb := ⟨Kb, rfl⟩
      rw [← hKK] at hX hsx hap hkL hI hF hST
      clear hKK
      obtain ⟨kB, hid, hid1⟩ := hsu H.size hI.2.1
      have hB0 := hI.1.fresh hid
      have hgB : s.heap.size ≤ ad kB := by rw [hid]; exact hI.2.1
      refine d_newo hx hb hts inWJ4 tyJ4 tyJ4_ok hown q_t3_205 q_t2_32 q_t1_8 hK hI hid (q := (29, 0)) (by simp) (ci := 1) rfl (fs := [.null, .int 0, .int 0, .int 0]) rfl (by decide +kernel) ⟨by show 10 * (its.length + 1) + 0 + 1 ≤ 60; omega, by show 6000 * (its.length + 1) + 0 + 4 ≤ 36000; omega⟩ (dc tbL_text_1_k 24 rfl) (fun H1 hz1 hI => ?_)
      have hXn := hX.trans (Kx.set (q := (29, 0)) (by simp) (fun _ => hgB))
      refine lv_dup hx hb (dc tbL_text_1_k 25 rfl) rfl ?_
      refine d_sb hx hb hml hown hts hK (by rw [hXn.AS]; exact hsx0) (by rw [hXn.AS]; exact hex) hI hinj setk_s hz1 (by rw [hid1, hid]) zr_s.1 q_t3_206 ⟨Nat.le_of_ble_eq_true rfl, Nat.le_of_ble_eq_true rfl⟩ hl.1 (Nat.le_of_ble_eq_true rfl) (dc tbL_text_1_k 26 rfl) ⟨by show 10 * (its.length + 1) + 1 + 1 ≤ 60; omega, by show 6000 * (its.length + 1) + 4 + 16 ≤ 36000; omega⟩ (fun K1 M1 H locs hSB hFB hB1 hX1 hI => ?_)
      have hX := hXn.trans hX1
      have hP0 : ∀ j, (K j).1 ≠ 0 → K1 j = K j ∧ Sm M M1 j := fun j hj => by
        have e : j ≠ kB := fun e => hj (by rw [e]; exact hB0)
        obtain ⟨f1, f2⟩ := hFB j (by rw [setk_o e]; exact hj) e
        exact ⟨f1.trans (setk_o e), (zr_s1 e).trans f2⟩
      have haB : (K (kB + 1)).1 = 0 := by
        by_cases e : (K (kB + 1)).1 = 0
        · exact e
        · have e2 : kB + 1 ≠ kB := by omega
          rw [setk_o e2] at hB1; exact hB1
      have hab : kB + 1 ≠ kB := by omega
      have hsx : Sx G (AS K1 ad s.heap.size) s s.heap := by rw [hX.AS]; exact hsx0
      have hap : Apt K1 ad := fun _ _ _ _ h => hinj _ _ h
      refine lv_aload_n hx hb (dc tbL_text_1_k 27 rfl) rfl (lv_at hl 1 rfl) ?_
      have hST1 : STx K1 M1 kt at' (t0 ++ txs l0 its) := hST.keep (hP0 kt (by rw [hST.1.1]; simp)) (hP0 at' (by rw [hST.1.2]; simp))
      have hkt1 : kt ≠ kB := fun e => by have := hST.1.1; rw [e] at this; exact absurd hB0 (by rw [this]; simp)
      have hat1 : at' ≠ kB := fun e => by have := hST.1.2; rw [e] at this; exact absurd hB0 (by rw [this]; simp)
      have hat2 : at' ≠ kB + 1 := fun e => by have := hST.1.2; rw [e] at this; exact absurd haB (by rw [this]; simp)
      refine d_callV (n := 1) (C := "java/lang/StringBuilder") hx hb hml hown hts hK hap hsx hI (tJ4_append_d l hinj hSB hab hST1 hat2 hat1 hkt1 (by rw [List.length_nil]; omega) H.size (hsu.le hI.2.1)) cv_J4_append_15ec4 q_t3_207 rfl rfl ⟨Nat.le_of_ble_eq_true rfl, Nat.le_of_ble_eq_true rfl⟩ hSB.1.1 (by simp) rfl rfl rfl hl.1 rfl (Nat.le_of_ble_eq_true rfl) (dc tbL_text_1_k 28 rfl) ⟨by show 10 * (its.length + 1) + 1 + 1 + 1 ≤ 60; omega, by show 6000 * (its.length + 1) + 4 + 16 + 1000 ≤ 36000; omega⟩ (fun K2 M2 v2 H locs hP hXb hI => ?_)
      obtain ⟨rfl, a2, m2, hSB, hab, hcap2, hKe, hMe, haa⟩ := hP
      have hX := hX.trans hXb
      have ha2 : (K a2).1 = 0 := by
        rcases haa with e | e
        · rw [e]; exact haB
        · by_cases e2 : (K a2).1 = 0
          · exact e2
          · exact absurd e (by rw [(hP0 _ e2).1]; exact e2)
      have hP0 : ∀ j, (K j).1 ≠ 0 → K2 j = K j ∧ Sm M M2 j := fun j hj => by
        obtain ⟨f1, f2⟩ := hP0 j hj
        have e1 : j ≠ kB := fun e => hj (by rw [e]; exact hB0)
        have e2 : j ≠ kB + 1 := fun e => hj (by rw [e]; exact haB)
        have e3 : (K1 j).1 ≠ 0 := by rw [f1]; exact hj
        exact ⟨(hKe j e3 e1).trans f1, f2.trans (hMe j e3 e1 e2)⟩
      have hsx : Sx G (AS K2 ad s.heap.size) s s.heap := by rw [hX.AS]; exact hsx0
      have hap : Apt K2 ad := fun _ _ _ _ h => hinj _ _ h
      refine lv_aload_n hx hb (dc tbL_text_1_k 29 rfl) rfl (lv_at hl 2 rfl) ?_
      have hkL2 : kLaw (G.2.2 400) K2 k0 := hkL.keep (fun j hj _ => (hP0 j hj).1)
      refine ggL_4 hx hb hts hown hK hI hkL2.1 q_t2_195 (dc tbL_text_1_k 30 rfl) ?_
      refine lv_iload_n hx hb (dc tbL_text_1_k 31 rfl) rfl (lv_at hl 0 rfl) ?_
      refine g_zald hx hb hK hI hkL2.2.2 (okb_in (o_ok (v := its.length) (by omega) (by omega))) (dc tbL_text_1_k 32 rfl) ?_
      have eu : rd M2 (k0 + 3) (Int32.ofNat its.length).toNatClampNeg = if u then 1 else 0 := by
        rw [c_of (by omega)]
        show M2.1 (k0 + 3) its.length = _
        rw [(hP0 (k0 + 3) (hkL.nz).2.2).2.1]
        have := hLW.2.2.2.2 its.length (by rw [List.length_append, List.length_singleton]; omega)
        rw [this, List.getD_eq_getElem?_getD, List.getElem?_append_right (Nat.le_refl _), Nat.sub_self]
        rfl
      refine lv_et eu ?_
      have key2 : ∀ i0, i0 < 19 → stN i0 = (if u then stN 13 else stN 14) → W p l e (rmO 7 60 36000) s m args below meth c H locs (10 * (its.length + 1) + 0 + 0 + 1 + 1 + 1) (6000 * (its.length + 1) + 0 + 0 + 4 + 16 + 1000) (MQ below (Qs G kd ad s.heap.size (PX kd ad M0 (G.2.2 400) k0 t0)) args s 60 36000 (AS kd ad s.heap.size)) (F0 m 139 ls [.ref (G.2.2 (100 + i0)), .ref (ad kB)]) := by
        intro i0 hi0 hs0
        obtain ⟨z1, z2, z3, z4, -⟩ := st_lens
        have hs1 : (stN i0).length = if u then 3 else 5 := by
          rw [hs0]
          cases u
          · exact z4
          · exact z3
        have hs2 : 3 ≤ (stN i0).length ∧ (stN i0).length ≤ 5 := by rw [hs1]; cases u <;> decide
        rw [List.nil_append] at hSB
        rw [List.length_nil] at hcap2
        refine d_callV (n := 1) (C := "java/lang/StringBuilder") hx hb hml hown hts hK hap hsx hI (tJ4_append_s l hinj hSB hab hi0 (by omega) H.size (hsu.le hI.2.1)) cv_J4_append_15ec4 q_t3_207 rfl rfl ⟨Nat.le_of_ble_eq_true rfl, Nat.le_of_ble_eq_true rfl⟩ hSB.1.1 (by simp) rfl rfl rfl hl.1 rfl (Nat.le_of_ble_eq_true rfl) (dc tbL_text_1_k 37 rfl) ⟨by show 10 * (its.length + 1) + 0 + 0 + 1 + 1 + 1 + 1 ≤ 60; omega, by show 6000 * (its.length + 1) + 0 + 0 + 4 + 16 + 1000 + 1000 ≤ 36000; omega⟩ (fun K3 M3 v3 H locs hP hXb hI => ?_)
        obtain ⟨rfl, a3, m3, hSB, hab, hcap3, hKe, hMe, haa⟩ := hP
        have hX := hX.trans hXb
        have ha3 : (K a3).1 = 0 := by
          rcases haa with e | e
          · rw [e]; exact ha2
          · by_cases e2 : (K a3).1 = 0
            · exact e2
            · exact absurd e (by rw [(hP0 _ e2).1]; exact e2)
        have hP0 : ∀ j, (K j).1 ≠ 0 → K3 j = K j ∧ Sm M M3 j := fun j hj => by
          obtain ⟨f1, f2⟩ := hP0 j hj
          have e1 : j ≠ kB := fun e => hj (by rw [e]; exact hB0)
          have e2 : j ≠ a2 := fun e => hj (by rw [e]; exact ha2)
          have e3 : (K2 j).1 ≠ 0 := by rw [f1]; exact hj
          exact ⟨(hKe j e3 e1).trans f1, f2.trans (hMe j e3 e1 e2)⟩
        have hsx : Sx G (AS K3 ad s.heap.size) s s.heap := by rw [hX.AS]; exact hsx0
        have hap : Apt K3 ad := fun _ _ _ _ h => hinj _ _ h
        refine lv_aload_n hx hb (dc tbL_text_1_k 38 rfl) rfl (lv_at hl 2 rfl) ?_
        have hkL3 : kLaw (G.2.2 400) K3 k0 := hkL.keep (fun j hj _ => (hP0 j hj).1)
        refine ggL_3 hx hb hts hown hK hI hkL3.1 q_t2_194 (dc tbL_text_1_k 39 rfl) ?_
        refine lv_iload_n hx hb (dc tbL_text_2_k 0 rfl) rfl (lv_at hl 0 rfl) ?_
        refine lv_iconst (v := 1) hx hb (dc tbL_text_2_k 1 rfl) (by decide) ?_
        refine lv_iadd hx hb (dc tbL_text_2_k 2 rfl) ?_
        refine lv_et (b := Int32.ofNat (its.length + 1)) (o_add (b := 1) (by omega)) ?_
        refine g_iald hx hb hK hI hkL3.2.1 (okb_in (o_ok (v := its.length + 1) (by omega) (by omega))) (dc tbL_text_2_k 3 rfl) ?_
        have ev : rd M3 (k0 + 2) (Int32.ofNat (its.length + 1)).toNatClampNeg = Int32.ofNat (100 + 10 * c6) := by
          rw [c_of (by omega)]
          show M3.1 (k0 + 2) (its.length + 1) = _
          rw [(hP0 (k0 + 2) (hkL.nz).2.1).2.1]
          have := hLW.2.2.2.1 (its.length + 1) (by rw [List.length_append, List.length_singleton]; omega)
          rw [this, List.map_append, ← List.cons_append, getD_app, List.length_cons, List.length_map, if_neg (by omega), Nat.sub_self]
          rfl
        refine lv_et ev ?_
        have hd3 : (dg (100 + 10 * c6)).length = 3 := dg_3 ⟨by omega, by omega⟩
        have hl3 : (t0 ++ txs l0 its ++ stN i0).length = t0.length + (txs l0 its).length + (stN i0).length := by rw [List.length_append, htl]
        refine d_callV (n := 1) (C := "java/lang/StringBuilder") hx hb hml hown hts hK hap hsx hI (tJ4_append_i l hinj hSB hab (v := 100 + 10 * c6) (by omega) (by omega) H.size (hsu.le hI.2.1)) cv_J4_append_bf812 q_t4_67 rfl rfl ⟨Nat.le_of_ble_eq_true rfl, Nat.le_of_ble_eq_true rfl⟩ hSB.1.1 (by simp) rfl rfl rfl hl.1 rfl (Nat.le_of_ble_eq_true rfl) (dc tbL_text_2_k 4 rfl) ⟨by show 10 * (its.length + 1) + 0 + 0 + 1 + 1 + 1 + 1 + 1 ≤ 60; omega, by show 6000 * (its.length + 1) + 0 + 0 + 4 + 16 + 1000 + 1000 + 1000 ≤ 36000; omega⟩ (fun K4 M4 v4 H locs hP hXb hI => ?_)
        obtain ⟨rfl, a4, m4, hSB, hab, hcap4, hKe, hMe, haa⟩ := hP
        have hX := hX.trans hXb
        have ha4 : (K a4).1 = 0 := by
          rcases haa with e | e
          · rw [e]; exact ha3
          · by_cases e2 : (K a4).1 = 0
            · exact e2
            · exact absurd e (by rw [(hP0 _ e2).1]; exact e2)
        have hP0 : ∀ j, (K j).1 ≠ 0 → K4 j = K j ∧ Sm M M4 j := fun j hj => by
          obtain ⟨f1, f2⟩ := hP0 j hj
          have e1 : j ≠ kB := fun e => hj (by rw [e]; exact hB0)
          have e2 : j ≠ a3 := fun e => hj (by rw [e]; exact ha3)
          have e3 : (K3 j).1 ≠ 0 := by rw [f1]; exact hj
          exact ⟨(hKe j e3 e1).trans f1, f2.trans (hMe j e3 e1 e2)⟩
        have hsx : Sx G (AS K4 ad s.heap.size) s s.heap := by rw [hX.AS]; exact hsx0
        have hap : Apt K4 ad := fun _ _ _ _ h => hinj _ _ h
        refine g_ldcS (List.mem_of_getElem? (i := 1) rfl) hx hb hown hsx (dc tbL_text_2_k 5 rfl) ?_
        have hl4 : (t0 ++ txs l0 its ++ stN i0 ++ dg (100 + 10 * c6)).length = t0.length + (txs l0 its).length + (stN i0).length + 3 := by rw [List.length_append, hl3, hd3]
        refine d_callV (n := 1) (C := "java/lang/StringBuilder") hx hb hml hown hts hK hap hsx hI (tJ4_append_s l hinj hSB hab (i0 := 12) (by omega) (by rw [hl4, z2]; omega) H.size (hsu.le hI.2.1)) cv_J4_append_15ec4 q_t3_207 rfl rfl ⟨Nat.le_of_ble_eq_true rfl, Nat.le_of_ble_eq_true rfl⟩ hSB.1.1 (by simp) rfl rfl rfl hl.1 rfl (Nat.le_of_ble_eq_true rfl) (dc tbL_text_2_k 6 rfl) ⟨by show 10 * (its.length + 1) + 0 + 0 + 1 + 1 + 1 + 1 + 1 + 1 ≤ 60; omega, by show 6000 * (its.length + 1) + 0 + 0 + 4 + 16 + 1000 + 1000 + 1000 + 1000 ≤ 36000; omega⟩ (fun K5 M5 v5 H locs hP hXb hI => ?_)
        obtain ⟨rfl, a5, m5, hSB, hab, hcap5, hKe, hMe, haa⟩ := hP
        have hX := hX.trans hXb
        have ha5 : (K a5).1 = 0 := by
          rcases haa with e | e
          · rw [e]; exact ha4
          · by_cases e2 : (K a5).1 = 0
            · exact e2
            · exact absurd e (by rw [(hP0 _ e2).1]; exact e2)
        have hP0 : ∀ j, (K j).1 ≠ 0 → K5 j = K j ∧ Sm M M5 j := fun j hj => by
          obtain ⟨f1, f2⟩ := hP0 j hj
          have e1 : j ≠ kB := fun e => hj (by rw [e]; exact hB0)
          have e2 : j ≠ a4 := fun e => hj (by rw [e]; exact ha4)
          have e3 : (K4 j).1 ≠ 0 := by rw [f1]; exact hj
          exact ⟨(hKe j e3 e1).trans f1, f2.trans (hMe j e3 e1 e2)⟩
        have hsx : Sx G (AS K5 ad s.heap.size) s s.heap := by rw [hX.AS]; exact hsx0
        have hap : Apt K5 ad := fun _ _ _ _ h => hinj _ _ h
        have hl5 : (t0 ++ txs l0 its ++ stN i0 ++ dg (100 + 10 * c6) ++ stN 12).length = t0.length + (txs l0 its).length + (stN i0).length + 4 := by rw [List.length_append, hl4, z2]
        have hm5 : (t0 ++ txs l0 its ++ stN i0 ++ dg (100 + 10 * c6) ++ stN 12).length < m5 := by
          rw [hl5]
          rw [hl4, z2] at hcap5
          rw [hl3, hd3] at hcap4
          rw [htl] at hcap3 hcap2
          unfold capN at hcap2 hcap3 hcap4 hcap5
          clear hP0 hKe hMe
          revert hcap2 hcap3 hcap4 hcap5
          split <;> split <;> split <;> split <;> omega
        have hP0' := hP0
        refine d_callV (n := 0) (C := "java/lang/StringBuilder") hx hb hml hown hts hK hap hsx hI (tJ4_toString_0e30d l hinj hSB hm5 (by rw [hl5]; omega) H.size (hsu.le hI.2.1)) cv_J4_toString_0e30d q_t4_93 rfl rfl ⟨Nat.le_of_ble_eq_true rfl, Nat.le_of_ble_eq_true rfl⟩ hSB.1.1 (by simp) rfl rfl rfl hl.1 rfl (Nat.le_of_ble_eq_true rfl) (dc tbL_text_2_k 7 rfl) ⟨by show 10 * (its.length + 1) + 0 + 0 + 1 + 1 + 1 + 1 + 1 + 1 + 2 ≤ 60; omega, by show 6000 * (its.length + 1) + 0 + 0 + 4 + 16 + 1000 + 1000 + 1000 + 1000 + 1000 ≤ 36000; omega⟩ (fun K9 M9 v9 H locs hP hXb hI => ?_)
        obtain ⟨kt9, at9, rfl, hST9, hF9, hk9, ha9'⟩ := hP
        have hX := hX.trans hXb
        have hP0 : ∀ j, (K j).1 ≠ 0 → K9 j = K j ∧ Sm M M9 j := fun j hj => by
          obtain ⟨f1, f2⟩ := hP0 j hj
          obtain ⟨g1, g2⟩ := hF9 j (by rw [f1]; exact hj)
          exact ⟨g1.trans f1, f2.trans g2⟩
        have hkt9 : (K kt9).1 = 0 := by
          by_cases e : (K kt9).1 = 0
          · exact e
          · obtain ⟨f1, -⟩ := (hP0' _ e)
            exact absurd hk9 (by rw [f1]; exact e)
        have hat9 : (K at9).1 = 0 := by
          by_cases e : (K at9).1 = 0
          · exact e
          · obtain ⟨f1, -⟩ := (hP0' _ e)
            exact absurd ha9' (by rw [f1]; exact e)
        refine lv_astore_n (lv' := [(2, .ref (ad kt9)), (3, .int (Int32.ofNat its.length)), (0, .ref (ad k0)), (1, .ref (ad kT))]) hx hb (dc tbL_text_2_k 8 rfl) rfl hl (by decide) rfl (fun ls hl => ?_)
        refine lv_iinc (v := Int32.ofNat (its.length + 1)) (lv' := [(3, .int (Int32.ofNat (its.length + 1))), (2, .ref (ad kt9)), (0, .ref (ad k0)), (1, .ref (ad kT))]) hx hb (dc tbL_text_2_k 9 rfl) hl (k := 1) rfl (o_add (b := 1) (by omega)) (by decide) rfl (fun ls hl => ?_)
        refine lv_goto (tgt := 65) hx hb (dc tbL_text_2_k 10 rfl) rfl ?_
        have hlen2 : (its ++ [(u, 100 + 10 * c6)]).length = its.length + 1 := by rw [List.length_append]; rfl
        have htx : t0 ++ txs l0 its ++ stN i0 ++ dg (100 + 10 * c6) ++ stN 12 = t0 ++ txs l0 (its ++ [(u, 100 + 10 * c6)]) := by
          rw [txs_app]
          unfold bt
          rw [hs0]
          simp only [List.append_assoc]
        rw [htx] at hST9
        refine W.widen (k := 10 * ((its ++ [(u, 100 + 10 * c6)]).length + 1)) (n := 6000 * ((its ++ [(u, 100 + 10 * c6)]).length + 1)) (by rw [hlen2]; omega) (by rw [hlen2]; omega) ?_
        have hkd : ∀ j, (kd j).1 ≠ 0 → (K j).1 ≠ 0 := fun j hj => by rw [(hF j hj).1]; exact hj
        refine IH (its ++ [(u, 100 + 10 * c6)]) nb l0 (i + 2) kt9 at9 K9 M9 H locs ls (by rw [hlen2]; omega) h1 h5 ⟨hIt.1, fun q hq => ?_⟩ (by rw [hlen2]; omega) (hLW.keep (hP0 _ hkL.nz.1).2 (hP0 _ hkL.nz.2.1).2 (hP0 _ hkL.nz.2.2).2) (hkL.keep (fun j hj _ => (hP0 j hj).1)) (fun j hj => ⟨(hP0 j (hkd j hj)).1.trans (hF j hj).1, fun h1 h2 h3 => ((hF j hj).2 h1 h2 h3).trans (hP0 j (hkd j hj)).2⟩) hST9 ?_ ?_ hX hI (by rw [hlen2]; exact hl)
        · rcases List.mem_append.mp hq with h | h
          · exact hIt.2 q h
          · rw [List.mem_singleton] at h
            subst h
            exact ⟨by show 100 ≤ 100 + 10 * c6; omega, by show 100 + 10 * c6 < 700; omega⟩
        · by_cases e : (kd kt9).1 = 0
          · exact e
          · exact absurd hkt9 (hkd _ e)
        · by_cases e : (kd at9).1 = 0
          · exact e
          · exact absurd hat9 (hkd _ e)
      cases u with
      | true =>
        refine lv_if_eq (tgt := 137) hx hb (dc tbL_text_1_k 33 rfl) rfl (fun c9 => absurd c9 (by decide)) (fun _ => ?_)
        refine g_ldcS (List.mem_of_getElem? (i := 2) rfl) hx hb hown hsx (dc tbL_text_1_k 34 rfl) ?_
        refine lv_goto (tgt := 139) hx hb (dc tbL_text_1_k 35 rfl) rfl ?_
        exact key2 13 (by omega) rfl
      | false =>
        refine lv_if_eq (tgt := 137) hx hb (dc tbL_text_1_k 33 rfl) rfl (fun _ => ?_) (fun c9 => absurd rfl c9)
        refine g_ldcS (List.mem_of_getElem? (i := 3) rfl) hx hb hown hsx (dc tbL_text_1_k 36 rfl) ?_
        exact key2 14 (by omega) rfl
    refine lv_if_le (tgt := 90) hx hb (dc tbL_text_1_k 6 rfl) rfl (fun _ => ?_) (fun _ => ?_)
    · refine lv_iconst (v := 0) hx hb (dc tbL_text_1_k 9 rfl) (by decide) ?_
      exact key false _ _ hI
    · refine lv_iconst (v := 1) hx hb (dc tbL_text_1_k 7 rfl) (by decide) ?_
      refine lv_goto (tgt := 91) hx hb (dc tbL_text_1_k 8 rfl) rfl ?_
      exact key true _ _ hI
theorem LW.start {M : Mem} {k0 i nb l0 : Nat} : LW M (wr (wr (wr (wr M k0 1 (Int32.ofNat (i + 1))) k0 2 (Int32.ofNat nb)) k0 1 (Int32.ofNat (i + 2))) (k0 + 2) 0 (Int32.ofNat l0)) k0 (i + 2) nb l0 [] := by
  have e0 : ∀ (A : Mem) (v : Int32), (wr A (k0 + 2) 0 v).1 k0 = A.1 k0 := fun A v => (wr_o (M := A) (j := 0) (v := v) k0 (by omega)).1
  refine ⟨?_, ?_, fun j hj => ?_, fun j hj => ?_, fun j hj => absurd hj (by simp)⟩
  · rw [e0, wr_at, if_pos rfl]
  · rw [e0, wr_at, if_neg (by decide), wr_at, if_pos rfl]
  · rw [e0, wr_at, if_neg (by omega), wr_at, if_neg (by omega), wr_at, if_neg (by omega)]
  · have : j = 0 := by simpa using hj
    subst this
    rw [wr_at, if_pos rfl]; rfl
set_option maxHeartbeats 8000000 in
theorem tL_text (l : Launch) {G : GT} {kd : Nat → Nat × Nat} {ad : Nat → Nat} {M : Mem} {k0 kT aT : Nat} {t0 : List Nat} (hinj : ∀ i j, ad i = ad j → i = j) (hkL : kLaw (G.2.2 400) kd k0) (hL : G.2.2 401 < 100000) (hT : STx kd M kT aT t0) (ht0 : 30 ≤ t0.length ∧ t0.length ≤ 52) (hat : M.1 k0 1 = Int32.ofNat 4) (n : Nat) (hsu : Su ad n) :
    Met l yL_text (Cond.code yL_text cL_text 4 (some (.object "java/lang/String")) :: WA) (rmO 7 60 36000) (PgE G kd ad n [.ref (ad k0), .ref (ad kT)] M) (Qs G kd ad n (PX kd ad M (G.2.2 400) k0 t0)) 60 36000 (AS kd ad n) := by
  refine d_bodyE (own := RL) (by decide) rfl ?_ (Nat.le_of_ble_eq_true rfl)
  intro p e s m args below meth c C hex hsz H locs ls hI hl
  subst hsz
  have C0 := C
  have hsx0 := C.2.2.2.2.2.2.2.2.2
  obtain ⟨hx, hb, hml, hr, hown, hts, hlk, hK, hap, hsx⟩ := C
  have hl : lv_has ls 4 [(0, .ref (ad k0)), (1, .ref (ad kT))] := hl
  have hX : Kx kd kd ad s.heap.size := Kx.rf
  refine lv_aload_n hx hb (dc tbL_text_0_k 0 rfl) rfl (lv_at hl 0 rfl) ?_
  refine lv_iconst (v := 1) hx hb (dc tbL_text_0_k 1 rfl) (by decide) ?_
  refine lv_aload_n hx hb (dc tbL_text_0_k 2 rfl) rfl (lv_at hl 0 rfl) ?_
  refine lv_iconst (v := 5) hx hb (dc tbL_text_0_k 3 rfl) (by decide) ?_
  refine d_callV (n := 1) (C := RL) hx hb hml hown hts hK hap hsx hI (tL_chosen l (m := 5) hkL hL (by omega) (by omega) hat H.size) cv_L_chosen q_t3_191 rfl rfl ⟨Nat.le_of_ble_eq_true rfl, Nat.le_of_ble_eq_true rfl⟩ hkL.1 (by simp) rfl (ci := 9) rfl rfl hl.1 rfl (Nat.le_of_ble_eq_true rfl) (dc tbL_text_0_k 4 rfl) ⟨Nat.le_of_ble_eq_true rfl, Nat.le_of_ble_eq_true rfl⟩ (fun Ka Ma va H locs hP hXa hI9 => ?_)
  obtain ⟨rfl, rfl, c5, hc5, rfl⟩ := hP
  have hI := hI9
  refine lv_iadd hx hb (dc tbL_text_0_k 5 rfl) ?_
  refine lv_et (b := Int32.ofNat (1 + c5)) (o_add (a := 1) (by omega)) ?_
  refine gpL_2 hx hb hts hown hK hap hI hkL.1 q_t2_193 (dc tbL_text_0_k 6 rfl) rfl (fun H locs hI => ?_)
  refine lv_aload_n hx hb (dc tbL_text_0_k 7 rfl) rfl (lv_at hl 0 rfl) ?_
  refine ggL_3 hx hb hts hown hK hI hkL.1 q_t2_194 (dc tbL_text_0_k 8 rfl) ?_
  refine lv_iconst (v := 0) hx hb (dc tbL_text_0_k 9 rfl) (by decide) ?_
  refine lv_bipush (v := 100) hx hb (dc tbL_text_0_k 10 rfl) (by decide) ?_
  refine lv_bipush (v := 10) hx hb (dc tbL_text_0_k 11 rfl) (by decide) ?_
  refine lv_aload_n hx hb (dc tbL_text_0_k 12 rfl) rfl (lv_at hl 0 rfl) ?_
  refine lv_bipush (v := 60) hx hb (dc tbL_text_0_k 13 rfl) (by decide) ?_
  refine d_callV (n := 1) (C := RL) hx hb hml hown hts hK hap hsx hI (tL_chosen l (m := 60) (i := 5) hkL hL (by omega) (by omega) (by rw [wr_at, if_neg (by decide), wr_at, if_pos rfl]) H.size) cv_L_chosen q_t3_191 rfl rfl ⟨Nat.le_of_ble_eq_true rfl, Nat.le_of_ble_eq_true rfl⟩ hkL.1 (by simp) rfl (ci := 9) rfl rfl hl.1 rfl (Nat.le_of_ble_eq_true rfl) (dc tbL_text_0_k 14 rfl) ⟨Nat.le_of_ble_eq_true rfl, Nat.le_of_ble_eq_true rfl⟩ (fun Kb Mb vb H locs hP hXb hI9 => ?_)
  obtain ⟨rfl, rfl, c6, hc6, rfl⟩ := hP
  have hI := hI9
  refine lv_imul hx hb (dc tbL_text_0_k 15 rfl) ?_
  refine lv_et (b := Int32.ofNat (10 * c6)) (by rw [i_eq, i_mulc (c := 10) rfl (by rw [t_of (by omega)]; omega) (by rw [t_of (by omega)]; omega), t_of (by omega), t_of (by omega)]; omega) ?_
  refine lv_iadd hx hb (dc tbL_text_0_k 16 rfl) ?_
  refine lv_et (b := Int32.ofNat (100 + 10 * c6)) (o_add (a := 100) (by omega)) ?_
  refine g_iast hx hb hK hap hI hkL.2.1 (okb_in (o_ok (v := 0) (by omega) (by omega))) (dc tbL_text_0_k 17 rfl) rfl (fun H locs hI => ?_)
  have hLW : LW M (wr (wr (wr (wr M k0 1 (Int32.ofNat (4 + 1))) k0 2 (Int32.ofNat (1 + c5))) k0 1 (Int32.ofNat (4 + 2))) (k0 + 2) 0 (Int32.ofNat (100 + 10 * c6))) k0 (4 + 2) (1 + c5) (100 + 10 * c6) [] := LW.start
  have hI : Inv G Kb ad s.heap (wr (wr (wr (wr M k0 1 (Int32.ofNat (4 + 1))) k0 2 (Int32.ofNat (1 + c5))) k0 1 (Int32.ofNat (4 + 2))) (k0 + 2) 0 (Int32.ofNat (100 + 10 * c6))) H locs := hI
  have hS2 : ∀ j, j ≠ k0 → j ≠ k0 + 2 → j ≠ k0 + 3 → Sm M (wr (wr (wr (wr M k0 1 (Int32.ofNat (4 + 1))) k0 2 (Int32.ofNat (1 + c5))) k0 1 (Int32.ofNat (4 + 2))) (k0 + 2) 0 (Int32.ofNat (100 + 10 * c6))) j := fun j h1 h2 h3 => (((wr_s1 h1).trans (wr_s1 h1)).trans (wr_s1 h1)).trans (wr_s1 h2)
  have hkT0 : kT ≠ k0 ∧ kT ≠ k0 + 2 ∧ kT ≠ k0 + 3 := ⟨fun e => by have := hT.1.1; rw [e, hkL.1] at this; exact absurd (congrArg Prod.fst this) (by simp), fun e => by have := hT.1.1; rw [e, hkL.2.1] at this; exact absurd (congrArg Prod.fst this) (by simp), fun e => by have := hT.1.1; rw [e, hkL.2.2] at this; exact absurd (congrArg Prod.fst this) (by simp)⟩
  have haT0 : aT ≠ k0 ∧ aT ≠ k0 + 2 ∧ aT ≠ k0 + 3 := ⟨fun e => by have := hT.1.2; rw [e, hkL.1] at this; exact absurd (congrArg Prod.fst this) (by simp), fun e => by have := hT.1.2; rw [e, hkL.2.1] at this; exact absurd (congrArg Prod.fst this) (by simp), fun e => by have := hT.1.2; rw [e, hkL.2.2] at this; exact absurd (congrArg Prod.fst this) (by simp)⟩
  have hF : Fz Kb M Kb (wr (wr (wr (wr M k0 1 (Int32.ofNat (4 + 1))) k0 2 (Int32.ofNat (1 + c5))) k0 1 (Int32.ofNat (4 + 2))) (k0 + 2) 0 (Int32.ofNat (100 + 10 * c6))) k0 := fun j _ => ⟨rfl, hS2 j⟩
  have hST : STx Kb (wr (wr (wr (wr M k0 1 (Int32.ofNat (4 + 1))) k0 2 (Int32.ofNat (1 + c5))) k0 1 (Int32.ofNat (4 + 2))) (k0 + 2) 0 (Int32.ofNat (100 + 10 * c6))) kT aT t0 := hT.keep ⟨rfl, hS2 kT hkT0.1 hkT0.2.1 hkT0.2.2⟩ ⟨rfl, hS2 aT haT0.1 haT0.2.1 haT0.2.2⟩
  generalize (wr (wr (wr (wr M k0 1 (Int32.ofNat (4 + 1))) k0 2 (Int32.ofNat (1 + c5))) k0 1 (Int32.ofNat (4 + 2))) (k0 + 2) 0 (Int32.ofNat (100 + 10 * c6))) = Mx at hI hLW hF hST
  clear hS2
  have hP1 : ∀ j, (Kb j).1 ≠ 0 → Kb j = Kb j ∧ Sm Mx Mx j := fun j _ => ⟨rfl, Sm.rf⟩
  obtain ⟨z1, z2, z3, z4, -⟩ := st_lens
  have hd3 : (dg (100 + 10 * c6)).length = 3 := dg_3 ⟨by omega, by omega⟩
  have hkk := hkL.nz
  obtain ⟨kB, hid, hid1⟩ := hsu H.size hI.2.1
  have hB0 := hI.1.fresh hid
  have hgB : s.heap.size ≤ ad kB := by rw [hid]; exact hI.2.1
  refine d_newo hx hb hts inWJ4 tyJ4 tyJ4_ok hown q_t3_205 q_t2_32 q_t1_8 hK hI hid (q := (29, 0)) (by simp) (ci := 1) rfl (fs := [.null, .int 0, .int 0, .int 0]) rfl (by decide +kernel) ⟨Nat.le_of_ble_eq_true rfl, Nat.le_of_ble_eq_true rfl⟩ (dc tbL_text_0_k 18 rfl) (fun H1 hz1 hI => ?_)
  have hXn := hX.trans (Kx.set (q := (29, 0)) (by simp) (fun _ => hgB))
  refine lv_dup hx hb (dc tbL_text_0_k 19 rfl) rfl ?_
  refine d_sb hx hb hml hown hts hK (by rw [hXn.AS]; exact hsx0) (by rw [hXn.AS]; exact hex) hI hinj setk_s hz1 (by rw [hid1, hid]) zr_s.1 q_t3_206 ⟨Nat.le_of_ble_eq_true rfl, Nat.le_of_ble_eq_true rfl⟩ hl.1 (Nat.le_of_ble_eq_true rfl) (dc tbL_text_0_k 20 rfl) ⟨Nat.le_of_ble_eq_true rfl, Nat.le_of_ble_eq_true rfl⟩ (fun K1 M1 H locs hSB hFB hB1 hX1 hI => ?_)
  have hX := hXn.trans hX1
  have hP0 : ∀ j, (Kb j).1 ≠ 0 → K1 j = Kb j ∧ Sm Mx M1 j := fun j hj => by
    have e : j ≠ kB := fun e => hj (by rw [e]; exact hB0)
    obtain ⟨f1, f2⟩ := hFB j (by rw [setk_o e]; exact hj) e
    exact ⟨f1.trans (setk_o e), (zr_s1 e).trans f2⟩
  have haB : (Kb (kB + 1)).1 = 0 := by
    by_cases e : (Kb (kB + 1)).1 = 0
    · exact e
    · have e2 : kB + 1 ≠ kB := by omega
      rw [setk_o e2] at hB1; exact hB1
  have hab : kB + 1 ≠ kB := by omega
  have hsx : Sx G (AS K1 ad s.heap.size) s s.heap := by rw [hX.AS]; exact hsx0
  have hap : Apt K1 ad := fun _ _ _ _ h => hinj _ _ h
  refine lv_aload_n hx hb (dc tbL_text_0_k 21 rfl) rfl (lv_at hl 1 rfl) ?_
  have hST1 : STx K1 M1 kT aT t0 := hST.keep (hP0 kT (by rw [hST.1.1]; simp)) (hP0 aT (by rw [hST.1.2]; simp))
  have hkt1 : kT ≠ kB := fun e => by have := hST.1.1; rw [e] at this; exact absurd hB0 (by rw [this]; simp)
  have hat1 : aT ≠ kB := fun e => by have := hST.1.2; rw [e] at this; exact absurd hB0 (by rw [this]; simp)
  have hat2 : aT ≠ kB + 1 := fun e => by have := hST.1.2; rw [e] at this; exact absurd haB (by rw [this]; simp)
  refine d_callV (n := 1) (C := "java/lang/StringBuilder") hx hb hml hown hts hK hap hsx hI (tJ4_append_d l hinj hSB hab hST1 hat2 hat1 hkt1 (by rw [List.length_nil]; omega) H.size (hsu.le hI.2.1)) cv_J4_append_15ec4 q_t3_207 rfl rfl ⟨Nat.le_of_ble_eq_true rfl, Nat.le_of_ble_eq_true rfl⟩ hSB.1.1 (by simp) rfl rfl rfl hl.1 rfl (Nat.le_of_ble_eq_true rfl) (dc tbL_text_0_k 22 rfl) ⟨Nat.le_of_ble_eq_true rfl, Nat.le_of_ble_eq_true rfl⟩ (fun K2 M2 v2 H locs hP hXb hI => ?_)
  obtain ⟨rfl, a2, m2, hSB, hab, hcap2, hKe, hMe, haa⟩ := hP
  have hX := hX.trans hXb
  have ha2 : (Kb a2).1 = 0 := by
    rcases haa with e | e
    · rw [e]; exact haB
    · by_cases e2 : (Kb a2).1 = 0
      · exact e2
      · exact absurd e (by rw [(hP0 _ e2).1]; exact e2)
  have hP0 : ∀ j, (Kb j).1 ≠ 0 → K2 j = Kb j ∧ Sm Mx M2 j := fun j hj => by
    obtain ⟨f1, f2⟩ := hP0 j hj
    have e1 : j ≠ kB := fun e => hj (by rw [e]; exact hB0)
    have e2 : j ≠ kB + 1 := fun e => hj (by rw [e]; exact haB)
    have e3 : (K1 j).1 ≠ 0 := by rw [f1]; exact hj
    exact ⟨(hKe j e3 e1).trans f1, f2.trans (hMe j e3 e1 e2)⟩
  have hsx : Sx G (AS K2 ad s.heap.size) s s.heap := by rw [hX.AS]; exact hsx0
  have hap : Apt K2 ad := fun _ _ _ _ h => hinj _ _ h
  rw [List.nil_append] at hSB
  rw [List.length_nil] at hcap2
  refine g_ldcS (List.mem_of_getElem? (i := 0) rfl) hx hb hown hsx (dc tbL_text_0_k 23 rfl) ?_
  refine d_callV (n := 1) (C := "java/lang/StringBuilder") hx hb hml hown hts hK hap hsx hI (tJ4_append_s l hinj hSB hab (i0 := 11) (by omega) (by rw [z1]; omega) H.size (hsu.le hI.2.1)) cv_J4_append_15ec4 q_t3_207 rfl rfl ⟨Nat.le_of_ble_eq_true rfl, Nat.le_of_ble_eq_true rfl⟩ hSB.1.1 (by simp) rfl rfl rfl hl.1 rfl (Nat.le_of_ble_eq_true rfl) (dc tbL_text_0_k 24 rfl) ⟨Nat.le_of_ble_eq_true rfl, Nat.le_of_ble_eq_true rfl⟩ (fun K3 M3 v3 H locs hP hXb hI => ?_)
  obtain ⟨rfl, a3, m3, hSB, hab, hcap3, hKe, hMe, haa⟩ := hP
  have hX := hX.trans hXb
  have ha3 : (Kb a3).1 = 0 := by
    rcases haa with e | e
    · rw [e]; exact ha2
    · by_cases e2 : (Kb a3).1 = 0
      · exact e2
      · exact absurd e (by rw [(hP0 _ e2).1]; exact e2)
  have hP0 : ∀ j, (Kb j).1 ≠ 0 → K3 j = Kb j ∧ Sm Mx M3 j := fun j hj => by
    obtain ⟨f1, f2⟩ := hP0 j hj
    have e1 : j ≠ kB := fun e => hj (by rw [e]; exact hB0)
    have e2 : j ≠ a2 := fun e => hj (by rw [e]; exact ha2)
    have e3 : (K2 j).1 ≠ 0 := by rw [f1]; exact hj
    exact ⟨(hKe j e3 e1).trans f1, f2.trans (hMe j e3 e1 e2)⟩
  have hsx : Sx G (AS K3 ad s.heap.size) s s.heap := by rw [hX.AS]; exact hsx0
  have hap : Apt K3 ad := fun _ _ _ _ h => hinj _ _ h
  refine lv_aload_n hx hb (dc tbL_text_0_k 25 rfl) rfl (lv_at hl 0 rfl) ?_
  have hkL3 : kLaw (G.2.2 400) K3 k0 := hkL.keep (fun j hj _ => (hP0 j hj).1)
  refine ggL_3 hx hb hts hown hK hI hkL3.1 q_t2_194 (dc tbL_text_0_k 26 rfl) ?_
  refine lv_iconst (v := 0) hx hb (dc tbL_text_0_k 27 rfl) (by decide) ?_
  refine g_iald hx hb hK hI hkL3.2.1 (okb_in (o_ok (v := 0) (by omega) (by omega))) (dc tbL_text_0_k 28 rfl) ?_
  have ev : rd M3 (k0 + 2) ((0 : Int32)).toNatClampNeg = Int32.ofNat (100 + 10 * c6) := by
    show M3.1 (k0 + 2) 0 = _
    rw [(hP0 (k0 + 2) hkk.2.1).2.1]
    exact hLW.2.2.2.1 0 (by simp)
  refine lv_et ev ?_
  have hl3 : (t0 ++ stN 11).length = t0.length + 4 := by rw [List.length_append, z1]
  refine d_callV (n := 1) (C := "java/lang/StringBuilder") hx hb hml hown hts hK hap hsx hI (tJ4_append_i l hinj hSB hab (v := 100 + 10 * c6) (by omega) (by omega) H.size (hsu.le hI.2.1)) cv_J4_append_bf812 q_t4_67 rfl rfl ⟨Nat.le_of_ble_eq_true rfl, Nat.le_of_ble_eq_true rfl⟩ hSB.1.1 (by simp) rfl rfl rfl hl.1 rfl (Nat.le_of_ble_eq_true rfl) (dc tbL_text_0_k 29 rfl) ⟨Nat.le_of_ble_eq_true rfl, Nat.le_of_ble_eq_true rfl⟩ (fun K4 M4 v4 H locs hP hXb hI => ?_)
  obtain ⟨rfl, a4, m4, hSB, hab, hcap4, hKe, hMe, haa⟩ := hP
  have hX := hX.trans hXb
  have ha4 : (Kb a4).1 = 0 := by
    rcases haa with e | e
    · rw [e]; exact ha3
    · by_cases e2 : (Kb a4).1 = 0
      · exact e2
      · exact absurd e (by rw [(hP0 _ e2).1]; exact e2)
  have hP0 : ∀ j, (Kb j).1 ≠ 0 → K4 j = Kb j ∧ Sm Mx M4 j := fun j hj => by
    obtain ⟨f1, f2⟩ := hP0 j hj
    have e1 : j ≠ kB := fun e => hj (by rw [e]; exact hB0)
    have e2 : j ≠ a3 := fun e => hj (by rw [e]; exact ha3)
    have e3 : (K3 j).1 ≠ 0 := by rw [f1]; exact hj
    exact ⟨(hKe j e3 e1).trans f1, f2.trans (hMe j e3 e1 e2)⟩
  have hsx : Sx G (AS K4 ad s.heap.size) s s.heap := by rw [hX.AS]; exact hsx0
  have hap : Apt K4 ad := fun _ _ _ _ h => hinj _ _ h
  refine g_ldcS (List.mem_of_getElem? (i := 1) rfl) hx hb hown hsx (dc tbL_text_0_k 30 rfl) ?_
  have hl4 : (t0 ++ stN 11 ++ dg (100 + 10 * c6)).length = t0.length + 7 := by rw [List.length_append, hl3, hd3]
  refine d_callV (n := 1) (C := "java/lang/StringBuilder") hx hb hml hown hts hK hap hsx hI (tJ4_append_s l hinj hSB hab (i0 := 12) (by omega) (by rw [hl4, z2]; omega) H.size (hsu.le hI.2.1)) cv_J4_append_15ec4 q_t3_207 rfl rfl ⟨Nat.le_of_ble_eq_true rfl, Nat.le_of_ble_eq_true rfl⟩ hSB.1.1 (by simp) rfl rfl rfl hl.1 rfl (Nat.le_of_ble_eq_true rfl) (dc tbL_text_0_k 31 rfl) ⟨Nat.le_of_ble_eq_true rfl, Nat.le_of_ble_eq_true rfl⟩ (fun K5 M5 v5 H locs hP hXb hI => ?_)
  obtain ⟨rfl, a5, m5, hSB, hab, hcap5, hKe, hMe, haa⟩ := hP
  have hX := hX.trans hXb
  have ha5 : (Kb a5).1 = 0 := by
    rcases haa with e | e
    · rw [e]; exact ha4
    · by_cases e2 : (Kb a5).1 = 0
      · exact e2
      · exact absurd e (by rw [(hP0 _ e2).1]; exact e2)
  have hP0 : ∀ j, (Kb j).1 ≠ 0 → K5 j = Kb j ∧ Sm Mx M5 j := fun j hj => by
    obtain ⟨f1, f2⟩ := hP0 j hj
    have e1 : j ≠ kB := fun e => hj (by rw [e]; exact hB0)
    have e2 : j ≠ a4 := fun e => hj (by rw [e]; exact ha4)
    have e3 : (K4 j).1 ≠ 0 := by rw [f1]; exact hj
    exact ⟨(hKe j e3 e1).trans f1, f2.trans (hMe j e3 e1 e2)⟩
  have hsx : Sx G (AS K5 ad s.heap.size) s s.heap := by rw [hX.AS]; exact hsx0
  have hap : Apt K5 ad := fun _ _ _ _ h => hinj _ _ h
  have hl5 : (t0 ++ stN 11 ++ dg (100 + 10 * c6) ++ stN 12).length = t0.length + 8 := by rw [List.length_append, hl4, z2]
  have hm5 : (t0 ++ stN 11 ++ dg (100 + 10 * c6) ++ stN 12).length < m5 := by
    rw [hl5]
    rw [hl4, z2] at hcap5
    rw [hl3, hd3] at hcap4
    rw [z1] at hcap3
    unfold capN at hcap2 hcap3 hcap4 hcap5
    clear hP0 hKe hMe
    revert hcap2 hcap3 hcap4 hcap5
    split <;> split <;> split <;> split <;> omega
  have hP0' := hP0
  refine d_callV (n := 0) (C := "java/lang/StringBuilder") hx hb hml hown hts hK hap hsx hI (tJ4_toString_0e30d l hinj hSB hm5 (by rw [hl5]; omega) H.size (hsu.le hI.2.1)) cv_J4_toString_0e30d q_t4_93 rfl rfl ⟨Nat.le_of_ble_eq_true rfl, Nat.le_of_ble_eq_true rfl⟩ hSB.1.1 (by simp) rfl rfl rfl hl.1 rfl (Nat.le_of_ble_eq_true rfl) (dc tbL_text_0_k 32 rfl) ⟨Nat.le_of_ble_eq_true rfl, Nat.le_of_ble_eq_true rfl⟩ (fun K9 M9 v9 H locs hP hXb hI => ?_)
  obtain ⟨kt9, at9, rfl, hST9, hF9, hk9, ha9'⟩ := hP
  have hX := hX.trans hXb
  have hP0 : ∀ j, (Kb j).1 ≠ 0 → K9 j = Kb j ∧ Sm Mx M9 j := fun j hj => by
    obtain ⟨f1, f2⟩ := hP0 j hj
    obtain ⟨g1, g2⟩ := hF9 j (by rw [f1]; exact hj)
    exact ⟨g1.trans f1, f2.trans g2⟩
  have hkt9 : (Kb kt9).1 = 0 := by
    by_cases e : (Kb kt9).1 = 0
    · exact e
    · obtain ⟨f1, -⟩ := (hP0' _ e)
      exact absurd hk9 (by rw [f1]; exact e)
  have hat9 : (Kb at9).1 = 0 := by
    by_cases e : (Kb at9).1 = 0
    · exact e
    · obtain ⟨f1, -⟩ := (hP0' _ e)
      exact absurd ha9' (by rw [f1]; exact e)
  refine lv_astore_n (lv' := [(2, .ref (ad kt9)), (0, .ref (ad k0)), (1, .ref (ad kT))]) hx hb (dc tbL_text_0_k 33 rfl) rfl hl (by decide) rfl (fun ls hl => ?_)
  refine lv_iconst (v := 0) hx hb (dc tbL_text_0_k 34 rfl) (by decide) ?_
  refine lv_istore_n (lv' := [(3, .int 0), (2, .ref (ad kt9)), (0, .ref (ad k0)), (1, .ref (ad kT))]) hx hb (dc tbL_text_0_k 35 rfl) rfl hl (by decide) rfl (fun ls hl => ?_)
  have htx : t0 ++ stN 11 ++ dg (100 + 10 * c6) ++ stN 12 = t0 ++ txs (100 + 10 * c6) [] := by
    unfold txs
    simp only [List.append_assoc, List.flatMap_nil, List.append_nil]
  rw [htx] at hST9
  refine W.widen (k := 10 * (([] : List (Bool × Nat)).length + 1)) (n := 6000 * (([] : List (Bool × Nat)).length + 1)) (Nat.le_of_ble_eq_true rfl) (Nat.le_of_ble_eq_true rfl) ?_
  exact tL_text_loop C0 hex hinj hsu hL ht0 hkk (1 + c5) [] (1 + c5) (100 + 10 * c6) (4 + 2) kt9 at9 K9 M9 H locs ls (by simp) (by omega) (by omega) ⟨⟨by omega, by omega⟩, fun q hq => absurd hq (by simp)⟩ rfl (hLW.keep (hP0 _ hkk.1).2 (hP0 _ hkk.2.1).2 (hP0 _ hkk.2.2).2) (hkL.keep (fun j hj _ => (hP0 j hj).1)) (fun j hj => ⟨(hP0 j hj).1.trans (hF j hj).1, fun h1 h2 h3 => ((hF j hj).2 h1 h2 h3).trans (hP0 j hj).2⟩) hST9 hkt9 hat9 hX hI hl
theorem cv_L_text : cvF RL yL_text cL_text 4 (some (.object "java/lang/String")) 1 := ⟨q_t3_203, q_s1_13, q_t1_0, q_t3_204, (by decide +kernel)⟩
