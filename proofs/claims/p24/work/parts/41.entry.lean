def kfL : List (Nat × Nat) := [(6, 0), (11, 600), (5, 0), (10, 3), (11, 0), (1, 0), (10, 9), (10, 10), (10, 8), (10, 8), (10, 8), (10, 8), (10, 8), (1, 0), (10, 9), (10, 10), (10, 8), (10, 8), (10, 8), (10, 8), (10, 8), (4, 0), (8, 10), (1, 0), (10, 9), (10, 10), (10, 8), (10, 8), (10, 8), (10, 8), (10, 8), (1, 0), (10, 9), (10, 10), (10, 8), (10, 8), (10, 8), (10, 8), (10, 8), (1, 0), (10, 9), (10, 10), (10, 8), (10, 8), (10, 8), (10, 8), (10, 8), (1, 0), (10, 9), (10, 10), (10, 8), (10, 8), (10, 8), (10, 8), (10, 8), (1, 0), (10, 9), (10, 10), (10, 8), (10, 8), (10, 8), (10, 8), (10, 8), (1, 0), (10, 9), (10, 10), (10, 8), (10, 8), (10, 8), (10, 8), (10, 8), (1, 0), (10, 9), (10, 10), (10, 8), (10, 8), (10, 8), (10, 8), (10, 8), (1, 0), (10, 9), (10, 10), (10, 8), (10, 8), (10, 8), (10, 8), (10, 8), (1, 0), (10, 9), (10, 10), (10, 8), (10, 8), (10, 8), (10, 8), (10, 8), (1, 0), (10, 9), (10, 10), (10, 8), (10, 8), (10, 8), (10, 8), (10, 8), (2, 0), (10, 9), (10, 9), (10, 9), (10, 9), (10, 9), (10, 9), (3, 0), (10, 8), (2, 0), (10, 9), (10, 9), (10, 9), (10, 9), (10, 9), (10, 9), (1, 0), (10, 9), (10, 10), (10, 8), (10, 8), (10, 8), (10, 8), (10, 8), (10, 256), (12, 256), (13, 256), (10, 4096), (10, 4096), (10, 4096), (9, 0), (11, 16), (7, 0), (10, 86), (10, 86), (10, 86), (10, 860), (10, 600), (10, 9), (10, 9), (10, 9), (10, 9), (12, 4096), (10, 4096), (13, 256), (10, 4352), (10, 4352), (12, 256), (10, 120), (13, 1), (14, 1)]
def lowB (c k : Nat) : Bool := c == 0 || (c == 1 && decide (k ≤ 146)) || (c == 2 && decide (k ≤ 147)) || (c == 3 && decide (k ≤ 131)) || (c == 4 && decide (k ≤ 152)) || (c == 5 && decide (k ≤ 152)) || c == 6 || (c == 8 && k == 22) || c == 10 || c == 11 || c == 12 || c == 13 || c == 14
theorem lowB_s {c k : Nat} (h : lowB c k = true) : lowAt c k := by
  simp only [lowB, Bool.or_eq_true, Bool.and_eq_true, beq_iff_eq, decide_eq_true_eq] at h
  rcases h with (((((((((((rfl | ⟨rfl, h⟩) | ⟨rfl, h⟩) | ⟨rfl, h⟩) | ⟨rfl, h⟩) | ⟨rfl, h⟩) | rfl) | ⟨rfl, h⟩) | rfl) | rfl) | rfl) | rfl) | rfl
  all_goals first | trivial | exact h
def KF (k : Nat) : Nat × Nat := kfL.getD k (0, 0)
def kd1 (k : Nat) : Nat × Nat := if k < 135 ∨ 152 ≤ k then KF k else (0, 0)
def kd2 (k : Nat) : Nat × Nat := if 135 ≤ k ∧ k < 152 then KF k else (0, 0)
theorem KF_lt {k : Nat} (h : (KF k).1 ≠ 0) : k < 154 := by
  by_cases e : k < 154
  · exact e
  · exact absurd (by unfold KF; rw [List.getD_eq_getElem?_getD, List.getElem?_eq_none (by show 154 ≤ k; omega)]; rfl) h
def adF (B k : Nat) : Nat := if k = 3 then B + 4 else if k = 4 then B + 3 else B + k
theorem adF_inj (B : Nat) : ∀ i j, adF B i = adF B j → i = j := by
  intro i j h
  unfold adF at h
  split at h <;> split at h <;> (try split at h) <;> (try split at h) <;> omega
theorem adF_ge (B k : Nat) : B ≤ adF B k := by unfold adF; split <;> (try split) <;> omega
theorem adF_lt {B k : Nat} (h : k < 154) : adF B k < B + 154 := by unfold adF; split <;> (try split) <;> omega
theorem adF_o {B k : Nat} (h3 : k ≠ 3) (h4 : k ≠ 4) : adF B k = B + k := by unfold adF; rw [if_neg h3, if_neg h4]
theorem kf_root : kRoot KF 0 := by
  unfold kRoot kReader kHist kPlanner kPlaces kPart
  repeat' apply And.intro
  all_goals first | rfl | decide +kernel
theorem kf_sb : kSB KF 133 := by unfold kSB; decide +kernel
theorem kf_model : kModel KF 135 := by unfold kModel; decide +kernel
theorem kd1_root : kRoot kd1 0 := by
  unfold kRoot kReader kHist kPlanner kPlaces kPart
  repeat' apply And.intro
  all_goals first | rfl | decide +kernel
theorem kd1_sb : kSB kd1 133 := by unfold kSB; decide +kernel
theorem kd2_model : kModel kd2 135 := by unfold kModel; decide +kernel
theorem kd1_in {k : Nat} (h : (kd1 k).1 ≠ 0) : (k < 135 ∨ 152 ≤ k) ∧ kd1 k = KF k := by
  unfold kd1 at h ⊢
  split
  · exact ⟨by assumption, rfl⟩
  · rename_i h2; rw [if_neg h2] at h; exact absurd rfl h
theorem kd2_in {k : Nat} (h : (kd2 k).1 ≠ 0) : (135 ≤ k ∧ k < 152) ∧ kd2 k = KF k := by
  unfold kd2 at h ⊢
  split
  · exact ⟨by assumption, rfl⟩
  · rename_i h2; rw [if_neg h2] at h; exact absurd rfl h
theorem AS_ge {kd : Nat → Nat × Nat} {B : Nat} : AS kd (adF B) B = fun q => B ≤ q := by
  funext q
  exact propext ⟨fun h => h.elim (fun ⟨k, _, e⟩ => by rw [e]; exact adF_ge B k) id, Or.inr⟩
def m0 : Mem := (fun _ _ => 0, fun _ _ => 0, fun _ _ => 0)
def mstart : Option (Mem × Unit) := bnd (zr m0 0) fun M1 => cal (mX6_init M1) fun M2 _ => bnd (zr M2 135) fun M3 => cal (mX7_init 135 M3) fun M4 _ => bnd (zr M4 152) fun M5 => bnd (zr M5 153) fun M6 => some (M6, ())
def mcase (a0 a1 a2 a3 a4 a5 : Int32) (M N : Mem) : Option (Mem × Mem) := ite2 (a0 &&& 63 = 0) (mlc_0 a1 a2 a3 a4 a5 M N) (ite2 (a0 &&& 63 = 1) (mlc_1 a1 a2 a3 a4 a5 M N) (ite2 (a0 &&& 63 = 2) (mlc_2 a1 a2 a3 a4 a5 M N) (ite2 (a0 &&& 63 = 3) (mlc_3 a1 a2 a3 a4 a5 M N) (ite2 (a0 &&& 63 = 4) (mlc_4 a1 a2 a3 a4 a5 M N) (ite2 (a0 &&& 63 = 5) (mlc_5 a1 a2 a3 a4 a5 M N) (ite2 (a0 &&& 63 = 6) (mlc_6 a1 a2 a3 a4 a5 M N) (ite2 (a0 &&& 63 = 7) (mlc_7 a1 a2 a3 a4 a5 M N) (ite2 (a0 &&& 63 = 8) (mlc_8 a1 a2 a3 a4 a5 M N) (ite2 (a0 &&& 63 = 9) (mlc_9 a1 a2 a3 a4 a5 M N) (ite2 (a0 &&& 63 = 10) (mlc_10 a1 a2 a3 a4 a5 M N) (ite2 (a0 &&& 63 = 11) (mlc_11 a1 a2 a3 a4 a5 M N) (ite2 (a0 &&& 63 = 12) (mlc_12 a1 a2 a3 a4 a5 M N) (ite2 (a0 &&& 63 = 13) (mlc_13 a1 a2 a3 a4 a5 M N) (ite2 (a0 &&& 63 = 14) (mlc_14 a1 a2 a3 a4 a5 M N) (ite2 (a0 &&& 63 = 15) (mlc_15 a1 a2 a3 a4 a5 M N) (ite2 (a0 &&& 63 = 16) (mlc_16 a1 a2 a3 a4 a5 M N) (ite2 (a0 &&& 63 = 17) (mlc_17 a1 a2 a3 a4 a5 M N) (ite2 (a0 &&& 63 = 18) (mlc_18 a1 a2 a3 a4 a5 M N) (ite2 (a0 &&& 63 = 19) (mlc_19 a1 a2 a3 a4 a5 M N) (ite2 (a0 &&& 63 = 20) (mlc_20 a1 a2 a3 a4 a5 M N) (ite2 (a0 &&& 63 = 21) (mlc_21 a1 a2 a3 a4 a5 M N) (ite2 (a0 &&& 63 = 22) (mlc_22 a1 a2 a3 a4 a5 M N) (ite2 (a0 &&& 63 = 23) (mlc_23 a1 a2 a3 a4 a5 M N) (ite2 (a0 &&& 63 = 24) (mlc_24 a1 a2 a3 a4 a5 M N) (ite2 (a0 &&& 63 = 25) (mlc_25 a1 a2 a3 a4 a5 M N) (ite2 (a0 &&& 63 = 26) (mlc_26 a1 a2 a3 a4 a5 M N) (ite2 (a0 &&& 63 = 27) (mlc_27 a1 a2 a3 a4 a5 M N) (ite2 (a0 &&& 63 = 28) (mlc_28 a1 a2 a3 a4 a5 M N) (ite2 (a0 &&& 63 = 29) (mlc_29 a1 a2 a3 a4 a5 M N) (ite2 (a0 &&& 63 = 30) (mlc_30 a1 a2 a3 a4 a5 M N) (ite2 (a0 &&& 63 = 31) (mlc_31 a1 a2 a3 a4 a5 M N) (ite2 (a0 &&& 63 = 32) (mlc_32 a1 a2 a3 a4 a5 M N) (ite2 (a0 &&& 63 = 33) (mlc_33 a1 a2 a3 a4 a5 M N) (ite2 (a0 &&& 63 = 34) (mlc_34 a1 a2 a3 a4 a5 M N) (ite2 (a0 &&& 63 = 35) (mlc_35 a1 a2 a3 a4 a5 M N) (ite2 (a0 &&& 63 = 36) (mlc_36 a1 a2 a3 a4 a5 M N) (ite2 (a0 &&& 63 = 37) (mlc_37 a1 a2 a3 a4 a5 M N) (ite2 (a0 &&& 63 = 38) (mlc_38 a1 a2 a3 a4 a5 M N) (ite2 (a0 &&& 63 = 39) (mlc_39 a1 a2 a3 a4 a5 M N) (ite2 (a0 &&& 63 = 40) (mlc_40 a1 a2 a3 a4 a5 M N) (ite2 (a0 &&& 63 = 41) (mlc_41 a1 a2 a3 a4 a5 M N) (ite2 (a0 &&& 63 = 42) (mlc_42 a1 a2 a3 a4 a5 M N) (ite2 (a0 &&& 63 = 43) (mlc_43 a1 a2 a3 a4 a5 M N) (ite2 (a0 &&& 63 = 44) (mlc_44 a1 a2 a3 a4 a5 M N) (ite2 (a0 &&& 63 = 45) (mlc_45 a1 a2 a3 a4 a5 M N) (ite2 (a0 &&& 63 = 46) (mlc_46 a1 a2 a3 a4 a5 M N) (ite2 (a0 &&& 63 = 47) (mlc_47 a1 a2 a3 a4 a5 M N) (ite2 (a0 &&& 63 = 48) (mlc_48 a1 a2 a3 a4 a5 M N) (ite2 (a0 &&& 63 = 49) (mlc_49 a1 a2 a3 a4 a5 M N) (ite2 (a0 &&& 63 = 50) (mlc_50 a1 a2 a3 a4 a5 M N) (ite2 (a0 &&& 63 = 51) (mlc_51 a1 a2 a3 a4 a5 M N) (ite2 (a0 &&& 63 = 52) (mlc_52 a1 a2 a3 a4 a5 M N) (ite2 (a0 &&& 63 = 53) (mlc_53 a1 a2 a3 a4 a5 M N) (ite2 (a0 &&& 63 = 54) (mlc_54 a1 a2 a3 a4 a5 M N) (ite2 (a0 &&& 63 = 55) (mlc_55 a1 a2 a3 a4 a5 M N) (some (M, N)))))))))))))))))))))))))))))))))))))))))))))))))))))))))
theorem kd1_Sb : Sb kd1 0 := by
  unfold Sb
  refine ⟨by decide +kernel, by decide +kernel, fun _ => by decide +kernel, fun h => absurd h (by decide), Or.inl rfl⟩
theorem kd1_low : Low kd1 := fun k hk => by
  have key : ∀ k, k < 154 → k ≠ 133 → lowB (kd1 k).1 k = true := by decide +kernel
  by_cases h : k < 154
  · exact lowB_s (key k h hk)
  · have h0 : (kd1 k).1 = 0 := Classical.byContradiction fun hne => h (KF_lt (by rw [← (kd1_in hne).2]; exact hne))
    rw [h0]; trivial
section LE
variable {p : Program} {l : Launch} {e : Env} {s : State} {m : MethodId} {below : List Frame} {meth : Method} {c : Code} {b L : Nat} {xs : Nat → Int32} {G : GT} {kd' : Nat → Nat × Nat} {ad' : Nat → Nat} {cells slots : Nat} {Q : State → Prop}
set_option maxHeartbeats 4000000 in
set_option maxRecDepth 100000 in
theorem law_sw (hc : cells + 64 ≤ 601024 ∧ slots + 4096 ≤ 7293034) {x5 a0 a1 a2 a3 a4 a5 : Int32} (hs : Sc xs L x5 a0 a1 a2 a3 a4 a5) {M N M' N' : Mem} (hf : mcase a0 a1 a2 a3 a4 a5 M N = some (M', N')) (hk : AtW p l e s m #[Value.ref b] below meth c L xs G kd' ad' b x5 M' N' Q (cells + 64) (slots + 4096) 1738) : AtW p l e s m #[Value.ref b] below meth c L xs G kd' ad' b x5 M N Q cells slots 38 := by
  intro kd ad H locs ls C hS hI hJ hl
  obtain ⟨hx, hb, hml, hown, hts, hK, hap, hap2, hsx, hsx2, hnc, hst, hA, hd1, hd2, hX, hbl, hbA, hk0, hLo, hk1, hk3, hk2⟩ := id C
  unfold mcase at hf
  refine lv_aload_n hx hb (dc tbL_law_0_k 20 rfl) rfl (lv_at hl 0 rfl) ?_
  refine lv_iload hx hb (dc tbL_law_0_k 21 rfl) (lv_at hl 5 rfl) ?_
  refine l_sld hx hb hX hbl hbA hI hs.1.1 hs.1.2 (dc tbL_law_0_k 22 rfl) ?_
  refine lv_bipush (v := 63) hx hb (dc tbL_law_0_k 23 rfl) (by decide) ?_
  refine lv_iand hx hb (dc tbL_law_0_k 24 rfl) ?_
  refine by_c (c := a0 &&& 63 = 0) (fun c0 => ?_) (fun c0 => ?_)
  · have hf := ite_t c0 hf
    refine lv_et c0 ?_
    refine lv_tableIn (tgt := 284) hx hb dL_law_45 (by decide) (by decide) rfl rfl ?_
    exact lc_0 hc hs hf hk _ _ _ _ _ C hS hI hJ hl
  have hf := ite_f c0 hf
  refine by_c (c := a0 &&& 63 = 1) (fun c1 => ?_) (fun c1 => ?_)
  · have hf := ite_t c1 hf
    refine lv_et c1 ?_
    refine lv_tableIn (tgt := 357) hx hb dL_law_45 (by decide) (by decide) rfl rfl ?_
    exact lc_1 hc hs hf hk _ _ _ _ _ C hS hI hJ hl
  have hf := ite_f c1 hf
  refine by_c (c := a0 &&& 63 = 2) (fun c2 => ?_) (fun c2 => ?_)
  · have hf := ite_t c2 hf
    refine lv_et c2 ?_
    refine lv_tableIn (tgt := 385) hx hb dL_law_45 (by decide) (by decide) rfl rfl ?_
    exact lc_2 hc hs hf hk _ _ _ _ _ C hS hI hJ hl
  have hf := ite_f c2 hf
  refine by_c (c := a0 &&& 63 = 3) (fun c3 => ?_) (fun c3 => ?_)
  · have hf := ite_t c3 hf
    refine lv_et c3 ?_
    refine lv_tableIn (tgt := 398) hx hb dL_law_45 (by decide) (by decide) rfl rfl ?_
    exact lc_3 hc hs hf hk _ _ _ _ _ C hS hI hJ hl
  have hf := ite_f c3 hf
  refine by_c (c := a0 &&& 63 = 4) (fun c4 => ?_) (fun c4 => ?_)
  · have hf := ite_t c4 hf
    refine lv_et c4 ?_
    refine lv_tableIn (tgt := 411) hx hb dL_law_45 (by decide) (by decide) rfl rfl ?_
    exact lc_4 hc hs hf hk _ _ _ _ _ C hS hI hJ hl
  have hf := ite_f c4 hf
  refine by_c (c := a0 &&& 63 = 5) (fun c5 => ?_) (fun c5 => ?_)
  · have hf := ite_t c5 hf
    refine lv_et c5 ?_
    refine lv_tableIn (tgt := 424) hx hb dL_law_45 (by decide) (by decide) rfl rfl ?_
    exact lc_5 hc hs hf hk _ _ _ _ _ C hS hI hJ hl
  have hf := ite_f c5 hf
  refine by_c (c := a0 &&& 63 = 6) (fun c6 => ?_) (fun c6 => ?_)
  · have hf := ite_t c6 hf
    refine lv_et c6 ?_
    refine lv_tableIn (tgt := 437) hx hb dL_law_45 (by decide) (by decide) rfl rfl ?_
    exact lc_6 hc hs hf hk _ _ _ _ _ C hS hI hJ hl
  have hf := ite_f c6 hf
  refine by_c (c := a0 &&& 63 = 7) (fun c7 => ?_) (fun c7 => ?_)
  · have hf := ite_t c7 hf
    refine lv_et c7 ?_
    refine lv_tableIn (tgt := 465) hx hb dL_law_45 (by decide) (by decide) rfl rfl ?_
    exact lc_7 hc hs hf hk _ _ _ _ _ C hS hI hJ hl
  have hf := ite_f c7 hf
  refine by_c (c := a0 &&& 63 = 8) (fun c8 => ?_) (fun c8 => ?_)
  · have hf := ite_t c8 hf
    refine lv_et c8 ?_
    refine lv_tableIn (tgt := 493) hx hb dL_law_45 (by decide) (by decide) rfl rfl ?_
    exact lc_8 hc hs hf hk _ _ _ _ _ C hS hI hJ hl
  have hf := ite_f c8 hf
  refine by_c (c := a0 &&& 63 = 9) (fun c9 => ?_) (fun c9 => ?_)
  · have hf := ite_t c9 hf
    refine lv_et c9 ?_
    refine lv_tableIn (tgt := 508) hx hb dL_law_45 (by decide) (by decide) rfl rfl ?_
    exact lc_9 hc hs hf hk _ _ _ _ _ C hS hI hJ hl
  have hf := ite_f c9 hf
  refine by_c (c := a0 &&& 63 = 10) (fun c10 => ?_) (fun c10 => ?_)
  · have hf := ite_t c10 hf
    refine lv_et c10 ?_
    refine lv_tableIn (tgt := 523) hx hb dL_law_45 (by decide) (by decide) rfl rfl ?_
    exact lc_10 hc hs hf hk _ _ _ _ _ C hS hI hJ hl
  have hf := ite_f c10 hf
  refine by_c (c := a0 &&& 63 = 11) (fun c11 => ?_) (fun c11 => ?_)
  · have hf := ite_t c11 hf
    refine lv_et c11 ?_
    refine lv_tableIn (tgt := 552) hx hb dL_law_45 (by decide) (by decide) rfl rfl ?_
    exact lc_11 hc hs hf hk _ _ _ _ _ C hS hI hJ hl
  have hf := ite_f c11 hf
  refine by_c (c := a0 &&& 63 = 12) (fun c12 => ?_) (fun c12 => ?_)
  · have hf := ite_t c12 hf
    refine lv_et c12 ?_
    refine lv_tableIn (tgt := 567) hx hb dL_law_45 (by decide) (by decide) rfl rfl ?_
    exact lc_12 hc hs hf hk _ _ _ _ _ C hS hI hJ hl
  have hf := ite_f c12 hf
  refine by_c (c := a0 &&& 63 = 13) (fun c13 => ?_) (fun c13 => ?_)
  · have hf := ite_t c13 hf
    refine lv_et c13 ?_
    refine lv_tableIn (tgt := 582) hx hb dL_law_45 (by decide) (by decide) rfl rfl ?_
    exact lc_13 hc hs hf hk _ _ _ _ _ C hS hI hJ hl
  have hf := ite_f c13 hf
  refine by_c (c := a0 &&& 63 = 14) (fun c14 => ?_) (fun c14 => ?_)
  · have hf := ite_t c14 hf
    refine lv_et c14 ?_
    refine lv_tableIn (tgt := 621) hx hb dL_law_45 (by decide) (by decide) rfl rfl ?_
    exact lc_14 hc hs hf hk _ _ _ _ _ C hS hI hJ hl
  have hf := ite_f c14 hf
  refine by_c (c := a0 &&& 63 = 15) (fun c15 => ?_) (fun c15 => ?_)
  · have hf := ite_t c15 hf
    refine lv_et c15 ?_
    refine lv_tableIn (tgt := 634) hx hb dL_law_45 (by decide) (by decide) rfl rfl ?_
    exact lc_15 hc hs hf hk _ _ _ _ _ C hS hI hJ hl
  have hf := ite_f c15 hf
  refine by_c (c := a0 &&& 63 = 16) (fun c16 => ?_) (fun c16 => ?_)
  · have hf := ite_t c16 hf
    refine lv_et c16 ?_
    refine lv_tableIn (tgt := 674) hx hb dL_law_45 (by decide) (by decide) rfl rfl ?_
    exact lc_16 hc hs hf hk _ _ _ _ _ C hS hI hJ hl
  have hf := ite_f c16 hf
  refine by_c (c := a0 &&& 63 = 17) (fun c17 => ?_) (fun c17 => ?_)
  · have hf := ite_t c17 hf
    refine lv_et c17 ?_
    refine lv_tableIn (tgt := 687) hx hb dL_law_45 (by decide) (by decide) rfl rfl ?_
    exact lc_17 hc hs hf hk _ _ _ _ _ C hS hI hJ hl
  have hf := ite_f c17 hf
  refine by_c (c := a0 &&& 63 = 18) (fun c18 => ?_) (fun c18 => ?_)
  · have hf := ite_t c18 hf
    refine lv_et c18 ?_
    refine lv_tableIn (tgt := 700) hx hb dL_law_45 (by decide) (by decide) rfl rfl ?_
    exact lc_18 hc hs hf hk _ _ _ _ _ C hS hI hJ hl
  have hf := ite_f c18 hf
  refine by_c (c := a0 &&& 63 = 19) (fun c19 => ?_) (fun c19 => ?_)
  · have hf := ite_t c19 hf
    refine lv_et c19 ?_
    refine lv_tableIn (tgt := 713) hx hb dL_law_45 (by decide) (by decide) rfl rfl ?_
    exact lc_19 hc hs hf hk _ _ _ _ _ C hS hI hJ hl
  have hf := ite_f c19 hf
  refine by_c (c := a0 &&& 63 = 20) (fun c20 => ?_) (fun c20 => ?_)
  · have hf := ite_t c20 hf
    refine lv_et c20 ?_
    refine lv_tableIn (tgt := 753) hx hb dL_law_45 (by decide) (by decide) rfl rfl ?_
    exact lc_20 hc hs hf hk _ _ _ _ _ C hS hI hJ hl
  have hf := ite_f c20 hf
  refine by_c (c := a0 &&& 63 = 21) (fun c21 => ?_) (fun c21 => ?_)
  · have hf := ite_t c21 hf
    refine lv_et c21 ?_
    refine lv_tableIn (tgt := 766) hx hb dL_law_45 (by decide) (by decide) rfl rfl ?_
    exact lc_21 hc hs hf hk _ _ _ _ _ C hS hI hJ hl
  have hf := ite_f c21 hf
  refine by_c (c := a0 &&& 63 = 22) (fun c22 => ?_) (fun c22 => ?_)
  · have hf := ite_t c22 hf
    refine lv_et c22 ?_
    refine lv_tableIn (tgt := 779) hx hb dL_law_45 (by decide) (by decide) rfl rfl ?_
    exact lc_22 hc hs hf hk _ _ _ _ _ C hS hI hJ hl
  have hf := ite_f c22 hf
  refine by_c (c := a0 &&& 63 = 23) (fun c23 => ?_) (fun c23 => ?_)
  · have hf := ite_t c23 hf
    refine lv_et c23 ?_
    refine lv_tableIn (tgt := 792) hx hb dL_law_45 (by decide) (by decide) rfl rfl ?_
    exact lc_23 hc hs hf hk _ _ _ _ _ C hS hI hJ hl
  have hf := ite_f c23 hf
  refine by_c (c := a0 &&& 63 = 24) (fun c24 => ?_) (fun c24 => ?_)
  · have hf := ite_t c24 hf
    refine lv_et c24 ?_
    refine lv_tableIn (tgt := 805) hx hb dL_law_45 (by decide) (by decide) rfl rfl ?_
    exact lc_24 hc hs hf hk _ _ _ _ _ C hS hI hJ hl
  have hf := ite_f c24 hf
  refine by_c (c := a0 &&& 63 = 25) (fun c25 => ?_) (fun c25 => ?_)
  · have hf := ite_t c25 hf
    refine lv_et c25 ?_
    refine lv_tableIn (tgt := 845) hx hb dL_law_45 (by decide) (by decide) rfl rfl ?_
    exact lc_25 hc hs hf hk _ _ _ _ _ C hS hI hJ hl
  have hf := ite_f c25 hf
  refine by_c (c := a0 &&& 63 = 26) (fun c26 => ?_) (fun c26 => ?_)
  · have hf := ite_t c26 hf
    refine lv_et c26 ?_
    refine lv_tableIn (tgt := 858) hx hb dL_law_45 (by decide) (by decide) rfl rfl ?_
    exact lc_26 hc hs hf hk _ _ _ _ _ C hS hI hJ hl
  have hf := ite_f c26 hf
  refine by_c (c := a0 &&& 63 = 27) (fun c27 => ?_) (fun c27 => ?_)
  · have hf := ite_t c27 hf
    refine lv_et c27 ?_
    refine lv_tableIn (tgt := 898) hx hb dL_law_45 (by decide) (by decide) rfl rfl ?_
    exact lc_27 hc hs hf hk _ _ _ _ _ C hS hI hJ hl
  have hf := ite_f c27 hf
  refine by_c (c := a0 &&& 63 = 28) (fun c28 => ?_) (fun c28 => ?_)
  · have hf := ite_t c28 hf
    refine lv_et c28 ?_
    refine lv_tableIn (tgt := 938) hx hb dL_law_45 (by decide) (by decide) rfl rfl ?_
    exact lc_28 hc hs hf hk _ _ _ _ _ C hS hI hJ hl
  have hf := ite_f c28 hf
  refine by_c (c := a0 &&& 63 = 29) (fun c29 => ?_) (fun c29 => ?_)
  · have hf := ite_t c29 hf
    refine lv_et c29 ?_
    refine lv_tableIn (tgt := 1002) hx hb dL_law_45 (by decide) (by decide) rfl rfl ?_
    exact lc_29 hc hs hf hk _ _ _ _ _ C hS hI hJ hl
  have hf := ite_f c29 hf
  refine by_c (c := a0 &&& 63 = 30) (fun c30 => ?_) (fun c30 => ?_)
  · have hf := ite_t c30 hf
    refine lv_et c30 ?_
    refine lv_tableIn (tgt := 1042) hx hb dL_law_45 (by decide) (by decide) rfl rfl ?_
    exact lc_30 hc hs hf hk _ _ _ _ _ C hS hI hJ hl
  have hf := ite_f c30 hf
  refine by_c (c := a0 &&& 63 = 31) (fun c31 => ?_) (fun c31 => ?_)
  · have hf := ite_t c31 hf
    refine lv_et c31 ?_
    refine lv_tableIn (tgt := 1082) hx hb dL_law_45 (by decide) (by decide) rfl rfl ?_
    exact lc_31 hc hs hf hk _ _ _ _ _ C hS hI hJ hl
  have hf := ite_f c31 hf
  refine by_c (c := a0 &&& 63 = 32) (fun c32 => ?_) (fun c32 => ?_)
  · have hf := ite_t c32 hf
    refine lv_et c32 ?_
    refine lv_tableIn (tgt := 1110) hx hb dL_law_45 (by decide) (by decide) rfl rfl ?_
    exact lc_32 hc hs hf hk _ _ _ _ _ C hS hI hJ hl
  have hf := ite_f c32 hf
  refine by_c (c := a0 &&& 63 = 33) (fun c33 => ?_) (fun c33 => ?_)
  · have hf := ite_t c33 hf
    refine lv_et c33 ?_
    refine lv_tableIn (tgt := 1123) hx hb dL_law_45 (by decide) (by decide) rfl rfl ?_
    exact lc_33 hc hs hf hk _ _ _ _ _ C hS hI hJ hl
  have hf := ite_f c33 hf
  refine by_c (c := a0 &&& 63 = 34) (fun c34 => ?_) (fun c34 => ?_)
  · have hf := ite_t c34 hf
    refine lv_et c34 ?_
    refine lv_tableIn (tgt := 1136) hx hb dL_law_45 (by decide) (by decide) rfl rfl ?_
    exact lc_34 hc hs hf hk _ _ _ _ _ C hS hI hJ hl
  have hf := ite_f c34 hf
  refine by_c (c := a0 &&& 63 = 35) (fun c35 => ?_) (fun c35 => ?_)
  · have hf := ite_t c35 hf
    refine lv_et c35 ?_
    refine lv_tableIn (tgt := 1176) hx hb dL_law_45 (by decide) (by decide) rfl rfl ?_
    exact lc_35 hc hs hf hk _ _ _ _ _ C hS hI hJ hl
  have hf := ite_f c35 hf
  refine by_c (c := a0 &&& 63 = 36) (fun c36 => ?_) (fun c36 => ?_)
  · have hf := ite_t c36 hf
    refine lv_et c36 ?_
    refine lv_tableIn (tgt := 1189) hx hb dL_law_45 (by decide) (by decide) rfl rfl ?_
    exact lc_36 hc hs hf hk _ _ _ _ _ C hS hI hJ hl
  have hf := ite_f c36 hf
  refine by_c (c := a0 &&& 63 = 37) (fun c37 => ?_) (fun c37 => ?_)
  · have hf := ite_t c37 hf
    refine lv_et c37 ?_
    refine lv_tableIn (tgt := 1202) hx hb dL_law_45 (by decide) (by decide) rfl rfl ?_
    exact lc_37 hc hs hf hk _ _ _ _ _ C hS hI hJ hl
  have hf := ite_f c37 hf
  refine by_c (c := a0 &&& 63 = 38) (fun c38 => ?_) (fun c38 => ?_)
  · have hf := ite_t c38 hf
    refine lv_et c38 ?_
    refine lv_tableIn (tgt := 1215) hx hb dL_law_45 (by decide) (by decide) rfl rfl ?_
    exact lc_38 hc hs hf hk _ _ _ _ _ C hS hI hJ hl
  have hf := ite_f c38 hf
  refine by_c (c := a0 &&& 63 = 39) (fun c39 => ?_) (fun c39 => ?_)
  · have hf := ite_t c39 hf
    refine lv_et c39 ?_
    refine lv_tableIn (tgt := 1243) hx hb dL_law_45 (by decide) (by decide) rfl rfl ?_
    exact lc_39 hc hs hf hk _ _ _ _ _ C hS hI hJ hl
  have hf := ite_f c39 hf
  refine by_c (c := a0 &&& 63 = 40) (fun c40 => ?_) (fun c40 => ?_)
  · have hf := ite_t c40 hf
    refine lv_et c40 ?_
    refine lv_tableIn (tgt := 1256) hx hb dL_law_45 (by decide) (by decide) rfl rfl ?_
    exact lc_40 hc hs hf hk _ _ _ _ _ C hS hI hJ hl
  have hf := ite_f c40 hf
  refine by_c (c := a0 &&& 63 = 41) (fun c41 => ?_) (fun c41 => ?_)
  · have hf := ite_t c41 hf
    refine lv_et c41 ?_
    refine lv_tableIn (tgt := 1296) hx hb dL_law_45 (by decide) (by decide) rfl rfl ?_
    exact lc_41 hc hs hf hk _ _ _ _ _ C hS hI hJ hl
  have hf := ite_f c41 hf
  refine by_c (c := a0 &&& 63 = 42) (fun c42 => ?_) (fun c42 => ?_)
  · have hf := ite_t c42 hf
    refine lv_et c42 ?_
    refine lv_tableIn (tgt := 1309) hx hb dL_law_45 (by decide) (by decide) rfl rfl ?_
    exact lc_42 hc hs hf hk _ _ _ _ _ C hS hI hJ hl
  have hf := ite_f c42 hf
  refine by_c (c := a0 &&& 63 = 43) (fun c43 => ?_) (fun c43 => ?_)
  · have hf := ite_t c43 hf
    refine lv_et c43 ?_
    refine lv_tableIn (tgt := 1322) hx hb dL_law_45 (by decide) (by decide) rfl rfl ?_
    exact lc_43 hc hs hf hk _ _ _ _ _ C hS hI hJ hl
  have hf := ite_f c43 hf
  refine by_c (c := a0 &&& 63 = 44) (fun c44 => ?_) (fun c44 => ?_)
  · have hf := ite_t c44 hf
    refine lv_et c44 ?_
    refine lv_tableIn (tgt := 1335) hx hb dL_law_45 (by decide) (by decide) rfl rfl ?_
    exact lc_44 hc hs hf hk _ _ _ _ _ C hS hI hJ hl
  have hf := ite_f c44 hf
  refine by_c (c := a0 &&& 63 = 45) (fun c45 => ?_) (fun c45 => ?_)
  · have hf := ite_t c45 hf
    refine lv_et c45 ?_
    refine lv_tableIn (tgt := 1363) hx hb dL_law_45 (by decide) (by decide) rfl rfl ?_
    exact lc_45 hc hs hf hk _ _ _ _ _ C hS hI hJ hl
  have hf := ite_f c45 hf
  refine by_c (c := a0 &&& 63 = 46) (fun c46 => ?_) (fun c46 => ?_)
  · have hf := ite_t c46 hf
    refine lv_et c46 ?_
    refine lv_tableIn (tgt := 1403) hx hb dL_law_45 (by decide) (by decide) rfl rfl ?_
    exact lc_46 hc hs hf hk _ _ _ _ _ C hS hI hJ hl
  have hf := ite_f c46 hf
  refine by_c (c := a0 &&& 63 = 47) (fun c47 => ?_) (fun c47 => ?_)
  · have hf := ite_t c47 hf
    refine lv_et c47 ?_
    refine lv_tableIn (tgt := 1419) hx hb dL_law_45 (by decide) (by decide) rfl rfl ?_
    exact lc_47 hc hs hf hk _ _ _ _ _ C hS hI hJ hl
  have hf := ite_f c47 hf
  refine by_c (c := a0 &&& 63 = 48) (fun c48 => ?_) (fun c48 => ?_)
  · have hf := ite_t c48 hf
    refine lv_et c48 ?_
    refine lv_tableIn (tgt := 1432) hx hb dL_law_45 (by decide) (by decide) rfl rfl ?_
    exact lc_48 hc hs hf hk _ _ _ _ _ C hS hI hJ hl
  have hf := ite_f c48 hf
  refine by_c (c := a0 &&& 63 = 49) (fun c49 => ?_) (fun c49 => ?_)
  · have hf := ite_t c49 hf
    refine lv_et c49 ?_
    refine lv_tableIn (tgt := 1472) hx hb dL_law_45 (by decide) (by decide) rfl rfl ?_
    exact lc_49 hc hs hf hk _ _ _ _ _ C hS hI hJ hl
  have hf := ite_f c49 hf
  refine by_c (c := a0 &&& 63 = 50) (fun c50 => ?_) (fun c50 => ?_)
  · have hf := ite_t c50 hf
    refine lv_et c50 ?_
    refine lv_tableIn (tgt := 1528) hx hb dL_law_45 (by decide) (by decide) rfl rfl ?_
    exact lc_50 hc hs hf hk _ _ _ _ _ C hS hI hJ hl
  have hf := ite_f c50 hf
  refine by_c (c := a0 &&& 63 = 51) (fun c51 => ?_) (fun c51 => ?_)
  · have hf := ite_t c51 hf
    refine lv_et c51 ?_
    refine lv_tableIn (tgt := 1580) hx hb dL_law_45 (by decide) (by decide) rfl rfl ?_
    exact lc_51 hc hs hf hk _ _ _ _ _ C hS hI hJ hl
  have hf := ite_f c51 hf
  refine by_c (c := a0 &&& 63 = 52) (fun c52 => ?_) (fun c52 => ?_)
  · have hf := ite_t c52 hf
    refine lv_et c52 ?_
    refine lv_tableIn (tgt := 1632) hx hb dL_law_45 (by decide) (by decide) rfl rfl ?_
    exact lc_52 hc hs hf hk _ _ _ _ _ C hS hI hJ hl
  have hf := ite_f c52 hf
  refine by_c (c := a0 &&& 63 = 53) (fun c53 => ?_) (fun c53 => ?_)
  · have hf := ite_t c53 hf
    refine lv_et c53 ?_
    refine lv_tableIn (tgt := 1684) hx hb dL_law_45 (by decide) (by decide) rfl rfl ?_
    exact lc_53 hc hs hf hk _ _ _ _ _ C hS hI hJ hl
  have hf := ite_f c53 hf
  refine by_c (c := a0 &&& 63 = 54) (fun c54 => ?_) (fun c54 => ?_)
  · have hf := ite_t c54 hf
    refine lv_et c54 ?_
    refine lv_tableIn (tgt := 1697) hx hb dL_law_45 (by decide) (by decide) rfl rfl ?_
    exact lc_54 hc hs hf hk _ _ _ _ _ C hS hI hJ hl
  have hf := ite_f c54 hf
  refine by_c (c := a0 &&& 63 = 55) (fun c55 => ?_) (fun c55 => ?_)
  · have hf := ite_t c55 hf
    refine lv_et c55 ?_
    refine lv_tableIn (tgt := 1710) hx hb dL_law_45 (by decide) (by decide) rfl rfl ?_
    exact lc_55 hc hs hf hk _ _ _ _ _ C hS hI hJ hl
  have hf := ite_f c55 hf
  refine lv_tableOut (tgt := 1738) hx hb dL_law_45 (by have := sw_ne (k := 0) (z := 0) c0 rfl; have := sw_ne (k := 1) (z := 1) c1 rfl; have := sw_ne (k := 2) (z := 2) c2 rfl; have := sw_ne (k := 3) (z := 3) c3 rfl; have := sw_ne (k := 4) (z := 4) c4 rfl; have := sw_ne (k := 5) (z := 5) c5 rfl; have := sw_ne (k := 6) (z := 6) c6 rfl; have := sw_ne (k := 7) (z := 7) c7 rfl; have := sw_ne (k := 8) (z := 8) c8 rfl; have := sw_ne (k := 9) (z := 9) c9 rfl; have := sw_ne (k := 10) (z := 10) c10 rfl; have := sw_ne (k := 11) (z := 11) c11 rfl; have := sw_ne (k := 12) (z := 12) c12 rfl; have := sw_ne (k := 13) (z := 13) c13 rfl; have := sw_ne (k := 14) (z := 14) c14 rfl; have := sw_ne (k := 15) (z := 15) c15 rfl; have := sw_ne (k := 16) (z := 16) c16 rfl; have := sw_ne (k := 17) (z := 17) c17 rfl; have := sw_ne (k := 18) (z := 18) c18 rfl; have := sw_ne (k := 19) (z := 19) c19 rfl; have := sw_ne (k := 20) (z := 20) c20 rfl; have := sw_ne (k := 21) (z := 21) c21 rfl; have := sw_ne (k := 22) (z := 22) c22 rfl; have := sw_ne (k := 23) (z := 23) c23 rfl; have := sw_ne (k := 24) (z := 24) c24 rfl; have := sw_ne (k := 25) (z := 25) c25 rfl; have := sw_ne (k := 26) (z := 26) c26 rfl; have := sw_ne (k := 27) (z := 27) c27 rfl; have := sw_ne (k := 28) (z := 28) c28 rfl; have := sw_ne (k := 29) (z := 29) c29 rfl; have := sw_ne (k := 30) (z := 30) c30 rfl; have := sw_ne (k := 31) (z := 31) c31 rfl; have := sw_ne (k := 32) (z := 32) c32 rfl; have := sw_ne (k := 33) (z := 33) c33 rfl; have := sw_ne (k := 34) (z := 34) c34 rfl; have := sw_ne (k := 35) (z := 35) c35 rfl; have := sw_ne (k := 36) (z := 36) c36 rfl; have := sw_ne (k := 37) (z := 37) c37 rfl; have := sw_ne (k := 38) (z := 38) c38 rfl; have := sw_ne (k := 39) (z := 39) c39 rfl; have := sw_ne (k := 40) (z := 40) c40 rfl; have := sw_ne (k := 41) (z := 41) c41 rfl; have := sw_ne (k := 42) (z := 42) c42 rfl; have := sw_ne (k := 43) (z := 43) c43 rfl; have := sw_ne (k := 44) (z := 44) c44 rfl; have := sw_ne (k := 45) (z := 45) c45 rfl; have := sw_ne (k := 46) (z := 46) c46 rfl; have := sw_ne (k := 47) (z := 47) c47 rfl; have := sw_ne (k := 48) (z := 48) c48 rfl; have := sw_ne (k := 49) (z := 49) c49 rfl; have := sw_ne (k := 50) (z := 50) c50 rfl; have := sw_ne (k := 51) (z := 51) c51 rfl; have := sw_ne (k := 52) (z := 52) c52 rfl; have := sw_ne (k := 53) (z := 53) c53 rfl; have := sw_ne (k := 54) (z := 54) c54 rfl; have := sw_ne (k := 55) (z := 55) c55 rfl; omega) rfl ?_
  cases hf
  refine W.widen (k := cells + 64) (n := slots + 4096) (by omega) (by omega) ?_
  exact hk _ _ _ _ _ C hS hI hJ hl
theorem law_end (hr : meth.sig.returnType = ret) (hlk : meth.locks = false) (hge : ∀ q, AS kd' ad' s.heap.size q → s.heap.size ≤ q) (hc : cells ≤ 601024 ∧ slots ≤ 7293034) {x5 : Int32} {M N : Mem} : AtW p l e s m #[Value.ref b] below meth c L xs G kd' ad' b x5 M N (lw_Z below #[Value.ref b] s) cells slots 1744 := by
  intro kd ad H locs ls C hS hI hJ hl
  obtain ⟨hx, hb, hml, hown, hts, hK, hap, hap2, hsx, hsx2, hnc, hst, hA, hd1, hd2, hX, hbl, hbA, hk0, hLo, hk1, hk3, hk2⟩ := id C
  refine lv_iconst (v := 1) hx hb (dc tbL_law_24_k 9 rfl) (by decide) ?_
  refine va_forget (fun q hq => hge _ (hJ.2.2.2 q hq)) ?_
  refine W.widen (k := 601024) (n := 7293034) hc.1 hc.2 ?_
  have h := lw_ret (e := e) (l := l) (s := s) (m := m) (below := below) (b := b) (H := H) (ls := ls) (d0 := s.drawn) (Drawn.sameBut.refl s.drawn lw_cs) hx hb hr hlk (dc tbL_law_24_k 10 rfl)
  exact h
theorem law_head {x5 : Int32} {M N : Mem} (h1 : Int32.ofNat L - 6 < x5 → AtW p l e s m #[Value.ref b] below meth c L xs G kd' ad' b x5 M N Q cells slots 1744) (h2 : ¬ Int32.ofNat L - 6 < x5 → AtW p l e s m #[Value.ref b] below meth c L xs G kd' ad' b x5 M N Q cells slots 38) : AtW p l e s m #[Value.ref b] below meth c L xs G kd' ad' b x5 M N Q cells slots 28 := by
  intro kd ad H locs ls C hS hI hJ hl
  obtain ⟨hx, hb, hml, hown, hts, hK, hap, hap2, hsx, hsx2, hnc, hst, hA, hd1, hd2, hX, hbl, hbA, hk0, hLo, hk1, hk3, hk2⟩ := id C
  refine lv_iload hx hb (dc tbL_law_0_k 14 rfl) (lv_at hl 5 rfl) ?_
  refine lv_aload_n hx hb (dc tbL_law_0_k 15 rfl) rfl (lv_at hl 0 rfl) ?_
  refine va_slen hx hb hX hbl hbA hI.2 (dc tbL_law_0_k 16 rfl) ?_
  refine lv_bipush (v := 6) hx hb (dc tbL_law_0_k 17 rfl) (by decide) ?_
  refine lv_isub hx hb (dc tbL_law_0_k 18 rfl) ?_
  refine lv_icmp_gt (tgt := 1744) hx hb (dc tbL_law_0_k 19 rfl) rfl (fun c0 => ?_) (fun c0 => ?_)
  · exact h1 c0 _ _ _ _ _ C hS hI hJ hl
  · exact h2 c0 _ _ _ _ _ C hS hI hJ hl
theorem law_inc {x5 y5 : Int32} (hy : y5 = x5 + 6) {M N : Mem} (h1 : AtW p l e s m #[Value.ref b] below meth c L xs G kd' ad' b y5 M N Q cells slots 28) : AtW p l e s m #[Value.ref b] below meth c L xs G kd' ad' b x5 M N Q cells slots 1738 := by
  intro kd ad H locs ls C hS hI hJ hl
  obtain ⟨hx, hb, hml, hown, hts, hK, hap, hap2, hsx, hsx2, hnc, hst, hA, hd1, hd2, hX, hbl, hbA, hk0, hLo, hk1, hk3, hk2⟩ := id C
  refine lv_iinc (v := y5) (lv' := [(5, .int y5), (0, .ref b), (1, .ref (ad 0)), (2, .ref (ad' 135)), (3, .ref (ad 152)), (4, .ref (ad 153))]) hx hb (dc tbL_law_24_k 7 rfl) hl (k := 5) rfl (ii_e hy (by decide)) (by decide) rfl (fun ls hl => ?_)
  refine lv_goto (tgt := 28) hx hb (dc tbL_law_24_k 8 rfl) rfl ?_
  exact h1 _ _ _ _ _ C hS hI hJ (lv_sub hl [1, 2, 3, 4, 5, 0] rfl)
theorem sub6_lt {a b : Nat} (ha : a < 100000) (hb : b < 100000) : Int32.ofNat a - 6 < nI b ↔ a < b + 6 := by
  have e1 : (Int32.ofNat a - 6).toInt = (a : Int) - 6 := by
    rw [Int32.toInt_sub, toInt_of rfl (by omega), show (6 : Int32).toInt = 6 from rfl]
    exact Int.bmod_eq_of_le (by omega) (by omega)
  rw [Int32.lt_iff_toInt_lt, e1, nI_toInt (by omega)]
  omega
theorem nI_at {a j L : Nat} (h : a + j < L) (hL : L < 100000) : vp_in (nI a + Int32.ofNat j) L := by
  have e : nI a + Int32.ofNat j = nI (a + j) := (Int32.ofNat_add a j).symm
  rw [e]; exact nI_in h (by omega)
/-- the law's loop, under any predicate of the two memories that a step keeps -/
theorem law_go {c0 s0 : Nat} (hc : c0 + 64 * 513 ≤ 601024 ∧ s0 + 4096 * 513 ≤ 7293034) (hL : L ≤ 3072) (hr : meth.sig.returnType = ret) (hlk : meth.locks = false) (hge : ∀ q, AS kd' ad' s.heap.size q → s.heap.size ≤ q) {P : Mem → Mem → Prop} (hP : ∀ a0 a1 a2 a3 a4 a5 M N, P M N → ∃ M' N', mcase a0 a1 a2 a3 a4 a5 M N = some (M', N') ∧ P M' N') :
    ∀ (n i : Nat) (M N : Mem), i + n = 513 → P M N → AtW p l e s m #[Value.ref b] below meth c L xs G kd' ad' b (nI (6 * i)) M N (lw_Z below #[Value.ref b] s) (c0 + 64 * i) (s0 + 4096 * i) 28 := by
  intro n
  induction n with
  | zero =>
    intro i M N hi _
    refine law_head (fun _ => law_end hr hlk hge ⟨by omega, by omega⟩) (fun h => absurd ((sub6_lt (by omega) (by omega)).mpr (by omega)) h)
  | succ n IH =>
    intro i M N hi hp
    refine law_head (fun _ => law_end hr hlk hge ⟨by omega, by omega⟩) (fun h => ?_)
    have h6 : 6 * i + 6 ≤ L := by
      have h9 : ¬ L < 6 * i + 6 := fun q => h ((sub6_lt (by omega) (by omega)).mpr q)
      omega
    obtain ⟨M', N', hm, hp'⟩ := hP (xs (nI (6 * i)).toNatClampNeg) (xs (nI (6 * i) + 1).toNatClampNeg) (xs (nI (6 * i) + 2).toNatClampNeg) (xs (nI (6 * i) + 3).toNatClampNeg) (xs (nI (6 * i) + 4).toNatClampNeg) (xs (nI (6 * i) + 5).toNatClampNeg) M N hp
    have h9 := IH (i + 1) M' N' (by omega) hp'
    rw [show c0 + 64 * (i + 1) = c0 + 64 * i + 64 by omega, show s0 + 4096 * (i + 1) = s0 + 4096 * i + 4096 by omega] at h9
    exact law_sw ⟨by omega, by omega⟩ ⟨⟨nI_in (by omega) (by omega), rfl⟩, ⟨nI_at (j := 1) (by omega) (by omega), rfl⟩, ⟨nI_at (j := 2) (by omega) (by omega), rfl⟩, ⟨nI_at (j := 3) (by omega) (by omega), rfl⟩, ⟨nI_at (j := 4) (by omega) (by omega), rfl⟩, ⟨nI_at (j := 5) (by omega) (by omega), rfl⟩⟩ hm (law_inc ((Int32.ofNat_add (6 * i) 6).trans rfl) h9)
theorem law_go0 (hc : cells + 64 * 513 ≤ 601024 ∧ slots + 4096 * 513 ≤ 7293034) (hL : L ≤ 3072) (hr : meth.sig.returnType = ret) (hlk : meth.locks = false) (hge : ∀ q, AS kd' ad' s.heap.size q → s.heap.size ≤ q) {P : Mem → Mem → Prop} (hP : ∀ a0 a1 a2 a3 a4 a5 M N, P M N → ∃ M' N', mcase a0 a1 a2 a3 a4 a5 M N = some (M', N') ∧ P M' N') {M N : Mem} (h0 : P M N) : AtW p l e s m #[Value.ref b] below meth c L xs G kd' ad' b 0 M N (lw_Z below #[Value.ref b] s) cells slots 28 := law_go hc hL hr hlk hge hP 513 0 M N rfl h0
end LE
