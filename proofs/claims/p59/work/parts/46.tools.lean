/-! the walk of the law itself -/
def kpL : List (Nat × Nat) := [(6, 0), (11, 600), (5, 0), (10, 3), (11, 0), (1, 0), (10, 9), (10, 10), (10, 8), (10, 8), (10, 8), (10, 8), (10, 8), (1, 0), (10, 9), (10, 10), (10, 8), (10, 8), (10, 8), (10, 8), (10, 8), (4, 0), (8, 10), (1, 0), (10, 9), (10, 10), (10, 8), (10, 8), (10, 8), (10, 8), (10, 8), (1, 0), (10, 9), (10, 10), (10, 8), (10, 8), (10, 8), (10, 8), (10, 8), (1, 0), (10, 9), (10, 10), (10, 8), (10, 8), (10, 8), (10, 8), (10, 8), (1, 0), (10, 9), (10, 10), (10, 8), (10, 8), (10, 8), (10, 8), (10, 8), (1, 0), (10, 9), (10, 10), (10, 8), (10, 8), (10, 8), (10, 8), (10, 8), (1, 0), (10, 9), (10, 10), (10, 8), (10, 8), (10, 8), (10, 8), (10, 8), (1, 0), (10, 9), (10, 10), (10, 8), (10, 8), (10, 8), (10, 8), (10, 8), (1, 0), (10, 9), (10, 10), (10, 8), (10, 8), (10, 8), (10, 8), (10, 8), (1, 0), (10, 9), (10, 10), (10, 8), (10, 8), (10, 8), (10, 8), (10, 8), (1, 0), (10, 9), (10, 10), (10, 8), (10, 8), (10, 8), (10, 8), (10, 8), (2, 0), (10, 9), (10, 9), (10, 9), (10, 9), (10, 9), (10, 9), (3, 0), (10, 8), (2, 0), (10, 9), (10, 9), (10, 9), (10, 9), (10, 9), (10, 9), (1, 0), (10, 9), (10, 10), (10, 8), (10, 8), (10, 8), (10, 8), (10, 8), (10, 256), (12, 256), (13, 256), (10, 4096), (10, 4096), (10, 4096), (9, 134), (11, 16)]
def KP (k : Nat) : Nat × Nat := kpL.getD k (0, 0)
theorem KP_lt {k : Nat} (h : (KP k).1 ≠ 0) : k < 135 := by
  by_cases e : k < 135
  · exact e
  · exact absurd (by unfold KP; rw [List.getD_eq_getElem?_getD, List.getElem?_eq_none (by show 135 ≤ k; omega)]; rfl) h
theorem kp_root : kRoot KP 0 := by
  unfold kRoot kReader kHist kPlanner kPlaces kPart
  repeat' apply And.intro
  all_goals first | rfl | decide +kernel
theorem kp_sb : kSB KP 133 := by unfold kSB; decide +kernel
theorem kp_4 : KP 4 = (11, 0) := by decide +kernel
theorem kp_0 : KP 0 = (6, 0) := by decide +kernel
theorem kp_134 : (KP 134).1 ≠ 0 := by decide +kernel
def adP (B k : Nat) : Nat := if k < 135 then (if k = 3 then B + 8 else if k = 4 then B + 7 else B + 4 + k) else if k < 139 then B + (k - 135) else B + k
theorem adP_inj (B : Nat) : ∀ i j, adP B i = adP B j → i = j := by
  intro i j h
  unfold adP at h
  (repeat' split at h) <;> omega
theorem adP_ge (B k : Nat) : B ≤ adP B k := by
  unfold adP
  (repeat' split) <;> omega
theorem adP_su {B n : Nat} (h : B + 139 ≤ n) : Su (adP B) n := fun q hq => ⟨q - B, by unfold adP; rw [if_neg (by omega), if_neg (by omega)]; omega, by unfold adP; rw [if_neg (by omega), if_neg (by omega)]; omega⟩
theorem adP_c {B k : Nat} (h : k < 135) (h3 : k ≠ 3) (h4 : k ≠ 4) : adP B k = B + 4 + k := by unfold adP; rw [if_pos h, if_neg h3, if_neg h4]
theorem adP_l {B k : Nat} (h : 135 ≤ k) (h2 : k < 139) : adP B k = B + (k - 135) := by unfold adP; rw [if_neg (by omega), if_pos h2]
theorem adP_AS {K : Nat → Nat × Nat} {B : Nat} : AS K (adP B) B = fun q => B ≤ q := by
  funext q
  exact propext ⟨fun h => h.elim (fun ⟨k, _, e⟩ => by rw [e]; exact adP_ge B k) id, Or.inr⟩
/-- the kinds of the law's object and of its arrays -/
def kL (A k : Nat) : Nat × Nat := if k = 135 then (16, A) else if k = 136 then (10, 0) else if k = 137 then (10, 6) else if k = 138 then (12, 5) else (0, 0)
theorem kL_o {A k : Nat} (h : k < 135 ∨ 139 ≤ k) : kL A k = (0, 0) := by
  unfold kL
  rw [if_neg (by omega), if_neg (by omega), if_neg (by omega), if_neg (by omega)]
theorem kL_nz {A k : Nat} (h : (kL A k).1 ≠ 0) : 135 ≤ k ∧ k < 139 := by
  by_cases e : k < 135 ∨ 139 ≤ k
  · rw [kL_o e] at h; exact absurd rfl h
  · omega
theorem kL_set {A A' : Nat} : setk (kL A) 135 (16, A') = kL A' := by
  funext k
  by_cases e : k = 135
  · subst e; rw [setk_s]; rfl
  · rw [setk_o e]; unfold kL; rw [if_neg e, if_neg e]
theorem kL_lawc {ad : Nat → Nat} : kLawc ad (kL (ad 136)) 135 := ⟨rfl, rfl, rfl, rfl⟩
/-- and those of the class with them -/
def kA (A k : Nat) : Nat × Nat := if k < 135 then KP k else kL A k
theorem kA_c {A k : Nat} (h : k < 135) : kA A k = KP k := if_pos h
theorem kA_l {A k : Nat} (h : 135 ≤ k) : kA A k = kL A k := if_neg (by omega)
theorem kA_nz {A k : Nat} (h : (kA A k).1 ≠ 0) : k < 139 := by
  by_cases e : k < 135
  · omega
  · rw [kA_l (by omega)] at h; exact (kL_nz h).2
theorem kRoot_eq {K K' : Nat → Nat × Nat} (h : kRoot K 0) (he : ∀ k, k < 135 → K' k = K k) : kRoot K' 0 := by
  obtain ⟨h1, h2, h3, h4, h5, h6, h7, h8⟩ := h
  exact ⟨(he _ (by omega)).trans h1, (he _ (by omega)).trans h2, kReader_congr h3 (fun j _ hj => he _ (by omega)), kPart_congr h4 (fun j hj => he _ (by omega)), kPart_congr h5 (fun j hj => he _ (by omega)), kHist_congr h6 (fun j hj => he _ (by omega)), kPlaces_congr h7 (fun j hj => he _ (by omega)), kPlanner_congr h8 (fun j hj => he _ (by omega))⟩
theorem kA_root {A : Nat} : kRoot (kA A) 0 := kRoot_eq kp_root (fun _ h => kA_c h)
theorem kA_sb {A : Nat} : kSB (kA A) 133 := kSB_congr kp_sb (fun j hj => kA_c (by omega))
theorem kA_law {A : Nat} : kLaw A (kA A) 135 := ⟨rfl, rfl, rfl⟩
/-- the text of the tools -/
def t0L (c1 c2 c3 c4 : Nat) : List Nat := stN 15 ++ dg (100 * c1) ++ stN 16 ++ dg (100 * c2) ++ stN 17 ++ dg (100 * c3) ++ stN 18 ++ dg (500 + 100 * c4) ++ stN 12
theorem dg_b3 {v : Nat} (h : v < 1000) : 1 ≤ (dg v).length ∧ (dg v).length ≤ 3 := by
  by_cases e : 100 ≤ v
  · rw [dg_3 ⟨e, h⟩]; omega
  · rw [dg_len, if_pos (by omega), d2_len]; split <;> omega
theorem dg_b4 {v : Nat} (h : 500 ≤ v ∧ v < 4000) : 3 ≤ (dg v).length ∧ (dg v).length ≤ 4 := by
  rw [dg_len, if_neg (by omega), d2_len]; split <;> omega
theorem t0L_len {c1 c2 c3 c4 : Nat} (h1 : c1 < 9) (h2 : c2 < 9) (h3 : c3 < 4) (h4 : c4 < 30) : 43 ≤ (t0L c1 c2 c3 c4).length ∧ (t0L c1 c2 c3 c4).length ≤ 50 := by
  obtain ⟨-, z2, -, -, z5, z6, z7, z8⟩ := st_lens
  have g1 := dg_b3 (v := 100 * c1) (by omega)
  have g2 := dg_b3 (v := 100 * c2) (by omega)
  have g3 := dg_b3 (v := 100 * c3) (by omega)
  have g4 := dg_b4 (v := 500 + 100 * c4) (by omega)
  unfold t0L
  simp only [List.length_append, z2, z5, z6, z7, z8]
  omega
set_option maxHeartbeats 8000000 in
theorem law_tools {p : Program} {l : Launch} {e : Env} {s : State} {m : MethodId} {below : List Frame} {meth : Method} {c : Code} {b : Nat} {G : GT} (hx : p.tables.exec = Jvm.exec) (hb : c.code = code) (hml : c.maxLocals = 5) (hown : s.vm.findClass RL = some m.cls) (hts : ∀ w ∈ WA, w.before #[Value.ref b] s = true) (hK : va_K G.1 vwCl (tyLs G) s) {ad : Nat → Nat} {N c1 c2 c3 c4 : Nat} {K : Nat → Nat × Nat} {M : Mem} {H : Heap} {locs : List Loc} {ls : Array Slot} {vo : Value} {cells slots : Nat} {Q : State → Prop} (hinj : ∀ i j, ad i = ad j → i = j) (hsu : Su ad N) (hsxA : ∀ K' : Nat → Nat × Nat, Sx G (AS K' ad s.heap.size) s s.heap) (hexA : ∀ K' : Nat → Nat × Nat, Ex (AS K' ad s.heap.size) s s.heap)
    (hN : ∀ (K' : Nat → Nat × Nat) (M' : Mem) (H' : Heap) (locs' : List Loc), (∀ j, (K j).1 ≠ 0 → K' j = K j) → Inv G K' ad s.heap M' H' locs' → N ≤ H'.size) (hsN : s.heap.size ≤ N) (hkL : kLaw (G.2.2 400) K 135) (h5 : M.1 135 5 = Int32.ofNat (100 * c1)) (h6 : M.1 135 6 = Int32.ofNat (100 * c2)) (h7 : M.1 135 7 = Int32.ofNat (100 * c3)) (h8 : M.1 135 8 = Int32.ofNat (500 + 100 * c4)) (b1 : c1 < 9) (b2 : c2 < 9) (b3 : c3 < 4) (b4 : c4 < 30)
    (hc : cells ≤ 1000 ∧ slots ≤ 100000) (hI : Inv G K ad s.heap M H locs) (hl : lv_has ls 5 [(2, vo), (1, .ref (ad 135)), (0, .ref b)])
    (kk : ∀ (K9 : Nat → Nat × Nat) (M9 : Mem) (H : Heap) (locs : List Loc) (kt at' : Nat), (∀ j, (K j).1 ≠ 0 → K9 j = K j ∧ Sm M M9 j) → STx K9 M9 kt at' (t0L c1 c2 c3 c4) → Inv G K9 ad s.heap M9 H locs → W p l e room_1 s m #[Value.ref b] below meth c H locs (cells + 13) (slots + 10100) Q (F0 m 139 ls [.ref (ad kt)])) : W p l e room_1 s m #[Value.ref b] below meth c H locs (cells) (slots) Q (F0 m 76 ls []) := by
  obtain ⟨kB, hid, hid1⟩ := hsu H.size (hN _ _ _ _ (fun _ _ => rfl) hI)
  have hB0 := hI.1.fresh hid
  refine d_newo hx hb hts inWJ4 tyJ4 tyJ4_ok hown q_t3_205 q_t2_32 q_t1_8 hK hI hid (q := (29, 0)) (by simp) (ci := 1) rfl (fs := [.null, .int 0, .int 0, .int 0]) rfl (by decide +kernel) ⟨by have := hc.1; show cells + 1 ≤ 600086; omega, by have := hc.2; show slots + 4 ≤ 7301442; omega⟩ (dc tbL_law_1_k 1 rfl) (fun H1 hz1 hI => ?_)
  refine lv_dup hx hb (dc tbL_law_1_k 2 rfl) rfl ?_
  refine d_sb hx hb hml hown hts hK (hsxA _) (hexA _) hI hinj setk_s hz1 (by rw [hid1, hid]) zr_s.1 q_t3_206 ⟨Nat.le_of_ble_eq_true rfl, Nat.le_of_ble_eq_true rfl⟩ hl.1 (Nat.le_of_ble_eq_true rfl) (dc tbL_law_1_k 3 rfl) ⟨by have := hc.1; show cells + 1 + 1 ≤ 600086; omega, by have := hc.2; show slots + 4 + 16 ≤ 7301442; omega⟩ (fun K1 M1 H locs hSB hF hB1 _ hI => ?_)
  have hP0 : ∀ j, (K j).1 ≠ 0 → K1 j = K j ∧ Sm M M1 j := fun j hj => by
    have e : j ≠ kB := fun e => hj (by rw [e]; exact hB0)
    obtain ⟨f1, f2⟩ := hF j (by rw [setk_o e]; exact hj) e
    exact ⟨f1.trans (setk_o e), (zr_s1 e).trans f2⟩
  have haB : (K (kB + 1)).1 = 0 := by
    have e2 : kB + 1 ≠ kB := by omega
    rw [setk_o e2] at hB1; exact hB1
  have hab : kB + 1 ≠ kB := by omega
  obtain ⟨-, z2, -, -, z5, z6, z7, z8⟩ := st_lens
  have g1 := dg_b3 (v := 100 * c1) (by omega)
  have g2 := dg_b3 (v := 100 * c2) (by omega)
  have g3 := dg_b3 (v := 100 * c3) (by omega)
  have g4 := dg_b4 (v := 500 + 100 * c4) (by omega)
  have hm1 : 16 = 16 ∨ 16 = 34 ∨ 16 = 70 := Or.inl rfl
  have hlen : ([] : List Nat).length = 0 := rfl
  have hsx := hsxA K1
  refine g_ldcS (List.mem_of_getElem? (i := 4) rfl) hx hb hown hsx (dc tbL_law_1_k 4 rfl) ?_
  have hsx := hsxA K1
  have hap : Apt K1 ad := fun _ _ _ _ h => hinj _ _ h
  refine d_callV (n := 1) (C := "java/lang/StringBuilder") hx hb hml hown hts hK hap hsx hI (tJ4_append_s l hinj hSB hab (i0 := 15) (by omega) (by rw [hlen, z5]; omega) H.size (hsu.le (hN _ _ _ _ (fun j hj => (hP0 j hj).1) hI))) cv_J4_append_15ec4 q_t3_207 rfl rfl ⟨Nat.le_of_ble_eq_true rfl, Nat.le_of_ble_eq_true rfl⟩ hSB.1.1 (by simp) rfl rfl rfl hl.1 rfl (Nat.le_of_ble_eq_true rfl) (dc tbL_law_1_k 5 rfl) ⟨by have := hc.1; show cells + 1 + 1 + 1 ≤ 600086; omega, by have := hc.2; show slots + 4 + 16 + 1000 ≤ 7301442; omega⟩ (fun K2 M2 v2 H locs hP _ hI => ?_)
  obtain ⟨rfl, a2, m2, hSB, hab, hcap, hKe, hMe, haa⟩ := hP
  have ha2 : (K a2).1 = 0 := by
    rcases haa with e | e
    · rw [e]; exact haB
    · by_cases e2 : (K a2).1 = 0
      · exact e2
      · exact absurd e (by rw [(hP0 _ e2).1]; exact e2)
  have hP0 : ∀ j, (K j).1 ≠ 0 → K2 j = K j ∧ Sm M M2 j := fun j hj => by
    obtain ⟨f1, f2⟩ := hP0 j hj
    have e1 : j ≠ kB := fun e => hj (by rw [e]; exact hB0)
    have e2 : j ≠ kB + 1 := fun e => hj (by rw [e]; exact haB)
    have e3 : (K1 j).1 ≠ 0 := by rw [f1]; exact hj
    exact ⟨(hKe j e3 e1).trans f1, f2.trans (hMe j e3 e1 e2)⟩
  rw [List.nil_append] at hSB
  have hm2 : m2 = 16 ∨ m2 = 34 ∨ m2 = 70 := by
    rw [hlen, z5] at hcap
    unfold capN at hcap
    clear hKe hMe haa hP0 kk hN
    split at hcap <;> omega
  replace hlen : (stN 15).length = 9 := z5
  have hle2 : (stN 15).length ≤ m2 := hSB.2.2.2.1
  refine lv_aload_n hx hb (dc tbL_law_1_k 6 rfl) rfl (lv_at hl 1 rfl) ?_
  have hk9 : K2 135 = _ := (hP0 135 hkL.nz.1).1.trans hkL.1
  refine ggL_5 hx hb hts hown hK hI hk9 q_t2_196 (dc tbL_law_1_k 7 rfl) ?_
  refine lv_et (b := Int32.ofNat (100 * c1)) (by show M2.1 135 5 = _; rw [(hP0 135 hkL.nz.1).2.1]; exact h5) ?_
  have hsx := hsxA K2
  have hap : Apt K2 ad := fun _ _ _ _ h => hinj _ _ h
  refine d_callV (n := 1) (C := "java/lang/StringBuilder") hx hb hml hown hts hK hap hsx hI (tJ4_append_i l hinj hSB hab (v := 100 * c1) (by omega) (by rw [hlen]; omega) H.size (hsu.le (hN _ _ _ _ (fun j hj => (hP0 j hj).1) hI))) cv_J4_append_bf812 q_t4_67 rfl rfl ⟨Nat.le_of_ble_eq_true rfl, Nat.le_of_ble_eq_true rfl⟩ hSB.1.1 (by simp) rfl rfl rfl hl.1 rfl (Nat.le_of_ble_eq_true rfl) (dc tbL_law_1_k 8 rfl) ⟨by have := hc.1; show cells + 1 + 1 + 1 + 1 ≤ 600086; omega, by have := hc.2; show slots + 4 + 16 + 1000 + 1000 ≤ 7301442; omega⟩ (fun K3 M3 v3 H locs hP _ hI => ?_)
  obtain ⟨rfl, a3, m3, hSB, hab, hcap, hKe, hMe, haa⟩ := hP
  have ha3 : (K a3).1 = 0 := by
    rcases haa with e | e
    · rw [e]; exact ha2
    · by_cases e2 : (K a3).1 = 0
      · exact e2
      · exact absurd e (by rw [(hP0 _ e2).1]; exact e2)
  have hP0 : ∀ j, (K j).1 ≠ 0 → K3 j = K j ∧ Sm M M3 j := fun j hj => by
    obtain ⟨f1, f2⟩ := hP0 j hj
    have e1 : j ≠ kB := fun e => hj (by rw [e]; exact hB0)
    have e2 : j ≠ a2 := fun e => hj (by rw [e]; exact ha2)
    have e3 : (K2 j).1 ≠ 0 := by rw [f1]; exact hj
    exact ⟨(hKe j e3 e1).trans f1, f2.trans (hMe j e3 e1 e2)⟩
  have hm3 : m3 = 16 ∨ m3 = 34 ∨ m3 = 70 := by
    have hlo := hle2
    rw [hlen] at hlo
    rw [hlen] at hcap
    have hmo := hm2
    unfold capN at hcap
    clear hKe hMe haa hP0 kk hN
    split at hcap <;> omega
  replace hlen : (stN 15 ++ dg (100 * c1)).length = 9 + (dg (100 * c1)).length := by rw [List.length_append, hlen]
  have hle3 : (stN 15 ++ dg (100 * c1)).length ≤ m3 := hSB.2.2.2.1
  have hsx := hsxA K3
  refine g_ldcS (List.mem_of_getElem? (i := 5) rfl) hx hb hown hsx (dc tbL_law_1_k 9 rfl) ?_
  have hsx := hsxA K3
  have hap : Apt K3 ad := fun _ _ _ _ h => hinj _ _ h
  refine d_callV (n := 1) (C := "java/lang/StringBuilder") hx hb hml hown hts hK hap hsx hI (tJ4_append_s l hinj hSB hab (i0 := 16) (by omega) (by rw [hlen, z6]; omega) H.size (hsu.le (hN _ _ _ _ (fun j hj => (hP0 j hj).1) hI))) cv_J4_append_15ec4 q_t3_207 rfl rfl ⟨Nat.le_of_ble_eq_true rfl, Nat.le_of_ble_eq_true rfl⟩ hSB.1.1 (by simp) rfl rfl rfl hl.1 rfl (Nat.le_of_ble_eq_true rfl) (dc tbL_law_1_k 10 rfl) ⟨by have := hc.1; show cells + 1 + 1 + 1 + 1 + 1 ≤ 600086; omega, by have := hc.2; show slots + 4 + 16 + 1000 + 1000 + 1000 ≤ 7301442; omega⟩ (fun K4 M4 v4 H locs hP _ hI => ?_)
  obtain ⟨rfl, a4, m4, hSB, hab, hcap, hKe, hMe, haa⟩ := hP
  have ha4 : (K a4).1 = 0 := by
    rcases haa with e | e
    · rw [e]; exact ha3
    · by_cases e2 : (K a4).1 = 0
      · exact e2
      · exact absurd e (by rw [(hP0 _ e2).1]; exact e2)
  have hP0 : ∀ j, (K j).1 ≠ 0 → K4 j = K j ∧ Sm M M4 j := fun j hj => by
    obtain ⟨f1, f2⟩ := hP0 j hj
    have e1 : j ≠ kB := fun e => hj (by rw [e]; exact hB0)
    have e2 : j ≠ a3 := fun e => hj (by rw [e]; exact ha3)
    have e3 : (K3 j).1 ≠ 0 := by rw [f1]; exact hj
    exact ⟨(hKe j e3 e1).trans f1, f2.trans (hMe j e3 e1 e2)⟩
  have hm4 : m4 = 16 ∨ m4 = 34 ∨ m4 = 70 := by
    have hlo := hle3
    rw [hlen] at hlo
    rw [hlen, z6] at hcap
    have hmo := hm3
    unfold capN at hcap
    clear hKe hMe haa hP0 kk hN
    split at hcap <;> omega
  replace hlen : (stN 15 ++ dg (100 * c1) ++ stN 16).length = 9 + (dg (100 * c1)).length + 10 := by rw [List.length_append, hlen, z6]
  have hle4 : (stN 15 ++ dg (100 * c1) ++ stN 16).length ≤ m4 := hSB.2.2.2.1
  refine lv_aload_n hx hb (dc tbL_law_1_k 11 rfl) rfl (lv_at hl 1 rfl) ?_
  have hk9 : K4 135 = _ := (hP0 135 hkL.nz.1).1.trans hkL.1
  refine ggL_6 hx hb hts hown hK hI hk9 q_t2_197 (dc tbL_law_1_k 12 rfl) ?_
  refine lv_et (b := Int32.ofNat (100 * c2)) (by show M4.1 135 6 = _; rw [(hP0 135 hkL.nz.1).2.1]; exact h6) ?_
  have hsx := hsxA K4
  have hap : Apt K4 ad := fun _ _ _ _ h => hinj _ _ h
  refine d_callV (n := 1) (C := "java/lang/StringBuilder") hx hb hml hown hts hK hap hsx hI (tJ4_append_i l hinj hSB hab (v := 100 * c2) (by omega) (by rw [hlen]; omega) H.size (hsu.le (hN _ _ _ _ (fun j hj => (hP0 j hj).1) hI))) cv_J4_append_bf812 q_t4_67 rfl rfl ⟨Nat.le_of_ble_eq_true rfl, Nat.le_of_ble_eq_true rfl⟩ hSB.1.1 (by simp) rfl rfl rfl hl.1 rfl (Nat.le_of_ble_eq_true rfl) (dc tbL_law_1_k 13 rfl) ⟨by have := hc.1; show cells + 1 + 1 + 1 + 1 + 1 + 1 ≤ 600086; omega, by have := hc.2; show slots + 4 + 16 + 1000 + 1000 + 1000 + 1000 ≤ 7301442; omega⟩ (fun K5 M5 v5 H locs hP _ hI => ?_)
  obtain ⟨rfl, a5, m5, hSB, hab, hcap, hKe, hMe, haa⟩ := hP
  have ha5 : (K a5).1 = 0 := by
    rcases haa with e | e
    · rw [e]; exact ha4
    · by_cases e2 : (K a5).1 = 0
      · exact e2
      · exact absurd e (by rw [(hP0 _ e2).1]; exact e2)
  have hP0 : ∀ j, (K j).1 ≠ 0 → K5 j = K j ∧ Sm M M5 j := fun j hj => by
    obtain ⟨f1, f2⟩ := hP0 j hj
    have e1 : j ≠ kB := fun e => hj (by rw [e]; exact hB0)
    have e2 : j ≠ a4 := fun e => hj (by rw [e]; exact ha4)
    have e3 : (K4 j).1 ≠ 0 := by rw [f1]; exact hj
    exact ⟨(hKe j e3 e1).trans f1, f2.trans (hMe j e3 e1 e2)⟩
  have hm5 : m5 = 16 ∨ m5 = 34 ∨ m5 = 70 := by
    have hlo := hle4
    rw [hlen] at hlo
    rw [hlen] at hcap
    have hmo := hm4
    unfold capN at hcap
    clear hKe hMe haa hP0 kk hN
    split at hcap <;> omega
  replace hlen : (stN 15 ++ dg (100 * c1) ++ stN 16 ++ dg (100 * c2)).length = 9 + (dg (100 * c1)).length + 10 + (dg (100 * c2)).length := by rw [List.length_append, hlen]
  have hle5 : (stN 15 ++ dg (100 * c1) ++ stN 16 ++ dg (100 * c2)).length ≤ m5 := hSB.2.2.2.1
  have hsx := hsxA K5
  refine g_ldcS (List.mem_of_getElem? (i := 6) rfl) hx hb hown hsx (dc tbL_law_1_k 14 rfl) ?_
  have hsx := hsxA K5
  have hap : Apt K5 ad := fun _ _ _ _ h => hinj _ _ h
  refine d_callV (n := 1) (C := "java/lang/StringBuilder") hx hb hml hown hts hK hap hsx hI (tJ4_append_s l hinj hSB hab (i0 := 17) (by omega) (by rw [hlen, z7]; omega) H.size (hsu.le (hN _ _ _ _ (fun j hj => (hP0 j hj).1) hI))) cv_J4_append_15ec4 q_t3_207 rfl rfl ⟨Nat.le_of_ble_eq_true rfl, Nat.le_of_ble_eq_true rfl⟩ hSB.1.1 (by simp) rfl rfl rfl hl.1 rfl (Nat.le_of_ble_eq_true rfl) (dc tbL_law_1_k 15 rfl) ⟨by have := hc.1; show cells + 1 + 1 + 1 + 1 + 1 + 1 + 1 ≤ 600086; omega, by have := hc.2; show slots + 4 + 16 + 1000 + 1000 + 1000 + 1000 + 1000 ≤ 7301442; omega⟩ (fun K6 M6 v6 H locs hP _ hI => ?_)
  obtain ⟨rfl, a6, m6, hSB, hab, hcap, hKe, hMe, haa⟩ := hP
  have ha6 : (K a6).1 = 0 := by
    rcases haa with e | e
    · rw [e]; exact ha5
    · by_cases e2 : (K a6).1 = 0
      · exact e2
      · exact absurd e (by rw [(hP0 _ e2).1]; exact e2)
  have hP0 : ∀ j, (K j).1 ≠ 0 → K6 j = K j ∧ Sm M M6 j := fun j hj => by
    obtain ⟨f1, f2⟩ := hP0 j hj
    have e1 : j ≠ kB := fun e => hj (by rw [e]; exact hB0)
    have e2 : j ≠ a5 := fun e => hj (by rw [e]; exact ha5)
    have e3 : (K5 j).1 ≠ 0 := by rw [f1]; exact hj
    exact ⟨(hKe j e3 e1).trans f1, f2.trans (hMe j e3 e1 e2)⟩
  have hm6 : m6 = 16 ∨ m6 = 34 ∨ m6 = 70 := by
    have hlo := hle5
    rw [hlen] at hlo
    rw [hlen, z7] at hcap
    have hmo := hm5
    unfold capN at hcap
    clear hKe hMe haa hP0 kk hN
    split at hcap <;> omega
  replace hlen : (stN 15 ++ dg (100 * c1) ++ stN 16 ++ dg (100 * c2) ++ stN 17).length = 9 + (dg (100 * c1)).length + 10 + (dg (100 * c2)).length + 8 := by rw [List.length_append, hlen, z7]
  have hle6 : (stN 15 ++ dg (100 * c1) ++ stN 16 ++ dg (100 * c2) ++ stN 17).length ≤ m6 := hSB.2.2.2.1
  refine lv_aload_n hx hb (dc tbL_law_1_k 16 rfl) rfl (lv_at hl 1 rfl) ?_
  have hk9 : K6 135 = _ := (hP0 135 hkL.nz.1).1.trans hkL.1
  refine ggL_7 hx hb hts hown hK hI hk9 q_t2_198 (dc tbL_law_1_k 17 rfl) ?_
  refine lv_et (b := Int32.ofNat (100 * c3)) (by show M6.1 135 7 = _; rw [(hP0 135 hkL.nz.1).2.1]; exact h7) ?_
  have hsx := hsxA K6
  have hap : Apt K6 ad := fun _ _ _ _ h => hinj _ _ h
  refine d_callV (n := 1) (C := "java/lang/StringBuilder") hx hb hml hown hts hK hap hsx hI (tJ4_append_i l hinj hSB hab (v := 100 * c3) (by omega) (by rw [hlen]; omega) H.size (hsu.le (hN _ _ _ _ (fun j hj => (hP0 j hj).1) hI))) cv_J4_append_bf812 q_t4_67 rfl rfl ⟨Nat.le_of_ble_eq_true rfl, Nat.le_of_ble_eq_true rfl⟩ hSB.1.1 (by simp) rfl rfl rfl hl.1 rfl (Nat.le_of_ble_eq_true rfl) (dc tbL_law_1_k 18 rfl) ⟨by have := hc.1; show cells + 1 + 1 + 1 + 1 + 1 + 1 + 1 + 1 ≤ 600086; omega, by have := hc.2; show slots + 4 + 16 + 1000 + 1000 + 1000 + 1000 + 1000 + 1000 ≤ 7301442; omega⟩ (fun K7 M7 v7 H locs hP _ hI => ?_)
  obtain ⟨rfl, a7, m7, hSB, hab, hcap, hKe, hMe, haa⟩ := hP
  have ha7 : (K a7).1 = 0 := by
    rcases haa with e | e
    · rw [e]; exact ha6
    · by_cases e2 : (K a7).1 = 0
      · exact e2
      · exact absurd e (by rw [(hP0 _ e2).1]; exact e2)
  have hP0 : ∀ j, (K j).1 ≠ 0 → K7 j = K j ∧ Sm M M7 j := fun j hj => by
    obtain ⟨f1, f2⟩ := hP0 j hj
    have e1 : j ≠ kB := fun e => hj (by rw [e]; exact hB0)
    have e2 : j ≠ a6 := fun e => hj (by rw [e]; exact ha6)
    have e3 : (K6 j).1 ≠ 0 := by rw [f1]; exact hj
    exact ⟨(hKe j e3 e1).trans f1, f2.trans (hMe j e3 e1 e2)⟩
  have hm7 : m7 = 16 ∨ m7 = 34 ∨ m7 = 70 := by
    have hlo := hle6
    rw [hlen] at hlo
    rw [hlen] at hcap
    have hmo := hm6
    unfold capN at hcap
    clear hKe hMe haa hP0 kk hN
    split at hcap <;> omega
  replace hlen : (stN 15 ++ dg (100 * c1) ++ stN 16 ++ dg (100 * c2) ++ stN 17 ++ dg (100 * c3)).length = 9 + (dg (100 * c1)).length + 10 + (dg (100 * c2)).length + 8 + (dg (100 * c3)).length := by rw [List.length_append, hlen]
  have hle7 : (stN 15 ++ dg (100 * c1) ++ stN 16 ++ dg (100 * c2) ++ stN 17 ++ dg (100 * c3)).length ≤ m7 := hSB.2.2.2.1
  have hsx := hsxA K7
  refine g_ldcS (List.mem_of_getElem? (i := 7) rfl) hx hb hown hsx (dc tbL_law_1_k 19 rfl) ?_
  have hsx := hsxA K7
  have hap : Apt K7 ad := fun _ _ _ _ h => hinj _ _ h
  refine d_callV (n := 1) (C := "java/lang/StringBuilder") hx hb hml hown hts hK hap hsx hI (tJ4_append_s l hinj hSB hab (i0 := 18) (by omega) (by rw [hlen, z8]; omega) H.size (hsu.le (hN _ _ _ _ (fun j hj => (hP0 j hj).1) hI))) cv_J4_append_15ec4 q_t3_207 rfl rfl ⟨Nat.le_of_ble_eq_true rfl, Nat.le_of_ble_eq_true rfl⟩ hSB.1.1 (by simp) rfl rfl rfl hl.1 rfl (Nat.le_of_ble_eq_true rfl) (dc tbL_law_1_k 20 rfl) ⟨by have := hc.1; show cells + 1 + 1 + 1 + 1 + 1 + 1 + 1 + 1 + 1 ≤ 600086; omega, by have := hc.2; show slots + 4 + 16 + 1000 + 1000 + 1000 + 1000 + 1000 + 1000 + 1000 ≤ 7301442; omega⟩ (fun K8 M8 v8 H locs hP _ hI => ?_)
  obtain ⟨rfl, a8, m8, hSB, hab, hcap, hKe, hMe, haa⟩ := hP
  have ha8 : (K a8).1 = 0 := by
    rcases haa with e | e
    · rw [e]; exact ha7
    · by_cases e2 : (K a8).1 = 0
      · exact e2
      · exact absurd e (by rw [(hP0 _ e2).1]; exact e2)
  have hP0 : ∀ j, (K j).1 ≠ 0 → K8 j = K j ∧ Sm M M8 j := fun j hj => by
    obtain ⟨f1, f2⟩ := hP0 j hj
    have e1 : j ≠ kB := fun e => hj (by rw [e]; exact hB0)
    have e2 : j ≠ a7 := fun e => hj (by rw [e]; exact ha7)
    have e3 : (K7 j).1 ≠ 0 := by rw [f1]; exact hj
    exact ⟨(hKe j e3 e1).trans f1, f2.trans (hMe j e3 e1 e2)⟩
  have hm8 : m8 = 16 ∨ m8 = 34 ∨ m8 = 70 := by
    have hlo := hle7
    rw [hlen] at hlo
    rw [hlen, z8] at hcap
    have hmo := hm7
    unfold capN at hcap
    clear hKe hMe haa hP0 kk hN
    split at hcap <;> omega
  replace hlen : (stN 15 ++ dg (100 * c1) ++ stN 16 ++ dg (100 * c2) ++ stN 17 ++ dg (100 * c3) ++ stN 18).length = 9 + (dg (100 * c1)).length + 10 + (dg (100 * c2)).length + 8 + (dg (100 * c3)).length + 9 := by rw [List.length_append, hlen, z8]
  have hle8 : (stN 15 ++ dg (100 * c1) ++ stN 16 ++ dg (100 * c2) ++ stN 17 ++ dg (100 * c3) ++ stN 18).length ≤ m8 := hSB.2.2.2.1
  refine lv_aload_n hx hb (dc tbL_law_1_k 21 rfl) rfl (lv_at hl 1 rfl) ?_
  have hk9 : K8 135 = _ := (hP0 135 hkL.nz.1).1.trans hkL.1
  refine ggL_8 hx hb hts hown hK hI hk9 q_t2_199 (dc tbL_law_1_k 22 rfl) ?_
  refine lv_et (b := Int32.ofNat (500 + 100 * c4)) (by show M8.1 135 8 = _; rw [(hP0 135 hkL.nz.1).2.1]; exact h8) ?_
  have hsx := hsxA K8
  have hap : Apt K8 ad := fun _ _ _ _ h => hinj _ _ h
  refine d_callV (n := 1) (C := "java/lang/StringBuilder") hx hb hml hown hts hK hap hsx hI (tJ4_append_i l hinj hSB hab (v := 500 + 100 * c4) (by omega) (by rw [hlen]; omega) H.size (hsu.le (hN _ _ _ _ (fun j hj => (hP0 j hj).1) hI))) cv_J4_append_bf812 q_t4_67 rfl rfl ⟨Nat.le_of_ble_eq_true rfl, Nat.le_of_ble_eq_true rfl⟩ hSB.1.1 (by simp) rfl rfl rfl hl.1 rfl (Nat.le_of_ble_eq_true rfl) (dc tbL_law_1_k 23 rfl) ⟨by have := hc.1; show cells + 1 + 1 + 1 + 1 + 1 + 1 + 1 + 1 + 1 + 1 ≤ 600086; omega, by have := hc.2; show slots + 4 + 16 + 1000 + 1000 + 1000 + 1000 + 1000 + 1000 + 1000 + 1000 ≤ 7301442; omega⟩ (fun K9 M9 v9 H locs hP _ hI => ?_)
  obtain ⟨rfl, a9, m9, hSB, hab, hcap, hKe, hMe, haa⟩ := hP
  have ha9 : (K a9).1 = 0 := by
    rcases haa with e | e
    · rw [e]; exact ha8
    · by_cases e2 : (K a9).1 = 0
      · exact e2
      · exact absurd e (by rw [(hP0 _ e2).1]; exact e2)
  have hP0 : ∀ j, (K j).1 ≠ 0 → K9 j = K j ∧ Sm M M9 j := fun j hj => by
    obtain ⟨f1, f2⟩ := hP0 j hj
    have e1 : j ≠ kB := fun e => hj (by rw [e]; exact hB0)
    have e2 : j ≠ a8 := fun e => hj (by rw [e]; exact ha8)
    have e3 : (K8 j).1 ≠ 0 := by rw [f1]; exact hj
    exact ⟨(hKe j e3 e1).trans f1, f2.trans (hMe j e3 e1 e2)⟩
  have hm9 : m9 = 16 ∨ m9 = 34 ∨ m9 = 70 := by
    have hlo := hle8
    rw [hlen] at hlo
    rw [hlen] at hcap
    have hmo := hm8
    unfold capN at hcap
    clear hKe hMe haa hP0 kk hN
    split at hcap <;> omega
  replace hlen : (stN 15 ++ dg (100 * c1) ++ stN 16 ++ dg (100 * c2) ++ stN 17 ++ dg (100 * c3) ++ stN 18 ++ dg (500 + 100 * c4)).length = 9 + (dg (100 * c1)).length + 10 + (dg (100 * c2)).length + 8 + (dg (100 * c3)).length + 9 + (dg (500 + 100 * c4)).length := by rw [List.length_append, hlen]
  have hle9 : (stN 15 ++ dg (100 * c1) ++ stN 16 ++ dg (100 * c2) ++ stN 17 ++ dg (100 * c3) ++ stN 18 ++ dg (500 + 100 * c4)).length ≤ m9 := hSB.2.2.2.1
  have hsx := hsxA K9
  refine g_ldcS (List.mem_of_getElem? (i := 1) rfl) hx hb hown hsx (dc tbL_law_1_k 24 rfl) ?_
  have hsx := hsxA K9
  have hap : Apt K9 ad := fun _ _ _ _ h => hinj _ _ h
  refine d_callV (n := 1) (C := "java/lang/StringBuilder") hx hb hml hown hts hK hap hsx hI (tJ4_append_s l hinj hSB hab (i0 := 12) (by omega) (by rw [hlen, z2]; omega) H.size (hsu.le (hN _ _ _ _ (fun j hj => (hP0 j hj).1) hI))) cv_J4_append_15ec4 q_t3_207 rfl rfl ⟨Nat.le_of_ble_eq_true rfl, Nat.le_of_ble_eq_true rfl⟩ hSB.1.1 (by simp) rfl rfl rfl hl.1 rfl (Nat.le_of_ble_eq_true rfl) (dc tbL_law_1_k 25 rfl) ⟨by have := hc.1; show cells + 1 + 1 + 1 + 1 + 1 + 1 + 1 + 1 + 1 + 1 + 1 ≤ 600086; omega, by have := hc.2; show slots + 4 + 16 + 1000 + 1000 + 1000 + 1000 + 1000 + 1000 + 1000 + 1000 + 1000 ≤ 7301442; omega⟩ (fun K10 M10 v10 H locs hP _ hI => ?_)
  obtain ⟨rfl, a10, m10, hSB, hab, hcap, hKe, hMe, haa⟩ := hP
  have ha10 : (K a10).1 = 0 := by
    rcases haa with e | e
    · rw [e]; exact ha9
    · by_cases e2 : (K a10).1 = 0
      · exact e2
      · exact absurd e (by rw [(hP0 _ e2).1]; exact e2)
  have hP0 : ∀ j, (K j).1 ≠ 0 → K10 j = K j ∧ Sm M M10 j := fun j hj => by
    obtain ⟨f1, f2⟩ := hP0 j hj
    have e1 : j ≠ kB := fun e => hj (by rw [e]; exact hB0)
    have e2 : j ≠ a9 := fun e => hj (by rw [e]; exact ha9)
    have e3 : (K9 j).1 ≠ 0 := by rw [f1]; exact hj
    exact ⟨(hKe j e3 e1).trans f1, f2.trans (hMe j e3 e1 e2)⟩
  have hm10 : m10 = 16 ∨ m10 = 34 ∨ m10 = 70 := by
    have hlo := hle9
    rw [hlen] at hlo
    rw [hlen, z2] at hcap
    have hmo := hm9
    unfold capN at hcap
    clear hKe hMe haa hP0 kk hN
    split at hcap <;> omega
  replace hlen : (stN 15 ++ dg (100 * c1) ++ stN 16 ++ dg (100 * c2) ++ stN 17 ++ dg (100 * c3) ++ stN 18 ++ dg (500 + 100 * c4) ++ stN 12).length = 9 + (dg (100 * c1)).length + 10 + (dg (100 * c2)).length + 8 + (dg (100 * c3)).length + 9 + (dg (500 + 100 * c4)).length + 1 := by rw [List.length_append, hlen, z2]
  have hle10 : (stN 15 ++ dg (100 * c1) ++ stN 16 ++ dg (100 * c2) ++ stN 17 ++ dg (100 * c3) ++ stN 18 ++ dg (500 + 100 * c4) ++ stN 12).length ≤ m10 := hSB.2.2.2.1
  have hmz : (stN 15 ++ dg (100 * c1) ++ stN 16 ++ dg (100 * c2) ++ stN 17 ++ dg (100 * c3) ++ stN 18 ++ dg (500 + 100 * c4) ++ stN 12).length < m10 := by
    have hle := hSB.2.2.2.1
    rw [hlen] at hle ⊢
    omega
  have hsx := hsxA K10
  have hap : Apt K10 ad := fun _ _ _ _ h => hinj _ _ h
  refine d_callV (n := 0) (C := "java/lang/StringBuilder") hx hb hml hown hts hK hap hsx hI (tJ4_toString_0e30d l hinj hSB hmz (by rw [hlen]; omega) H.size (hsu.le (hN _ _ _ _ (fun j hj => (hP0 j hj).1) hI))) cv_J4_toString_0e30d q_t4_93 rfl rfl ⟨Nat.le_of_ble_eq_true rfl, Nat.le_of_ble_eq_true rfl⟩ hSB.1.1 (by simp) rfl rfl rfl hl.1 rfl (Nat.le_of_ble_eq_true rfl) (dc tbL_law_1_k 26 rfl) ⟨by have := hc.1; show cells + 1 + 1 + 1 + 1 + 1 + 1 + 1 + 1 + 1 + 1 + 1 + 2 ≤ 600086; omega, by have := hc.2; show slots + 4 + 16 + 1000 + 1000 + 1000 + 1000 + 1000 + 1000 + 1000 + 1000 + 1000 + 1000 ≤ 7301442; omega⟩ (fun K9 M9 v9 H locs hP _ hI => ?_)
  obtain ⟨kt9, at9, rfl, hST9, hF9, -, -⟩ := hP
  refine W.widen (k := cells + 13) (n := slots + 10100) (by omega) (by omega) ?_
  exact kk K9 M9 H locs kt9 at9 (fun j hj => ⟨((hF9 j (by rw [(hP0 j hj).1]; exact hj)).1).trans (hP0 j hj).1, (hP0 j hj).2.trans (hF9 j (by rw [(hP0 j hj).1]; exact hj)).2⟩) hST9 hI
