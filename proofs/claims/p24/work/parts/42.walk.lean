theorem q_t1_29 : (Cond.classLink "SheetFolderLaw" 8 "SheetFolder") ∈ WA := wa_q tbl_1 29 rfl rfl
theorem q_t1_30 : (Cond.instantiable "SheetFolder" 9) ∈ WA := wa_q tbl_1 30 rfl rfl
theorem q_t1_31 : (Cond.methodLink "SheetFolderLaw" 104 ⟨"SheetFolder", "<init>", "()V"⟩) ∈ WA := wa_q tbl_1 31 rfl rfl
theorem q_t10_17 : (Cond.arrayClass .double) ∈ WA := wa_q tbl_10 17 rfl rfl
theorem q_t7_59 : (Cond.classLink "SheetFolderLaw" 105 "SheetFolderModel") ∈ WA := wa_q tbl_7 59 rfl rfl
theorem q_t7_60 : (Cond.instantiable "SheetFolderModel" 31) ∈ WA := wa_q tbl_7 60 rfl rfl
theorem q_t7_61 : (Cond.methodLink "SheetFolderLaw" 107 ⟨"SheetFolderModel", "<init>", "()V"⟩) ∈ WA := wa_q tbl_7 61 rfl rfl
theorem kx {G : GT} {ad : Nat → Nat} {H : Heap} {M : Mem} {kd : Nat → Nat × Nat} {k : Nat} (g : kd k = KF k) (hk : (kd k).1 ≠ 0) (h : (KF k).1 ≠ 0 → va_at G.1 vwCl (ad k, ent ad G.2.1 (KF k) k (M.1 k) (M.2.1 k) (M.2.2 k)) H) : va_at G.1 vwCl (ad k, ent ad G.2.1 (kd k) k (M.1 k) (M.2.1 k) (M.2.2 k)) H := by
  rw [g] at hk ⊢
  exact h hk
set_option maxHeartbeats 4000000 in
set_option maxRecDepth 100000 in
theorem law_entry {p : Program} {e : Env} {s : State} {m : MethodId} {below : List Frame} {meth : Method} {c : Code} (l : Launch) (hst : l.stackTraces = false) {b L : Nat} {xs : Nat → Int32} (hL : L ≤ 3072) (C0 : lw_At p s m meth c b L xs) {M0 : Mem} (h1 : mstart = some (M0, ())) (h3 : rd M0 133 0 = 0) {P : Mem → Mem → Prop} (hP : ∀ a0 a1 a2 a3 a4 a5 M N, P M N → ∃ M' N', mcase a0 a1 a2 a3 a4 a5 M N = some (M', N') ∧ P M' N') (hP0 : P M0 M0) : W p l e room_1 s m #[Value.ref b] below meth c s.heap [] 0 0 (lw_Z below #[Value.ref b] s) (entryFrame m ([Value.ref b] : List Value).toArray 10) := by
  obtain ⟨hx, hb, hr, hml, hown, h0, hX, hbl, hlk, hgv⟩ := id C0
  have hn := flat_of_before _ hgv
  have hts := wa_ok h0
  have hA : ∀ a : Nat, a < s.heap.size → ¬ (AS KF (adF s.heap.size) s.heap.size) a := fun a ha h => by rw [AS_ge] at h; exact absurd h (Nat.not_le.mpr ha)
  obtain ⟨D, cA, hK0⟩ := st_K hts h0
  obtain ⟨adW, hE, hT⟩ := st_T (AS KF (adF s.heap.size) s.heap.size) hA h0 hn
  obtain ⟨hsx, hex, hnc⟩ := st_S (G := (D, cA, adW)) (AS KF (adF s.heap.size) s.heap.size) hA h0 hn hE (hT D cA)
  have hK : va_K ((D, cA, adW) : GT).1 vwCl (tyL (D, cA, adW)) s := hK0 adW
  generalize hG : ((D, cA, adW) : GT) = G at hsx hK
  have hinj := adF_inj s.heap.size
  have hl := lv_entry ([.ref b]) (n := 10) (Nat.le_of_ble_eq_true rfl)
  rw [lg_entry_eq]
  generalize (lg_sl ([.ref b]) ++ List.replicate (10 - (lg_sl ([.ref b])).length) Slot.unset).toArray = ls at hl ⊢
  have hl : lv_has ls 10 [(0, .ref b)] := hl
  have hC : Ci G KF KF (adF s.heap.size) s m0 s.heap [] 0 := ⟨fun k hk => absurd (kdN_lt hk) (by have := adF_ge s.heap.size k; omega), va_S.rf, rfl, fun _ => Iff.rfl⟩
  unfold mstart at h1
  obtain ⟨M1, e1, h1⟩ := bnd_s h1
  refine c_new hx hb hts inW6 tyX6 tyX6_ok hown q_t1_29 q_t1_30 q_t1_1 hK hC hinj (j := 0) (adF_o (by decide) (by decide)) (show KF 0 = (6, 0) by decide +kernel) (q := (26, 0)) (by simp) (by simp) rfl (fs := [.null, .int 0, .null, .null, .null, .null, .null, .null, .null]) rfl (by decide +kernel) ⟨Nat.le_of_ble_eq_true rfl, Nat.le_of_ble_eq_true rfl⟩ e1 (dc tbL_law_0_k 0 rfl) (fun H hC => ?_)
  refine lv_dup hx hb (dc tbL_law_0_k 1 rfl) rfl ?_
  obtain ⟨M2, _, q2, h1⟩ := cal_s h1
  have had : (∀ j, 1 ≤ j → j ≤ 134 → j ≠ 3 → j ≠ 4 → adF s.heap.size j = H.size + (j - 1)) ∧ adF s.heap.size 4 = H.size + 2 ∧ adF s.heap.size 3 = H.size + 3 := by
    have h8 := hC.2.2.1
    refine ⟨fun j g1 g2 g3 g4 => by rw [adF_o g3 g4]; omega, ?_, ?_⟩
    · show s.heap.size + 3 = _; omega
    · show s.heap.size + 4 = _; omega
  refine c_callI hx hb hml hown hts hK hsx hex hC (nzE_set (by rw [show KF 0 = (6, 0) by decide +kernel]; simp) (by simp)) (As := []) (tX6_init l hinj kf_root (by decide +kernel) kf_sb had (by have h8 := hC.2.2.1; rw [adF_o (by decide) (by decide)]; omega) q2) ci_X6_init q_t1_31 ⟨rfl, by decide +kernel⟩ rfl rfl rfl ⟨Nat.le_of_ble_eq_true rfl, Nat.le_of_ble_eq_true rfl⟩ hl.1 rfl (Nat.le_of_ble_eq_true rfl) (dc tbL_law_0_k 2 rfl) ⟨Nat.le_of_ble_eq_true rfl, Nat.le_of_ble_eq_true rfl⟩ (fun H locs hC => ?_)
  refine lv_astore_n (lv' := [(1, .ref (adF s.heap.size 0)), (0, .ref b)]) hx hb (dc tbL_law_0_k 3 rfl) rfl hl (by decide) rfl (fun ls hl => ?_)
  obtain ⟨M3, e3, h1⟩ := bnd_s h1
  refine c_new hx hb hts inW7 tyX7 tyX7_ok hown q_t7_59 q_t7_60 q_t1_11 hK hC hinj (j := 135) (adF_o (by decide) (by decide)) (show KF 135 = (7, 0) by decide +kernel) (q := (27, 0)) (by simp) (by simp) rfl (fs := [.null, .null, .null, .null, .int 0, .int 0, .null, .int 0, .int 0, .int 0, .int 0, .int 0, .int 0, .int 0, .int 0, .int 0, .int 0, .null, .null, .null, .null, .int 0, .int 0, .null, .null, .null, .null, .null, .null, .null, .int 0]) rfl (by decide +kernel) ⟨Nat.le_of_ble_eq_true rfl, Nat.le_of_ble_eq_true rfl⟩ e3 (dc tbL_law_0_k 4 rfl) (fun H hC => ?_)
  refine lv_dup hx hb (dc tbL_law_0_k 5 rfl) rfl ?_
  obtain ⟨M4, _, q4, h1⟩ := cal_s h1
  refine c_callI hx hb hml hown hts hK hsx hex hC (nzE_set (by rw [show KF 135 = (7, 0) by decide +kernel]; simp) (by simp)) (As := []) (tX7_init l (k0 := 135) hinj kf_model (fun j hj => by have h8 := hC.2.2.1; rw [adF_o (by omega) (by omega)]; omega) (by have h8 := hC.2.2.1; rw [adF_o (by decide) (by decide)]; omega) q4) ci_X7_init q_t7_61 ⟨rfl, by decide +kernel⟩ rfl rfl rfl ⟨Nat.le_of_ble_eq_true rfl, Nat.le_of_ble_eq_true rfl⟩ hl.1 rfl (Nat.le_of_ble_eq_true rfl) (dc tbL_law_0_k 6 rfl) ⟨Nat.le_of_ble_eq_true rfl, Nat.le_of_ble_eq_true rfl⟩ (fun H locs hC => ?_)
  refine lv_astore_n (lv' := [(2, .ref (adF s.heap.size 135)), (1, .ref (adF s.heap.size 0)), (0, .ref b)]) hx hb (dc tbL_law_0_k 7 rfl) rfl hl (by decide) rfl (fun ls hl => ?_)
  refine lv_iconst (v := 1) hx hb (dc tbL_law_0_k 8 rfl) (by decide) ?_
  obtain ⟨M5, e5, h1⟩ := bnd_s h1
  refine c_newa (ty := .long) (n := 1) hx hb rfl q_t2_49 hts hC hinj (j := 152) (adF_o (by decide) (by decide)) (show KF 152 = (13, 1) by decide +kernel) (hK.2 3 _ rfl).2 rfl rfl ⟨by decide, by decide⟩ (Nat.le_of_ble_eq_true rfl) ⟨Nat.le_of_ble_eq_true rfl, Nat.le_of_ble_eq_true rfl⟩ e5 dL_law_17 (fun H hC => ?_)
  refine lv_astore_n (lv' := [(3, .ref (adF s.heap.size 152)), (2, .ref (adF s.heap.size 135)), (1, .ref (adF s.heap.size 0)), (0, .ref b)]) hx hb (dc tbL_law_0_k 9 rfl) rfl hl (by decide) rfl (fun ls hl => ?_)
  refine lv_iconst (v := 1) hx hb (dc tbL_law_0_k 10 rfl) (by decide) ?_
  obtain ⟨M6, e6, h1⟩ := bnd_s h1
  refine c_newa (ty := .double) (n := 1) hx hb rfl q_t10_17 hts hC hinj (j := 153) (adF_o (by decide) (by decide)) (show KF 153 = (14, 1) by decide +kernel) (hK.2 5 _ rfl).2 rfl rfl ⟨by decide, by decide⟩ (Nat.le_of_ble_eq_true rfl) ⟨Nat.le_of_ble_eq_true rfl, Nat.le_of_ble_eq_true rfl⟩ e6 dL_law_21 (fun H hC => ?_)
  refine lv_astore (lv' := [(4, .ref (adF s.heap.size 153)), (3, .ref (adF s.heap.size 152)), (2, .ref (adF s.heap.size 135)), (1, .ref (adF s.heap.size 0)), (0, .ref b)]) hx hb (dc tbL_law_0_k 11 rfl) hl (by decide) rfl (fun ls hl => ?_)
  refine lv_iconst (v := 0) hx hb (dc tbL_law_0_k 12 rfl) (by decide) ?_
  refine lv_istore (lv' := [(5, .int 0), (4, .ref (adF s.heap.size 153)), (3, .ref (adF s.heap.size 152)), (2, .ref (adF s.heap.size 135)), (1, .ref (adF s.heap.size 0)), (0, .ref b)]) hx hb (dc tbL_law_0_k 13 rfl) hl (by decide) rfl (fun ls hl => ?_)
  cases h1
  have hw : ∀ k, (KF k).1 ≠ 0 → va_at G.1 vwCl (adF s.heap.size k, ent (adF s.heap.size) G.2.1 (KF k) k (M0.1 k) (M0.2.1 k) (M0.2.2 k)) H := fun k hk => by
    have hlt := adF_lt (B := s.heap.size) (KF_lt hk)
    have h := hC.1 k (by rw [kdN_in (by omega)]; exact hk)
    rw [kdN_in (by omega)] at h
    exact h
  have hS : va_S (AS KF (adF s.heap.size) s.heap.size) s.heap H locs := hC.2.1
  have hI : Inv G kd1 (adF s.heap.size) s.heap M0 H locs := ⟨fun k hk => kx (kd1_in hk).2 hk (hw k), by rw [AS_ge] at hS ⊢; exact hS⟩
  have hJ : Inv G kd2 (adF s.heap.size) s.heap M0 H locs := ⟨fun k hk => kx (kd2_in hk).2 hk (hw k), by rw [AS_ge] at hS ⊢; exact hS⟩
  have hL9 : Lx p l s m #[Value.ref b] meth c b L xs G kd1 kd2 (adF s.heap.size) (adF s.heap.size) := ⟨hx, hb, hml, hown, hts, hK, fun k k' _ _ h => hinj _ _ h, fun k k' _ _ h => hinj _ _ h, by rw [AS_ge] at hsx ⊢; exact hsx, by rw [AS_ge] at hsx ⊢; exact hsx, hnc, hst, AS_ge.trans AS_ge.symm, fun k k' g1 g2 g3 => by have := (kd1_in g1).1; have := (kd2_in g2).1; have := hinj _ _ g3; omega, fun k k' g1 g2 g3 => by have := (kd2_in g1).1; have := (kd1_in g2).1; have := hinj _ _ g3; omega, hX, hbl, by rw [AS_ge]; exact Nat.not_le.mpr hbl, kd1_root, kd1_low, by decide +kernel, by decide +kernel, kd2_model⟩
  exact law_go0 ⟨by omega, by omega⟩ hL hr hlk (fun q h => by rw [AS_ge] at h; exact h) hP hP0 _ _ _ _ _ hL9 (by rw [h3]; exact kd1_Sb) hI hJ (lv_sub hl [5, 4, 3, 2, 1, 0] rfl)
