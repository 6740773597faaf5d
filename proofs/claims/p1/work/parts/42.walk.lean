theorem q_t1_29 : (Cond.classLink "SheetFolderLaw" 8 "SheetFolder") ∈ WA := wa_q tbl_1 29 rfl rfl
theorem q_t1_30 : (Cond.instantiable "SheetFolder" 9) ∈ WA := wa_q tbl_1 30 rfl rfl
theorem q_t1_31 : (Cond.methodLink "SheetFolderLaw" 104 ⟨"SheetFolder", "<init>", "()V"⟩) ∈ WA := wa_q tbl_1 31 rfl rfl
theorem q_t10_21 : (Cond.arrayClass .double) ∈ WA := wa_q tbl_10 21 rfl rfl
theorem q_t7_59 : (Cond.classLink "SheetFolderLaw" 105 "SheetFolderModel") ∈ WA := wa_q tbl_7 59 rfl rfl
theorem q_t7_60 : (Cond.instantiable "SheetFolderModel" 31) ∈ WA := wa_q tbl_7 60 rfl rfl
theorem q_t7_61 : (Cond.methodLink "SheetFolderLaw" 107 ⟨"SheetFolderModel", "<init>", "()V"⟩) ∈ WA := wa_q tbl_7 61 rfl rfl
theorem flags_st (l : Launch) (h : l.flags = flags0) : l.stackTraces = false := by
  sorry
set_option maxHeartbeats 4000000 in
set_option maxRecDepth 100000 in
theorem law_entry {p : Program} {e : Env} {s : State} {m : MethodId} {below : List Frame} {meth : Method} {c : Code} (l : Launch) (hst : l.stackTraces = false) {b L : Nat} {xs : Nat → Int32} (hL : L ≤ 6) (C0 : lw_At p s m meth c b L xs) {M0 : Mem} (h1 : mstart = some (M0, ())) (h2 : ∀ a0 a1 a2 a3 a4 a5, ∃ M' N', mcase a0 a1 a2 a3 a4 a5 M0 M0 = some (M', N')) : W p l e room_1 s m #[Value.ref b] below meth c s.heap [] 0 0 (lw_Z below #[Value.ref b] s) (entryFrame m ([Value.ref b] : List Value).toArray 10) := by
  obtain ⟨hx, hb, hr, hml, hown, h0, hX, hbl, hlk, hgv⟩ := id C0
  have hn := flat_of_before _ hgv
  have hts := wa_ok h0
  have hA : ∀ a : Nat, a < s.heap.size → ¬ (AS KF (adF s.heap.size) s.heap.size) a := fun a ha h => by rw [AS_ge] at h; exact absurd h (Nat.not_le.mpr ha)
  obtain ⟨D, cA, hK0⟩ := st_K hts h0
  obtain ⟨adW, hE⟩ := st_E (AS KF (adF s.heap.size) s.heap.size) hA h0 hn
  obtain ⟨hsx, hex, hnc⟩ := st_S (G := (D, cA, adW)) (AS KF (adF s.heap.size) s.heap.size) hA h0 hn hE
  have hK : va_K ((D, cA, adW) : GT).1 vwCl (tyL (D, cA, adW)) s := hK0 adW
  generalize hG : ((D, cA, adW) : GT) = G at hsx hK
  have hinj := adF_inj s.heap.size
  have hl := lv_entry ([.ref b]) (n := 10) (Nat.le_of_ble_eq_true rfl)
  rw [lg_entry_eq]
  generalize (lg_sl ([.ref b]) ++ List.replicate (10 - (lg_sl ([.ref b])).length) Slot.unset).toArray = ls at hl ⊢
  have hl : lv_has ls 10 [(0, .ref b)] := hl
  have hC : Ci G KF KF (adF s.heap.size) s m0 s.heap [] 0 := ⟨fun k hk => absurd (kdN_lt hk) (by have := adF_ge s.heap.size k; omega), va_S.rf, rfl, fun _ => Iff.rfl⟩
  unfold mstart at h1
  sorry
