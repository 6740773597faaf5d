/-! behind load: what the law asks, step by step -/
def Zok (b0 nb : Nat) (Z : Mem → Prop) : Prop :=
  (∀ M, Z M → M.1 135 2 = Int32.ofNat nb ∧ mX6_errorKind 0 M = some 0 ∧ mX6_legs 0 M = some (Int32.ofNat (nb + 1)) ∧ mX6_made 0 M = some 0) ∧
  (∀ M b, Z M → b < nb → ∃ M', mX6_isUp 0 (Int32.ofNat b) M = some (M', Sum.inl (M'.1 138 b)) ∧ Z M') ∧
  (∀ M b (q : Int32), Z M → b < nb → q = 0 ∨ q = 1 → ∃ M', mL_isStep 135 b0 0 (Int32.ofNat b) q M = some (M', Sum.inl 1) ∧ Z M') ∧
  (∀ M, Z M → ∃ M', mL_isFinished 135 b0 0 M = some (M', Sum.inl 1) ∧ Z M') ∧
  (∀ M, Z M → ∃ M', mL_isNoBend 0 (Int32.ofNat nb) M = some (M', Sum.inl 1) ∧ Z M') ∧
  (∀ M, Z M → ∃ M', mL_isNoSide 0 M = some (M', Sum.inl 1) ∧ Z M') ∧
  (∀ M, Z M → ∃ M', mL_isNoStep 0 135 b0 M = some (M', Sum.inl 1))
set_option maxHeartbeats 8000000 in
theorem law_end {p : Program} {e : Env} {s : State} {m : MethodId} {below : List Frame} {meth : Method} {c : Code} {b : Nat} {G : GT} (l : Launch) (hst : l.stackTraces = false) (hx : p.tables.exec = Jvm.exec) (hb : c.code = code) (hml : c.maxLocals = 5) (hown : s.vm.findClass RL = some m.cls) (hts : ∀ w ∈ WA, w.before #[Value.ref b] s = true) (hK : va_K G.1 vwCl (tyLs G) s) (hr : meth.sig.returnType = ret) (hlk : meth.locks = false) (hnc : Nc s) {nb : Nat} {Z : Mem → Prop} {K : Nat → Nat × Nat} {M : Mem} {H : Heap} {locs : List Loc} {ls : Array Slot} {cells slots : Nat} (hsx : Sx G (AS K (adP s.heap.size) s.heap.size) s s.heap) (hk0 : kRoot K 0) (hkL : kLaw (G.2.2 400) K 135) (hZ : Zok (G.2.2 400) nb Z) (hM : Z M) (hc : cells ≤ 10000 ∧ slots ≤ 1000000) (hI : Inv G K (adP s.heap.size) s.heap M H locs) (hl : lv_has ls 5 [(2, .ref (adP s.heap.size 0)), (1, .ref (adP s.heap.size 135)), (0, .ref b)]) : W p l e room_1 s m #[Value.ref b] below meth c H locs (cells) (slots) (lw_Z below #[Value.ref b] s) (F0 m 243 ls []) := by
  have hinj := adP_inj s.heap.size
  have hap : Apt K (adP s.heap.size) := fun _ _ _ _ h => hinj _ _ h
  obtain ⟨hZ1, -, -, hZ4, hZ5, hZ6, hZ7⟩ := hZ
  obtain ⟨M4, q4, hM4⟩ := hZ4 M hM
  obtain ⟨M5, q5, hM5⟩ := hZ5 M4 hM4
  obtain ⟨M6, q6, hM6⟩ := hZ6 M5 hM5
  obtain ⟨M7, q7⟩ := hZ7 M6 hM6
  refine lv_aload_n hx hb (dc tbL_law_3_k 1 rfl) rfl (lv_at hl 1 rfl) ?_
  refine lv_aload_n hx hb (dc tbL_law_3_k 2 rfl) rfl (lv_at hl 0 rfl) ?_
  refine g_callVi hx hb hml hown hts hK hap hsx hI (tL_isFinished_nt l hkL hk0 q4 H.size) cv_L_isFinished_nt q_t5_46 rfl rfl ⟨Nat.le_of_ble_eq_true rfl, Nat.le_of_ble_eq_true rfl⟩ hkL.1 (by simp) rfl (ci := 9) rfl rfl hl.1 rfl (Nat.le_of_ble_eq_true rfl) (dc tbL_law_3_k 3 rfl) ⟨by have := hc.1; show cells + 0 ≤ 600086; omega, by have := hc.2; show slots + 0 ≤ 7301442; omega⟩ (fun H locs hI => ?_)
  refine lv_if_eq (tgt := 281) hx hb (dc tbL_law_3_k 4 rfl) rfl (fun c9 => absurd c9 (by decide)) (fun _ => ?_)
  refine lv_aload_n hx hb (dc tbL_law_3_k 5 rfl) rfl (lv_at hl 0 rfl) ?_
  refine lv_aload_n hx hb (dc tbL_law_3_k 6 rfl) rfl (lv_at hl 1 rfl) ?_
  refine ggL_2 hx hb hts hown hK hI hkL.1 q_t2_193 (dc tbL_law_3_k 7 rfl) ?_
  refine lv_et (b := Int32.ofNat nb) (hZ1 M4 hM4).1 ?_
  refine x_callRi (g_runH hx hb hml hown hts hK hap hsx hnc hI (tL_isNoBend l hst hk0 q5 H.size) ch_L_isNoBend q_t5_63 rfl rfl ⟨Nat.le_of_ble_eq_true rfl, Nat.le_of_ble_eq_true rfl⟩ rfl hl.1 rfl (Nat.le_of_ble_eq_true rfl) (dc tbL_law_3_k 8 rfl) ⟨by have := hc.1; show cells + 0 + 2 ≤ 600086; omega, by have := hc.2; show slots + 0 + 12 ≤ 7301442; omega⟩) hI (fun H locs hI => ?_)
  refine lv_if_eq (tgt := 281) hx hb (dc tbL_law_3_k 9 rfl) rfl (fun c9 => absurd c9 (by decide)) (fun _ => ?_)
  refine lv_aload_n hx hb (dc tbL_law_3_k 10 rfl) rfl (lv_at hl 0 rfl) ?_
  refine x_callRi (g_runH hx hb hml hown hts hK hap hsx hnc hI (tL_isNoSide l hst hk0 q6 H.size) ch_L_isNoSide q_t5_68 rfl rfl ⟨Nat.le_of_ble_eq_true rfl, Nat.le_of_ble_eq_true rfl⟩ rfl hl.1 rfl (Nat.le_of_ble_eq_true rfl) (dc tbL_law_3_k 11 rfl) ⟨by have := hc.1; show cells + 0 + 2 + 2 ≤ 600086; omega, by have := hc.2; show slots + 0 + 12 + 12 ≤ 7301442; omega⟩) hI (fun H locs hI => ?_)
  refine lv_if_eq (tgt := 281) hx hb (dc tbL_law_3_k 12 rfl) rfl (fun c9 => absurd c9 (by decide)) (fun _ => ?_)
  refine lv_aload_n hx hb (dc tbL_law_3_k 13 rfl) rfl (lv_at hl 0 rfl) ?_
  refine lv_aload_n hx hb (dc tbL_law_3_k 14 rfl) rfl (lv_at hl 1 rfl) ?_
  refine x_callRi (g_runH hx hb hml hown hts hK hap hsx hnc hI (tL_isNoStep l hst hk0 hkL q7 H.size) ch_L_isNoStep q_t5_71 rfl rfl ⟨Nat.le_of_ble_eq_true rfl, Nat.le_of_ble_eq_true rfl⟩ rfl hl.1 rfl (Nat.le_of_ble_eq_true rfl) (dc tbL_law_3_k 15 rfl) ⟨by have := hc.1; show cells + 0 + 2 + 2 + 3 ≤ 600086; omega, by have := hc.2; show slots + 0 + 12 + 12 + 18 ≤ 7301442; omega⟩) hI (fun H locs hI => ?_)
  refine lv_if_eq (tgt := 281) hx hb (dc tbL_law_3_k 16 rfl) rfl (fun c9 => absurd c9 (by decide)) (fun _ => ?_)
  refine lv_iconst (v := 1) hx hb (dc tbL_law_3_k 17 rfl) (by decide) ?_
  refine lv_goto (tgt := 282) hx hb (dc tbL_law_3_k 18 rfl) rfl ?_
  refine va_forget (fun q hq => by have h9 := hI.2.2.2 q hq; rw [adP_AS] at h9; exact h9) ?_
  refine W.widen (k := 600086) (n := 7301442) (by omega) (by omega) ?_
  exact lw_ret hx hb hr hlk (dc tbL_law_3_k 20 rfl)
set_option maxHeartbeats 8000000 in
theorem law_loop {p : Program} {e : Env} {s : State} {m : MethodId} {below : List Frame} {meth : Method} {c : Code} {b : Nat} {G : GT} (l : Launch) (hst : l.stackTraces = false) (hx : p.tables.exec = Jvm.exec) (hb : c.code = code) (hml : c.maxLocals = 5) (hown : s.vm.findClass RL = some m.cls) (hts : ∀ w ∈ WA, w.before #[Value.ref b] s = true) (hK : va_K G.1 vwCl (tyLs G) s) (hr : meth.sig.returnType = ret) (hlk : meth.locks = false) (hnc : Nc s) {nb : Nat} {Z : Mem → Prop} {K : Nat → Nat × Nat} {cells slots : Nat} (hsx : Sx G (AS K (adP s.heap.size) s.heap.size) s s.heap) (hk0 : kRoot K 0) (hkL : kLaw (G.2.2 400) K 135) (hZ : Zok (G.2.2 400) nb Z) (hnb : nb ≤ 5) (hc : cells ≤ 10000 ∧ slots ≤ 1000000) : ∀ (r i : Nat) (M : Mem) (H : Heap) (locs : List Loc) (ls : Array Slot), i + r = nb → Z M → Inv G K (adP s.heap.size) s.heap M H locs → lv_has ls 5 ((4, .int (Int32.ofNat i)) :: [(2, .ref (adP s.heap.size 0)), (1, .ref (adP s.heap.size 135)), (0, .ref b)]) → W p l e room_1 s m #[Value.ref b] below meth c H locs (cells) (slots) (lw_Z below #[Value.ref b] s) (F0 m 188 ls []) := by
  have hinj := adP_inj s.heap.size
  have hap : Apt K (adP s.heap.size) := fun _ _ _ _ h => hinj _ _ h
  intro r
  induction r with
  | zero =>
    intro i M H locs ls hn hM hI hl
    refine lv_iload hx hb (dc tbL_law_2_k 13 rfl) (lv_at hl 0 rfl) ?_
    refine lv_aload_n hx hb (dc tbL_law_2_k 14 rfl) rfl (lv_at hl 2 rfl) ?_
    refine ggL_2 hx hb hts hown hK hI hkL.1 q_t2_193 (dc tbL_law_2_k 15 rfl) ?_
    refine lv_et (b := Int32.ofNat nb) (hZ.1 M hM).1 ?_
    refine lv_icmp_ge (tgt := 243) hx hb (dc tbL_law_2_k 16 rfl) rfl (fun c9 => ?_) (fun c9 => absurd (i_le.mpr (by rw [t_of (by omega), t_of (by omega)]; omega)) c9)
    exact law_end l hst hx hb hml hown hts hK hr hlk hnc hsx hk0 hkL hZ hM hc hI (lv_sub hl [1, 2, 3] rfl)
  | succ r IH =>
    intro i M H locs ls hn hM hI hl
    refine lv_iload hx hb (dc tbL_law_2_k 13 rfl) (lv_at hl 0 rfl) ?_
    refine lv_aload_n hx hb (dc tbL_law_2_k 14 rfl) rfl (lv_at hl 2 rfl) ?_
    refine ggL_2 hx hb hts hown hK hI hkL.1 q_t2_193 (dc tbL_law_2_k 15 rfl) ?_
    refine lv_et (b := Int32.ofNat nb) (hZ.1 M hM).1 ?_
    refine lv_icmp_ge (tgt := 243) hx hb (dc tbL_law_2_k 16 rfl) rfl (fun c9 => absurd (i_le.mp c9) (by rw [t_of (by omega), t_of (by omega)]; omega)) (fun _ => ?_)
    obtain ⟨M2, q2, hM2⟩ := hZ.2.1 M i hM (by omega)
    obtain ⟨M3, q3, hM3⟩ := hZ.2.2.1 M2 i 0 hM2 (by omega) (Or.inl rfl)
    obtain ⟨M4, q4, hM4⟩ := hZ.2.2.1 M3 i 1 hM3 (by omega) (Or.inr rfl)
    refine lv_aload_n hx hb (dc tbL_law_2_k 17 rfl) rfl (lv_at hl 1 rfl) ?_
    refine lv_iload hx hb (dc tbL_law_2_k 18 rfl) (lv_at hl 0 rfl) ?_
    refine g_callVi hx hb hml hown hts hK hap hsx hI (tX6_isUp_nt l hk0 q2 H.size) cv_X6_isUp q_t2_98 rfl rfl ⟨Nat.le_of_ble_eq_true rfl, Nat.le_of_ble_eq_true rfl⟩ hk0.1 (by simp) rfl rfl rfl hl.1 rfl (Nat.le_of_ble_eq_true rfl) (dc tbL_law_2_k 19 rfl) ⟨by have := hc.1; show cells + 0 ≤ 600086; omega, by have := hc.2; show slots + 0 ≤ 7301442; omega⟩ (fun H locs hI => ?_)
    refine lv_aload_n hx hb (dc tbL_law_2_k 20 rfl) rfl (lv_at hl 2 rfl) ?_
    refine ggL_4 hx hb hts hown hK hI hkL.1 q_t2_195 (dc tbL_law_2_k 21 rfl) ?_
    refine lv_iload hx hb (dc tbL_law_2_k 22 rfl) (lv_at hl 0 rfl) ?_
    refine g_zald hx hb hK hI hkL.2.2 (okb_in (o_ok (v := i) (by omega) (by omega))) (dc tbL_law_2_k 23 rfl) ?_
    refine lv_et (b := M2.1 138 i) (by show M2.1 138 _ = _; rw [c_of (by omega)]) ?_
    refine lv_icmp_ne (tgt := 235) hx hb (dc tbL_law_2_k 24 rfl) rfl (fun c9 => absurd rfl c9) (fun _ => ?_)
    refine lv_aload_n hx hb (dc tbL_law_2_k 25 rfl) rfl (lv_at hl 2 rfl) ?_
    refine lv_aload_n hx hb (dc tbL_law_2_k 26 rfl) rfl (lv_at hl 1 rfl) ?_
    refine lv_iload hx hb (dc tbL_law_2_k 27 rfl) (lv_at hl 0 rfl) ?_
    refine lv_iconst (v := 0) hx hb (dc tbL_law_2_k 28 rfl) (by decide) ?_
    refine g_callVi hx hb hml hown hts hK hap hsx hI (tL_isStep_nt l hkL hk0 q3 H.size) cv_L_isStep_nt q_t4_160 rfl rfl ⟨Nat.le_of_ble_eq_true rfl, Nat.le_of_ble_eq_true rfl⟩ hkL.1 (by simp) rfl (ci := 9) rfl rfl hl.1 rfl (Nat.le_of_ble_eq_true rfl) (dc tbL_law_2_k 29 rfl) ⟨by have := hc.1; show cells + 0 + 0 ≤ 600086; omega, by have := hc.2; show slots + 0 + 0 ≤ 7301442; omega⟩ (fun H locs hI => ?_)
    refine lv_if_eq (tgt := 235) hx hb (dc tbL_law_2_k 30 rfl) rfl (fun c9 => absurd c9 (by decide)) (fun _ => ?_)
    refine lv_aload_n hx hb (dc tbL_law_2_k 31 rfl) rfl (lv_at hl 2 rfl) ?_
    refine lv_aload_n hx hb (dc tbL_law_2_k 32 rfl) rfl (lv_at hl 1 rfl) ?_
    refine lv_iload hx hb (dc tbL_law_2_k 33 rfl) (lv_at hl 0 rfl) ?_
    refine lv_iconst (v := 1) hx hb (dc tbL_law_2_k 34 rfl) (by decide) ?_
    refine g_callVi hx hb hml hown hts hK hap hsx hI (tL_isStep_nt l hkL hk0 q4 H.size) cv_L_isStep_nt q_t4_160 rfl rfl ⟨Nat.le_of_ble_eq_true rfl, Nat.le_of_ble_eq_true rfl⟩ hkL.1 (by simp) rfl (ci := 9) rfl rfl hl.1 rfl (Nat.le_of_ble_eq_true rfl) (dc tbL_law_2_k 35 rfl) ⟨by have := hc.1; show cells + 0 + 0 + 0 ≤ 600086; omega, by have := hc.2; show slots + 0 + 0 + 0 ≤ 7301442; omega⟩ (fun H locs hI => ?_)
    refine lv_if_ne (tgt := 237) hx hb (dc tbL_law_2_k 36 rfl) rfl (fun _ => ?_) (fun c9 => absurd c9 (by decide))
    refine lv_iinc (v := Int32.ofNat (i + 1)) (lv' := (4, .int (Int32.ofNat (i + 1))) :: [(2, .ref (adP s.heap.size 0)), (1, .ref (adP s.heap.size 135)), (0, .ref b)]) hx hb (dc tbL_law_2_k 39 rfl) hl (k := 0) rfl (o_add (b := 1) (by omega)) (by decide) rfl (fun ls hl => ?_)
    refine lv_goto (tgt := 188) hx hb (dc tbL_law_3_k 0 rfl) rfl ?_
    exact IH (i + 1) M4 H locs ls (by omega) hM4 hI hl
set_option maxHeartbeats 8000000 in
theorem law_tail {p : Program} {e : Env} {s : State} {m : MethodId} {below : List Frame} {meth : Method} {c : Code} {b : Nat} {G : GT} (l : Launch) (hst : l.stackTraces = false) (hx : p.tables.exec = Jvm.exec) (hb : c.code = code) (hml : c.maxLocals = 5) (hown : s.vm.findClass RL = some m.cls) (hts : ∀ w ∈ WA, w.before #[Value.ref b] s = true) (hK : va_K G.1 vwCl (tyLs G) s) (hr : meth.sig.returnType = ret) (hlk : meth.locks = false) (hnc : Nc s) {nb : Nat} {Z : Mem → Prop} {K : Nat → Nat × Nat} {M : Mem} {H : Heap} {locs : List Loc} {ls : Array Slot} {cells slots : Nat} (hsx : Sx G (AS K (adP s.heap.size) s.heap.size) s s.heap) (hk0 : kRoot K 0) (hkL : kLaw (G.2.2 400) K 135) (hZ : Zok (G.2.2 400) nb Z) (hnb : nb ≤ 5) (hM : Z M) (hc : cells ≤ 10000 ∧ slots ≤ 1000000) (hI : Inv G K (adP s.heap.size) s.heap M H locs) (hl : lv_has ls 5 [(2, .ref (adP s.heap.size 0)), (1, .ref (adP s.heap.size 135)), (0, .ref b)]) : W p l e room_1 s m #[Value.ref b] below meth c H locs (cells) (slots) (lw_Z below #[Value.ref b] s) (F0 m 149 ls [.int (Int32.ofNat nb)]) := by
  have hinj := adP_inj s.heap.size
  have hap : Apt K (adP s.heap.size) := fun _ _ _ _ h => hinj _ _ h
  obtain ⟨z1, z2, z3, z4⟩ := hZ.1 M hM
  refine lv_aload_n hx hb (dc tbL_law_1_k 33 rfl) rfl (lv_at hl 1 rfl) ?_
  refine ggL_2 hx hb hts hown hK hI hkL.1 q_t2_193 (dc tbL_law_1_k 34 rfl) ?_
  refine lv_et (b := Int32.ofNat nb) z1 ?_
  refine lv_icmp_ne (tgt := 183) hx hb (dc tbL_law_1_k 35 rfl) rfl (fun c9 => absurd rfl c9) (fun _ => ?_)
  refine lv_aload_n hx hb (dc tbL_law_1_k 36 rfl) rfl (lv_at hl 0 rfl) ?_
  refine g_callVi hx hb hml hown hts hK hap hsx hI (tX6_errorKind l hk0 z2 H.size) cv_X6_errorKind q_t2_90 rfl rfl ⟨Nat.le_of_ble_eq_true rfl, Nat.le_of_ble_eq_true rfl⟩ hk0.1 (by simp) rfl rfl rfl hl.1 rfl (Nat.le_of_ble_eq_true rfl) (dc tbL_law_1_k 37 rfl) ⟨by have := hc.1; show cells + 0 ≤ 600086; omega, by have := hc.2; show slots + 0 ≤ 7301442; omega⟩ (fun H locs hI => ?_)
  refine lv_if_ne (tgt := 183) hx hb (dc tbL_law_1_k 38 rfl) rfl (fun c9 => absurd rfl c9) (fun _ => ?_)
  refine lv_aload_n hx hb (dc tbL_law_1_k 39 rfl) rfl (lv_at hl 0 rfl) ?_
  refine g_callVi hx hb hml hown hts hK hap hsx hI (tX6_legs l hk0 z3 H.size) cv_X6_legs q_t2_94 rfl rfl ⟨Nat.le_of_ble_eq_true rfl, Nat.le_of_ble_eq_true rfl⟩ hk0.1 (by simp) rfl rfl rfl hl.1 rfl (Nat.le_of_ble_eq_true rfl) (dc tbL_law_2_k 0 rfl) ⟨by have := hc.1; show cells + 0 + 0 ≤ 600086; omega, by have := hc.2; show slots + 0 + 0 ≤ 7301442; omega⟩ (fun H locs hI => ?_)
  refine lv_aload_n hx hb (dc tbL_law_2_k 1 rfl) rfl (lv_at hl 1 rfl) ?_
  refine ggL_2 hx hb hts hown hK hI hkL.1 q_t2_193 (dc tbL_law_2_k 2 rfl) ?_
  refine lv_et (b := Int32.ofNat nb) z1 ?_
  refine lv_iconst (v := 1) hx hb (dc tbL_law_2_k 3 rfl) (by decide) ?_
  refine lv_iadd hx hb (dc tbL_law_2_k 4 rfl) ?_
  refine lv_et (b := Int32.ofNat (nb + 1)) (o_add (b := 1) (by omega)) ?_
  refine lv_icmp_ne (tgt := 183) hx hb (dc tbL_law_2_k 5 rfl) rfl (fun c9 => absurd rfl c9) (fun _ => ?_)
  refine lv_aload_n hx hb (dc tbL_law_2_k 6 rfl) rfl (lv_at hl 0 rfl) ?_
  refine g_callVi hx hb hml hown hts hK hap hsx hI (tX6_made l hk0 z4 H.size) cv_X6_made q_t2_181 rfl rfl ⟨Nat.le_of_ble_eq_true rfl, Nat.le_of_ble_eq_true rfl⟩ hk0.1 (by simp) rfl rfl rfl hl.1 rfl (Nat.le_of_ble_eq_true rfl) (dc tbL_law_2_k 7 rfl) ⟨by have := hc.1; show cells + 0 + 0 + 0 ≤ 600086; omega, by have := hc.2; show slots + 0 + 0 + 0 ≤ 7301442; omega⟩ (fun H locs hI => ?_)
  refine lv_if_eq (tgt := 185) hx hb (dc tbL_law_2_k 8 rfl) rfl (fun _ => ?_) (fun c9 => absurd rfl c9)
  refine lv_iconst (v := 0) hx hb (dc tbL_law_2_k 11 rfl) (by decide) ?_
  refine lv_istore (lv' := (4, .int 0) :: [(2, .ref (adP s.heap.size 0)), (1, .ref (adP s.heap.size 135)), (0, .ref b)]) hx hb (dc tbL_law_2_k 12 rfl) hl (by decide) rfl (fun ls hl => ?_)
  exact law_loop l hst hx hb hml hown hts hK hr hlk hnc hsx hk0 hkL hZ hnb hc nb 0 M H locs ls (by omega) hM hI hl
/-- the class's cells hold nothing -/
def Z0 (M : Mem) (a : Nat) : Prop := M.1 a = (fun _ => 0) ∧ M.2.1 a = (fun _ => 0) ∧ M.2.2 a = (fun _ => 0)
def m0 : Mem := (fun _ _ => 0, fun _ _ => 0, fun _ _ => 0)
theorem z0_m (a : Nat) : Z0 m0 a := ⟨rfl, rfl, rfl⟩
theorem Z0.wr {M : Mem} {a k j : Nat} {v : Int32} (h : Z0 M a) (ha : a ≠ k) : Z0 (wr M k j v) a := by
  obtain ⟨h1, h2, h3⟩ := wr_o (M := M) (j := j) (v := v) a ha
  exact ⟨h1.trans h.1, h2.trans h.2.1, h3.trans h.2.2⟩
theorem Z0.zr {M : Mem} {a k : Nat} (h : Z0 M a) : Z0 (zr M k) a := by
  by_cases e : a = k
  · subst e; exact zr_s
  · obtain ⟨h1, h2, h3⟩ := zr_s1 (M := M) e
    exact ⟨h1.trans h.1, h2.trans h.2.1, h3.trans h.2.2⟩
/-- what the object of the law holds when the text is made -/
def LSt (nb l0 : Nat) (its : List (Bool × Nat)) (c3 c4 : Nat) (M : Mem) : Prop := M.1 135 2 = Int32.ofNat nb ∧ M.1 135 7 = Int32.ofNat (100 * c3) ∧ M.1 135 8 = Int32.ofNat (500 + 100 * c4) ∧ (∀ j, j ≤ its.length → M.1 137 j = Int32.ofNat ((l0 :: its.map (fun q => q.2)).getD j 0)) ∧ (∀ j, j < its.length → M.1 138 j = if (its.getD j (false, 0)).1 then 1 else 0)
abbrev ZP : Type := Nat → Nat → List (Bool × Nat) → Nat → Nat → Nat → Nat → Mem → Prop
/-- what the numbers are owed: the class is made, the text is read, the answers are right -/
def NumOk (Z : ZP) : Prop := (∀ M, (∀ a, a < 135 → Z0 M a) → ∃ M', mX6_init M = some (M', ()) ∧ ∀ a, 135 ≤ a → Sm M M' a) ∧
  (∀ (M0 M1 M : Mem) (kt at' nb l0 c1 c2 c3 c4 : Nat) (its : List (Bool × Nat)), (∀ a, a < 135 → Z0 M0 a) → mX6_init M0 = some (M1, ()) → (∀ a, a < 135 → Sm M1 M a) → its.length = nb → 1 ≤ nb → nb ≤ 5 → Its l0 its → c1 < 9 → c2 < 9 → c3 < 4 → c4 < 30 → LSt nb l0 its c3 c4 M → 139 ≤ kt → 139 ≤ at' → M.1 kt 1 = 0 → Tb M at' (t0L c1 c2 c3 c4 ++ txs l0 its) → ∃ M', mL_load_ds 0 kt at' (t0L c1 c2 c3 c4 ++ txs l0 its).length M = some (M', Sum.inl (Int32.ofNat nb)) ∧ Z nb l0 its c1 c2 c3 c4 M') ∧
  (∀ b0 nb l0 its c1 c2 c3 c4, nb ≤ 5 → Zok b0 nb (Z nb l0 its c1 c2 c3 c4))
theorem kA_all {A k : Nat} (h : k < 139) : (kA A k).1 ≠ 0 := by
  have h1 : ∀ k, k < 135 → (KP k).1 ≠ 0 := by decide +kernel
  by_cases e : k < 135
  · rw [kA_c e]; exact h1 k e
  · rw [kA_l (by omega)]
    rcases (by omega : k = 135 ∨ k = 136 ∨ k = 137 ∨ k = 138) with rfl | rfl | rfl | rfl <;> simp [kL]
set_option maxHeartbeats 8000000 in
set_option maxRecDepth 100000 in
theorem law_entry {p : Program} {e : Env} {s : State} {m : MethodId} {below : List Frame} {meth : Method} {c : Code} (l : Launch) (hst : l.stackTraces = false) {b L : Nat} {xs : Nat → Int32} (hL : L ≤ 260) (C0 : lw_At p s m meth c b L xs) {Z : ZP} (hZ : NumOk Z) : W p l e room_1 s m #[Value.ref b] below meth c s.heap [] 0 0 (lw_Z below #[Value.ref b] s) (entryFrame m ([Value.ref b] : List Value).toArray 5) := by
  obtain ⟨hx, hb, hr, hml, hown, h0, hX, hbl, hlk, hgv⟩ := id C0
  have hn := flat_of_before _ hgv
  have hts := wa_ok h0
  have hA : ∀ a : Nat, a < s.heap.size → ¬ (fun q => s.heap.size ≤ q) a := fun a ha h => Nat.not_le.mpr ha h
  obtain ⟨D, cA, hK0⟩ := st_K hts h0
  obtain ⟨adW, hE, ⟨hw0, hw1⟩, hT⟩ := st_T hX hbl (fun q => s.heap.size ≤ q) hA h0 hn
  obtain ⟨hsx0, hex0, hnc⟩ := st_S (G := (D, cA, adW)) (fun q => s.heap.size ≤ q) hA h0 hn hE (hT D cA)
  have hK : va_K ((D, cA, adW) : GT).1 vwCl (tyLs (D, cA, adW)) s := hK0 adW
  have hg0 : ((D, cA, adW) : GT).2.2 400 = b := hw0
  have hg1 : ((D, cA, adW) : GT).2.2 401 = L := hw1
  generalize hG : ((D, cA, adW) : GT) = G at hsx0 hK hg0 hg1
  have hLb : G.2.2 401 < 100000 := by omega
  have hinj := adP_inj s.heap.size
  have hsxA : ∀ K' : Nat → Nat × Nat, Sx G (AS K' (adP s.heap.size) s.heap.size) s s.heap := fun K' => by rw [adP_AS]; exact hsx0
  have hexA : ∀ K' : Nat → Nat × Nat, Ex (AS K' (adP s.heap.size) s.heap.size) s s.heap := fun K' => by rw [adP_AS]; exact hex0
  have hl := lv_entry ([.ref b]) (n := 5) (Nat.le_of_ble_eq_true rfl)
  rw [lg_entry_eq]
  generalize (lg_sl ([.ref b]) ++ List.replicate (5 - (lg_sl ([.ref b])).length) Slot.unset).toArray = ls at hl ⊢
  have hl : lv_has ls 5 [(0, .ref b)] := hl
  have hI : Inv G (fun _ => (0, 0)) (adP s.heap.size) s.heap m0 s.heap [] := ⟨fun k hk => absurd rfl hk, va_S.rf⟩
  have e135 : adP s.heap.size 135 = s.heap.size := by rw [adP_l (by omega) (by omega)]; omega
  refine d_newo hx hb hts inWL tyL tyL_ok hown q_t2_185 q_t2_186 q_t1_0 hK hI (j := 135) e135 (q := (36, 0)) (by simp) (ci := 9) rfl (fs := [.null, .int 0, .int 0, .null, .null, .int 0, .int 0, .int 0, .int 0]) rfl (by decide +kernel) ⟨Nat.le_of_ble_eq_true rfl, Nat.le_of_ble_eq_true rfl⟩ (dc tbL_law_0_k 0 rfl) (fun H hz1 hI => ?_)
  refine lv_dup hx hb (dc tbL_law_0_k 1 rfl) rfl ?_
  have hap9 : ∀ K' : Nat → Nat × Nat, Apt K' (adP s.heap.size) := fun K' _ _ _ _ h => hinj _ _ h
  refine d_ctor (K0 := setk (kL (adP s.heap.size 136)) 135 (36, 0)) (KF := kL (adP s.heap.size 136)) (nc := 3) (ms := 11) (b := 135) hx hb hml hown hts hK (hsxA _) (hexA _) hI (fun k hk => ?_) (fun k hk => ?_) (nzE_set (by simp [kL]) (by simp)) (tL_init l (k0 := 135) hinj kL_lawc (fun j hj => by rw [adP_l (by omega) (by omega)]; omega) (by omega) rfl) ci_L_init q_t2_187 ⟨rfl, by decide +kernel⟩ rfl rfl ⟨Nat.le_of_ble_eq_true rfl, Nat.le_of_ble_eq_true rfl⟩ hl.1 (Nat.le_of_ble_eq_true rfl) (dc tbL_law_0_k 2 rfl) ⟨Nat.le_of_ble_eq_true rfl, Nat.le_of_ble_eq_true rfl⟩ (fun H locs _ hI => ?_)
  · by_cases e : k = 135
    · subst e; rw [setk_s, setk_s]
    · rw [setk_o e, setk_o e]
      by_cases e2 : k < 135 ∨ 139 ≤ k
      · exact kL_o e2
      · rw [adP_l (by omega) (by omega)] at hk; omega
  · by_cases e : k = 135
    · subst e; omega
    · rw [setk_o e] at hk
      have := kL_nz hk
      rw [adP_l (by omega) (by omega)]; omega
  refine lv_astore_n (lv' := [(1, .ref (adP s.heap.size 135)), (0, .ref b)]) hx hb (dc tbL_law_0_k 3 rfl) rfl hl (by decide) rfl (fun ls hl => ?_)
  have em : zr (zr (zr (zr m0 135) (135 + 1)) (135 + 2)) (135 + 3) = m0 := by
    have z : ∀ k, zr m0 k = m0 := fun k => by
      refine Prod.ext (funext fun a => ?_) (Prod.ext (funext fun a => ?_) (funext fun a => ?_))
      · show (if a = k then _ else _) = _
        split <;> rfl
      · show (if a = k then _ else _) = _
        split <;> rfl
      · show (if a = k then _ else _) = _
        split <;> rfl
    rw [z, z, z, z]
  rw [em] at hI
  refine lv_aload_n hx hb (dc tbL_law_0_k 4 rfl) rfl (lv_at hl 0 rfl) ?_
  refine lv_aload_n hx hb (dc tbL_law_0_k 5 rfl) rfl (lv_at hl 1 rfl) ?_
  refine d_put false hx hb hts inWL tyL tyL_ok nmL hown hK hI hinj (fun h => by cases h) (k := 135) (q := (16, adP s.heap.size 136)) (q' := (16, b)) rfl (by simp) (by simp) rfl rfl 0 (by decide) ⟨rfl, rfl, rfl⟩ q_t2_191 rfl (fun h => by cases h) (ty := .array .int) (by decide +kernel) rfl rfl (by simp) (M' := m0) rfl (fun _ _ => ⟨rfl, rfl, rfl⟩) (dc tbL_law_0_k 6 rfl) (fun H locs hI => ?_)
  rw [kL_set, ← hg0] at hI
  have hkL : kLaw (G.2.2 400) (kL (G.2.2 400)) 135 := ⟨rfl, rfl, rfl⟩
  have hap := hap9 (kL (G.2.2 400))
  have hsx := hsxA (kL (G.2.2 400))
  refine lv_aload_n hx hb (dc tbL_law_0_k 7 rfl) rfl (lv_at hl 0 rfl) ?_
  refine lv_bipush (v := 100) hx hb (dc tbL_law_0_k 8 rfl) (by decide) ?_
  refine lv_aload_n hx hb (dc tbL_law_0_k 9 rfl) rfl (lv_at hl 0 rfl) ?_
  refine lv_bipush (v := 9) hx hb (dc tbL_law_0_k 10 rfl) (by decide) ?_
  refine d_callV (n := 1) (C := RL) hx hb hml hown hts hK hap hsx hI (tL_chosen l (k0 := 135) (m := 9) (i := 0) hkL hLb (by omega) (by omega) rfl H.size) cv_L_chosen q_t3_191 rfl rfl ⟨Nat.le_of_ble_eq_true rfl, Nat.le_of_ble_eq_true rfl⟩ hkL.1 (by simp) rfl (ci := 9) rfl rfl hl.1 rfl (Nat.le_of_ble_eq_true rfl) (dc tbL_law_0_k 11 rfl) ⟨Nat.le_of_ble_eq_true rfl, Nat.le_of_ble_eq_true rfl⟩ (fun Ka Ma va H locs hP _ hI9 => ?_)
  obtain ⟨rfl, rfl, c1, hc1, rfl⟩ := hP
  have hI := hI9
  refine lv_imul hx hb (dc tbL_law_0_k 12 rfl) ?_
  refine lv_et (b := Int32.ofNat (100 * c1)) (by rw [i_eq, i_mulc (c := 100) rfl (by rw [t_of (by omega)]; omega) (by rw [t_of (by omega)]; omega), t_of (by omega), t_of (by omega)]; omega) ?_
  refine gpL_5 hx hb hts hown hK (hap9 _) hI hkL.1 q_t2_196 (dc tbL_law_0_k 13 rfl) rfl (fun H locs hI => ?_)
  have hat : (wr (wr m0 135 1 (Int32.ofNat (0 + 1))) 135 5 (Int32.ofNat (100 * c1))).1 135 1 = Int32.ofNat 1 := by rw [wr_at, if_neg (by decide), wr_at, if_pos rfl]
  have hap := hap9 (kL (G.2.2 400))
  have hsx := hsxA (kL (G.2.2 400))
  refine lv_aload_n hx hb (dc tbL_law_0_k 14 rfl) rfl (lv_at hl 0 rfl) ?_
  refine lv_bipush (v := 100) hx hb (dc tbL_law_0_k 15 rfl) (by decide) ?_
  refine lv_aload_n hx hb (dc tbL_law_0_k 16 rfl) rfl (lv_at hl 0 rfl) ?_
  refine lv_bipush (v := 9) hx hb (dc tbL_law_0_k 17 rfl) (by decide) ?_
  refine d_callV (n := 1) (C := RL) hx hb hml hown hts hK hap hsx hI (tL_chosen l (k0 := 135) (m := 9) (i := 1) hkL hLb (by omega) (by omega) hat H.size) cv_L_chosen q_t3_191 rfl rfl ⟨Nat.le_of_ble_eq_true rfl, Nat.le_of_ble_eq_true rfl⟩ hkL.1 (by simp) rfl (ci := 9) rfl rfl hl.1 rfl (Nat.le_of_ble_eq_true rfl) (dc tbL_law_0_k 18 rfl) ⟨Nat.le_of_ble_eq_true rfl, Nat.le_of_ble_eq_true rfl⟩ (fun Ka Ma va H locs hP _ hI9 => ?_)
  obtain ⟨rfl, rfl, c2, hc2, rfl⟩ := hP
  have hI := hI9
  refine lv_imul hx hb (dc tbL_law_0_k 19 rfl) ?_
  refine lv_et (b := Int32.ofNat (100 * c2)) (by rw [i_eq, i_mulc (c := 100) rfl (by rw [t_of (by omega)]; omega) (by rw [t_of (by omega)]; omega), t_of (by omega), t_of (by omega)]; omega) ?_
  refine gpL_6 hx hb hts hown hK (hap9 _) hI hkL.1 q_t2_197 (dc tbL_law_0_k 20 rfl) rfl (fun H locs hI => ?_)
  have hat : (wr (wr (wr (wr m0 135 1 (Int32.ofNat (0 + 1))) 135 5 (Int32.ofNat (100 * c1))) 135 1 (Int32.ofNat (1 + 1))) 135 6 (Int32.ofNat (100 * c2))).1 135 1 = Int32.ofNat 2 := by rw [wr_at, if_neg (by decide), wr_at, if_pos rfl]
  have hap := hap9 (kL (G.2.2 400))
  have hsx := hsxA (kL (G.2.2 400))
  refine lv_aload_n hx hb (dc tbL_law_0_k 21 rfl) rfl (lv_at hl 0 rfl) ?_
  refine lv_bipush (v := 100) hx hb (dc tbL_law_0_k 22 rfl) (by decide) ?_
  refine lv_aload_n hx hb (dc tbL_law_0_k 23 rfl) rfl (lv_at hl 0 rfl) ?_
  refine lv_iconst (v := 4) hx hb (dc tbL_law_0_k 24 rfl) (by decide) ?_
  refine d_callV (n := 1) (C := RL) hx hb hml hown hts hK hap hsx hI (tL_chosen l (k0 := 135) (m := 4) (i := 2) hkL hLb (by omega) (by omega) hat H.size) cv_L_chosen q_t3_191 rfl rfl ⟨Nat.le_of_ble_eq_true rfl, Nat.le_of_ble_eq_true rfl⟩ hkL.1 (by simp) rfl (ci := 9) rfl rfl hl.1 rfl (Nat.le_of_ble_eq_true rfl) (dc tbL_law_0_k 25 rfl) ⟨Nat.le_of_ble_eq_true rfl, Nat.le_of_ble_eq_true rfl⟩ (fun Ka Ma va H locs hP _ hI9 => ?_)
  obtain ⟨rfl, rfl, c3, hc3, rfl⟩ := hP
  have hI := hI9
  refine lv_imul hx hb (dc tbL_law_0_k 26 rfl) ?_
  refine lv_et (b := Int32.ofNat (100 * c3)) (by rw [i_eq, i_mulc (c := 100) rfl (by rw [t_of (by omega)]; omega) (by rw [t_of (by omega)]; omega), t_of (by omega), t_of (by omega)]; omega) ?_
  refine gpL_7 hx hb hts hown hK (hap9 _) hI hkL.1 q_t2_198 (dc tbL_law_0_k 27 rfl) rfl (fun H locs hI => ?_)
  have hat : (wr (wr (wr (wr (wr (wr m0 135 1 (Int32.ofNat (0 + 1))) 135 5 (Int32.ofNat (100 * c1))) 135 1 (Int32.ofNat (1 + 1))) 135 6 (Int32.ofNat (100 * c2))) 135 1 (Int32.ofNat (2 + 1))) 135 7 (Int32.ofNat (100 * c3))).1 135 1 = Int32.ofNat 3 := by rw [wr_at, if_neg (by decide), wr_at, if_pos rfl]
  have hap := hap9 (kL (G.2.2 400))
  have hsx := hsxA (kL (G.2.2 400))
  refine lv_aload_n hx hb (dc tbL_law_0_k 28 rfl) rfl (lv_at hl 0 rfl) ?_
  refine lv_sipush (v := 500) hx hb (dc tbL_law_0_k 29 rfl) (by decide) ?_
  refine lv_bipush (v := 100) hx hb (dc tbL_law_0_k 30 rfl) (by decide) ?_
  refine lv_aload_n hx hb (dc tbL_law_0_k 31 rfl) rfl (lv_at hl 0 rfl) ?_
  refine lv_bipush (v := 30) hx hb (dc tbL_law_0_k 32 rfl) (by decide) ?_
  refine d_callV (n := 1) (C := RL) hx hb hml hown hts hK hap hsx hI (tL_chosen l (k0 := 135) (m := 30) (i := 3) hkL hLb (by omega) (by omega) hat H.size) cv_L_chosen q_t3_191 rfl rfl ⟨Nat.le_of_ble_eq_true rfl, Nat.le_of_ble_eq_true rfl⟩ hkL.1 (by simp) rfl (ci := 9) rfl rfl hl.1 rfl (Nat.le_of_ble_eq_true rfl) (dc tbL_law_0_k 33 rfl) ⟨Nat.le_of_ble_eq_true rfl, Nat.le_of_ble_eq_true rfl⟩ (fun Ka Ma va H locs hP _ hI9 => ?_)
  obtain ⟨rfl, rfl, c4, hc4, rfl⟩ := hP
  have hI := hI9
  refine lv_imul hx hb (dc tbL_law_0_k 34 rfl) ?_
  refine lv_et (b := Int32.ofNat (100 * c4)) (by rw [i_eq, i_mulc (c := 100) rfl (by rw [t_of (by omega)]; omega) (by rw [t_of (by omega)]; omega), t_of (by omega), t_of (by omega)]; omega) ?_
  refine lv_iadd hx hb (dc tbL_law_0_k 35 rfl) ?_
  refine lv_et (b := Int32.ofNat (500 + 100 * c4)) (o_add (a := 500) (by omega)) ?_
  refine gpL_8 hx hb hts hown hK (hap9 _) hI hkL.1 q_t2_199 (dc tbL_law_0_k 36 rfl) rfl (fun H locs hI => ?_)
  have hq1 : (wr (wr (wr (wr (wr (wr (wr (wr m0 135 1 (Int32.ofNat (0 + 1))) 135 5 (Int32.ofNat (100 * c1))) 135 1 (Int32.ofNat (1 + 1))) 135 6 (Int32.ofNat (100 * c2))) 135 1 (Int32.ofNat (2 + 1))) 135 7 (Int32.ofNat (100 * c3))) 135 1 (Int32.ofNat (3 + 1))) 135 8 (Int32.ofNat (500 + 100 * c4))).1 135 1 = Int32.ofNat 4 := by rw [wr_at, if_neg (by decide), wr_at, if_pos rfl]
  have hq5 : (wr (wr (wr (wr (wr (wr (wr (wr m0 135 1 (Int32.ofNat (0 + 1))) 135 5 (Int32.ofNat (100 * c1))) 135 1 (Int32.ofNat (1 + 1))) 135 6 (Int32.ofNat (100 * c2))) 135 1 (Int32.ofNat (2 + 1))) 135 7 (Int32.ofNat (100 * c3))) 135 1 (Int32.ofNat (3 + 1))) 135 8 (Int32.ofNat (500 + 100 * c4))).1 135 5 = Int32.ofNat (100 * c1) := by rw [wr_at, if_neg (by decide), wr_at, if_neg (by decide), wr_at, if_neg (by decide), wr_at, if_neg (by decide), wr_at, if_neg (by decide), wr_at, if_neg (by decide), wr_at, if_pos rfl]
  have hq6 : (wr (wr (wr (wr (wr (wr (wr (wr m0 135 1 (Int32.ofNat (0 + 1))) 135 5 (Int32.ofNat (100 * c1))) 135 1 (Int32.ofNat (1 + 1))) 135 6 (Int32.ofNat (100 * c2))) 135 1 (Int32.ofNat (2 + 1))) 135 7 (Int32.ofNat (100 * c3))) 135 1 (Int32.ofNat (3 + 1))) 135 8 (Int32.ofNat (500 + 100 * c4))).1 135 6 = Int32.ofNat (100 * c2) := by rw [wr_at, if_neg (by decide), wr_at, if_neg (by decide), wr_at, if_neg (by decide), wr_at, if_neg (by decide), wr_at, if_pos rfl]
  have hq7 : (wr (wr (wr (wr (wr (wr (wr (wr m0 135 1 (Int32.ofNat (0 + 1))) 135 5 (Int32.ofNat (100 * c1))) 135 1 (Int32.ofNat (1 + 1))) 135 6 (Int32.ofNat (100 * c2))) 135 1 (Int32.ofNat (2 + 1))) 135 7 (Int32.ofNat (100 * c3))) 135 1 (Int32.ofNat (3 + 1))) 135 8 (Int32.ofNat (500 + 100 * c4))).1 135 7 = Int32.ofNat (100 * c3) := by rw [wr_at, if_neg (by decide), wr_at, if_neg (by decide), wr_at, if_pos rfl]
  have hq8 : (wr (wr (wr (wr (wr (wr (wr (wr m0 135 1 (Int32.ofNat (0 + 1))) 135 5 (Int32.ofNat (100 * c1))) 135 1 (Int32.ofNat (1 + 1))) 135 6 (Int32.ofNat (100 * c2))) 135 1 (Int32.ofNat (2 + 1))) 135 7 (Int32.ofNat (100 * c3))) 135 1 (Int32.ofNat (3 + 1))) 135 8 (Int32.ofNat (500 + 100 * c4))).1 135 8 = Int32.ofNat (500 + 100 * c4) := by rw [wr_at, if_pos rfl]
  have hz9 : ∀ a, a < 135 → Z0 (wr (wr (wr (wr (wr (wr (wr (wr m0 135 1 (Int32.ofNat (0 + 1))) 135 5 (Int32.ofNat (100 * c1))) 135 1 (Int32.ofNat (1 + 1))) 135 6 (Int32.ofNat (100 * c2))) 135 1 (Int32.ofNat (2 + 1))) 135 7 (Int32.ofNat (100 * c3))) 135 1 (Int32.ofNat (3 + 1))) 135 8 (Int32.ofNat (500 + 100 * c4))) a := fun a ha => ((((((((z0_m a).wr (by omega)).wr (by omega)).wr (by omega)).wr (by omega)).wr (by omega)).wr (by omega)).wr (by omega)).wr (by omega)
  generalize hML : (wr (wr (wr (wr (wr (wr (wr (wr m0 135 1 (Int32.ofNat (0 + 1))) 135 5 (Int32.ofNat (100 * c1))) 135 1 (Int32.ofNat (1 + 1))) 135 6 (Int32.ofNat (100 * c2))) 135 1 (Int32.ofNat (2 + 1))) 135 7 (Int32.ofNat (100 * c3))) 135 1 (Int32.ofNat (3 + 1))) 135 8 (Int32.ofNat (500 + 100 * c4))) = ML at hI hq1 hq5 hq6 hq7 hq8 hz9
  clear hML
  have hsz : H.size = s.heap.size + 4 ∨ True := Or.inr trivial
  refine W.bnd (fun hbd => ?_)
  have h138 : adP s.heap.size 138 < H.size := hI.1.lt (k := 138) (by simp [kL])
  have hH : H.size = s.heap.size + 4 := by
    rw [adP_l (by omega) (by omega)] at h138
    omega
  have e0 : adP s.heap.size 0 = s.heap.size + 4 := by rw [adP_c (by omega) (by omega) (by omega)]
  refine d_newo hx hb hts inW6 tyX6 tyX6_ok hown q_t1_26 q_t1_27 q_t1_1 hK hI (j := 0) (by rw [e0, hH]) (q := (26, 0)) (by simp) (ci := 8) rfl (fs := [.null, .int 0, .null, .null, .null, .null, .null, .null, .null]) rfl (by decide +kernel) ⟨Nat.le_of_ble_eq_true rfl, Nat.le_of_ble_eq_true rfl⟩ (dc tbL_law_0_k 37 rfl) (fun H hz1 hI => ?_)
  refine lv_dup hx hb (dc tbL_law_0_k 38 rfl) rfl ?_
  obtain ⟨MI, hMI, hMk⟩ := hZ.1 (zr ML 0) (fun a ha => (hz9 a ha).zr)
  have hH2 : H.size = s.heap.size + 5 := by rw [hz1, e0]
  refine d_ctor (K0 := setk (kA (G.2.2 400)) 0 (26, 0)) (KF := kA (G.2.2 400)) (nc := 134) (ms := 14849) (b := 0) hx hb hml hown hts hK (hsxA _) (hexA _) hI (fun k hk => ?_) (fun k hk => ?_) (nzE_set (kA_all (by omega)) (by simp)) (tX6_init l hinj kA_root ((kA_c (k := 4) (by omega)).trans kp_4) kA_sb ⟨fun j g1 g2 g3 g4 => by rw [adP_c (by omega) g3 g4]; omega, by show s.heap.size + 7 = _; omega, by show s.heap.size + 8 = _; omega⟩ (by rw [e0]; omega) hMI) ci_X6_init q_t1_28 ⟨rfl, by decide +kernel⟩ rfl rfl ⟨Nat.le_of_ble_eq_true rfl, Nat.le_of_ble_eq_true rfl⟩ hl.1 (Nat.le_of_ble_eq_true rfl) (dc tbL_law_0_k 39 rfl) ⟨Nat.le_of_ble_eq_true rfl, Nat.le_of_ble_eq_true rfl⟩ (fun H locs _ hI => ?_)
  · by_cases e : k = 0
    · subst e; rw [setk_s, setk_s]
    · rw [setk_o e, setk_o e]
      by_cases e2 : k < 135
      · exfalso
        unfold adP at hk
        rw [if_pos e2] at hk
        (repeat' split at hk) <;> omega
      · rw [kA_l (by omega)]
  · by_cases e : k = 0
    · subst e; rw [e0]; omega
    · rw [setk_o e] at hk
      have h9 := kA_nz hk
      unfold adP
      (repeat' split) <;> omega
  refine lv_astore_n (lv' := [(2, .ref (adP s.heap.size 0)), (1, .ref (adP s.heap.size 135)), (0, .ref b)]) hx hb (dc tbL_law_1_k 0 rfl) rfl hl (by decide) rfl (fun ls hl => ?_)
  have hkA : kLaw (G.2.2 400) (kA (G.2.2 400)) 135 := kA_law
  have hMs : ∀ j, MI.1 135 j = ML.1 135 j := fun j => by rw [(hMk 135 (by omega)).1, (zr_s1 (M := ML) (k := 0) (j := 135) (by omega)).1]
  refine law_tools (N := s.heap.size + 139) hx hb hml hown hts hK hinj (adP_su (Nat.le_refl _)) hsxA hexA (fun K' M' H' locs' hkk hI' => ?_) (by omega) hkA ((hMs 5).trans hq5) ((hMs 6).trans hq6) ((hMs 7).trans hq7) ((hMs 8).trans hq8) hc1 hc2 hc3 hc4 ⟨Nat.le_of_ble_eq_true rfl, Nat.le_of_ble_eq_true rfl⟩ hI hl (fun K9 M9 H locs kt at9 hP0 hST hI => ?_)
  · have h9 : (K' 134).1 ≠ 0 := by rw [hkk 134 (kA_all (by omega))]; exact kA_all (by omega)
    have := hI'.1.lt h9
    rw [adP_c (by omega) (by omega) (by omega)] at this
    omega
  have hcl : ∀ j, j < 139 → K9 j = kA (G.2.2 400) j ∧ Sm MI M9 j := fun j hj => hP0 j (kA_all hj)
  have hk9 : kLaw (G.2.2 400) K9 135 := ⟨(hcl 135 (by omega)).1.trans hkA.1, (hcl 137 (by omega)).1.trans hkA.2.1, (hcl 138 (by omega)).1.trans hkA.2.2⟩
  refine lv_astore_n (lv' := (3, .ref (adP s.heap.size kt)) :: [(2, .ref (adP s.heap.size 0)), (1, .ref (adP s.heap.size 135)), (0, .ref b)]) hx hb (dc tbL_law_1_k 27 rfl) rfl hl (by decide) rfl (fun ls hl => ?_)
  refine lv_aload_n hx hb (dc tbL_law_1_k 28 rfl) rfl (lv_at hl 1 rfl) ?_
  refine lv_aload_n hx hb (dc tbL_law_1_k 29 rfl) rfl (lv_at hl 2 rfl) ?_
  refine lv_aload_n hx hb (dc tbL_law_1_k 30 rfl) rfl (lv_at hl 0 rfl) ?_
  have hge : s.heap.size + 139 ≤ H.size := by
    have h9 : (K9 134).1 ≠ 0 := by rw [(hcl 134 (by omega)).1]; exact kA_all (by omega)
    have := hI.1.lt h9
    rw [adP_c (by omega) (by omega) (by omega)] at this
    omega
  have ht0 := t0L_len hc1 hc2 hc3 hc4
  refine d_callVE (n := 1) (C := RL) hx hb hml hown hts hK (hap9 _) (hsxA _) (hexA _) hI (tL_text l hinj hk9 hLb hST ⟨by omega, by omega⟩ (by rw [(hcl 135 (by omega)).2.1, hMs]; exact hq1) H.size (adP_su hge)) cv_L_text q_t3_201 rfl rfl ⟨Nat.le_of_ble_eq_true rfl, Nat.le_of_ble_eq_true rfl⟩ hk9.1 (by simp) rfl (ci := 9) rfl rfl hl.1 rfl (Nat.le_of_ble_eq_true rfl) (dc tbL_law_1_k 31 rfl) ⟨Nat.le_of_ble_eq_true rfl, Nat.le_of_ble_eq_true rfl⟩ (fun K2 M2 v2 H locs hP _ hI => ?_)
  obtain ⟨nb, l0, its, i9, kx, ax, hn1, hn2, hn3, hIt, -, hLW, hk2, hFz, hSTx, hkx, hax, rfl⟩ := hP
  have hcl2 : ∀ j, j < 139 → K2 j = kA (G.2.2 400) j := fun j hj => (hFz j (by rw [(hcl j hj).1]; exact kA_all hj)).1.trans (hcl j hj).1
  have hcs2 : ∀ j, j < 135 → Sm MI M2 j := fun j hj => (hcl j (by omega)).2.trans ((hFz j (by rw [(hcl j (by omega)).1]; exact kA_all (by omega))).2 (by omega) (by omega) (by omega))
  have hgx : ∀ j, (K9 j).1 = 0 → 139 ≤ j := fun j hj => by
    by_cases e : 139 ≤ j
    · exact e
    · exact absurd hj (by rw [(hcl j (by omega)).1]; exact kA_all (by omega))
  have hLS : LSt nb l0 its c3 c4 M2 := by
    obtain ⟨-, w2, w3, w4, w5⟩ := hLW
    refine ⟨w2, ?_, ?_, w4, w5⟩
    · rw [w3 7 (by omega), (hcl 135 (by omega)).2.1, hMs]; exact hq7
    · rw [w3 8 (by omega), (hcl 135 (by omega)).2.1, hMs]; exact hq8
  obtain ⟨M3, hM3, hZ3⟩ := hZ.2.1 (zr ML 0) MI M2 kx ax nb l0 c1 c2 c3 c4 its (fun a ha => (hz9 a ha).zr) hMI hcs2 hn1 hn2 hn3 hIt hc1 hc2 hc3 hc4 hLS (hgx _ hkx) (hgx _ hax) hSTx.2.1 hSTx.2.2.1
  have hap := hap9 K2
  have hsx := hsxA K2
  have hr2 : kRoot K2 0 := kRoot_eq kA_root (fun k hk => hcl2 k (by omega))
  refine g_callSi hx hb hml hown hts hK hap hsx hI (tL_load_ds_nt l hr2 hSTx.1 hM3 H.size) cs_L_load_ds_nt q_t2_219 rfl rfl ⟨Nat.le_of_ble_eq_true rfl, Nat.le_of_ble_eq_true rfl⟩ rfl hl.1 rfl (Nat.le_of_ble_eq_true rfl) (dc tbL_law_1_k 32 rfl) ⟨Nat.le_of_ble_eq_true rfl, Nat.le_of_ble_eq_true rfl⟩ (fun H locs hI => ?_)
  exact law_tail l hst hx hb hml hown hts hK hr hlk hnc hsx hr2 hk2 (hZ.2.2 (G.2.2 400) nb l0 its c1 c2 c3 c4 hn3) hn3 hZ3 ⟨Nat.le_of_ble_eq_true rfl, Nat.le_of_ble_eq_true rfl⟩ hI (lv_sub hl [1, 2, 3] rfl)
