theorem kPart_congr {K K' : Nat → Nat × Nat} {k : Nat} (h : kPart K k) (he : ∀ j, j < 8 → K' (k + j) = K (k + j)) : kPart K' k := ⟨(he 0 (by omega)).trans h.1, (he 1 (by omega)).trans h.2.1, (he 2 (by omega)).trans h.2.2.1, (he 3 (by omega)).trans h.2.2.2.1, (he 4 (by omega)).trans h.2.2.2.2.1, (he 5 (by omega)).trans h.2.2.2.2.2.1, (he 6 (by omega)).trans h.2.2.2.2.2.2.1, (he 7 (by omega)).trans h.2.2.2.2.2.2.2⟩
theorem kPlaces_congr {K K' : Nat → Nat × Nat} {k : Nat} (h : kPlaces K k) (he : ∀ j, j < 7 → K' (k + j) = K (k + j)) : kPlaces K' k := ⟨(he 0 (by omega)).trans h.1, (he 1 (by omega)).trans h.2.1, (he 2 (by omega)).trans h.2.2.1, (he 3 (by omega)).trans h.2.2.2.1, (he 4 (by omega)).trans h.2.2.2.2.1, (he 5 (by omega)).trans h.2.2.2.2.2.1, (he 6 (by omega)).trans h.2.2.2.2.2.2⟩
theorem kPlanner_congr {K K' : Nat → Nat × Nat} {k : Nat} (h : kPlanner K k) (he : ∀ j, j < 23 → K' (k + j) = K (k + j)) : kPlanner K' k := ⟨(he 0 (by omega)).trans h.1, (he 1 (by omega)).trans h.2.1, kPlaces_congr h.2.2.1 (fun j hj => by rw [show k + 2 + j = k + (2 + j) by omega]; exact he _ (by omega)), kPart_congr h.2.2.2.1 (fun j hj => by rw [show k + 9 + j = k + (9 + j) by omega]; exact he _ (by omega)), (he 17 (by omega)).trans h.2.2.2.2.1, (he 18 (by omega)).trans h.2.2.2.2.2.1, (he 19 (by omega)).trans h.2.2.2.2.2.2.1, (he 20 (by omega)).trans h.2.2.2.2.2.2.2.1, (he 21 (by omega)).trans h.2.2.2.2.2.2.2.2.1, (he 22 (by omega)).trans h.2.2.2.2.2.2.2.2.2⟩
theorem kHist_congr {K K' : Nat → Nat × Nat} {k : Nat} (h : kHist K k) (he : ∀ j, j < 82 → K' (k + j) = K (k + j)) : kHist K' k := ⟨(he 0 (by omega)).trans h.1, (he 1 (by omega)).trans h.2.1, fun i hi => kPart_congr (h.2.2 i hi) (fun j hj => by rw [show k + 1 + 1 + 8 * i + j = k + (2 + 8 * i + j) by omega]; exact he _ (by omega))⟩
theorem kModel_congr {K K' : Nat → Nat × Nat} {k : Nat} (h : kModel K k) (he : ∀ j, j < 17 → K' (k + j) = K (k + j)) : kModel K' k := ⟨(he 0 (by omega)).trans h.1, (he 1 (by omega)).trans h.2.1, (he 2 (by omega)).trans h.2.2.1, (he 3 (by omega)).trans h.2.2.2.1, (he 4 (by omega)).trans h.2.2.2.2.1, (he 5 (by omega)).trans h.2.2.2.2.2.1, (he 6 (by omega)).trans h.2.2.2.2.2.2.1, (he 7 (by omega)).trans h.2.2.2.2.2.2.2.1, (he 8 (by omega)).trans h.2.2.2.2.2.2.2.2.1, (he 9 (by omega)).trans h.2.2.2.2.2.2.2.2.2.1, (he 10 (by omega)).trans h.2.2.2.2.2.2.2.2.2.2.1, (he 11 (by omega)).trans h.2.2.2.2.2.2.2.2.2.2.2.1, (he 12 (by omega)).trans h.2.2.2.2.2.2.2.2.2.2.2.2.1, (he 13 (by omega)).trans h.2.2.2.2.2.2.2.2.2.2.2.2.2.1, (he 14 (by omega)).trans h.2.2.2.2.2.2.2.2.2.2.2.2.2.2.1, (he 15 (by omega)).trans h.2.2.2.2.2.2.2.2.2.2.2.2.2.2.2.1, (he 16 (by omega)).trans h.2.2.2.2.2.2.2.2.2.2.2.2.2.2.2.2⟩
def kSB (kd : Nat → Nat × Nat) (k : Nat) : Prop := kd k = (9, 0) ∧ kd (k + 1) = (11, 16)
theorem kSB_congr {K K' : Nat → Nat × Nat} {k : Nat} (h : kSB K k) (he : ∀ j, j < 2 → K' (k + j) = K (k + j)) : kSB K' k := ⟨(he 0 (by omega)).trans h.1, (he 1 (by omega)).trans h.2⟩
theorem kReader_congr {K K' : Nat → Nat × Nat} (h : kReader K 2) (he : ∀ j, 1 ≤ j → j < 5 → K' j = K j) : kReader K' 2 := ⟨(he 2 (by omega) (by omega)).trans h.1, (he 3 (by omega) (by omega)).trans h.2.1, (he 1 (by omega) (by omega)).trans h.2.2⟩
theorem nzE_set {K : Nat → Nat × Nat} {k : Nat} {q : Nat × Nat} (h1 : (K k).1 ≠ 0) (hq : q.1 ≠ 0) : nzE K (setk K k q) := fun i => by
  by_cases e : i = k
  · subst e; rw [setk_s]; exact ⟨fun _ => hq, fun _ => h1⟩
  · rw [setk_o e]
theorem setk3 {K : Nat → Nat × Nat} {k k' : Nat} {a b c : Nat × Nat} (h : k' ≠ k) : setk (setk (setk K k a) k' b) k c = setk (setk K k c) k' b := by
  funext x; unfold setk
  by_cases e1 : x = k
  · have : x ≠ k' := fun q => h (q.symm.trans e1)
    rw [if_pos e1, if_neg this, if_pos e1]
  · rw [if_neg e1]
    by_cases e2 : x = k'
    · rw [if_pos e2, if_pos e2]
    · rw [if_neg e2, if_neg e2, if_neg e1, if_neg e1]
theorem Ci.absent {G : GT} {K0 K : Nat → Nat × Nat} {ad : Nat → Nat} {s : State} {M : Mem} {H : Heap} {locs : List Loc} {n0 j : Nat} {q q' : Nat × Nat} (hC : Ci G K0 K ad s M H locs n0) (haj : ad j = s.heap.size + n0) (hKj : K j = q') (hq' : q'.1 ≠ 0) (hq : q.1 ≠ 0) : Ci G K0 (setk K j q) ad s M H locs n0 := by
  obtain ⟨hw, hS, hz, hn⟩ := hC
  refine ⟨fun k hk => ?_, hS, hz, hn.set hq (by rw [hKj]; exact hq')⟩
  have hl := kdN_lt hk
  have hkj : k ≠ j := fun h => by rw [h, haj] at hl; omega
  rw [kdN_in hl, setk_o hkj] at hk ⊢
  have h2 := hw k (by rw [kdN_in hl]; exact hk)
  rw [kdN_in hl] at h2
  exact h2
theorem c_aast {p : Program} {l : Launch} {e : Env} {R : Room} {s : State} {m : MethodId} {args : Array Value} {below : List Frame} {meth : Method} {c : Code} {H : Heap} {locs : List Loc} {cells slots : Nat} {Q : State → Prop} {cc : ByteArray} {pc : Nat} {ls : Array Slot} {rest : List Value} {G : GT} {K0 K : Nat → Nat × Nat} {ad : Nat → Nat} {M : Mem} {n0 : Nat} {row kp i : Nat} {iv : Int32} (hx : p.tables.exec = Jvm.exec) (hb : c.code = cc) (hK : va_K G.1 vwCl (tyL G) s) (hC : Ci G K0 K ad s M H locs n0) (hinj : ∀ i j, ad i = ad j → i = j) (hrow : K row = (28, i)) (hlr : ad row < s.heap.size + n0) (hp : K kp = (1, 0)) (hlp : ad kp < s.heap.size + n0) (hkp : kp = row + 1 + 8 * i) (hi : i < 10) (hiv : iv.toNatClampNeg = i ∧ ¬ iv < 0) (hdg : decode cc pc = .ok (.aastore, 1))
    (kk : ∀ (H1 : Heap) (locs1 : List Loc), Ci G K0 (setk K row (28, i + 1)) ad s M H1 locs1 n0 → W p l e R s m args below meth c H1 locs1 cells slots Q (F0 m (pc + 1) ls rest)) : W p l e R s m args below meth c H locs cells slots Q (F0 m pc ls (.ref (ad kp) :: .int iv :: .ref (ad row) :: rest)) := by
  obtain ⟨hv1, hv2⟩ := hiv
  have ha : va_at G.1 vwCl (ad row, .inl (G.2.1 4, 10, .inr (.inr (.inr (.inr (fun j => if j < i then some (ad (row + 1 + 8 * j)) else none)))))) H := by
    have h := hC.1 row (by rw [kdN_in hlr, hrow]; simp)
    rw [kdN_in hlr, hrow] at h
    exact h
  have hv : va_at G.1 vwCl (ad kp, .inr (5, ePart ad kp (M.1 kp))) H := by
    have h := hC.1 kp (by rw [kdN_in hlp, hp]; simp)
    rw [kdN_in hlp, hp] at h
    exact h
  obtain ⟨r', hr', cellV, g1, g2, g3, -⟩ := hv
  have hcls := (hK.1 5 _ rfl).2
  obtain ⟨kA, comp, k1, k2, k3, -⟩ := (hK.2 4 _ rfl).2
  have hcomp : comp = G.1.1 5 := Option.some.inj (k3.symm.trans hcls.1)
  subst hcomp
  obtain ⟨kC, hkC, -⟩ := hcls.2
  refine W.aast hx hb ha (fun q h => by cases h) (fun h => by cases h) k1 k2 rfl hkC ⟨hv2, by show _ < (arrV _ _ _).slots.size; rw [arrV_size]; show iv.toNatClampNeg < 10; omega⟩ g1 (fun q h => by rw [g3] at h; cases h) (by rw [g2]; exact hkC) (by rw [g2]; exact va_assign hcls) rfl rfl hdg fun H1 e z oq => ?_
  refine kk H1 _ (hC.set hinj hrow (by simp) (by simp) hlr ?_ z oq (fun _ _ => ⟨rfl, rfl, rfl⟩))
  show H1[ad row]? = some (vp_cell (G.2.1 4) (10, .inr (.inr (.inr (.inr (fun j => if j < i + 1 then some (ad (row + 1 + 8 * j)) else none))))))
  rw [e]
  rw [vp_cell_q, vp_cell_q, arrV_store]
  congr 2
  funext q
  subst hkp
  by_cases hq : q = iv.toNatClampNeg
  · subst hq
    rw [hv1]
    simp [updV, va_rf, hv1]
  · have hqi : q ≠ i := fun h => hq (h.trans hv1.symm)
    simp only [updV, if_neg hq]
    by_cases h2 : q < i
    · rw [if_pos h2, if_pos (by omega)]
    · rw [if_neg h2, if_neg (by omega)]
theorem Ci.rowfull {G : GT} {K0 K : Nat → Nat × Nat} {ad : Nat → Nat} {s : State} {M : Mem} {H : Heap} {locs : List Loc} {n0 r : Nat} (hC : Ci G K0 K ad s M H locs n0) (hr : K r = (28, 10)) : Ci G K0 (setk K r (8, 10)) ad s M H locs n0 := by
  obtain ⟨hw, hS, hz, hn⟩ := hC
  refine ⟨fun k' hk' => ?_, hS, hz, hn.set (by simp) (by rw [hr]; simp)⟩
  have hl := kdN_lt hk'
  rw [kdN_in hl] at hk' ⊢
  by_cases e : k' = r
  · subst e
    rw [setk_s]
    have h2 := hw k' (by rw [kdN_in hl, hr]; simp)
    rw [kdN_in hl, hr] at h2
    have h3 : H[ad k']? = some (vp_cell (G.2.1 4) (10, .inr (.inr (.inr (.inr (fun j => if j < 10 then some (ad (k' + 1 + 8 * j)) else none)))))) := h2
    show H[ad k']? = some (vp_cell (G.2.1 4) (10, .inr (.inr (.inr (.inr (fun j => some (ad (k' + 1 + 8 * j))))))))
    rw [h3, vp_cell_q, vp_cell_q]
    unfold arrV
    congr 3
    funext j
    show va_rf (if j.val < 10 then _ else none) = _
    rw [if_pos j.isLt]
  · rw [setk_o e] at hk' ⊢
    have h2 := hw k' (by rw [kdN_in hl]; exact hk')
    rw [kdN_in hl] at h2
    exact h2
theorem c_callS {p : Program} {l : Launch} {e : Env} {R : Room} {s : State} {m : MethodId} {args : Array Value} {below : List Frame} {meth : Method} {c : Code} {H : Heap} {locs : List Loc} {slots : Nat} {Q : State → Prop} {cc : ByteArray} {pc : Nat} {ls : Array Slot} {rest : List Value} {G : GT} {K0 K : Nat → Nat × Nat} {ad : Nat → Nat} {M : Mem} {n0 : Nat} {y : MethodName} {bytes : ByteArray} {maxL nL index nA : Nat} {rm : Room} {own : String} {M' : Mem} {As : List Value} (hx : p.tables.exec = Jvm.exec) (hb : c.code = cc) (hml : c.maxLocals = nL) (hown : s.vm.findClass own = some m.cls) (hts : ∀ w ∈ WA, w.before args s = true) (hK : va_K G.1 vwCl (tyL G) s) (hsx : Sx G (AS K0 ad s.heap.size) s s.heap) (hC : Ci G K0 K ad s M H locs n0) (hinj : ∀ i j, ad i = ad j → i = j)
    (hM : Met l y (Cond.code y bytes maxL none :: WA) rm (Pg G (kdN K ad (s.heap.size + n0)) ad H.size As M) (Qg G (kdN K ad (s.heap.size + n0)) ad H.size M' none) 0 0 (AS (kdN K ad (s.heap.size + n0)) ad H.size)) (hcv : csF y bytes maxL none nA) (hl : Cond.methodLink own index y ∈ WA) (hrc : rm.cells = 0) (hrs : rm.slots = 0) (hR : rm.frames + 1 ≤ R.frames ∧ 8 + (maxL + 11) + rm.locals ≤ R.locals)
    (hnA : As.length = nA) (hsize : ls.size = nL) {st : List Value} (hst : st = As.reverse ++ rest) (hW : (rest.map fun v => v.category).sum ≤ 8) (hdg : decode cc pc = .ok (.invokestatic index, 3)) (hf : n0 + 0 ≤ R.cells ∧ slots + 0 ≤ R.slots)
    (kk : ∀ (H1 : Heap) (locs1 : List Loc), Ci G K0 K ad s M' H1 locs1 n0 → W p l e R s m args below meth c H1 locs1 n0 slots Q (F0 m (pc + 3) ls rest)) : W p l e R s m args below meth c H locs n0 slots Q (F0 m pc ls st) := by
  subst hst
  obtain ⟨c1, c3, c4, c5⟩ := hcv
  have hG : GoodIn WA (va_wsS own index y (Cond.code y bytes maxL none :: WA)) := fun w h => by
    have : w ∈ WA := by
      rcases List.mem_append.mp h with h | h
      · simp only [List.mem_cons, List.not_mem_nil, or_false] at h
        rcases h with rfl | rfl | rfl
        · exact hl
        · exact c1
        · exact c3
      · exact ws_good c4 w h
    exact ⟨this, wa_good w this⟩
  exact c_backM hC (va_runS (As := As) (rest := rest) ⟨hx, hb, hml, hown, hts⟩ hM (va_cwS nA hts hG rfl hrc hrs c5 hR) ⟨pg_blind, fun U hU hW => hC.pg hinj hK hsx hU hW⟩ rfl hnA hsize rfl (lv_room hW) hdg hf) kk
theorem ltB {ad : Nat → Nat} {k N n c : Nat} (hak : ad k < N) (had : ∀ j, j < n → ad (k + 1 + j) = N + j) (hn : n ≤ c) {j : Nat} (hj : j < n + 1) : ad (k + j) < N + c := by
  by_cases e : j = 0
  · subst e; exact Nat.lt_of_lt_of_le hak (Nat.le_add_right _ _)
  · have h9 := had (j - 1) (by omega)
    rw [show k + j = k + 1 + (j - 1) by omega]
    omega
section CS
def mX1_init (k0 : Nat) (M : Mem) : Option (Mem × Unit) := bnd (wr M k0 0 (0 : Int32)) (fun M1 => bnd (zr M1 (k0 + 1)) (fun M3 => bnd (wr M3 k0 2 (0 : Int32)) (fun M5 => bnd (wr M5 k0 3 (0 : Int32)) (fun M7 => bnd (wr M7 k0 4 (0 : Int32)) (fun M9 => bnd (wr M9 k0 5 (0 : Int32)) (fun M11 => bnd (zr M11 (k0 + 2)) (fun M13 => bnd (wr M13 k0 7 (0 : Int32)) (fun M15 => bnd (wr M15 k0 8 (0 : Int32)) (fun M17 => bnd (wr M17 k0 9 (0 : Int32)) (fun M19 => bnd (wr M19 k0 10 (0 : Int32)) (fun M21 => bnd (zr M21 (k0 + 3)) (fun M23 => bnd (zr M23 (k0 + 4)) (fun M25 => bnd (wr M25 k0 13 (0 : Int32)) (fun M27 => bnd (wr M27 k0 14 (0 : Int32)) (fun M29 => bnd (zr M29 (k0 + 5)) (fun M31 => bnd (zr M31 (k0 + 6)) (fun M33 => bnd (zr M33 (k0 + 7)) (fun M35 => cal (mX1_clear k0 M35) (fun M37 _ => some (M37, ()))))))))))))))))))))
set_option maxHeartbeats 4000000 in
set_option maxRecDepth 100000 in
theorem tX1_init (l : Launch) {G : GT} {KF : Nat → Nat × Nat} {ad : Nat → Nat} {N : Nat} {k0 : Nat} (hinj : ∀ i j, ad i = ad j → i = j) (hB : kPart KF k0) (had : ∀ j, j < 7 → ad (k0 + 1 + j) = N + j) (hak : ad k0 < N) {M MO : Mem} (hf : mX1_init k0 M = some (MO, ())) : Met l yX1_init (Cond.code yX1_init cX1_init 1 none :: WA) (rmO 2 7 59) (Pk G (setk KF k0 (21, 0)) ad N [.ref (ad k0)] M) (Qk G (setk KF k0 (21, 0)) KF ad N 7 MO) 7 59 (AS (setk KF k0 (21, 0)) ad N) := by
  refine c_body (own := RX1) (by decide) rfl rfl hinj ?_ (Nat.le_of_ble_eq_true rfl)
  intro p e s m args below meth c C hsz H ls hC hl
  subst hsz
  obtain ⟨hx, hb, hml, hr, hown, hts, hlk, hK, hsx, hex, hin, hinj⟩ := id C
  have hl : lv_has ls 1 [(0, .ref (ad k0))] := hl
  unfold mX1_init at hf
  refine lv_aload_n hx hb (dc tbX1_init_0_k 0 rfl) rfl (lv_at hl 0 rfl) ?_
  refine W.objInit hx hb hown (hts _ q_t1_80) (hts _ q_t1_35) (hts _ q_t1_36) rfl (by rw [hml]; exact hl.1) rfl (dc tbX1_init_0_k 1 rfl) (Nat.le_of_ble_eq_true rfl) (Nat.le_of_ble_eq_true rfl) ?_
  refine W.eq (g2 := F0 m 4 ls []) rfl ?_
  refine lv_aload_n hx hb (dc tbX1_init_0_k 2 rfl) rfl (lv_at hl 0 rfl) ?_
  refine lv_iconst (v := 0) hx hb (dc tbX1_init_0_k 3 rfl) (by decide) ?_
  obtain ⟨M1, e2, hf⟩ := bnd_s hf
  refine c_put false hx hb hts inW1 tyX1 tyX1_ok nmX1 hown hK hC hinj hin (q' := (21, 0)) (setk_s) (by simp) (by simp) (Nat.lt_of_lt_of_le hak (Nat.le_add_right _ _)) rfl rfl 0 (by decide) ⟨rfl, rfl, rfl⟩ q_t1_101 rfl (fun h => by first | rfl | cases h) (ty := .int) (by decide +kernel) rfl rfl (Nat.le_of_ble_eq_true rfl) (M' := M1) (by rw [e2, wr_s]; rfl) (by rw [e2]; exact wr_o) (dc tbX1_init_0_k 4 rfl) (fun H locs hC => ?_)
  have hC := hC.eqK setk_setk
  refine lv_aload_n hx hb (dc tbX1_init_0_k 5 rfl) rfl (lv_at hl 0 rfl) ?_
  refine lv_bipush (v := 9) hx hb (dc tbX1_init_0_k 6 rfl) (by decide) ?_
  obtain ⟨M3, e4, hf⟩ := bnd_s hf
  refine c_newa (ty := .int) (n := 9) hx hb rfl q_t1_74 hts hC hinj ((congrArg ad (by omega : (k0 + 1) = k0 + 1 + 0)).trans (had 0 (by omega))) ((setk_o (by omega)).trans (hB.2.1)) (hK.2 0 _ rfl).2 rfl rfl ⟨by decide, by decide⟩ (Nat.le_of_ble_eq_true rfl) ⟨Nat.le_of_ble_eq_true rfl, Nat.le_of_ble_eq_true rfl⟩ e4 dX1_init_12 (fun H hC => ?_)
  refine c_put true hx hb hts inW1 tyX1 tyX1_ok nmX1 hown hK hC hinj hin (q' := (21, 1)) (setk_s) (by simp) (by simp) (Nat.lt_of_lt_of_le hak (Nat.le_add_right _ _)) rfl rfl 1 (by decide) ⟨rfl, rfl, rfl⟩ q_t1_105 rfl (fun h => by first | rfl | cases h) (ty := (.array (.int))) (by decide +kernel) rfl rfl (Nat.le_of_ble_eq_true rfl) (M' := M3) rfl (fun _ _ => ⟨rfl, rfl, rfl⟩) (dc tbX1_init_0_k 7 rfl) (fun H locs hC => ?_)
  have hC := hC.eqK setk_setk
  refine lv_aload_n hx hb (dc tbX1_init_0_k 8 rfl) rfl (lv_at hl 0 rfl) ?_
  refine lv_iconst (v := 0) hx hb (dc tbX1_init_0_k 9 rfl) (by decide) ?_
  obtain ⟨M5, e6, hf⟩ := bnd_s hf
  refine c_put false hx hb hts inW1 tyX1 tyX1_ok nmX1 hown hK hC hinj hin (q' := (21, 1)) (setk_s) (by simp) (by simp) (Nat.lt_of_lt_of_le hak (Nat.le_add_right _ _)) rfl rfl 2 (by decide) ⟨rfl, rfl, rfl⟩ q_t1_108 rfl (fun h => by first | rfl | cases h) (ty := .int) (by decide +kernel) rfl rfl (Nat.le_of_ble_eq_true rfl) (M' := M5) (by rw [e6, wr_s]; rfl) (by rw [e6]; exact wr_o) (dc tbX1_init_0_k 10 rfl) (fun H locs hC => ?_)
  have hC := hC.eqK setk_setk
  refine lv_aload_n hx hb (dc tbX1_init_0_k 11 rfl) rfl (lv_at hl 0 rfl) ?_
  refine lv_iconst (v := 0) hx hb (dc tbX1_init_0_k 12 rfl) (by decide) ?_
  obtain ⟨M7, e8, hf⟩ := bnd_s hf
  refine c_put false hx hb hts inW1 tyX1 tyX1_ok nmX1 hown hK hC hinj hin (q' := (21, 1)) (setk_s) (by simp) (by simp) (Nat.lt_of_lt_of_le hak (Nat.le_add_right _ _)) rfl rfl 3 (by decide) ⟨rfl, rfl, rfl⟩ q_t1_111 rfl (fun h => by first | rfl | cases h) (ty := .int) (by decide +kernel) rfl rfl (Nat.le_of_ble_eq_true rfl) (M' := M7) (by rw [e8, wr_s]; rfl) (by rw [e8]; exact wr_o) (dc tbX1_init_0_k 13 rfl) (fun H locs hC => ?_)
  have hC := hC.eqK setk_setk
  refine lv_aload_n hx hb (dc tbX1_init_0_k 14 rfl) rfl (lv_at hl 0 rfl) ?_
  refine lv_iconst (v := 0) hx hb (dc tbX1_init_0_k 15 rfl) (by decide) ?_
  obtain ⟨M9, e10, hf⟩ := bnd_s hf
  refine c_put false hx hb hts inW1 tyX1 tyX1_ok nmX1 hown hK hC hinj hin (q' := (21, 1)) (setk_s) (by simp) (by simp) (Nat.lt_of_lt_of_le hak (Nat.le_add_right _ _)) rfl rfl 4 (by decide) ⟨rfl, rfl, rfl⟩ q_t1_113 rfl (fun h => by first | rfl | cases h) (ty := .int) (by decide +kernel) rfl rfl (Nat.le_of_ble_eq_true rfl) (M' := M9) (by rw [e10, wr_s]; rfl) (by rw [e10]; exact wr_o) (dc tbX1_init_0_k 16 rfl) (fun H locs hC => ?_)
  have hC := hC.eqK setk_setk
  refine lv_aload_n hx hb (dc tbX1_init_0_k 17 rfl) rfl (lv_at hl 0 rfl) ?_
  refine lv_iconst (v := 0) hx hb (dc tbX1_init_0_k 18 rfl) (by decide) ?_
  obtain ⟨M11, e12, hf⟩ := bnd_s hf
  refine c_put false hx hb hts inW1 tyX1 tyX1_ok nmX1 hown hK hC hinj hin (q' := (21, 1)) (setk_s) (by simp) (by simp) (Nat.lt_of_lt_of_le hak (Nat.le_add_right _ _)) rfl rfl 5 (by decide) ⟨rfl, rfl, rfl⟩ q_t1_114 rfl (fun h => by first | rfl | cases h) (ty := .int) (by decide +kernel) rfl rfl (Nat.le_of_ble_eq_true rfl) (M' := M11) (by rw [e12, wr_s]; rfl) (by rw [e12]; exact wr_o) (dc tbX1_init_0_k 19 rfl) (fun H locs hC => ?_)
  have hC := hC.eqK setk_setk
  refine lv_aload_n hx hb (dc tbX1_init_0_k 20 rfl) rfl (lv_at hl 0 rfl) ?_
  refine lv_bipush (v := 10) hx hb (dc tbX1_init_0_k 21 rfl) (by decide) ?_
  obtain ⟨M13, e14, hf⟩ := bnd_s hf
  refine c_newa (ty := .int) (n := 10) hx hb rfl q_t1_74 hts hC hinj ((congrArg ad (by omega : (k0 + 2) = k0 + 1 + 1)).trans (had 1 (by omega))) ((setk_o (by omega)).trans (hB.2.2.1)) (hK.2 0 _ rfl).2 rfl rfl ⟨by decide, by decide⟩ (Nat.le_of_ble_eq_true rfl) ⟨Nat.le_of_ble_eq_true rfl, Nat.le_of_ble_eq_true rfl⟩ e14 dX1_init_40 (fun H hC => ?_)
  refine c_put true hx hb hts inW1 tyX1 tyX1_ok nmX1 hown hK hC hinj hin (q' := (21, 2)) (setk_s) (by simp) (by simp) (Nat.lt_of_lt_of_le hak (Nat.le_add_right _ _)) rfl rfl 6 (by decide) ⟨rfl, rfl, rfl⟩ q_t1_115 rfl (fun h => by first | rfl | cases h) (ty := (.array (.int))) (by decide +kernel) rfl rfl (Nat.le_of_ble_eq_true rfl) (M' := M13) rfl (fun _ _ => ⟨rfl, rfl, rfl⟩) (dc tbX1_init_0_k 22 rfl) (fun H locs hC => ?_)
  have hC := hC.eqK setk_setk
  refine lv_aload_n hx hb (dc tbX1_init_0_k 23 rfl) rfl (lv_at hl 0 rfl) ?_
  refine lv_iconst (v := 0) hx hb (dc tbX1_init_0_k 24 rfl) (by decide) ?_
  obtain ⟨M15, e16, hf⟩ := bnd_s hf
  refine c_put false hx hb hts inW1 tyX1 tyX1_ok nmX1 hown hK hC hinj hin (q' := (21, 2)) (setk_s) (by simp) (by simp) (Nat.lt_of_lt_of_le hak (Nat.le_add_right _ _)) rfl rfl 7 (by decide) ⟨rfl, rfl, rfl⟩ q_t1_118 rfl (fun h => by first | rfl | cases h) (ty := .int) (by decide +kernel) rfl rfl (Nat.le_of_ble_eq_true rfl) (M' := M15) (by rw [e16, wr_s]; rfl) (by rw [e16]; exact wr_o) (dc tbX1_init_0_k 25 rfl) (fun H locs hC => ?_)
  have hC := hC.eqK setk_setk
  refine lv_aload_n hx hb (dc tbX1_init_0_k 26 rfl) rfl (lv_at hl 0 rfl) ?_
  refine lv_iconst (v := 0) hx hb (dc tbX1_init_0_k 27 rfl) (by decide) ?_
  obtain ⟨M17, e18, hf⟩ := bnd_s hf
  refine c_put false hx hb hts inW1 tyX1 tyX1_ok nmX1 hown hK hC hinj hin (q' := (21, 2)) (setk_s) (by simp) (by simp) (Nat.lt_of_lt_of_le hak (Nat.le_add_right _ _)) rfl rfl 8 (by decide) ⟨rfl, rfl, rfl⟩ q_t1_120 rfl (fun h => by first | rfl | cases h) (ty := .int) (by decide +kernel) rfl rfl (Nat.le_of_ble_eq_true rfl) (M' := M17) (by rw [e18, wr_s]; rfl) (by rw [e18]; exact wr_o) (dc tbX1_init_0_k 28 rfl) (fun H locs hC => ?_)
  have hC := hC.eqK setk_setk
  refine lv_aload_n hx hb (dc tbX1_init_0_k 29 rfl) rfl (lv_at hl 0 rfl) ?_
  refine lv_iconst (v := 0) hx hb (dc tbX1_init_0_k 30 rfl) (by decide) ?_
  obtain ⟨M19, e20, hf⟩ := bnd_s hf
  refine c_put false hx hb hts inW1 tyX1 tyX1_ok nmX1 hown hK hC hinj hin (q' := (21, 2)) (setk_s) (by simp) (by simp) (Nat.lt_of_lt_of_le hak (Nat.le_add_right _ _)) rfl rfl 9 (by decide) ⟨rfl, rfl, rfl⟩ q_t1_121 rfl (fun h => by first | rfl | cases h) (ty := .int) (by decide +kernel) rfl rfl (Nat.le_of_ble_eq_true rfl) (M' := M19) (by rw [e20, wr_s]; rfl) (by rw [e20]; exact wr_o) (dc tbX1_init_0_k 31 rfl) (fun H locs hC => ?_)
  have hC := hC.eqK setk_setk
  refine lv_aload_n hx hb (dc tbX1_init_0_k 32 rfl) rfl (lv_at hl 0 rfl) ?_
  refine lv_iconst (v := 0) hx hb (dc tbX1_init_0_k 33 rfl) (by decide) ?_
  obtain ⟨M21, e22, hf⟩ := bnd_s hf
  refine c_put false hx hb hts inW1 tyX1 tyX1_ok nmX1 hown hK hC hinj hin (q' := (21, 2)) (setk_s) (by simp) (by simp) (Nat.lt_of_lt_of_le hak (Nat.le_add_right _ _)) rfl rfl 10 (by decide) ⟨rfl, rfl, rfl⟩ q_t1_122 rfl (fun h => by first | rfl | cases h) (ty := .int) (by decide +kernel) rfl rfl (Nat.le_of_ble_eq_true rfl) (M' := M21) (by rw [e22, wr_s]; rfl) (by rw [e22]; exact wr_o) (dc tbX1_init_0_k 34 rfl) (fun H locs hC => ?_)
  have hC := hC.eqK setk_setk
  refine lv_aload_n hx hb (dc tbX1_init_0_k 35 rfl) rfl (lv_at hl 0 rfl) ?_
  refine lv_bipush (v := 8) hx hb (dc tbX1_init_0_k 36 rfl) (by decide) ?_
  obtain ⟨M23, e24, hf⟩ := bnd_s hf
  refine c_newa (ty := .int) (n := 8) hx hb rfl q_t1_74 hts hC hinj ((congrArg ad (by omega : (k0 + 3) = k0 + 1 + 2)).trans (had 2 (by omega))) ((setk_o (by omega)).trans (hB.2.2.2.1)) (hK.2 0 _ rfl).2 rfl rfl ⟨by decide, by decide⟩ (Nat.le_of_ble_eq_true rfl) ⟨Nat.le_of_ble_eq_true rfl, Nat.le_of_ble_eq_true rfl⟩ e24 dX1_init_68 (fun H hC => ?_)
  refine c_put true hx hb hts inW1 tyX1 tyX1_ok nmX1 hown hK hC hinj hin (q' := (21, 3)) (setk_s) (by simp) (by simp) (Nat.lt_of_lt_of_le hak (Nat.le_add_right _ _)) rfl rfl 11 (by decide) ⟨rfl, rfl, rfl⟩ q_t1_124 rfl (fun h => by first | rfl | cases h) (ty := (.array (.int))) (by decide +kernel) rfl rfl (Nat.le_of_ble_eq_true rfl) (M' := M23) rfl (fun _ _ => ⟨rfl, rfl, rfl⟩) (dc tbX1_init_0_k 37 rfl) (fun H locs hC => ?_)
  have hC := hC.eqK setk_setk
  refine lv_aload_n hx hb (dc tbX1_init_0_k 38 rfl) rfl (lv_at hl 0 rfl) ?_
  refine lv_bipush (v := 8) hx hb (dc tbX1_init_0_k 39 rfl) (by decide) ?_
  obtain ⟨M25, e26, hf⟩ := bnd_s hf
  refine c_newa (ty := .int) (n := 8) hx hb rfl q_t1_74 hts hC hinj ((congrArg ad (by omega : (k0 + 4) = k0 + 1 + 3)).trans (had 3 (by omega))) ((setk_o (by omega)).trans (hB.2.2.2.2.1)) (hK.2 0 _ rfl).2 rfl rfl ⟨by decide, by decide⟩ (Nat.le_of_ble_eq_true rfl) ⟨Nat.le_of_ble_eq_true rfl, Nat.le_of_ble_eq_true rfl⟩ e26 dX1_init_76 (fun H hC => ?_)
  refine c_put true hx hb hts inW1 tyX1 tyX1_ok nmX1 hown hK hC hinj hin (q' := (21, 4)) (setk_s) (by simp) (by simp) (Nat.lt_of_lt_of_le hak (Nat.le_add_right _ _)) rfl rfl 12 (by decide) ⟨rfl, rfl, rfl⟩ q_t1_125 rfl (fun h => by first | rfl | cases h) (ty := (.array (.int))) (by decide +kernel) rfl rfl (Nat.le_of_ble_eq_true rfl) (M' := M25) rfl (fun _ _ => ⟨rfl, rfl, rfl⟩) (dc tbX1_init_1_k 0 rfl) (fun H locs hC => ?_)
  have hC := hC.eqK setk_setk
  refine lv_aload_n hx hb (dc tbX1_init_1_k 1 rfl) rfl (lv_at hl 0 rfl) ?_
  refine lv_iconst (v := 0) hx hb (dc tbX1_init_1_k 2 rfl) (by decide) ?_
  obtain ⟨M27, e28, hf⟩ := bnd_s hf
  refine c_put false hx hb hts inW1 tyX1 tyX1_ok nmX1 hown hK hC hinj hin (q' := (21, 4)) (setk_s) (by simp) (by simp) (Nat.lt_of_lt_of_le hak (Nat.le_add_right _ _)) rfl rfl 13 (by decide) ⟨rfl, rfl, rfl⟩ q_t1_126 rfl (fun h => by first | rfl | cases h) (ty := .int) (by decide +kernel) rfl rfl (Nat.le_of_ble_eq_true rfl) (M' := M27) (by rw [e28, wr_s]; rfl) (by rw [e28]; exact wr_o) (dc tbX1_init_1_k 3 rfl) (fun H locs hC => ?_)
  have hC := hC.eqK setk_setk
  refine lv_aload_n hx hb (dc tbX1_init_1_k 4 rfl) rfl (lv_at hl 0 rfl) ?_
  refine lv_iconst (v := 0) hx hb (dc tbX1_init_1_k 5 rfl) (by decide) ?_
  obtain ⟨M29, e30, hf⟩ := bnd_s hf
  refine c_put false hx hb hts inW1 tyX1 tyX1_ok nmX1 hown hK hC hinj hin (q' := (21, 4)) (setk_s) (by simp) (by simp) (Nat.lt_of_lt_of_le hak (Nat.le_add_right _ _)) rfl rfl 14 (by decide) ⟨rfl, rfl, rfl⟩ q_t1_129 rfl (fun h => by first | rfl | cases h) (ty := .int) (by decide +kernel) rfl rfl (Nat.le_of_ble_eq_true rfl) (M' := M29) (by rw [e30, wr_s]; rfl) (by rw [e30]; exact wr_o) (dc tbX1_init_1_k 6 rfl) (fun H locs hC => ?_)
  have hC := hC.eqK setk_setk
  refine lv_aload_n hx hb (dc tbX1_init_1_k 7 rfl) rfl (lv_at hl 0 rfl) ?_
  refine lv_bipush (v := 8) hx hb (dc tbX1_init_1_k 8 rfl) (by decide) ?_
  obtain ⟨M31, e32, hf⟩ := bnd_s hf
  refine c_newa (ty := .int) (n := 8) hx hb rfl q_t1_74 hts hC hinj ((congrArg ad (by omega : (k0 + 5) = k0 + 1 + 4)).trans (had 4 (by omega))) ((setk_o (by omega)).trans (hB.2.2.2.2.2.1)) (hK.2 0 _ rfl).2 rfl rfl ⟨by decide, by decide⟩ (Nat.le_of_ble_eq_true rfl) ⟨Nat.le_of_ble_eq_true rfl, Nat.le_of_ble_eq_true rfl⟩ e32 dX1_init_94 (fun H hC => ?_)
  refine c_put true hx hb hts inW1 tyX1 tyX1_ok nmX1 hown hK hC hinj hin (q' := (21, 5)) (setk_s) (by simp) (by simp) (Nat.lt_of_lt_of_le hak (Nat.le_add_right _ _)) rfl rfl 15 (by decide) ⟨rfl, rfl, rfl⟩ q_t1_131 rfl (fun h => by first | rfl | cases h) (ty := (.array (.int))) (by decide +kernel) rfl rfl (Nat.le_of_ble_eq_true rfl) (M' := M31) rfl (fun _ _ => ⟨rfl, rfl, rfl⟩) (dc tbX1_init_1_k 9 rfl) (fun H locs hC => ?_)
  have hC := hC.eqK setk_setk
  refine lv_aload_n hx hb (dc tbX1_init_1_k 10 rfl) rfl (lv_at hl 0 rfl) ?_
  refine lv_bipush (v := 8) hx hb (dc tbX1_init_1_k 11 rfl) (by decide) ?_
  obtain ⟨M33, e34, hf⟩ := bnd_s hf
  refine c_newa (ty := .int) (n := 8) hx hb rfl q_t1_74 hts hC hinj ((congrArg ad (by omega : (k0 + 6) = k0 + 1 + 5)).trans (had 5 (by omega))) ((setk_o (by omega)).trans (hB.2.2.2.2.2.2.1)) (hK.2 0 _ rfl).2 rfl rfl ⟨by decide, by decide⟩ (Nat.le_of_ble_eq_true rfl) ⟨Nat.le_of_ble_eq_true rfl, Nat.le_of_ble_eq_true rfl⟩ e34 dX1_init_102 (fun H hC => ?_)
  refine c_put true hx hb hts inW1 tyX1 tyX1_ok nmX1 hown hK hC hinj hin (q' := (21, 6)) (setk_s) (by simp) (by simp) (Nat.lt_of_lt_of_le hak (Nat.le_add_right _ _)) rfl rfl 16 (by decide) ⟨rfl, rfl, rfl⟩ q_t1_133 rfl (fun h => by first | rfl | cases h) (ty := (.array (.int))) (by decide +kernel) rfl rfl (Nat.le_of_ble_eq_true rfl) (M' := M33) rfl (fun _ _ => ⟨rfl, rfl, rfl⟩) (dc tbX1_init_1_k 12 rfl) (fun H locs hC => ?_)
  have hC := hC.eqK setk_setk
  refine lv_aload_n hx hb (dc tbX1_init_1_k 13 rfl) rfl (lv_at hl 0 rfl) ?_
  refine lv_bipush (v := 8) hx hb (dc tbX1_init_1_k 14 rfl) (by decide) ?_
  obtain ⟨M35, e36, hf⟩ := bnd_s hf
  refine c_newa (ty := .int) (n := 8) hx hb rfl q_t1_74 hts hC hinj ((congrArg ad (by omega : (k0 + 7) = k0 + 1 + 6)).trans (had 6 (by omega))) ((setk_o (by omega)).trans (hB.2.2.2.2.2.2.2)) (hK.2 0 _ rfl).2 rfl rfl ⟨by decide, by decide⟩ (Nat.le_of_ble_eq_true rfl) ⟨Nat.le_of_ble_eq_true rfl, Nat.le_of_ble_eq_true rfl⟩ e36 dX1_init_110 (fun H hC => ?_)
  refine c_put true hx hb hts inW1 tyX1 tyX1_ok nmX1 hown hK hC hinj hin (q' := (21, 7)) (setk_s) (by simp) (by simp) (Nat.lt_of_lt_of_le hak (Nat.le_add_right _ _)) rfl rfl 17 (by decide) ⟨rfl, rfl, rfl⟩ q_t1_135 rfl (fun h => by first | rfl | cases h) (ty := (.array (.int))) (by decide +kernel) rfl rfl (Nat.le_of_ble_eq_true rfl) (M' := M35) rfl (fun _ _ => ⟨rfl, rfl, rfl⟩) (dc tbX1_init_1_k 15 rfl) (fun H locs hC => ?_)
  have hC := hC.eqK setk_setk
  refine lv_aload_n hx hb (dc tbX1_init_1_k 16 rfl) rfl (lv_at hl 0 rfl) ?_
  have hC := (hC.as_kind (q' := (1, 0)) setk_s (by simp) (by simp) rfl).eqK (setk_setk.trans (setk_id hB.1))
  have hkd : kPart (kdN KF ad (s.heap.size + 7)) k0 := (kPart_congr hB (fun j hj => kdN_in (ltB hak had (by omega) hj)))
  obtain ⟨M37, _, q38, hf⟩ := cal_s hf
  refine c_callV hx hb hml hown hts hK hsx hC hinj (tX1_clear l hkd q38 H.size) cv_X1_clear q_t1_81 rfl rfl ⟨Nat.le_of_ble_eq_true rfl, Nat.le_of_ble_eq_true rfl⟩ hkd.1 (by simp) rfl rfl hl.1 (Nat.le_of_ble_eq_true rfl) (dc tbX1_init_1_k 17 rfl) ⟨Nat.le_of_ble_eq_true rfl, Nat.le_of_ble_eq_true rfl⟩ (fun H locs hC => ?_)
  cases hf
  exact c_ret hx hb hr hlk hC (dc tbX1_init_1_k 18 rfl)
theorem ci_X1_init : Cond.initialized yX1_init.cls ∈ WA ∧ Cond.instanceMethod yX1_init ∈ WA ∧ Cond.code yX1_init cX1_init 1 none ∈ WA := ⟨q_t1_3, q_t1_78, q_t1_79⟩
def mX2_init (k0 : Nat) (M : Mem) : Option (Mem × Unit) := bnd (zr M (k0 + 1)) (fun M1 => bnd (zr M1 (k0 + 2)) (fun M3 => bnd (zr M3 (k0 + 3)) (fun M5 => bnd (zr M5 (k0 + 4)) (fun M7 => bnd (zr M7 (k0 + 5)) (fun M9 => bnd (zr M9 (k0 + 6)) (fun M11 => bnd (wr M11 k0 6 (0 : Int32)) (fun M13 => bnd (wr M13 k0 7 (0 : Int32)) (fun M15 => bnd (wr M15 k0 8 (0 : Int32)) (fun M17 => some (M17, ()))))))))))
set_option maxHeartbeats 4000000 in
set_option maxRecDepth 100000 in
theorem tX2_init (l : Launch) {G : GT} {KF : Nat → Nat × Nat} {ad : Nat → Nat} {N : Nat} {k0 : Nat} (hinj : ∀ i j, ad i = ad j → i = j) (hB : kPlaces KF k0) (had : ∀ j, j < 6 → ad (k0 + 1 + j) = N + j) (hak : ad k0 < N) {M MO : Mem} (hf : mX2_init k0 M = some (MO, ())) : Met l yX2_init (Cond.code yX2_init cX2_init 1 none :: WA) (rmO 0 6 54) (Pk G (setk KF k0 (22, 0)) ad N [.ref (ad k0)] M) (Qk G (setk KF k0 (22, 0)) KF ad N 6 MO) 6 54 (AS (setk KF k0 (22, 0)) ad N) := by
  refine c_body (own := RX2) (by decide) rfl rfl hinj ?_ (Nat.le_of_ble_eq_true rfl)
  intro p e s m args below meth c C hsz H ls hC hl
  subst hsz
  obtain ⟨hx, hb, hml, hr, hown, hts, hlk, hK, hsx, hex, hin, hinj⟩ := id C
  have hl : lv_has ls 1 [(0, .ref (ad k0))] := hl
  unfold mX2_init at hf
  refine lv_aload_n hx hb (dc tbX2_init_k 0 rfl) rfl (lv_at hl 0 rfl) ?_
  refine W.objInit hx hb hown (hts _ q_t1_199) (hts _ q_t1_35) (hts _ q_t1_36) rfl (by rw [hml]; exact hl.1) rfl (dc tbX2_init_k 1 rfl) (Nat.le_of_ble_eq_true rfl) (Nat.le_of_ble_eq_true rfl) ?_
  refine W.eq (g2 := F0 m 4 ls []) rfl ?_
  refine lv_aload_n hx hb (dc tbX2_init_k 2 rfl) rfl (lv_at hl 0 rfl) ?_
  refine lv_bipush (v := 9) hx hb (dc tbX2_init_k 3 rfl) (by decide) ?_
  obtain ⟨M1, e2, hf⟩ := bnd_s hf
  refine c_newa (ty := .int) (n := 9) hx hb rfl q_t1_74 hts hC hinj ((congrArg ad (by omega : (k0 + 1) = k0 + 1 + 0)).trans (had 0 (by omega))) ((setk_o (by omega)).trans (hB.2.1)) (hK.2 0 _ rfl).2 rfl rfl ⟨by decide, by decide⟩ (Nat.le_of_ble_eq_true rfl) ⟨Nat.le_of_ble_eq_true rfl, Nat.le_of_ble_eq_true rfl⟩ e2 dX2_init_7 (fun H hC => ?_)
  refine c_put true hx hb hts inW2 tyX2 tyX2_ok nmX2 hown hK hC hinj hin (q' := (22, 1)) (setk_s) (by simp) (by simp) (Nat.lt_of_lt_of_le hak (Nat.le_add_right _ _)) rfl rfl 0 (by decide) ⟨rfl, rfl, rfl⟩ q_t1_200 rfl (fun h => by first | rfl | cases h) (ty := (.array (.int))) (by decide +kernel) rfl rfl (Nat.le_of_ble_eq_true rfl) (M' := M1) rfl (fun _ _ => ⟨rfl, rfl, rfl⟩) (dc tbX2_init_k 4 rfl) (fun H locs hC => ?_)
  have hC := hC.eqK setk_setk
  refine lv_aload_n hx hb (dc tbX2_init_k 5 rfl) rfl (lv_at hl 0 rfl) ?_
  refine lv_bipush (v := 9) hx hb (dc tbX2_init_k 6 rfl) (by decide) ?_
  obtain ⟨M3, e4, hf⟩ := bnd_s hf
  refine c_newa (ty := .int) (n := 9) hx hb rfl q_t1_74 hts hC hinj ((congrArg ad (by omega : (k0 + 2) = k0 + 1 + 1)).trans (had 1 (by omega))) ((setk_o (by omega)).trans (hB.2.2.1)) (hK.2 0 _ rfl).2 rfl rfl ⟨by decide, by decide⟩ (Nat.le_of_ble_eq_true rfl) ⟨Nat.le_of_ble_eq_true rfl, Nat.le_of_ble_eq_true rfl⟩ e4 dX2_init_15 (fun H hC => ?_)
  refine c_put true hx hb hts inW2 tyX2 tyX2_ok nmX2 hown hK hC hinj hin (q' := (22, 2)) (setk_s) (by simp) (by simp) (Nat.lt_of_lt_of_le hak (Nat.le_add_right _ _)) rfl rfl 1 (by decide) ⟨rfl, rfl, rfl⟩ q_t1_202 rfl (fun h => by first | rfl | cases h) (ty := (.array (.int))) (by decide +kernel) rfl rfl (Nat.le_of_ble_eq_true rfl) (M' := M3) rfl (fun _ _ => ⟨rfl, rfl, rfl⟩) (dc tbX2_init_k 7 rfl) (fun H locs hC => ?_)
  have hC := hC.eqK setk_setk
  refine lv_aload_n hx hb (dc tbX2_init_k 8 rfl) rfl (lv_at hl 0 rfl) ?_
  refine lv_bipush (v := 9) hx hb (dc tbX2_init_k 9 rfl) (by decide) ?_
  obtain ⟨M5, e6, hf⟩ := bnd_s hf
  refine c_newa (ty := .int) (n := 9) hx hb rfl q_t1_74 hts hC hinj ((congrArg ad (by omega : (k0 + 3) = k0 + 1 + 2)).trans (had 2 (by omega))) ((setk_o (by omega)).trans (hB.2.2.2.1)) (hK.2 0 _ rfl).2 rfl rfl ⟨by decide, by decide⟩ (Nat.le_of_ble_eq_true rfl) ⟨Nat.le_of_ble_eq_true rfl, Nat.le_of_ble_eq_true rfl⟩ e6 dX2_init_23 (fun H hC => ?_)
  refine c_put true hx hb hts inW2 tyX2 tyX2_ok nmX2 hown hK hC hinj hin (q' := (22, 3)) (setk_s) (by simp) (by simp) (Nat.lt_of_lt_of_le hak (Nat.le_add_right _ _)) rfl rfl 2 (by decide) ⟨rfl, rfl, rfl⟩ q_t1_204 rfl (fun h => by first | rfl | cases h) (ty := (.array (.int))) (by decide +kernel) rfl rfl (Nat.le_of_ble_eq_true rfl) (M' := M5) rfl (fun _ _ => ⟨rfl, rfl, rfl⟩) (dc tbX2_init_k 10 rfl) (fun H locs hC => ?_)
  have hC := hC.eqK setk_setk
  refine lv_aload_n hx hb (dc tbX2_init_k 11 rfl) rfl (lv_at hl 0 rfl) ?_
  refine lv_bipush (v := 9) hx hb (dc tbX2_init_k 12 rfl) (by decide) ?_
  obtain ⟨M7, e8, hf⟩ := bnd_s hf
  refine c_newa (ty := .int) (n := 9) hx hb rfl q_t1_74 hts hC hinj ((congrArg ad (by omega : (k0 + 4) = k0 + 1 + 3)).trans (had 3 (by omega))) ((setk_o (by omega)).trans (hB.2.2.2.2.1)) (hK.2 0 _ rfl).2 rfl rfl ⟨by decide, by decide⟩ (Nat.le_of_ble_eq_true rfl) ⟨Nat.le_of_ble_eq_true rfl, Nat.le_of_ble_eq_true rfl⟩ e8 dX2_init_31 (fun H hC => ?_)
  refine c_put true hx hb hts inW2 tyX2 tyX2_ok nmX2 hown hK hC hinj hin (q' := (22, 4)) (setk_s) (by simp) (by simp) (Nat.lt_of_lt_of_le hak (Nat.le_add_right _ _)) rfl rfl 3 (by decide) ⟨rfl, rfl, rfl⟩ q_t1_205 rfl (fun h => by first | rfl | cases h) (ty := (.array (.int))) (by decide +kernel) rfl rfl (Nat.le_of_ble_eq_true rfl) (M' := M7) rfl (fun _ _ => ⟨rfl, rfl, rfl⟩) (dc tbX2_init_k 13 rfl) (fun H locs hC => ?_)
  have hC := hC.eqK setk_setk
  refine lv_aload_n hx hb (dc tbX2_init_k 14 rfl) rfl (lv_at hl 0 rfl) ?_
  refine lv_bipush (v := 9) hx hb (dc tbX2_init_k 15 rfl) (by decide) ?_
  obtain ⟨M9, e10, hf⟩ := bnd_s hf
  refine c_newa (ty := .int) (n := 9) hx hb rfl q_t1_74 hts hC hinj ((congrArg ad (by omega : (k0 + 5) = k0 + 1 + 4)).trans (had 4 (by omega))) ((setk_o (by omega)).trans (hB.2.2.2.2.2.1)) (hK.2 0 _ rfl).2 rfl rfl ⟨by decide, by decide⟩ (Nat.le_of_ble_eq_true rfl) ⟨Nat.le_of_ble_eq_true rfl, Nat.le_of_ble_eq_true rfl⟩ e10 dX2_init_39 (fun H hC => ?_)
  refine c_put true hx hb hts inW2 tyX2 tyX2_ok nmX2 hown hK hC hinj hin (q' := (22, 5)) (setk_s) (by simp) (by simp) (Nat.lt_of_lt_of_le hak (Nat.le_add_right _ _)) rfl rfl 4 (by decide) ⟨rfl, rfl, rfl⟩ q_t1_206 rfl (fun h => by first | rfl | cases h) (ty := (.array (.int))) (by decide +kernel) rfl rfl (Nat.le_of_ble_eq_true rfl) (M' := M9) rfl (fun _ _ => ⟨rfl, rfl, rfl⟩) (dc tbX2_init_k 16 rfl) (fun H locs hC => ?_)
  have hC := hC.eqK setk_setk
  refine lv_aload_n hx hb (dc tbX2_init_k 17 rfl) rfl (lv_at hl 0 rfl) ?_
  refine lv_bipush (v := 9) hx hb (dc tbX2_init_k 18 rfl) (by decide) ?_
  obtain ⟨M11, e12, hf⟩ := bnd_s hf
  refine c_newa (ty := .int) (n := 9) hx hb rfl q_t1_74 hts hC hinj ((congrArg ad (by omega : (k0 + 6) = k0 + 1 + 5)).trans (had 5 (by omega))) ((setk_o (by omega)).trans (hB.2.2.2.2.2.2)) (hK.2 0 _ rfl).2 rfl rfl ⟨by decide, by decide⟩ (Nat.le_of_ble_eq_true rfl) ⟨Nat.le_of_ble_eq_true rfl, Nat.le_of_ble_eq_true rfl⟩ e12 dX2_init_47 (fun H hC => ?_)
  refine c_put true hx hb hts inW2 tyX2 tyX2_ok nmX2 hown hK hC hinj hin (q' := (22, 6)) (setk_s) (by simp) (by simp) (Nat.lt_of_lt_of_le hak (Nat.le_add_right _ _)) rfl rfl 5 (by decide) ⟨rfl, rfl, rfl⟩ q_t1_207 rfl (fun h => by first | rfl | cases h) (ty := (.array (.int))) (by decide +kernel) rfl rfl (Nat.le_of_ble_eq_true rfl) (M' := M11) rfl (fun _ _ => ⟨rfl, rfl, rfl⟩) (dc tbX2_init_k 19 rfl) (fun H locs hC => ?_)
  have hC := hC.eqK setk_setk
  refine lv_aload_n hx hb (dc tbX2_init_k 20 rfl) rfl (lv_at hl 0 rfl) ?_
  refine lv_iconst (v := 0) hx hb (dc tbX2_init_k 21 rfl) (by decide) ?_
  obtain ⟨M13, e14, hf⟩ := bnd_s hf
  refine c_put false hx hb hts inW2 tyX2 tyX2_ok nmX2 hown hK hC hinj hin (q' := (22, 6)) (setk_s) (by simp) (by simp) (Nat.lt_of_lt_of_le hak (Nat.le_add_right _ _)) rfl rfl 6 (by decide) ⟨rfl, rfl, rfl⟩ q_t1_208 rfl (fun h => by first | rfl | cases h) (ty := .int) (by decide +kernel) rfl rfl (Nat.le_of_ble_eq_true rfl) (M' := M13) (by rw [e14, wr_s]; rfl) (by rw [e14]; exact wr_o) (dc tbX2_init_k 22 rfl) (fun H locs hC => ?_)
  have hC := hC.eqK setk_setk
  refine lv_aload_n hx hb (dc tbX2_init_k 23 rfl) rfl (lv_at hl 0 rfl) ?_
  refine lv_iconst (v := 0) hx hb (dc tbX2_init_k 24 rfl) (by decide) ?_
  obtain ⟨M15, e16, hf⟩ := bnd_s hf
  refine c_put false hx hb hts inW2 tyX2 tyX2_ok nmX2 hown hK hC hinj hin (q' := (22, 6)) (setk_s) (by simp) (by simp) (Nat.lt_of_lt_of_le hak (Nat.le_add_right _ _)) rfl rfl 7 (by decide) ⟨rfl, rfl, rfl⟩ q_t1_209 rfl (fun h => by first | rfl | cases h) (ty := .int) (by decide +kernel) rfl rfl (Nat.le_of_ble_eq_true rfl) (M' := M15) (by rw [e16, wr_s]; rfl) (by rw [e16]; exact wr_o) (dc tbX2_init_k 25 rfl) (fun H locs hC => ?_)
  have hC := hC.eqK setk_setk
  refine lv_aload_n hx hb (dc tbX2_init_k 26 rfl) rfl (lv_at hl 0 rfl) ?_
  refine lv_iconst (v := 0) hx hb (dc tbX2_init_k 27 rfl) (by decide) ?_
  obtain ⟨M17, e18, hf⟩ := bnd_s hf
  refine c_put false hx hb hts inW2 tyX2 tyX2_ok nmX2 hown hK hC hinj hin (q' := (22, 6)) (setk_s) (by simp) (by simp) (Nat.lt_of_lt_of_le hak (Nat.le_add_right _ _)) rfl rfl 8 (by decide) ⟨rfl, rfl, rfl⟩ q_t1_210 rfl (fun h => by first | rfl | cases h) (ty := .int) (by decide +kernel) rfl rfl (Nat.le_of_ble_eq_true rfl) (M' := M17) (by rw [e18, wr_s]; rfl) (by rw [e18]; exact wr_o) (dc tbX2_init_k 28 rfl) (fun H locs hC => ?_)
  have hC := hC.eqK setk_setk
  have hC := (hC.as_kind (q' := (2, 0)) setk_s (by simp) (by simp) rfl).eqK (setk_setk.trans (setk_id hB.1))
  cases hf
  exact c_ret hx hb hr hlk hC (dc tbX2_init_k 29 rfl)
theorem ci_X2_init : Cond.initialized yX2_init.cls ∈ WA ∧ Cond.instanceMethod yX2_init ∈ WA ∧ Cond.code yX2_init cX2_init 1 none ∈ WA := ⟨q_t1_5, q_t1_197, q_t1_198⟩
def mX0_init (k0 : Nat) (M : Mem) : Option (Mem × Unit) := bnd (zr M (k0 + 1)) (fun M1 => bnd (wr M1 k0 1 (0 : Int32)) (fun M3 => bnd (wr M3 k0 2 (0 : Int32)) (fun M5 => bnd (zr M5 (k0 + 2)) (fun M7 => cal (mX1_init (k0 + 2) M7) (fun M9 _ => bnd (zr M9 (k0 + 10)) (fun M11 => cal (mX1_init (k0 + 10) M11) (fun M13 _ => bnd (zr M13 (k0 + 18)) (fun M15 => cal (mX1_init (k0 + 18) M15) (fun M17 _ => bnd (zr M17 (k0 + 26)) (fun M19 => cal (mX1_init (k0 + 26) M19) (fun M21 _ => bnd (zr M21 (k0 + 34)) (fun M23 => cal (mX1_init (k0 + 34) M23) (fun M25 _ => bnd (zr M25 (k0 + 42)) (fun M27 => cal (mX1_init (k0 + 42) M27) (fun M29 _ => bnd (zr M29 (k0 + 50)) (fun M31 => cal (mX1_init (k0 + 50) M31) (fun M33 _ => bnd (zr M33 (k0 + 58)) (fun M35 => cal (mX1_init (k0 + 58) M35) (fun M37 _ => bnd (zr M37 (k0 + 66)) (fun M39 => cal (mX1_init (k0 + 66) M39) (fun M41 _ => bnd (zr M41 (k0 + 74)) (fun M43 => cal (mX1_init (k0 + 74) M43) (fun M45 _ => some (M45, ()))))))))))))))))))))))))
set_option maxHeartbeats 4000000 in
set_option maxRecDepth 100000 in
theorem tX0_init (l : Launch) {G : GT} {KF : Nat → Nat × Nat} {ad : Nat → Nat} {N : Nat} {k0 : Nat} (hinj : ∀ i j, ad i = ad j → i = j) (hB : kHist KF k0) (had : ∀ j, j < 81 → ad (k0 + 1 + j) = N + j) (hak : ad k0 < N) {M MO : Mem} (hf : mX0_init k0 M = some (MO, ())) : Met l yX0_init (Cond.code yX0_init cX0_init 2 none :: WA) (rmO 3 81 780) (Pk G (setk KF k0 (24, 0)) ad N [.ref (ad k0)] M) (Qk G (setk KF k0 (24, 0)) KF ad N 81 MO) 81 780 (AS (setk KF k0 (24, 0)) ad N) := by
  refine c_body (own := RX0) (by decide) rfl rfl hinj ?_ (Nat.le_of_ble_eq_true rfl)
  intro p e s m args below meth c C hsz H ls hC hl
  subst hsz
  obtain ⟨hx, hb, hml, hr, hown, hts, hlk, hK, hsx, hex, hin, hinj⟩ := id C
  have hl : lv_has ls 2 [(0, .ref (ad k0))] := hl
  unfold mX0_init at hf
  refine lv_aload_n hx hb (dc tbX0_init_k 0 rfl) rfl (lv_at hl 0 rfl) ?_
  refine W.objInit hx hb hown (hts _ q_t1_179) (hts _ q_t1_35) (hts _ q_t1_36) rfl (by rw [hml]; exact hl.1) rfl (dc tbX0_init_k 1 rfl) (Nat.le_of_ble_eq_true rfl) (Nat.le_of_ble_eq_true rfl) ?_
  refine W.eq (g2 := F0 m 4 ls []) rfl ?_
  refine lv_aload_n hx hb (dc tbX0_init_k 2 rfl) rfl (lv_at hl 0 rfl) ?_
  refine lv_bipush (v := 10) hx hb (dc tbX0_init_k 3 rfl) (by decide) ?_
  have hC := hC.absent (q := (28, 0)) ((congrArg ad (by omega : (k0 + 1) = k0 + 1 + 0)).trans (had 0 (by omega))) ((setk_o (by omega)).trans (hB.2.1)) (by simp) (by simp)
  obtain ⟨M1, e2, hf⟩ := bnd_s hf
  refine c_newq (n := 0) hx hb hown q_t1_180 hts hK hex.1 hC hinj ((congrArg ad (by omega : (k0 + 1) = k0 + 1 + 0)).trans (had 0 (by omega))) (setk_s) ⟨by decide, by decide⟩ ⟨Nat.le_of_ble_eq_true rfl, Nat.le_of_ble_eq_true rfl⟩ e2 (dc tbX0_init_k 4 rfl) (fun H hC => ?_)
  refine c_put true hx hb hts inW0 tyX0 tyX0_ok nmX0 hown hK hC hinj hin (q' := (24, 1)) ((setk_o (by omega)).trans (setk_s)) (by simp) (by simp) (Nat.lt_of_lt_of_le hak (Nat.le_add_right _ _)) rfl rfl 0 (by decide) ⟨rfl, rfl, rfl⟩ q_t1_183 rfl (fun h => by first | rfl | cases h) (ty := (.array (.object "SheetFolder$Part"))) (by decide +kernel) rfl rfl (Nat.le_of_ble_eq_true rfl) (M' := M1) rfl (fun _ _ => ⟨rfl, rfl, rfl⟩) (dc tbX0_init_k 5 rfl) (fun H locs hC => ?_)
  have hC := hC.eqK (setk3 (by omega))
  refine lv_aload_n hx hb (dc tbX0_init_k 6 rfl) rfl (lv_at hl 0 rfl) ?_
  refine lv_iconst (v := 0) hx hb (dc tbX0_init_k 7 rfl) (by decide) ?_
  obtain ⟨M3, e4, hf⟩ := bnd_s hf
  refine c_put false hx hb hts inW0 tyX0 tyX0_ok nmX0 hown hK hC hinj hin (q' := (24, 1)) ((setk_o (by omega)).trans (setk_s)) (by simp) (by simp) (Nat.lt_of_lt_of_le hak (Nat.le_add_right _ _)) rfl rfl 1 (by decide) ⟨rfl, rfl, rfl⟩ q_t1_184 rfl (fun h => by first | rfl | cases h) (ty := .int) (by decide +kernel) rfl rfl (Nat.le_of_ble_eq_true rfl) (M' := M3) (by rw [e4, wr_s]; rfl) (by rw [e4]; exact wr_o) (dc tbX0_init_k 8 rfl) (fun H locs hC => ?_)
  have hC := hC.eqK (setk3 (by omega))
  refine lv_aload_n hx hb (dc tbX0_init_k 9 rfl) rfl (lv_at hl 0 rfl) ?_
  refine lv_iconst (v := 0) hx hb (dc tbX0_init_k 10 rfl) (by decide) ?_
  obtain ⟨M5, e6, hf⟩ := bnd_s hf
  refine c_put false hx hb hts inW0 tyX0 tyX0_ok nmX0 hown hK hC hinj hin (q' := (24, 1)) ((setk_o (by omega)).trans (setk_s)) (by simp) (by simp) (Nat.lt_of_lt_of_le hak (Nat.le_add_right _ _)) rfl rfl 2 (by decide) ⟨rfl, rfl, rfl⟩ q_t1_185 rfl (fun h => by first | rfl | cases h) (ty := .int) (by decide +kernel) rfl rfl (Nat.le_of_ble_eq_true rfl) (M' := M5) (by rw [e6, wr_s]; rfl) (by rw [e6]; exact wr_o) (dc tbX0_init_k 11 rfl) (fun H locs hC => ?_)
  have hC := hC.eqK (setk3 (by omega))
  refine lv_iconst (v := 0) hx hb (dc tbX0_init_k 12 rfl) (by decide) ?_
  refine lv_istore_n (lv' := [(1, .int (0 : Int32)), (0, .ref (ad k0))]) hx hb (dc tbX0_init_k 13 rfl) rfl hl (by decide) rfl (fun ls hl => ?_)
  refine lv_iload_n hx hb (dc tbX0_init_k 14 rfl) rfl (lv_at hl 0 rfl) ?_
  refine lv_bipush (v := 10) hx hb (dc tbX0_init_k 15 rfl) (by decide) ?_
  refine lv_icmp_ge (tgt := 50) hx hb (dc tbX0_init_k 16 rfl) rfl (fun c => absurd c (by decide)) (fun _ => ?_)
  refine lv_aload_n hx hb (dc tbX0_init_k 17 rfl) rfl (lv_at hl 1 rfl) ?_
  refine g_get hx hb hts inW0 hown hK hC.inv ((kdN_in (Nat.lt_of_lt_of_le hak (Nat.le_add_right _ _))).trans ((setk_o (by omega)).trans (setk_s))) (by simp) rfl rfl 0 (by decide) ⟨rfl, rfl, rfl⟩ q_t1_183 rfl (dc tbX0_init_k 18 rfl) ?_
  refine lv_iload_n hx hb (dc tbX0_init_k 19 rfl) rfl (lv_at hl 0 rfl) ?_
  obtain ⟨M7, e8, hf⟩ := bnd_s hf
  refine c_new hx hb hts inW1 tyX1 tyX1_ok hown q_t1_180 q_t1_76 q_t1_3 hK hC hinj ((congrArg ad (by omega : (k0 + 2) = k0 + 1 + 1)).trans (had 1 (by omega))) ((setk_o (by omega)).trans ((setk_o (by omega)).trans ((show kPart KF (k0 + 2) from hB.2.2 0 (by omega)).1))) (q := (21, 0)) (by simp) (by simp) rfl (fs := [.int 0, .null, .int 0, .int 0, .int 0, .int 0, .null, .int 0, .int 0, .int 0, .int 0, .null, .null, .int 0, .int 0, .null, .null, .null]) rfl (by decide +kernel) ⟨Nat.le_of_ble_eq_true rfl, Nat.le_of_ble_eq_true rfl⟩ e8 (dc tbX0_init_k 20 rfl) (fun H hC => ?_)
  refine lv_dup hx hb (dc tbX0_init_k 21 rfl) rfl ?_
  obtain ⟨M9, _, q10, hf⟩ := cal_s hf
  refine c_callI hx hb hml hown hts hK hsx hex hC (nzE_set (by rw [(setk_o (by omega)).trans ((setk_o (by omega)).trans ((show kPart KF (k0 + 2) from hB.2.2 0 (by omega)).1))]; simp) (by simp)) (As := []) (tX1_init l hinj (kPart_congr (kPart_congr (show kPart KF (k0 + 2) from hB.2.2 0 (by omega)) (fun j hj => setk_o (by omega))) (fun j hj => setk_o (by omega))) (fun j hj => by have h8 := hC.2.2.1; have h9 := had (2 + j) (by omega); rw [show (k0 + 2) + 1 + j = k0 + 1 + (2 + j) by omega]; omega) (by have := hC.2.2.1; have := ((congrArg ad (by omega : (k0 + 2) = k0 + 1 + 1)).trans (had 1 (by omega))); omega) q10) ci_X1_init q_t1_182 ⟨rfl, by decide +kernel⟩ rfl rfl rfl ⟨Nat.le_of_ble_eq_true rfl, Nat.le_of_ble_eq_true rfl⟩ hl.1 rfl (Nat.le_of_ble_eq_true rfl) (dc tbX0_init_k 22 rfl) ⟨Nat.le_of_ble_eq_true rfl, Nat.le_of_ble_eq_true rfl⟩ (fun H locs hC => ?_)
  refine c_aast (i := 0) hx hb hK hC hinj (setk_s) (by have := ((congrArg ad (by omega : (k0 + 1) = k0 + 1 + 0)).trans (had 0 (by omega))); omega) ((setk_o (by omega)).trans ((setk_o (by omega)).trans ((show kPart KF (k0 + 2) from hB.2.2 0 (by omega)).1))) (by have := ((congrArg ad (by omega : (k0 + 2) = k0 + 1 + 1)).trans (had 1 (by omega))); omega) (by omega) (by decide) ⟨by decide, by decide⟩ (dc tbX0_init_k 23 rfl) (fun H locs hC => ?_)
  have hC := hC.eqK setk_setk
  refine lv_iinc (v := (1 : Int32)) (lv' := [(1, .int (1 : Int32)), (0, .ref (ad k0))]) hx hb (dc tbX0_init_k 24 rfl) hl (k := 0) rfl (by decide) (by decide) rfl (fun ls hl => ?_)
  refine lv_goto (tgt := 25) hx hb (dc tbX0_init_k 25 rfl) rfl ?_
  refine lv_iload_n hx hb (dc tbX0_init_k 14 rfl) rfl (lv_at hl 0 rfl) ?_
  refine lv_bipush (v := 10) hx hb (dc tbX0_init_k 15 rfl) (by decide) ?_
  refine lv_icmp_ge (tgt := 50) hx hb (dc tbX0_init_k 16 rfl) rfl (fun c => absurd c (by decide)) (fun _ => ?_)
  refine lv_aload_n hx hb (dc tbX0_init_k 17 rfl) rfl (lv_at hl 1 rfl) ?_
  refine g_get hx hb hts inW0 hown hK hC.inv ((kdN_in (Nat.lt_of_lt_of_le hak (Nat.le_add_right _ _))).trans ((setk_o (by omega)).trans (setk_s))) (by simp) rfl rfl 0 (by decide) ⟨rfl, rfl, rfl⟩ q_t1_183 rfl (dc tbX0_init_k 18 rfl) ?_
  refine lv_iload_n hx hb (dc tbX0_init_k 19 rfl) rfl (lv_at hl 0 rfl) ?_
  obtain ⟨M11, e12, hf⟩ := bnd_s hf
  refine c_new hx hb hts inW1 tyX1 tyX1_ok hown q_t1_180 q_t1_76 q_t1_3 hK hC hinj ((congrArg ad (by omega : (k0 + 10) = k0 + 1 + 9)).trans (had 9 (by omega))) ((setk_o (by omega)).trans ((setk_o (by omega)).trans ((show kPart KF (k0 + 10) from hB.2.2 1 (by omega)).1))) (q := (21, 0)) (by simp) (by simp) rfl (fs := [.int 0, .null, .int 0, .int 0, .int 0, .int 0, .null, .int 0, .int 0, .int 0, .int 0, .null, .null, .int 0, .int 0, .null, .null, .null]) rfl (by decide +kernel) ⟨Nat.le_of_ble_eq_true rfl, Nat.le_of_ble_eq_true rfl⟩ e12 (dc tbX0_init_k 20 rfl) (fun H hC => ?_)
  refine lv_dup hx hb (dc tbX0_init_k 21 rfl) rfl ?_
  obtain ⟨M13, _, q14, hf⟩ := cal_s hf
  refine c_callI hx hb hml hown hts hK hsx hex hC (nzE_set (by rw [(setk_o (by omega)).trans ((setk_o (by omega)).trans ((show kPart KF (k0 + 10) from hB.2.2 1 (by omega)).1))]; simp) (by simp)) (As := []) (tX1_init l hinj (kPart_congr (kPart_congr (show kPart KF (k0 + 10) from hB.2.2 1 (by omega)) (fun j hj => setk_o (by omega))) (fun j hj => setk_o (by omega))) (fun j hj => by have h8 := hC.2.2.1; have h9 := had (10 + j) (by omega); rw [show (k0 + 10) + 1 + j = k0 + 1 + (10 + j) by omega]; omega) (by have := hC.2.2.1; have := ((congrArg ad (by omega : (k0 + 10) = k0 + 1 + 9)).trans (had 9 (by omega))); omega) q14) ci_X1_init q_t1_182 ⟨rfl, by decide +kernel⟩ rfl rfl rfl ⟨Nat.le_of_ble_eq_true rfl, Nat.le_of_ble_eq_true rfl⟩ hl.1 rfl (Nat.le_of_ble_eq_true rfl) (dc tbX0_init_k 22 rfl) ⟨Nat.le_of_ble_eq_true rfl, Nat.le_of_ble_eq_true rfl⟩ (fun H locs hC => ?_)
  refine c_aast (i := 1) hx hb hK hC hinj (setk_s) (by have := ((congrArg ad (by omega : (k0 + 1) = k0 + 1 + 0)).trans (had 0 (by omega))); omega) ((setk_o (by omega)).trans ((setk_o (by omega)).trans ((show kPart KF (k0 + 10) from hB.2.2 1 (by omega)).1))) (by have := ((congrArg ad (by omega : (k0 + 10) = k0 + 1 + 9)).trans (had 9 (by omega))); omega) (by omega) (by decide) ⟨by decide, by decide⟩ (dc tbX0_init_k 23 rfl) (fun H locs hC => ?_)
  have hC := hC.eqK setk_setk
  refine lv_iinc (v := (2 : Int32)) (lv' := [(1, .int (2 : Int32)), (0, .ref (ad k0))]) hx hb (dc tbX0_init_k 24 rfl) hl (k := 0) rfl (by decide) (by decide) rfl (fun ls hl => ?_)
  refine lv_goto (tgt := 25) hx hb (dc tbX0_init_k 25 rfl) rfl ?_
  refine lv_iload_n hx hb (dc tbX0_init_k 14 rfl) rfl (lv_at hl 0 rfl) ?_
  refine lv_bipush (v := 10) hx hb (dc tbX0_init_k 15 rfl) (by decide) ?_
  refine lv_icmp_ge (tgt := 50) hx hb (dc tbX0_init_k 16 rfl) rfl (fun c => absurd c (by decide)) (fun _ => ?_)
  refine lv_aload_n hx hb (dc tbX0_init_k 17 rfl) rfl (lv_at hl 1 rfl) ?_
  refine g_get hx hb hts inW0 hown hK hC.inv ((kdN_in (Nat.lt_of_lt_of_le hak (Nat.le_add_right _ _))).trans ((setk_o (by omega)).trans (setk_s))) (by simp) rfl rfl 0 (by decide) ⟨rfl, rfl, rfl⟩ q_t1_183 rfl (dc tbX0_init_k 18 rfl) ?_
  refine lv_iload_n hx hb (dc tbX0_init_k 19 rfl) rfl (lv_at hl 0 rfl) ?_
  obtain ⟨M15, e16, hf⟩ := bnd_s hf
  refine c_new hx hb hts inW1 tyX1 tyX1_ok hown q_t1_180 q_t1_76 q_t1_3 hK hC hinj ((congrArg ad (by omega : (k0 + 18) = k0 + 1 + 17)).trans (had 17 (by omega))) ((setk_o (by omega)).trans ((setk_o (by omega)).trans ((show kPart KF (k0 + 18) from hB.2.2 2 (by omega)).1))) (q := (21, 0)) (by simp) (by simp) rfl (fs := [.int 0, .null, .int 0, .int 0, .int 0, .int 0, .null, .int 0, .int 0, .int 0, .int 0, .null, .null, .int 0, .int 0, .null, .null, .null]) rfl (by decide +kernel) ⟨Nat.le_of_ble_eq_true rfl, Nat.le_of_ble_eq_true rfl⟩ e16 (dc tbX0_init_k 20 rfl) (fun H hC => ?_)
  refine lv_dup hx hb (dc tbX0_init_k 21 rfl) rfl ?_
  obtain ⟨M17, _, q18, hf⟩ := cal_s hf
  refine c_callI hx hb hml hown hts hK hsx hex hC (nzE_set (by rw [(setk_o (by omega)).trans ((setk_o (by omega)).trans ((show kPart KF (k0 + 18) from hB.2.2 2 (by omega)).1))]; simp) (by simp)) (As := []) (tX1_init l hinj (kPart_congr (kPart_congr (show kPart KF (k0 + 18) from hB.2.2 2 (by omega)) (fun j hj => setk_o (by omega))) (fun j hj => setk_o (by omega))) (fun j hj => by have h8 := hC.2.2.1; have h9 := had (18 + j) (by omega); rw [show (k0 + 18) + 1 + j = k0 + 1 + (18 + j) by omega]; omega) (by have := hC.2.2.1; have := ((congrArg ad (by omega : (k0 + 18) = k0 + 1 + 17)).trans (had 17 (by omega))); omega) q18) ci_X1_init q_t1_182 ⟨rfl, by decide +kernel⟩ rfl rfl rfl ⟨Nat.le_of_ble_eq_true rfl, Nat.le_of_ble_eq_true rfl⟩ hl.1 rfl (Nat.le_of_ble_eq_true rfl) (dc tbX0_init_k 22 rfl) ⟨Nat.le_of_ble_eq_true rfl, Nat.le_of_ble_eq_true rfl⟩ (fun H locs hC => ?_)
  refine c_aast (i := 2) hx hb hK hC hinj (setk_s) (by have := ((congrArg ad (by omega : (k0 + 1) = k0 + 1 + 0)).trans (had 0 (by omega))); omega) ((setk_o (by omega)).trans ((setk_o (by omega)).trans ((show kPart KF (k0 + 18) from hB.2.2 2 (by omega)).1))) (by have := ((congrArg ad (by omega : (k0 + 18) = k0 + 1 + 17)).trans (had 17 (by omega))); omega) (by omega) (by decide) ⟨by decide, by decide⟩ (dc tbX0_init_k 23 rfl) (fun H locs hC => ?_)
  have hC := hC.eqK setk_setk
  refine lv_iinc (v := (3 : Int32)) (lv' := [(1, .int (3 : Int32)), (0, .ref (ad k0))]) hx hb (dc tbX0_init_k 24 rfl) hl (k := 0) rfl (by decide) (by decide) rfl (fun ls hl => ?_)
  refine lv_goto (tgt := 25) hx hb (dc tbX0_init_k 25 rfl) rfl ?_
  refine lv_iload_n hx hb (dc tbX0_init_k 14 rfl) rfl (lv_at hl 0 rfl) ?_
  refine lv_bipush (v := 10) hx hb (dc tbX0_init_k 15 rfl) (by decide) ?_
  refine lv_icmp_ge (tgt := 50) hx hb (dc tbX0_init_k 16 rfl) rfl (fun c => absurd c (by decide)) (fun _ => ?_)
  refine lv_aload_n hx hb (dc tbX0_init_k 17 rfl) rfl (lv_at hl 1 rfl) ?_
  refine g_get hx hb hts inW0 hown hK hC.inv ((kdN_in (Nat.lt_of_lt_of_le hak (Nat.le_add_right _ _))).trans ((setk_o (by omega)).trans (setk_s))) (by simp) rfl rfl 0 (by decide) ⟨rfl, rfl, rfl⟩ q_t1_183 rfl (dc tbX0_init_k 18 rfl) ?_
  refine lv_iload_n hx hb (dc tbX0_init_k 19 rfl) rfl (lv_at hl 0 rfl) ?_
  obtain ⟨M19, e20, hf⟩ := bnd_s hf
  refine c_new hx hb hts inW1 tyX1 tyX1_ok hown q_t1_180 q_t1_76 q_t1_3 hK hC hinj ((congrArg ad (by omega : (k0 + 26) = k0 + 1 + 25)).trans (had 25 (by omega))) ((setk_o (by omega)).trans ((setk_o (by omega)).trans ((show kPart KF (k0 + 26) from hB.2.2 3 (by omega)).1))) (q := (21, 0)) (by simp) (by simp) rfl (fs := [.int 0, .null, .int 0, .int 0, .int 0, .int 0, .null, .int 0, .int 0, .int 0, .int 0, .null, .null, .int 0, .int 0, .null, .null, .null]) rfl (by decide +kernel) ⟨Nat.le_of_ble_eq_true rfl, Nat.le_of_ble_eq_true rfl⟩ e20 (dc tbX0_init_k 20 rfl) (fun H hC => ?_)
  refine lv_dup hx hb (dc tbX0_init_k 21 rfl) rfl ?_
  obtain ⟨M21, _, q22, hf⟩ := cal_s hf
  refine c_callI hx hb hml hown hts hK hsx hex hC (nzE_set (by rw [(setk_o (by omega)).trans ((setk_o (by omega)).trans ((show kPart KF (k0 + 26) from hB.2.2 3 (by omega)).1))]; simp) (by simp)) (As := []) (tX1_init l hinj (kPart_congr (kPart_congr (show kPart KF (k0 + 26) from hB.2.2 3 (by omega)) (fun j hj => setk_o (by omega))) (fun j hj => setk_o (by omega))) (fun j hj => by have h8 := hC.2.2.1; have h9 := had (26 + j) (by omega); rw [show (k0 + 26) + 1 + j = k0 + 1 + (26 + j) by omega]; omega) (by have := hC.2.2.1; have := ((congrArg ad (by omega : (k0 + 26) = k0 + 1 + 25)).trans (had 25 (by omega))); omega) q22) ci_X1_init q_t1_182 ⟨rfl, by decide +kernel⟩ rfl rfl rfl ⟨Nat.le_of_ble_eq_true rfl, Nat.le_of_ble_eq_true rfl⟩ hl.1 rfl (Nat.le_of_ble_eq_true rfl) (dc tbX0_init_k 22 rfl) ⟨Nat.le_of_ble_eq_true rfl, Nat.le_of_ble_eq_true rfl⟩ (fun H locs hC => ?_)
  refine c_aast (i := 3) hx hb hK hC hinj (setk_s) (by have := ((congrArg ad (by omega : (k0 + 1) = k0 + 1 + 0)).trans (had 0 (by omega))); omega) ((setk_o (by omega)).trans ((setk_o (by omega)).trans ((show kPart KF (k0 + 26) from hB.2.2 3 (by omega)).1))) (by have := ((congrArg ad (by omega : (k0 + 26) = k0 + 1 + 25)).trans (had 25 (by omega))); omega) (by omega) (by decide) ⟨by decide, by decide⟩ (dc tbX0_init_k 23 rfl) (fun H locs hC => ?_)
  have hC := hC.eqK setk_setk
  refine lv_iinc (v := (4 : Int32)) (lv' := [(1, .int (4 : Int32)), (0, .ref (ad k0))]) hx hb (dc tbX0_init_k 24 rfl) hl (k := 0) rfl (by decide) (by decide) rfl (fun ls hl => ?_)
  refine lv_goto (tgt := 25) hx hb (dc tbX0_init_k 25 rfl) rfl ?_
  refine lv_iload_n hx hb (dc tbX0_init_k 14 rfl) rfl (lv_at hl 0 rfl) ?_
  refine lv_bipush (v := 10) hx hb (dc tbX0_init_k 15 rfl) (by decide) ?_
  refine lv_icmp_ge (tgt := 50) hx hb (dc tbX0_init_k 16 rfl) rfl (fun c => absurd c (by decide)) (fun _ => ?_)
  refine lv_aload_n hx hb (dc tbX0_init_k 17 rfl) rfl (lv_at hl 1 rfl) ?_
  refine g_get hx hb hts inW0 hown hK hC.inv ((kdN_in (Nat.lt_of_lt_of_le hak (Nat.le_add_right _ _))).trans ((setk_o (by omega)).trans (setk_s))) (by simp) rfl rfl 0 (by decide) ⟨rfl, rfl, rfl⟩ q_t1_183 rfl (dc tbX0_init_k 18 rfl) ?_
  refine lv_iload_n hx hb (dc tbX0_init_k 19 rfl) rfl (lv_at hl 0 rfl) ?_
  obtain ⟨M23, e24, hf⟩ := bnd_s hf
  refine c_new hx hb hts inW1 tyX1 tyX1_ok hown q_t1_180 q_t1_76 q_t1_3 hK hC hinj ((congrArg ad (by omega : (k0 + 34) = k0 + 1 + 33)).trans (had 33 (by omega))) ((setk_o (by omega)).trans ((setk_o (by omega)).trans ((show kPart KF (k0 + 34) from hB.2.2 4 (by omega)).1))) (q := (21, 0)) (by simp) (by simp) rfl (fs := [.int 0, .null, .int 0, .int 0, .int 0, .int 0, .null, .int 0, .int 0, .int 0, .int 0, .null, .null, .int 0, .int 0, .null, .null, .null]) rfl (by decide +kernel) ⟨Nat.le_of_ble_eq_true rfl, Nat.le_of_ble_eq_true rfl⟩ e24 (dc tbX0_init_k 20 rfl) (fun H hC => ?_)
  refine lv_dup hx hb (dc tbX0_init_k 21 rfl) rfl ?_
  obtain ⟨M25, _, q26, hf⟩ := cal_s hf
  refine c_callI hx hb hml hown hts hK hsx hex hC (nzE_set (by rw [(setk_o (by omega)).trans ((setk_o (by omega)).trans ((show kPart KF (k0 + 34) from hB.2.2 4 (by omega)).1))]; simp) (by simp)) (As := []) (tX1_init l hinj (kPart_congr (kPart_congr (show kPart KF (k0 + 34) from hB.2.2 4 (by omega)) (fun j hj => setk_o (by omega))) (fun j hj => setk_o (by omega))) (fun j hj => by have h8 := hC.2.2.1; have h9 := had (34 + j) (by omega); rw [show (k0 + 34) + 1 + j = k0 + 1 + (34 + j) by omega]; omega) (by have := hC.2.2.1; have := ((congrArg ad (by omega : (k0 + 34) = k0 + 1 + 33)).trans (had 33 (by omega))); omega) q26) ci_X1_init q_t1_182 ⟨rfl, by decide +kernel⟩ rfl rfl rfl ⟨Nat.le_of_ble_eq_true rfl, Nat.le_of_ble_eq_true rfl⟩ hl.1 rfl (Nat.le_of_ble_eq_true rfl) (dc tbX0_init_k 22 rfl) ⟨Nat.le_of_ble_eq_true rfl, Nat.le_of_ble_eq_true rfl⟩ (fun H locs hC => ?_)
  refine c_aast (i := 4) hx hb hK hC hinj (setk_s) (by have := ((congrArg ad (by omega : (k0 + 1) = k0 + 1 + 0)).trans (had 0 (by omega))); omega) ((setk_o (by omega)).trans ((setk_o (by omega)).trans ((show kPart KF (k0 + 34) from hB.2.2 4 (by omega)).1))) (by have := ((congrArg ad (by omega : (k0 + 34) = k0 + 1 + 33)).trans (had 33 (by omega))); omega) (by omega) (by decide) ⟨by decide, by decide⟩ (dc tbX0_init_k 23 rfl) (fun H locs hC => ?_)
  have hC := hC.eqK setk_setk
  refine lv_iinc (v := (5 : Int32)) (lv' := [(1, .int (5 : Int32)), (0, .ref (ad k0))]) hx hb (dc tbX0_init_k 24 rfl) hl (k := 0) rfl (by decide) (by decide) rfl (fun ls hl => ?_)
  refine lv_goto (tgt := 25) hx hb (dc tbX0_init_k 25 rfl) rfl ?_
  refine lv_iload_n hx hb (dc tbX0_init_k 14 rfl) rfl (lv_at hl 0 rfl) ?_
  refine lv_bipush (v := 10) hx hb (dc tbX0_init_k 15 rfl) (by decide) ?_
  refine lv_icmp_ge (tgt := 50) hx hb (dc tbX0_init_k 16 rfl) rfl (fun c => absurd c (by decide)) (fun _ => ?_)
  refine lv_aload_n hx hb (dc tbX0_init_k 17 rfl) rfl (lv_at hl 1 rfl) ?_
  refine g_get hx hb hts inW0 hown hK hC.inv ((kdN_in (Nat.lt_of_lt_of_le hak (Nat.le_add_right _ _))).trans ((setk_o (by omega)).trans (setk_s))) (by simp) rfl rfl 0 (by decide) ⟨rfl, rfl, rfl⟩ q_t1_183 rfl (dc tbX0_init_k 18 rfl) ?_
  refine lv_iload_n hx hb (dc tbX0_init_k 19 rfl) rfl (lv_at hl 0 rfl) ?_
  obtain ⟨M27, e28, hf⟩ := bnd_s hf
  refine c_new hx hb hts inW1 tyX1 tyX1_ok hown q_t1_180 q_t1_76 q_t1_3 hK hC hinj ((congrArg ad (by omega : (k0 + 42) = k0 + 1 + 41)).trans (had 41 (by omega))) ((setk_o (by omega)).trans ((setk_o (by omega)).trans ((show kPart KF (k0 + 42) from hB.2.2 5 (by omega)).1))) (q := (21, 0)) (by simp) (by simp) rfl (fs := [.int 0, .null, .int 0, .int 0, .int 0, .int 0, .null, .int 0, .int 0, .int 0, .int 0, .null, .null, .int 0, .int 0, .null, .null, .null]) rfl (by decide +kernel) ⟨Nat.le_of_ble_eq_true rfl, Nat.le_of_ble_eq_true rfl⟩ e28 (dc tbX0_init_k 20 rfl) (fun H hC => ?_)
  refine lv_dup hx hb (dc tbX0_init_k 21 rfl) rfl ?_
  obtain ⟨M29, _, q30, hf⟩ := cal_s hf
  refine c_callI hx hb hml hown hts hK hsx hex hC (nzE_set (by rw [(setk_o (by omega)).trans ((setk_o (by omega)).trans ((show kPart KF (k0 + 42) from hB.2.2 5 (by omega)).1))]; simp) (by simp)) (As := []) (tX1_init l hinj (kPart_congr (kPart_congr (show kPart KF (k0 + 42) from hB.2.2 5 (by omega)) (fun j hj => setk_o (by omega))) (fun j hj => setk_o (by omega))) (fun j hj => by have h8 := hC.2.2.1; have h9 := had (42 + j) (by omega); rw [show (k0 + 42) + 1 + j = k0 + 1 + (42 + j) by omega]; omega) (by have := hC.2.2.1; have := ((congrArg ad (by omega : (k0 + 42) = k0 + 1 + 41)).trans (had 41 (by omega))); omega) q30) ci_X1_init q_t1_182 ⟨rfl, by decide +kernel⟩ rfl rfl rfl ⟨Nat.le_of_ble_eq_true rfl, Nat.le_of_ble_eq_true rfl⟩ hl.1 rfl (Nat.le_of_ble_eq_true rfl) (dc tbX0_init_k 22 rfl) ⟨Nat.le_of_ble_eq_true rfl, Nat.le_of_ble_eq_true rfl⟩ (fun H locs hC => ?_)
  refine c_aast (i := 5) hx hb hK hC hinj (setk_s) (by have := ((congrArg ad (by omega : (k0 + 1) = k0 + 1 + 0)).trans (had 0 (by omega))); omega) ((setk_o (by omega)).trans ((setk_o (by omega)).trans ((show kPart KF (k0 + 42) from hB.2.2 5 (by omega)).1))) (by have := ((congrArg ad (by omega : (k0 + 42) = k0 + 1 + 41)).trans (had 41 (by omega))); omega) (by omega) (by decide) ⟨by decide, by decide⟩ (dc tbX0_init_k 23 rfl) (fun H locs hC => ?_)
  have hC := hC.eqK setk_setk
  refine lv_iinc (v := (6 : Int32)) (lv' := [(1, .int (6 : Int32)), (0, .ref (ad k0))]) hx hb (dc tbX0_init_k 24 rfl) hl (k := 0) rfl (by decide) (by decide) rfl (fun ls hl => ?_)
  refine lv_goto (tgt := 25) hx hb (dc tbX0_init_k 25 rfl) rfl ?_
  refine lv_iload_n hx hb (dc tbX0_init_k 14 rfl) rfl (lv_at hl 0 rfl) ?_
  refine lv_bipush (v := 10) hx hb (dc tbX0_init_k 15 rfl) (by decide) ?_
  refine lv_icmp_ge (tgt := 50) hx hb (dc tbX0_init_k 16 rfl) rfl (fun c => absurd c (by decide)) (fun _ => ?_)
  refine lv_aload_n hx hb (dc tbX0_init_k 17 rfl) rfl (lv_at hl 1 rfl) ?_
  refine g_get hx hb hts inW0 hown hK hC.inv ((kdN_in (Nat.lt_of_lt_of_le hak (Nat.le_add_right _ _))).trans ((setk_o (by omega)).trans (setk_s))) (by simp) rfl rfl 0 (by decide) ⟨rfl, rfl, rfl⟩ q_t1_183 rfl (dc tbX0_init_k 18 rfl) ?_
  refine lv_iload_n hx hb (dc tbX0_init_k 19 rfl) rfl (lv_at hl 0 rfl) ?_
  obtain ⟨M31, e32, hf⟩ := bnd_s hf
  refine c_new hx hb hts inW1 tyX1 tyX1_ok hown q_t1_180 q_t1_76 q_t1_3 hK hC hinj ((congrArg ad (by omega : (k0 + 50) = k0 + 1 + 49)).trans (had 49 (by omega))) ((setk_o (by omega)).trans ((setk_o (by omega)).trans ((show kPart KF (k0 + 50) from hB.2.2 6 (by omega)).1))) (q := (21, 0)) (by simp) (by simp) rfl (fs := [.int 0, .null, .int 0, .int 0, .int 0, .int 0, .null, .int 0, .int 0, .int 0, .int 0, .null, .null, .int 0, .int 0, .null, .null, .null]) rfl (by decide +kernel) ⟨Nat.le_of_ble_eq_true rfl, Nat.le_of_ble_eq_true rfl⟩ e32 (dc tbX0_init_k 20 rfl) (fun H hC => ?_)
  refine lv_dup hx hb (dc tbX0_init_k 21 rfl) rfl ?_
  obtain ⟨M33, _, q34, hf⟩ := cal_s hf
  refine c_callI hx hb hml hown hts hK hsx hex hC (nzE_set (by rw [(setk_o (by omega)).trans ((setk_o (by omega)).trans ((show kPart KF (k0 + 50) from hB.2.2 6 (by omega)).1))]; simp) (by simp)) (As := []) (tX1_init l hinj (kPart_congr (kPart_congr (show kPart KF (k0 + 50) from hB.2.2 6 (by omega)) (fun j hj => setk_o (by omega))) (fun j hj => setk_o (by omega))) (fun j hj => by have h8 := hC.2.2.1; have h9 := had (50 + j) (by omega); rw [show (k0 + 50) + 1 + j = k0 + 1 + (50 + j) by omega]; omega) (by have := hC.2.2.1; have := ((congrArg ad (by omega : (k0 + 50) = k0 + 1 + 49)).trans (had 49 (by omega))); omega) q34) ci_X1_init q_t1_182 ⟨rfl, by decide +kernel⟩ rfl rfl rfl ⟨Nat.le_of_ble_eq_true rfl, Nat.le_of_ble_eq_true rfl⟩ hl.1 rfl (Nat.le_of_ble_eq_true rfl) (dc tbX0_init_k 22 rfl) ⟨Nat.le_of_ble_eq_true rfl, Nat.le_of_ble_eq_true rfl⟩ (fun H locs hC => ?_)
  refine c_aast (i := 6) hx hb hK hC hinj (setk_s) (by have := ((congrArg ad (by omega : (k0 + 1) = k0 + 1 + 0)).trans (had 0 (by omega))); omega) ((setk_o (by omega)).trans ((setk_o (by omega)).trans ((show kPart KF (k0 + 50) from hB.2.2 6 (by omega)).1))) (by have := ((congrArg ad (by omega : (k0 + 50) = k0 + 1 + 49)).trans (had 49 (by omega))); omega) (by omega) (by decide) ⟨by decide, by decide⟩ (dc tbX0_init_k 23 rfl) (fun H locs hC => ?_)
  have hC := hC.eqK setk_setk
  refine lv_iinc (v := (7 : Int32)) (lv' := [(1, .int (7 : Int32)), (0, .ref (ad k0))]) hx hb (dc tbX0_init_k 24 rfl) hl (k := 0) rfl (by decide) (by decide) rfl (fun ls hl => ?_)
  refine lv_goto (tgt := 25) hx hb (dc tbX0_init_k 25 rfl) rfl ?_
  refine lv_iload_n hx hb (dc tbX0_init_k 14 rfl) rfl (lv_at hl 0 rfl) ?_
  refine lv_bipush (v := 10) hx hb (dc tbX0_init_k 15 rfl) (by decide) ?_
  refine lv_icmp_ge (tgt := 50) hx hb (dc tbX0_init_k 16 rfl) rfl (fun c => absurd c (by decide)) (fun _ => ?_)
  refine lv_aload_n hx hb (dc tbX0_init_k 17 rfl) rfl (lv_at hl 1 rfl) ?_
  refine g_get hx hb hts inW0 hown hK hC.inv ((kdN_in (Nat.lt_of_lt_of_le hak (Nat.le_add_right _ _))).trans ((setk_o (by omega)).trans (setk_s))) (by simp) rfl rfl 0 (by decide) ⟨rfl, rfl, rfl⟩ q_t1_183 rfl (dc tbX0_init_k 18 rfl) ?_
  refine lv_iload_n hx hb (dc tbX0_init_k 19 rfl) rfl (lv_at hl 0 rfl) ?_
  obtain ⟨M35, e36, hf⟩ := bnd_s hf
  refine c_new hx hb hts inW1 tyX1 tyX1_ok hown q_t1_180 q_t1_76 q_t1_3 hK hC hinj ((congrArg ad (by omega : (k0 + 58) = k0 + 1 + 57)).trans (had 57 (by omega))) ((setk_o (by omega)).trans ((setk_o (by omega)).trans ((show kPart KF (k0 + 58) from hB.2.2 7 (by omega)).1))) (q := (21, 0)) (by simp) (by simp) rfl (fs := [.int 0, .null, .int 0, .int 0, .int 0, .int 0, .null, .int 0, .int 0, .int 0, .int 0, .null, .null, .int 0, .int 0, .null, .null, .null]) rfl (by decide +kernel) ⟨Nat.le_of_ble_eq_true rfl, Nat.le_of_ble_eq_true rfl⟩ e36 (dc tbX0_init_k 20 rfl) (fun H hC => ?_)
  refine lv_dup hx hb (dc tbX0_init_k 21 rfl) rfl ?_
  obtain ⟨M37, _, q38, hf⟩ := cal_s hf
  refine c_callI hx hb hml hown hts hK hsx hex hC (nzE_set (by rw [(setk_o (by omega)).trans ((setk_o (by omega)).trans ((show kPart KF (k0 + 58) from hB.2.2 7 (by omega)).1))]; simp) (by simp)) (As := []) (tX1_init l hinj (kPart_congr (kPart_congr (show kPart KF (k0 + 58) from hB.2.2 7 (by omega)) (fun j hj => setk_o (by omega))) (fun j hj => setk_o (by omega))) (fun j hj => by have h8 := hC.2.2.1; have h9 := had (58 + j) (by omega); rw [show (k0 + 58) + 1 + j = k0 + 1 + (58 + j) by omega]; omega) (by have := hC.2.2.1; have := ((congrArg ad (by omega : (k0 + 58) = k0 + 1 + 57)).trans (had 57 (by omega))); omega) q38) ci_X1_init q_t1_182 ⟨rfl, by decide +kernel⟩ rfl rfl rfl ⟨Nat.le_of_ble_eq_true rfl, Nat.le_of_ble_eq_true rfl⟩ hl.1 rfl (Nat.le_of_ble_eq_true rfl) (dc tbX0_init_k 22 rfl) ⟨Nat.le_of_ble_eq_true rfl, Nat.le_of_ble_eq_true rfl⟩ (fun H locs hC => ?_)
  refine c_aast (i := 7) hx hb hK hC hinj (setk_s) (by have := ((congrArg ad (by omega : (k0 + 1) = k0 + 1 + 0)).trans (had 0 (by omega))); omega) ((setk_o (by omega)).trans ((setk_o (by omega)).trans ((show kPart KF (k0 + 58) from hB.2.2 7 (by omega)).1))) (by have := ((congrArg ad (by omega : (k0 + 58) = k0 + 1 + 57)).trans (had 57 (by omega))); omega) (by omega) (by decide) ⟨by decide, by decide⟩ (dc tbX0_init_k 23 rfl) (fun H locs hC => ?_)
  have hC := hC.eqK setk_setk
  refine lv_iinc (v := (8 : Int32)) (lv' := [(1, .int (8 : Int32)), (0, .ref (ad k0))]) hx hb (dc tbX0_init_k 24 rfl) hl (k := 0) rfl (by decide) (by decide) rfl (fun ls hl => ?_)
  refine lv_goto (tgt := 25) hx hb (dc tbX0_init_k 25 rfl) rfl ?_
  refine lv_iload_n hx hb (dc tbX0_init_k 14 rfl) rfl (lv_at hl 0 rfl) ?_
  refine lv_bipush (v := 10) hx hb (dc tbX0_init_k 15 rfl) (by decide) ?_
  refine lv_icmp_ge (tgt := 50) hx hb (dc tbX0_init_k 16 rfl) rfl (fun c => absurd c (by decide)) (fun _ => ?_)
  refine lv_aload_n hx hb (dc tbX0_init_k 17 rfl) rfl (lv_at hl 1 rfl) ?_
  refine g_get hx hb hts inW0 hown hK hC.inv ((kdN_in (Nat.lt_of_lt_of_le hak (Nat.le_add_right _ _))).trans ((setk_o (by omega)).trans (setk_s))) (by simp) rfl rfl 0 (by decide) ⟨rfl, rfl, rfl⟩ q_t1_183 rfl (dc tbX0_init_k 18 rfl) ?_
  refine lv_iload_n hx hb (dc tbX0_init_k 19 rfl) rfl (lv_at hl 0 rfl) ?_
  obtain ⟨M39, e40, hf⟩ := bnd_s hf
  refine c_new hx hb hts inW1 tyX1 tyX1_ok hown q_t1_180 q_t1_76 q_t1_3 hK hC hinj ((congrArg ad (by omega : (k0 + 66) = k0 + 1 + 65)).trans (had 65 (by omega))) ((setk_o (by omega)).trans ((setk_o (by omega)).trans ((show kPart KF (k0 + 66) from hB.2.2 8 (by omega)).1))) (q := (21, 0)) (by simp) (by simp) rfl (fs := [.int 0, .null, .int 0, .int 0, .int 0, .int 0, .null, .int 0, .int 0, .int 0, .int 0, .null, .null, .int 0, .int 0, .null, .null, .null]) rfl (by decide +kernel) ⟨Nat.le_of_ble_eq_true rfl, Nat.le_of_ble_eq_true rfl⟩ e40 (dc tbX0_init_k 20 rfl) (fun H hC => ?_)
  refine lv_dup hx hb (dc tbX0_init_k 21 rfl) rfl ?_
  obtain ⟨M41, _, q42, hf⟩ := cal_s hf
  refine c_callI hx hb hml hown hts hK hsx hex hC (nzE_set (by rw [(setk_o (by omega)).trans ((setk_o (by omega)).trans ((show kPart KF (k0 + 66) from hB.2.2 8 (by omega)).1))]; simp) (by simp)) (As := []) (tX1_init l hinj (kPart_congr (kPart_congr (show kPart KF (k0 + 66) from hB.2.2 8 (by omega)) (fun j hj => setk_o (by omega))) (fun j hj => setk_o (by omega))) (fun j hj => by have h8 := hC.2.2.1; have h9 := had (66 + j) (by omega); rw [show (k0 + 66) + 1 + j = k0 + 1 + (66 + j) by omega]; omega) (by have := hC.2.2.1; have := ((congrArg ad (by omega : (k0 + 66) = k0 + 1 + 65)).trans (had 65 (by omega))); omega) q42) ci_X1_init q_t1_182 ⟨rfl, by decide +kernel⟩ rfl rfl rfl ⟨Nat.le_of_ble_eq_true rfl, Nat.le_of_ble_eq_true rfl⟩ hl.1 rfl (Nat.le_of_ble_eq_true rfl) (dc tbX0_init_k 22 rfl) ⟨Nat.le_of_ble_eq_true rfl, Nat.le_of_ble_eq_true rfl⟩ (fun H locs hC => ?_)
  refine c_aast (i := 8) hx hb hK hC hinj (setk_s) (by have := ((congrArg ad (by omega : (k0 + 1) = k0 + 1 + 0)).trans (had 0 (by omega))); omega) ((setk_o (by omega)).trans ((setk_o (by omega)).trans ((show kPart KF (k0 + 66) from hB.2.2 8 (by omega)).1))) (by have := ((congrArg ad (by omega : (k0 + 66) = k0 + 1 + 65)).trans (had 65 (by omega))); omega) (by omega) (by decide) ⟨by decide, by decide⟩ (dc tbX0_init_k 23 rfl) (fun H locs hC => ?_)
  have hC := hC.eqK setk_setk
  refine lv_iinc (v := (9 : Int32)) (lv' := [(1, .int (9 : Int32)), (0, .ref (ad k0))]) hx hb (dc tbX0_init_k 24 rfl) hl (k := 0) rfl (by decide) (by decide) rfl (fun ls hl => ?_)
  refine lv_goto (tgt := 25) hx hb (dc tbX0_init_k 25 rfl) rfl ?_
  refine lv_iload_n hx hb (dc tbX0_init_k 14 rfl) rfl (lv_at hl 0 rfl) ?_
  refine lv_bipush (v := 10) hx hb (dc tbX0_init_k 15 rfl) (by decide) ?_
  refine lv_icmp_ge (tgt := 50) hx hb (dc tbX0_init_k 16 rfl) rfl (fun c => absurd c (by decide)) (fun _ => ?_)
  refine lv_aload_n hx hb (dc tbX0_init_k 17 rfl) rfl (lv_at hl 1 rfl) ?_
  refine g_get hx hb hts inW0 hown hK hC.inv ((kdN_in (Nat.lt_of_lt_of_le hak (Nat.le_add_right _ _))).trans ((setk_o (by omega)).trans (setk_s))) (by simp) rfl rfl 0 (by decide) ⟨rfl, rfl, rfl⟩ q_t1_183 rfl (dc tbX0_init_k 18 rfl) ?_
  refine lv_iload_n hx hb (dc tbX0_init_k 19 rfl) rfl (lv_at hl 0 rfl) ?_
  obtain ⟨M43, e44, hf⟩ := bnd_s hf
  refine c_new hx hb hts inW1 tyX1 tyX1_ok hown q_t1_180 q_t1_76 q_t1_3 hK hC hinj ((congrArg ad (by omega : (k0 + 74) = k0 + 1 + 73)).trans (had 73 (by omega))) ((setk_o (by omega)).trans ((setk_o (by omega)).trans ((show kPart KF (k0 + 74) from hB.2.2 9 (by omega)).1))) (q := (21, 0)) (by simp) (by simp) rfl (fs := [.int 0, .null, .int 0, .int 0, .int 0, .int 0, .null, .int 0, .int 0, .int 0, .int 0, .null, .null, .int 0, .int 0, .null, .null, .null]) rfl (by decide +kernel) ⟨Nat.le_of_ble_eq_true rfl, Nat.le_of_ble_eq_true rfl⟩ e44 (dc tbX0_init_k 20 rfl) (fun H hC => ?_)
  refine lv_dup hx hb (dc tbX0_init_k 21 rfl) rfl ?_
  obtain ⟨M45, _, q46, hf⟩ := cal_s hf
  refine c_callI hx hb hml hown hts hK hsx hex hC (nzE_set (by rw [(setk_o (by omega)).trans ((setk_o (by omega)).trans ((show kPart KF (k0 + 74) from hB.2.2 9 (by omega)).1))]; simp) (by simp)) (As := []) (tX1_init l hinj (kPart_congr (kPart_congr (show kPart KF (k0 + 74) from hB.2.2 9 (by omega)) (fun j hj => setk_o (by omega))) (fun j hj => setk_o (by omega))) (fun j hj => by have h8 := hC.2.2.1; have h9 := had (74 + j) (by omega); rw [show (k0 + 74) + 1 + j = k0 + 1 + (74 + j) by omega]; omega) (by have := hC.2.2.1; have := ((congrArg ad (by omega : (k0 + 74) = k0 + 1 + 73)).trans (had 73 (by omega))); omega) q46) ci_X1_init q_t1_182 ⟨rfl, by decide +kernel⟩ rfl rfl rfl ⟨Nat.le_of_ble_eq_true rfl, Nat.le_of_ble_eq_true rfl⟩ hl.1 rfl (Nat.le_of_ble_eq_true rfl) (dc tbX0_init_k 22 rfl) ⟨Nat.le_of_ble_eq_true rfl, Nat.le_of_ble_eq_true rfl⟩ (fun H locs hC => ?_)
  refine c_aast (i := 9) hx hb hK hC hinj (setk_s) (by have := ((congrArg ad (by omega : (k0 + 1) = k0 + 1 + 0)).trans (had 0 (by omega))); omega) ((setk_o (by omega)).trans ((setk_o (by omega)).trans ((show kPart KF (k0 + 74) from hB.2.2 9 (by omega)).1))) (by have := ((congrArg ad (by omega : (k0 + 74) = k0 + 1 + 73)).trans (had 73 (by omega))); omega) (by omega) (by decide) ⟨by decide, by decide⟩ (dc tbX0_init_k 23 rfl) (fun H locs hC => ?_)
  have hC := hC.eqK setk_setk
  refine lv_iinc (v := (10 : Int32)) (lv' := [(1, .int (10 : Int32)), (0, .ref (ad k0))]) hx hb (dc tbX0_init_k 24 rfl) hl (k := 0) rfl (by decide) (by decide) rfl (fun ls hl => ?_)
  refine lv_goto (tgt := 25) hx hb (dc tbX0_init_k 25 rfl) rfl ?_
  refine lv_iload_n hx hb (dc tbX0_init_k 14 rfl) rfl (lv_at hl 0 rfl) ?_
  refine lv_bipush (v := 10) hx hb (dc tbX0_init_k 15 rfl) (by decide) ?_
  refine lv_icmp_ge (tgt := 50) hx hb (dc tbX0_init_k 16 rfl) rfl (fun _ => ?_) (fun c => absurd c (by decide))
  have hC := (hC.rowfull (setk_s)).eqK (setk_setk.trans (setk_id ((setk_o (by omega)).trans (hB.2.1))))
  have hC := (hC.as_kind (q' := (4, 0)) setk_s (by simp) (by simp) rfl).eqK (setk_setk.trans (setk_id hB.1))
  cases hf
  exact c_ret hx hb hr hlk hC (dc tbX0_init_k 26 rfl)
theorem ci_X0_init : Cond.initialized yX0_init.cls ∈ WA ∧ Cond.instanceMethod yX0_init ∈ WA ∧ Cond.code yX0_init cX0_init 2 none ∈ WA := ⟨q_t1_4, q_t1_177, q_t1_178⟩
def mX3_init (k0 : Nat) (M : Mem) : Option (Mem × Unit) := bnd (wr M k0 0 (-1 : Int32)) (fun M1 => bnd (wr M1 k0 1 (-1 : Int32)) (fun M3 => bnd (zr M3 (k0 + 1)) (fun M5 => bnd (wr M5 k0 3 (-1 : Int32)) (fun M7 => bnd (zr M7 (k0 + 2)) (fun M9 => cal (mX2_init (k0 + 2) M9) (fun M11 _ => bnd (zr M11 (k0 + 9)) (fun M13 => cal (mX1_init (k0 + 9) M13) (fun M15 _ => bnd (wr M15 k0 6 (0 : Int32)) (fun M17 => bnd (zr M17 (k0 + 17)) (fun M19 => bnd (zr M19 (k0 + 18)) (fun M21 => bnd (zr M21 (k0 + 19)) (fun M23 => bnd (zr M23 (k0 + 20)) (fun M25 => bnd (zr M25 (k0 + 21)) (fun M27 => bnd (zr M27 (k0 + 22)) (fun M29 => cal (mX3_forgetSteps k0 M29) (fun M31 _ => some (M31, ())))))))))))))))))
set_option maxHeartbeats 4000000 in
set_option maxRecDepth 100000 in
theorem tX3_init (l : Launch) {G : GT} {KF : Nat → Nat × Nat} {ad : Nat → Nat} {N : Nat} {k0 : Nat} (hinj : ∀ i j, ad i = ad j → i = j) (hB : kPlanner KF k0) (had : ∀ j, j < 22 → ad (k0 + 1 + j) = N + j) (hak : ad k0 < N) {M MO : Mem} (hf : mX3_init k0 M = some (MO, ())) : Met l yX3_init (Cond.code yX3_init cX3_init 1 none :: WA) (rmO 3 22 13204) (Pk G (setk KF k0 (23, 0)) ad N [.ref (ad k0)] M) (Qk G (setk KF k0 (23, 0)) KF ad N 22 MO) 22 13204 (AS (setk KF k0 (23, 0)) ad N) := by
  refine c_body (own := RX3) (by decide) rfl rfl hinj ?_ (Nat.le_of_ble_eq_true rfl)
  intro p e s m args below meth c C hsz H ls hC hl
  subst hsz
  obtain ⟨hx, hb, hml, hr, hown, hts, hlk, hK, hsx, hex, hin, hinj⟩ := id C
  have hl : lv_has ls 1 [(0, .ref (ad k0))] := hl
  unfold mX3_init at hf
  refine lv_aload_n hx hb (dc tbX3_init_0_k 0 rfl) rfl (lv_at hl 0 rfl) ?_
  refine W.objInit hx hb hown (hts _ q_t1_235) (hts _ q_t1_35) (hts _ q_t1_36) rfl (by rw [hml]; exact hl.1) rfl (dc tbX3_init_0_k 1 rfl) (Nat.le_of_ble_eq_true rfl) (Nat.le_of_ble_eq_true rfl) ?_
  refine W.eq (g2 := F0 m 4 ls []) rfl ?_
  refine lv_aload_n hx hb (dc tbX3_init_0_k 2 rfl) rfl (lv_at hl 0 rfl) ?_
  refine lv_iconst (v := -1) hx hb (dc tbX3_init_0_k 3 rfl) (by decide) ?_
  obtain ⟨M1, e2, hf⟩ := bnd_s hf
  refine c_put false hx hb hts inW3 tyX3 tyX3_ok nmX3 hown hK hC hinj hin (q' := (23, 0)) (setk_s) (by simp) (by simp) (Nat.lt_of_lt_of_le hak (Nat.le_add_right _ _)) rfl rfl 0 (by decide) ⟨rfl, rfl, rfl⟩ q_t2_4 rfl (fun h => by first | rfl | cases h) (ty := .int) (by decide +kernel) rfl rfl (Nat.le_of_ble_eq_true rfl) (M' := M1) (by rw [e2, wr_s]; rfl) (by rw [e2]; exact wr_o) (dc tbX3_init_0_k 4 rfl) (fun H locs hC => ?_)
  have hC := hC.eqK setk_setk
  refine lv_aload_n hx hb (dc tbX3_init_0_k 5 rfl) rfl (lv_at hl 0 rfl) ?_
  refine lv_iconst (v := -1) hx hb (dc tbX3_init_0_k 6 rfl) (by decide) ?_
  obtain ⟨M3, e4, hf⟩ := bnd_s hf
  refine c_put false hx hb hts inW3 tyX3 tyX3_ok nmX3 hown hK hC hinj hin (q' := (23, 0)) (setk_s) (by simp) (by simp) (Nat.lt_of_lt_of_le hak (Nat.le_add_right _ _)) rfl rfl 1 (by decide) ⟨rfl, rfl, rfl⟩ q_t2_6 rfl (fun h => by first | rfl | cases h) (ty := .int) (by decide +kernel) rfl rfl (Nat.le_of_ble_eq_true rfl) (M' := M3) (by rw [e4, wr_s]; rfl) (by rw [e4]; exact wr_o) (dc tbX3_init_0_k 7 rfl) (fun H locs hC => ?_)
  have hC := hC.eqK setk_setk
  refine lv_aload_n hx hb (dc tbX3_init_0_k 8 rfl) rfl (lv_at hl 0 rfl) ?_
  refine lv_bipush (v := 8) hx hb (dc tbX3_init_0_k 9 rfl) (by decide) ?_
  obtain ⟨M5, e6, hf⟩ := bnd_s hf
  refine c_newa (ty := .int) (n := 8) hx hb rfl q_t1_74 hts hC hinj ((congrArg ad (by omega : (k0 + 1) = k0 + 1 + 0)).trans (had 0 (by omega))) ((setk_o (by omega)).trans (hB.2.1)) (hK.2 0 _ rfl).2 rfl rfl ⟨by decide, by decide⟩ (Nat.le_of_ble_eq_true rfl) ⟨Nat.le_of_ble_eq_true rfl, Nat.le_of_ble_eq_true rfl⟩ e6 dX3_init_17 (fun H hC => ?_)
  refine c_put true hx hb hts inW3 tyX3 tyX3_ok nmX3 hown hK hC hinj hin (q' := (23, 1)) (setk_s) (by simp) (by simp) (Nat.lt_of_lt_of_le hak (Nat.le_add_right _ _)) rfl rfl 2 (by decide) ⟨rfl, rfl, rfl⟩ q_t2_8 rfl (fun h => by first | rfl | cases h) (ty := (.array (.int))) (by decide +kernel) rfl rfl (Nat.le_of_ble_eq_true rfl) (M' := M5) rfl (fun _ _ => ⟨rfl, rfl, rfl⟩) (dc tbX3_init_0_k 10 rfl) (fun H locs hC => ?_)
  have hC := hC.eqK setk_setk
  refine lv_aload_n hx hb (dc tbX3_init_0_k 11 rfl) rfl (lv_at hl 0 rfl) ?_
  refine lv_iconst (v := -1) hx hb (dc tbX3_init_0_k 12 rfl) (by decide) ?_
  obtain ⟨M7, e8, hf⟩ := bnd_s hf
  refine c_put false hx hb hts inW3 tyX3 tyX3_ok nmX3 hown hK hC hinj hin (q' := (23, 1)) (setk_s) (by simp) (by simp) (Nat.lt_of_lt_of_le hak (Nat.le_add_right _ _)) rfl rfl 3 (by decide) ⟨rfl, rfl, rfl⟩ q_t2_10 rfl (fun h => by first | rfl | cases h) (ty := .int) (by decide +kernel) rfl rfl (Nat.le_of_ble_eq_true rfl) (M' := M7) (by rw [e8, wr_s]; rfl) (by rw [e8]; exact wr_o) (dc tbX3_init_0_k 13 rfl) (fun H locs hC => ?_)
  have hC := hC.eqK setk_setk
  refine lv_aload_n hx hb (dc tbX3_init_0_k 14 rfl) rfl (lv_at hl 0 rfl) ?_
  obtain ⟨M9, e10, hf⟩ := bnd_s hf
  refine c_new hx hb hts inW2 tyX2 tyX2_ok hown q_t1_236 q_t1_195 q_t1_5 hK hC hinj ((congrArg ad (by omega : (k0 + 2) = k0 + 1 + 1)).trans (had 1 (by omega))) ((setk_o (by omega)).trans (hB.2.2.1.1)) (q := (22, 0)) (by simp) (by simp) rfl (fs := [.null, .null, .null, .null, .null, .null, .int 0, .int 0, .int 0]) rfl (by decide +kernel) ⟨Nat.le_of_ble_eq_true rfl, Nat.le_of_ble_eq_true rfl⟩ e10 (dc tbX3_init_0_k 15 rfl) (fun H hC => ?_)
  refine lv_dup hx hb (dc tbX3_init_0_k 16 rfl) rfl ?_
  obtain ⟨M11, _, q12, hf⟩ := cal_s hf
  refine c_callIN hx hb hml hown hts hK hsx hex hC (nzE_set (by rw [(setk_o (by omega)).trans (hB.2.2.1.1)]; simp) (by simp)) (As := []) (tX2_init l hinj (kPlaces_congr hB.2.2.1 (fun j hj => setk_o (by omega))) (fun j hj => by have h8 := hC.2.2.1; have h9 := had (2 + j) (by omega); rw [show (k0 + 2) + 1 + j = k0 + 1 + (2 + j) by omega]; omega) (by have := hC.2.2.1; have := ((congrArg ad (by omega : (k0 + 2) = k0 + 1 + 1)).trans (had 1 (by omega))); omega) q12) ci_X2_init (by decide +kernel) ⟨rfl, by decide +kernel⟩ rfl rfl rfl ⟨Nat.le_of_ble_eq_true rfl, Nat.le_of_ble_eq_true rfl⟩ hl.1 rfl (Nat.le_of_ble_eq_true rfl) (dc tbX3_init_0_k 17 rfl) ⟨Nat.le_of_ble_eq_true rfl, Nat.le_of_ble_eq_true rfl⟩ (fun H locs hC => ?_)
  refine c_put true hx hb hts inW3 tyX3 tyX3_ok nmX3 hown hK hC hinj hin (q' := (23, 2)) (setk_s) (by simp) (by simp) (Nat.lt_of_lt_of_le hak (Nat.le_add_right _ _)) rfl rfl 4 (by decide) ⟨rfl, rfl, rfl⟩ q_t2_12 rfl (fun h => by first | rfl | cases h) (ty := (.object "SheetFolder$Places")) (by decide +kernel) rfl rfl (Nat.le_of_ble_eq_true rfl) (M' := M11) rfl (fun _ _ => ⟨rfl, rfl, rfl⟩) (dc tbX3_init_0_k 18 rfl) (fun H locs hC => ?_)
  have hC := hC.eqK setk_setk
  refine lv_aload_n hx hb (dc tbX3_init_0_k 19 rfl) rfl (lv_at hl 0 rfl) ?_
  obtain ⟨M13, e14, hf⟩ := bnd_s hf
  refine c_new hx hb hts inW1 tyX1 tyX1_ok hown q_t1_238 q_t1_76 q_t1_3 hK hC hinj ((congrArg ad (by omega : (k0 + 9) = k0 + 1 + 8)).trans (had 8 (by omega))) ((setk_o (by omega)).trans (hB.2.2.2.1.1)) (q := (21, 0)) (by simp) (by simp) rfl (fs := [.int 0, .null, .int 0, .int 0, .int 0, .int 0, .null, .int 0, .int 0, .int 0, .int 0, .null, .null, .int 0, .int 0, .null, .null, .null]) rfl (by decide +kernel) ⟨Nat.le_of_ble_eq_true rfl, Nat.le_of_ble_eq_true rfl⟩ e14 (dc tbX3_init_0_k 20 rfl) (fun H hC => ?_)
  refine lv_dup hx hb (dc tbX3_init_0_k 21 rfl) rfl ?_
  obtain ⟨M15, _, q16, hf⟩ := cal_s hf
  refine c_callI hx hb hml hown hts hK hsx hex hC (nzE_set (by rw [(setk_o (by omega)).trans (hB.2.2.2.1.1)]; simp) (by simp)) (As := []) (tX1_init l hinj (kPart_congr hB.2.2.2.1 (fun j hj => setk_o (by omega))) (fun j hj => by have h8 := hC.2.2.1; have h9 := had (9 + j) (by omega); rw [show (k0 + 9) + 1 + j = k0 + 1 + (9 + j) by omega]; omega) (by have := hC.2.2.1; have := ((congrArg ad (by omega : (k0 + 9) = k0 + 1 + 8)).trans (had 8 (by omega))); omega) q16) ci_X1_init q_t1_239 ⟨rfl, by decide +kernel⟩ rfl rfl rfl ⟨Nat.le_of_ble_eq_true rfl, Nat.le_of_ble_eq_true rfl⟩ hl.1 rfl (Nat.le_of_ble_eq_true rfl) (dc tbX3_init_0_k 22 rfl) ⟨Nat.le_of_ble_eq_true rfl, Nat.le_of_ble_eq_true rfl⟩ (fun H locs hC => ?_)
  refine c_put true hx hb hts inW3 tyX3 tyX3_ok nmX3 hown hK hC hinj hin (q' := (23, 3)) (setk_s) (by simp) (by simp) (Nat.lt_of_lt_of_le hak (Nat.le_add_right _ _)) rfl rfl 5 (by decide) ⟨rfl, rfl, rfl⟩ q_t2_13 rfl (fun h => by first | rfl | cases h) (ty := (.object "SheetFolder$Part")) (by decide +kernel) rfl rfl (Nat.le_of_ble_eq_true rfl) (M' := M15) rfl (fun _ _ => ⟨rfl, rfl, rfl⟩) (dc tbX3_init_0_k 23 rfl) (fun H locs hC => ?_)
  have hC := hC.eqK setk_setk
  refine lv_aload_n hx hb (dc tbX3_init_0_k 24 rfl) rfl (lv_at hl 0 rfl) ?_
  refine lv_iconst (v := 0) hx hb (dc tbX3_init_0_k 25 rfl) (by decide) ?_
  obtain ⟨M17, e18, hf⟩ := bnd_s hf
  refine c_put false hx hb hts inW3 tyX3 tyX3_ok nmX3 hown hK hC hinj hin (q' := (23, 3)) (setk_s) (by simp) (by simp) (Nat.lt_of_lt_of_le hak (Nat.le_add_right _ _)) rfl rfl 6 (by decide) ⟨rfl, rfl, rfl⟩ q_t2_14 rfl (fun h => by first | rfl | cases h) (ty := .boolean) (by decide +kernel) rfl rfl (Nat.le_of_ble_eq_true rfl) (M' := M17) (by rw [e18, wr_s]; rfl) (by rw [e18]; exact wr_o) (dc tbX3_init_0_k 26 rfl) (fun H locs hC => ?_)
  have hC := hC.eqK setk_setk
  refine lv_aload_n hx hb (dc tbX3_init_0_k 27 rfl) rfl (lv_at hl 0 rfl) ?_
  refine lv_sipush (v := 256) hx hb (dc tbX3_init_0_k 28 rfl) (by decide) ?_
  obtain ⟨M19, e20, hf⟩ := bnd_s hf
  refine c_newa (ty := .int) (n := 256) hx hb rfl q_t1_74 hts hC hinj ((congrArg ad (by omega : (k0 + 17) = k0 + 1 + 16)).trans (had 16 (by omega))) ((setk_o (by omega)).trans (hB.2.2.2.2.1)) (hK.2 0 _ rfl).2 rfl rfl ⟨by decide, by decide⟩ (Nat.le_of_ble_eq_true rfl) ⟨Nat.le_of_ble_eq_true rfl, Nat.le_of_ble_eq_true rfl⟩ e20 dX3_init_58 (fun H hC => ?_)
  refine c_put true hx hb hts inW3 tyX3 tyX3_ok nmX3 hown hK hC hinj hin (q' := (23, 4)) (setk_s) (by simp) (by simp) (Nat.lt_of_lt_of_le hak (Nat.le_add_right _ _)) rfl rfl 7 (by decide) ⟨rfl, rfl, rfl⟩ q_t2_15 rfl (fun h => by first | rfl | cases h) (ty := (.array (.int))) (by decide +kernel) rfl rfl (Nat.le_of_ble_eq_true rfl) (M' := M19) rfl (fun _ _ => ⟨rfl, rfl, rfl⟩) (dc tbX3_init_0_k 29 rfl) (fun H locs hC => ?_)
  have hC := hC.eqK setk_setk
  refine lv_aload_n hx hb (dc tbX3_init_0_k 30 rfl) rfl (lv_at hl 0 rfl) ?_
  refine lv_sipush (v := 256) hx hb (dc tbX3_init_0_k 31 rfl) (by decide) ?_
  obtain ⟨M21, e22, hf⟩ := bnd_s hf
  refine c_newa (ty := .boolean) (n := 256) hx hb rfl q_t2_48 hts hC hinj ((congrArg ad (by omega : (k0 + 18) = k0 + 1 + 17)).trans (had 17 (by omega))) ((setk_o (by omega)).trans (hB.2.2.2.2.2.1)) (hK.2 2 _ rfl).2 rfl rfl ⟨by decide, by decide⟩ (Nat.le_of_ble_eq_true rfl) ⟨Nat.le_of_ble_eq_true rfl, Nat.le_of_ble_eq_true rfl⟩ e22 dX3_init_67 (fun H hC => ?_)
  refine c_put true hx hb hts inW3 tyX3 tyX3_ok nmX3 hown hK hC hinj hin (q' := (23, 5)) (setk_s) (by simp) (by simp) (Nat.lt_of_lt_of_le hak (Nat.le_add_right _ _)) rfl rfl 8 (by decide) ⟨rfl, rfl, rfl⟩ q_t2_16 rfl (fun h => by first | rfl | cases h) (ty := (.array (.boolean))) (by decide +kernel) rfl rfl (Nat.le_of_ble_eq_true rfl) (M' := M21) rfl (fun _ _ => ⟨rfl, rfl, rfl⟩) (dc tbX3_init_0_k 32 rfl) (fun H locs hC => ?_)
  have hC := hC.eqK setk_setk
  refine lv_aload_n hx hb (dc tbX3_init_0_k 33 rfl) rfl (lv_at hl 0 rfl) ?_
  refine lv_sipush (v := 256) hx hb (dc tbX3_init_0_k 34 rfl) (by decide) ?_
  obtain ⟨M23, e24, hf⟩ := bnd_s hf
  refine c_newa (ty := .long) (n := 256) hx hb rfl q_t2_49 hts hC hinj ((congrArg ad (by omega : (k0 + 19) = k0 + 1 + 18)).trans (had 18 (by omega))) ((setk_o (by omega)).trans (hB.2.2.2.2.2.2.1)) (hK.2 3 _ rfl).2 rfl rfl ⟨by decide, by decide⟩ (Nat.le_of_ble_eq_true rfl) ⟨Nat.le_of_ble_eq_true rfl, Nat.le_of_ble_eq_true rfl⟩ e24 dX3_init_76 (fun H hC => ?_)
  refine c_put true hx hb hts inW3 tyX3 tyX3_ok nmX3 hown hK hC hinj hin (q' := (23, 6)) (setk_s) (by simp) (by simp) (Nat.lt_of_lt_of_le hak (Nat.le_add_right _ _)) rfl rfl 9 (by decide) ⟨rfl, rfl, rfl⟩ q_t2_17 rfl (fun h => by first | rfl | cases h) (ty := (.array (.long))) (by decide +kernel) rfl rfl (Nat.le_of_ble_eq_true rfl) (M' := M23) rfl (fun _ _ => ⟨rfl, rfl, rfl⟩) (dc tbX3_init_0_k 35 rfl) (fun H locs hC => ?_)
  have hC := hC.eqK setk_setk
  refine lv_aload_n hx hb (dc tbX3_init_0_k 36 rfl) rfl (lv_at hl 0 rfl) ?_
  refine lv_sipush (v := 4096) hx hb (dc tbX3_init_0_k 37 rfl) (by decide) ?_
  obtain ⟨M25, e26, hf⟩ := bnd_s hf
  refine c_newa (ty := .int) (n := 4096) hx hb rfl q_t1_74 hts hC hinj ((congrArg ad (by omega : (k0 + 20) = k0 + 1 + 19)).trans (had 19 (by omega))) ((setk_o (by omega)).trans (hB.2.2.2.2.2.2.2.1)) (hK.2 0 _ rfl).2 rfl rfl ⟨by decide, by decide⟩ (Nat.le_of_ble_eq_true rfl) ⟨Nat.le_of_ble_eq_true rfl, Nat.le_of_ble_eq_true rfl⟩ e26 dX3_init_85 (fun H hC => ?_)
  refine c_put true hx hb hts inW3 tyX3 tyX3_ok nmX3 hown hK hC hinj hin (q' := (23, 7)) (setk_s) (by simp) (by simp) (Nat.lt_of_lt_of_le hak (Nat.le_add_right _ _)) rfl rfl 10 (by decide) ⟨rfl, rfl, rfl⟩ q_t2_18 rfl (fun h => by first | rfl | cases h) (ty := (.array (.int))) (by decide +kernel) rfl rfl (Nat.le_of_ble_eq_true rfl) (M' := M25) rfl (fun _ _ => ⟨rfl, rfl, rfl⟩) (dc tbX3_init_0_k 38 rfl) (fun H locs hC => ?_)
  have hC := hC.eqK setk_setk
  refine lv_aload_n hx hb (dc tbX3_init_0_k 39 rfl) rfl (lv_at hl 0 rfl) ?_
  refine lv_sipush (v := 4096) hx hb (dc tbX3_init_1_k 0 rfl) (by decide) ?_
  obtain ⟨M27, e28, hf⟩ := bnd_s hf
  refine c_newa (ty := .int) (n := 4096) hx hb rfl q_t1_74 hts hC hinj ((congrArg ad (by omega : (k0 + 21) = k0 + 1 + 20)).trans (had 20 (by omega))) ((setk_o (by omega)).trans (hB.2.2.2.2.2.2.2.2.1)) (hK.2 0 _ rfl).2 rfl rfl ⟨by decide, by decide⟩ (Nat.le_of_ble_eq_true rfl) ⟨Nat.le_of_ble_eq_true rfl, Nat.le_of_ble_eq_true rfl⟩ e28 dX3_init_94 (fun H hC => ?_)
  refine c_put true hx hb hts inW3 tyX3 tyX3_ok nmX3 hown hK hC hinj hin (q' := (23, 8)) (setk_s) (by simp) (by simp) (Nat.lt_of_lt_of_le hak (Nat.le_add_right _ _)) rfl rfl 11 (by decide) ⟨rfl, rfl, rfl⟩ q_t2_19 rfl (fun h => by first | rfl | cases h) (ty := (.array (.int))) (by decide +kernel) rfl rfl (Nat.le_of_ble_eq_true rfl) (M' := M27) rfl (fun _ _ => ⟨rfl, rfl, rfl⟩) (dc tbX3_init_1_k 1 rfl) (fun H locs hC => ?_)
  have hC := hC.eqK setk_setk
  refine lv_aload_n hx hb (dc tbX3_init_1_k 2 rfl) rfl (lv_at hl 0 rfl) ?_
  refine lv_sipush (v := 4096) hx hb (dc tbX3_init_1_k 3 rfl) (by decide) ?_
  obtain ⟨M29, e30, hf⟩ := bnd_s hf
  refine c_newa (ty := .int) (n := 4096) hx hb rfl q_t1_74 hts hC hinj ((congrArg ad (by omega : (k0 + 22) = k0 + 1 + 21)).trans (had 21 (by omega))) ((setk_o (by omega)).trans (hB.2.2.2.2.2.2.2.2.2)) (hK.2 0 _ rfl).2 rfl rfl ⟨by decide, by decide⟩ (Nat.le_of_ble_eq_true rfl) ⟨Nat.le_of_ble_eq_true rfl, Nat.le_of_ble_eq_true rfl⟩ e30 dX3_init_103 (fun H hC => ?_)
  refine c_put true hx hb hts inW3 tyX3 tyX3_ok nmX3 hown hK hC hinj hin (q' := (23, 9)) (setk_s) (by simp) (by simp) (Nat.lt_of_lt_of_le hak (Nat.le_add_right _ _)) rfl rfl 12 (by decide) ⟨rfl, rfl, rfl⟩ q_t2_20 rfl (fun h => by first | rfl | cases h) (ty := (.array (.int))) (by decide +kernel) rfl rfl (Nat.le_of_ble_eq_true rfl) (M' := M29) rfl (fun _ _ => ⟨rfl, rfl, rfl⟩) (dc tbX3_init_1_k 4 rfl) (fun H locs hC => ?_)
  have hC := hC.eqK setk_setk
  refine lv_aload_n hx hb (dc tbX3_init_1_k 5 rfl) rfl (lv_at hl 0 rfl) ?_
  have hC := (hC.as_kind (q' := (3, 0)) setk_s (by simp) (by simp) rfl).eqK (setk_setk.trans (setk_id hB.1))
  have hkd : kPlanner (kdN KF ad (s.heap.size + 22)) k0 := (kPlanner_congr hB (fun j hj => kdN_in (ltB hak had (by omega) hj)))
  obtain ⟨M31, _, q32, hf⟩ := cal_s hf
  refine c_callV hx hb hml hown hts hK hsx hC hinj (tX3_forgetSteps l hkd q32 H.size) cv_X3_forgetSteps q_t2_0 rfl rfl ⟨Nat.le_of_ble_eq_true rfl, Nat.le_of_ble_eq_true rfl⟩ hkd.1 (by simp) rfl rfl hl.1 (Nat.le_of_ble_eq_true rfl) (dc tbX3_init_1_k 6 rfl) ⟨Nat.le_of_ble_eq_true rfl, Nat.le_of_ble_eq_true rfl⟩ (fun H locs hC => ?_)
  cases hf
  exact c_ret hx hb hr hlk hC (dc tbX3_init_1_k 7 rfl)
theorem ci_X3_init : Cond.initialized yX3_init.cls ∈ WA ∧ Cond.instanceMethod yX3_init ∈ WA ∧ Cond.code yX3_init cX3_init 1 none ∈ WA := ⟨q_t1_6, q_t1_233, q_t1_234⟩
def mX7_init (k0 : Nat) (M : Mem) : Option (Mem × Unit) := bnd (zr M (k0 + 1)) (fun M1 => bnd (zr M1 (k0 + 2)) (fun M3 => bnd (zr M3 (k0 + 3)) (fun M5 => bnd (zr M5 (k0 + 4)) (fun M7 => bnd (zr M7 (k0 + 5)) (fun M9 => bnd (wr M9 k0 9 (-1 : Int32)) (fun M11 => bnd (zr M11 (k0 + 6)) (fun M13 => bnd (zr M13 (k0 + 7)) (fun M15 => bnd (zr M15 (k0 + 8)) (fun M17 => bnd (zr M17 (k0 + 9)) (fun M19 => bnd (zr M19 (k0 + 10)) (fun M21 => bnd (zr M21 (k0 + 11)) (fun M23 => bnd (zr M23 (k0 + 12)) (fun M25 => bnd (zr M25 (k0 + 13)) (fun M27 => bnd (zr M27 (k0 + 14)) (fun M29 => bnd (zr M29 (k0 + 15)) (fun M31 => bnd (zr M31 (k0 + 16)) (fun M33 => cal (mX7_reset k0 M33) (fun M35 _ => cal (mX7_copy (k0 + 2) (k0 + 1) M35) (fun M37 _ => some (M37, ()))))))))))))))))))))
set_option maxHeartbeats 4000000 in
set_option maxRecDepth 100000 in
theorem tX7_init (l : Launch) {G : GT} {KF : Nat → Nat × Nat} {ad : Nat → Nat} {N : Nat} {k0 : Nat} (hinj : ∀ i j, ad i = ad j → i = j) (hB : kModel KF k0) (had : ∀ j, j < 16 → ad (k0 + 1 + j) = N + j) (hak : ad k0 < N) {M MO : Mem} (hf : mX7_init k0 M = some (MO, ())) : Met l yX7_init (Cond.code yX7_init cX7_init 1 none :: WA) (rmO 2 16 19282) (Pk G (setk KF k0 (27, 0)) ad N [.ref (ad k0)] M) (Qk G (setk KF k0 (27, 0)) KF ad N 16 MO) 16 19282 (AS (setk KF k0 (27, 0)) ad N) := by
  refine c_body (own := RX7) (by decide) rfl rfl hinj ?_ (Nat.le_of_ble_eq_true rfl)
  intro p e s m args below meth c C hsz H ls hC hl
  subst hsz
  obtain ⟨hx, hb, hml, hr, hown, hts, hlk, hK, hsx, hex, hin, hinj⟩ := id C
  have hl : lv_has ls 1 [(0, .ref (ad k0))] := hl
  unfold mX7_init at hf
  refine lv_aload_n hx hb (dc tbX7_init_0_k 0 rfl) rfl (lv_at hl 0 rfl) ?_
  refine W.objInit hx hb hown (hts _ q_t7_64) (hts _ q_t1_35) (hts _ q_t1_36) rfl (by rw [hml]; exact hl.1) rfl (dc tbX7_init_0_k 1 rfl) (Nat.le_of_ble_eq_true rfl) (Nat.le_of_ble_eq_true rfl) ?_
  refine W.eq (g2 := F0 m 4 ls []) rfl ?_
  refine lv_aload_n hx hb (dc tbX7_init_0_k 2 rfl) rfl (lv_at hl 0 rfl) ?_
  refine lv_bipush (v := 86) hx hb (dc tbX7_init_0_k 3 rfl) (by decide) ?_
  obtain ⟨M1, e2, hf⟩ := bnd_s hf
  refine c_newa (ty := .int) (n := 86) hx hb rfl q_t1_74 hts hC hinj ((congrArg ad (by omega : (k0 + 1) = k0 + 1 + 0)).trans (had 0 (by omega))) ((setk_o (by omega)).trans (hB.2.1)) (hK.2 0 _ rfl).2 rfl rfl ⟨by decide, by decide⟩ (Nat.le_of_ble_eq_true rfl) ⟨Nat.le_of_ble_eq_true rfl, Nat.le_of_ble_eq_true rfl⟩ e2 dX7_init_7 (fun H hC => ?_)
  refine c_put true hx hb hts inW7 tyX7 tyX7_ok nmX7 hown hK hC hinj hin (q' := (27, 1)) (setk_s) (by simp) (by simp) (Nat.lt_of_lt_of_le hak (Nat.le_add_right _ _)) rfl rfl 0 (by decide) ⟨rfl, rfl, rfl⟩ q_t7_76 rfl (fun h => by first | rfl | cases h) (ty := (.array (.int))) (by decide +kernel) rfl rfl (Nat.le_of_ble_eq_true rfl) (M' := M1) rfl (fun _ _ => ⟨rfl, rfl, rfl⟩) (dc tbX7_init_0_k 4 rfl) (fun H locs hC => ?_)
  have hC := hC.eqK setk_setk
  refine lv_aload_n hx hb (dc tbX7_init_0_k 5 rfl) rfl (lv_at hl 0 rfl) ?_
  refine lv_bipush (v := 86) hx hb (dc tbX7_init_0_k 6 rfl) (by decide) ?_
  obtain ⟨M3, e4, hf⟩ := bnd_s hf
  refine c_newa (ty := .int) (n := 86) hx hb rfl q_t1_74 hts hC hinj ((congrArg ad (by omega : (k0 + 2) = k0 + 1 + 1)).trans (had 1 (by omega))) ((setk_o (by omega)).trans (hB.2.2.1)) (hK.2 0 _ rfl).2 rfl rfl ⟨by decide, by decide⟩ (Nat.le_of_ble_eq_true rfl) ⟨Nat.le_of_ble_eq_true rfl, Nat.le_of_ble_eq_true rfl⟩ e4 dX7_init_15 (fun H hC => ?_)
  refine c_put true hx hb hts inW7 tyX7 tyX7_ok nmX7 hown hK hC hinj hin (q' := (27, 2)) (setk_s) (by simp) (by simp) (Nat.lt_of_lt_of_le hak (Nat.le_add_right _ _)) rfl rfl 1 (by decide) ⟨rfl, rfl, rfl⟩ q_t7_77 rfl (fun h => by first | rfl | cases h) (ty := (.array (.int))) (by decide +kernel) rfl rfl (Nat.le_of_ble_eq_true rfl) (M' := M3) rfl (fun _ _ => ⟨rfl, rfl, rfl⟩) (dc tbX7_init_0_k 7 rfl) (fun H locs hC => ?_)
  have hC := hC.eqK setk_setk
  refine lv_aload_n hx hb (dc tbX7_init_0_k 8 rfl) rfl (lv_at hl 0 rfl) ?_
  refine lv_bipush (v := 86) hx hb (dc tbX7_init_0_k 9 rfl) (by decide) ?_
  obtain ⟨M5, e6, hf⟩ := bnd_s hf
  refine c_newa (ty := .int) (n := 86) hx hb rfl q_t1_74 hts hC hinj ((congrArg ad (by omega : (k0 + 3) = k0 + 1 + 2)).trans (had 2 (by omega))) ((setk_o (by omega)).trans (hB.2.2.2.1)) (hK.2 0 _ rfl).2 rfl rfl ⟨by decide, by decide⟩ (Nat.le_of_ble_eq_true rfl) ⟨Nat.le_of_ble_eq_true rfl, Nat.le_of_ble_eq_true rfl⟩ e6 dX7_init_23 (fun H hC => ?_)
  refine c_put true hx hb hts inW7 tyX7 tyX7_ok nmX7 hown hK hC hinj hin (q' := (27, 3)) (setk_s) (by simp) (by simp) (Nat.lt_of_lt_of_le hak (Nat.le_add_right _ _)) rfl rfl 2 (by decide) ⟨rfl, rfl, rfl⟩ q_t7_78 rfl (fun h => by first | rfl | cases h) (ty := (.array (.int))) (by decide +kernel) rfl rfl (Nat.le_of_ble_eq_true rfl) (M' := M5) rfl (fun _ _ => ⟨rfl, rfl, rfl⟩) (dc tbX7_init_0_k 10 rfl) (fun H locs hC => ?_)
  have hC := hC.eqK setk_setk
  refine lv_aload_n hx hb (dc tbX7_init_0_k 11 rfl) rfl (lv_at hl 0 rfl) ?_
  refine lv_sipush (v := 860) hx hb (dc tbX7_init_0_k 12 rfl) (by decide) ?_
  obtain ⟨M7, e8, hf⟩ := bnd_s hf
  refine c_newa (ty := .int) (n := 860) hx hb rfl q_t1_74 hts hC hinj ((congrArg ad (by omega : (k0 + 4) = k0 + 1 + 3)).trans (had 3 (by omega))) ((setk_o (by omega)).trans (hB.2.2.2.2.1)) (hK.2 0 _ rfl).2 rfl rfl ⟨by decide, by decide⟩ (Nat.le_of_ble_eq_true rfl) ⟨Nat.le_of_ble_eq_true rfl, Nat.le_of_ble_eq_true rfl⟩ e8 dX7_init_32 (fun H hC => ?_)
  refine c_put true hx hb hts inW7 tyX7 tyX7_ok nmX7 hown hK hC hinj hin (q' := (27, 4)) (setk_s) (by simp) (by simp) (Nat.lt_of_lt_of_le hak (Nat.le_add_right _ _)) rfl rfl 3 (by decide) ⟨rfl, rfl, rfl⟩ q_t7_79 rfl (fun h => by first | rfl | cases h) (ty := (.array (.int))) (by decide +kernel) rfl rfl (Nat.le_of_ble_eq_true rfl) (M' := M7) rfl (fun _ _ => ⟨rfl, rfl, rfl⟩) (dc tbX7_init_0_k 13 rfl) (fun H locs hC => ?_)
  have hC := hC.eqK setk_setk
  refine lv_aload_n hx hb (dc tbX7_init_0_k 14 rfl) rfl (lv_at hl 0 rfl) ?_
  refine lv_sipush (v := 600) hx hb (dc tbX7_init_0_k 15 rfl) (by decide) ?_
  obtain ⟨M9, e10, hf⟩ := bnd_s hf
  refine c_newa (ty := .int) (n := 600) hx hb rfl q_t1_74 hts hC hinj ((congrArg ad (by omega : (k0 + 5) = k0 + 1 + 4)).trans (had 4 (by omega))) ((setk_o (by omega)).trans (hB.2.2.2.2.2.1)) (hK.2 0 _ rfl).2 rfl rfl ⟨by decide, by decide⟩ (Nat.le_of_ble_eq_true rfl) ⟨Nat.le_of_ble_eq_true rfl, Nat.le_of_ble_eq_true rfl⟩ e10 dX7_init_41 (fun H hC => ?_)
  refine c_put true hx hb hts inW7 tyX7 tyX7_ok nmX7 hown hK hC hinj hin (q' := (27, 5)) (setk_s) (by simp) (by simp) (Nat.lt_of_lt_of_le hak (Nat.le_add_right _ _)) rfl rfl 6 (by decide) ⟨rfl, rfl, rfl⟩ q_t7_82 rfl (fun h => by first | rfl | cases h) (ty := (.array (.int))) (by decide +kernel) rfl rfl (Nat.le_of_ble_eq_true rfl) (M' := M9) rfl (fun _ _ => ⟨rfl, rfl, rfl⟩) (dc tbX7_init_0_k 16 rfl) (fun H locs hC => ?_)
  have hC := hC.eqK setk_setk
  refine lv_aload_n hx hb (dc tbX7_init_0_k 17 rfl) rfl (lv_at hl 0 rfl) ?_
  refine lv_iconst (v := -1) hx hb (dc tbX7_init_0_k 18 rfl) (by decide) ?_
  obtain ⟨M11, e12, hf⟩ := bnd_s hf
  refine c_put false hx hb hts inW7 tyX7 tyX7_ok nmX7 hown hK hC hinj hin (q' := (27, 5)) (setk_s) (by simp) (by simp) (Nat.lt_of_lt_of_le hak (Nat.le_add_right _ _)) rfl rfl 9 (by decide) ⟨rfl, rfl, rfl⟩ q_t7_85 rfl (fun h => by first | rfl | cases h) (ty := .int) (by decide +kernel) rfl rfl (Nat.le_of_ble_eq_true rfl) (M' := M11) (by rw [e12, wr_s]; rfl) (by rw [e12]; exact wr_o) (dc tbX7_init_0_k 19 rfl) (fun H locs hC => ?_)
  have hC := hC.eqK setk_setk
  refine lv_aload_n hx hb (dc tbX7_init_0_k 20 rfl) rfl (lv_at hl 0 rfl) ?_
  refine lv_bipush (v := 9) hx hb (dc tbX7_init_0_k 21 rfl) (by decide) ?_
  obtain ⟨M13, e14, hf⟩ := bnd_s hf
  refine c_newa (ty := .int) (n := 9) hx hb rfl q_t1_74 hts hC hinj ((congrArg ad (by omega : (k0 + 6) = k0 + 1 + 5)).trans (had 5 (by omega))) ((setk_o (by omega)).trans (hB.2.2.2.2.2.2.1)) (hK.2 0 _ rfl).2 rfl rfl ⟨by decide, by decide⟩ (Nat.le_of_ble_eq_true rfl) ⟨Nat.le_of_ble_eq_true rfl, Nat.le_of_ble_eq_true rfl⟩ e14 dX7_init_54 (fun H hC => ?_)
  refine c_put true hx hb hts inW7 tyX7 tyX7_ok nmX7 hown hK hC hinj hin (q' := (27, 6)) (setk_s) (by simp) (by simp) (Nat.lt_of_lt_of_le hak (Nat.le_add_right _ _)) rfl rfl 17 (by decide) ⟨rfl, rfl, rfl⟩ q_t7_93 rfl (fun h => by first | rfl | cases h) (ty := (.array (.int))) (by decide +kernel) rfl rfl (Nat.le_of_ble_eq_true rfl) (M' := M13) rfl (fun _ _ => ⟨rfl, rfl, rfl⟩) (dc tbX7_init_0_k 22 rfl) (fun H locs hC => ?_)
  have hC := hC.eqK setk_setk
  refine lv_aload_n hx hb (dc tbX7_init_0_k 23 rfl) rfl (lv_at hl 0 rfl) ?_
  refine lv_bipush (v := 9) hx hb (dc tbX7_init_0_k 24 rfl) (by decide) ?_
  obtain ⟨M15, e16, hf⟩ := bnd_s hf
  refine c_newa (ty := .int) (n := 9) hx hb rfl q_t1_74 hts hC hinj ((congrArg ad (by omega : (k0 + 7) = k0 + 1 + 6)).trans (had 6 (by omega))) ((setk_o (by omega)).trans (hB.2.2.2.2.2.2.2.1)) (hK.2 0 _ rfl).2 rfl rfl ⟨by decide, by decide⟩ (Nat.le_of_ble_eq_true rfl) ⟨Nat.le_of_ble_eq_true rfl, Nat.le_of_ble_eq_true rfl⟩ e16 dX7_init_62 (fun H hC => ?_)
  refine c_put true hx hb hts inW7 tyX7 tyX7_ok nmX7 hown hK hC hinj hin (q' := (27, 7)) (setk_s) (by simp) (by simp) (Nat.lt_of_lt_of_le hak (Nat.le_add_right _ _)) rfl rfl 18 (by decide) ⟨rfl, rfl, rfl⟩ q_t7_94 rfl (fun h => by first | rfl | cases h) (ty := (.array (.int))) (by decide +kernel) rfl rfl (Nat.le_of_ble_eq_true rfl) (M' := M15) rfl (fun _ _ => ⟨rfl, rfl, rfl⟩) (dc tbX7_init_0_k 25 rfl) (fun H locs hC => ?_)
  have hC := hC.eqK setk_setk
  refine lv_aload_n hx hb (dc tbX7_init_0_k 26 rfl) rfl (lv_at hl 0 rfl) ?_
  refine lv_bipush (v := 9) hx hb (dc tbX7_init_0_k 27 rfl) (by decide) ?_
  obtain ⟨M17, e18, hf⟩ := bnd_s hf
  refine c_newa (ty := .int) (n := 9) hx hb rfl q_t1_74 hts hC hinj ((congrArg ad (by omega : (k0 + 8) = k0 + 1 + 7)).trans (had 7 (by omega))) ((setk_o (by omega)).trans (hB.2.2.2.2.2.2.2.2.1)) (hK.2 0 _ rfl).2 rfl rfl ⟨by decide, by decide⟩ (Nat.le_of_ble_eq_true rfl) ⟨Nat.le_of_ble_eq_true rfl, Nat.le_of_ble_eq_true rfl⟩ e18 dX7_init_70 (fun H hC => ?_)
  refine c_put true hx hb hts inW7 tyX7 tyX7_ok nmX7 hown hK hC hinj hin (q' := (27, 8)) (setk_s) (by simp) (by simp) (Nat.lt_of_lt_of_le hak (Nat.le_add_right _ _)) rfl rfl 19 (by decide) ⟨rfl, rfl, rfl⟩ q_t7_95 rfl (fun h => by first | rfl | cases h) (ty := (.array (.int))) (by decide +kernel) rfl rfl (Nat.le_of_ble_eq_true rfl) (M' := M17) rfl (fun _ _ => ⟨rfl, rfl, rfl⟩) (dc tbX7_init_0_k 28 rfl) (fun H locs hC => ?_)
  have hC := hC.eqK setk_setk
  refine lv_aload_n hx hb (dc tbX7_init_0_k 29 rfl) rfl (lv_at hl 0 rfl) ?_
  refine lv_bipush (v := 9) hx hb (dc tbX7_init_0_k 30 rfl) (by decide) ?_
  obtain ⟨M19, e20, hf⟩ := bnd_s hf
  refine c_newa (ty := .int) (n := 9) hx hb rfl q_t1_74 hts hC hinj ((congrArg ad (by omega : (k0 + 9) = k0 + 1 + 8)).trans (had 8 (by omega))) ((setk_o (by omega)).trans (hB.2.2.2.2.2.2.2.2.2.1)) (hK.2 0 _ rfl).2 rfl rfl ⟨by decide, by decide⟩ (Nat.le_of_ble_eq_true rfl) ⟨Nat.le_of_ble_eq_true rfl, Nat.le_of_ble_eq_true rfl⟩ e20 dX7_init_78 (fun H hC => ?_)
  refine c_put true hx hb hts inW7 tyX7 tyX7_ok nmX7 hown hK hC hinj hin (q' := (27, 9)) (setk_s) (by simp) (by simp) (Nat.lt_of_lt_of_le hak (Nat.le_add_right _ _)) rfl rfl 20 (by decide) ⟨rfl, rfl, rfl⟩ q_t7_96 rfl (fun h => by first | rfl | cases h) (ty := (.array (.int))) (by decide +kernel) rfl rfl (Nat.le_of_ble_eq_true rfl) (M' := M19) rfl (fun _ _ => ⟨rfl, rfl, rfl⟩) (dc tbX7_init_0_k 31 rfl) (fun H locs hC => ?_)
  have hC := hC.eqK setk_setk
  refine lv_aload_n hx hb (dc tbX7_init_0_k 32 rfl) rfl (lv_at hl 0 rfl) ?_
  refine lv_sipush (v := 4096) hx hb (dc tbX7_init_0_k 33 rfl) (by decide) ?_
  obtain ⟨M21, e22, hf⟩ := bnd_s hf
  refine c_newa (ty := .boolean) (n := 4096) hx hb rfl q_t2_48 hts hC hinj ((congrArg ad (by omega : (k0 + 10) = k0 + 1 + 9)).trans (had 9 (by omega))) ((setk_o (by omega)).trans (hB.2.2.2.2.2.2.2.2.2.2.1)) (hK.2 2 _ rfl).2 rfl rfl ⟨by decide, by decide⟩ (Nat.le_of_ble_eq_true rfl) ⟨Nat.le_of_ble_eq_true rfl, Nat.le_of_ble_eq_true rfl⟩ e22 dX7_init_87 (fun H hC => ?_)
  refine c_put true hx hb hts inW7 tyX7 tyX7_ok nmX7 hown hK hC hinj hin (q' := (27, 10)) (setk_s) (by simp) (by simp) (Nat.lt_of_lt_of_le hak (Nat.le_add_right _ _)) rfl rfl 23 (by decide) ⟨rfl, rfl, rfl⟩ q_t7_99 rfl (fun h => by first | rfl | cases h) (ty := (.array (.boolean))) (by decide +kernel) rfl rfl (Nat.le_of_ble_eq_true rfl) (M' := M21) rfl (fun _ _ => ⟨rfl, rfl, rfl⟩) (dc tbX7_init_0_k 34 rfl) (fun H locs hC => ?_)
  have hC := hC.eqK setk_setk
  refine lv_aload_n hx hb (dc tbX7_init_0_k 35 rfl) rfl (lv_at hl 0 rfl) ?_
  refine lv_sipush (v := 4096) hx hb (dc tbX7_init_0_k 36 rfl) (by decide) ?_
  obtain ⟨M23, e24, hf⟩ := bnd_s hf
  refine c_newa (ty := .int) (n := 4096) hx hb rfl q_t1_74 hts hC hinj ((congrArg ad (by omega : (k0 + 11) = k0 + 1 + 10)).trans (had 10 (by omega))) ((setk_o (by omega)).trans (hB.2.2.2.2.2.2.2.2.2.2.2.1)) (hK.2 0 _ rfl).2 rfl rfl ⟨by decide, by decide⟩ (Nat.le_of_ble_eq_true rfl) ⟨Nat.le_of_ble_eq_true rfl, Nat.le_of_ble_eq_true rfl⟩ e24 dX7_init_96 (fun H hC => ?_)
  refine c_put true hx hb hts inW7 tyX7 tyX7_ok nmX7 hown hK hC hinj hin (q' := (27, 11)) (setk_s) (by simp) (by simp) (Nat.lt_of_lt_of_le hak (Nat.le_add_right _ _)) rfl rfl 24 (by decide) ⟨rfl, rfl, rfl⟩ q_t7_100 rfl (fun h => by first | rfl | cases h) (ty := (.array (.int))) (by decide +kernel) rfl rfl (Nat.le_of_ble_eq_true rfl) (M' := M23) rfl (fun _ _ => ⟨rfl, rfl, rfl⟩) (dc tbX7_init_0_k 37 rfl) (fun H locs hC => ?_)
  have hC := hC.eqK setk_setk
  refine lv_aload_n hx hb (dc tbX7_init_0_k 38 rfl) rfl (lv_at hl 0 rfl) ?_
  refine lv_sipush (v := 256) hx hb (dc tbX7_init_0_k 39 rfl) (by decide) ?_
  obtain ⟨M25, e26, hf⟩ := bnd_s hf
  refine c_newa (ty := .long) (n := 256) hx hb rfl q_t2_49 hts hC hinj ((congrArg ad (by omega : (k0 + 12) = k0 + 1 + 11)).trans (had 11 (by omega))) ((setk_o (by omega)).trans (hB.2.2.2.2.2.2.2.2.2.2.2.2.1)) (hK.2 3 _ rfl).2 rfl rfl ⟨by decide, by decide⟩ (Nat.le_of_ble_eq_true rfl) ⟨Nat.le_of_ble_eq_true rfl, Nat.le_of_ble_eq_true rfl⟩ e26 dX7_init_105 (fun H hC => ?_)
  refine c_put true hx hb hts inW7 tyX7 tyX7_ok nmX7 hown hK hC hinj hin (q' := (27, 12)) (setk_s) (by simp) (by simp) (Nat.lt_of_lt_of_le hak (Nat.le_add_right _ _)) rfl rfl 25 (by decide) ⟨rfl, rfl, rfl⟩ q_t7_101 rfl (fun h => by first | rfl | cases h) (ty := (.array (.long))) (by decide +kernel) rfl rfl (Nat.le_of_ble_eq_true rfl) (M' := M25) rfl (fun _ _ => ⟨rfl, rfl, rfl⟩) (dc tbX7_init_1_k 0 rfl) (fun H locs hC => ?_)
  have hC := hC.eqK setk_setk
  refine lv_aload_n hx hb (dc tbX7_init_1_k 1 rfl) rfl (lv_at hl 0 rfl) ?_
  refine lv_sipush (v := 4352) hx hb (dc tbX7_init_1_k 2 rfl) (by decide) ?_
  obtain ⟨M27, e28, hf⟩ := bnd_s hf
  refine c_newa (ty := .int) (n := 4352) hx hb rfl q_t1_74 hts hC hinj ((congrArg ad (by omega : (k0 + 13) = k0 + 1 + 12)).trans (had 12 (by omega))) ((setk_o (by omega)).trans (hB.2.2.2.2.2.2.2.2.2.2.2.2.2.1)) (hK.2 0 _ rfl).2 rfl rfl ⟨by decide, by decide⟩ (Nat.le_of_ble_eq_true rfl) ⟨Nat.le_of_ble_eq_true rfl, Nat.le_of_ble_eq_true rfl⟩ e28 dX7_init_114 (fun H hC => ?_)
  refine c_put true hx hb hts inW7 tyX7 tyX7_ok nmX7 hown hK hC hinj hin (q' := (27, 13)) (setk_s) (by simp) (by simp) (Nat.lt_of_lt_of_le hak (Nat.le_add_right _ _)) rfl rfl 26 (by decide) ⟨rfl, rfl, rfl⟩ q_t7_102 rfl (fun h => by first | rfl | cases h) (ty := (.array (.int))) (by decide +kernel) rfl rfl (Nat.le_of_ble_eq_true rfl) (M' := M27) rfl (fun _ _ => ⟨rfl, rfl, rfl⟩) (dc tbX7_init_1_k 3 rfl) (fun H locs hC => ?_)
  have hC := hC.eqK setk_setk
  refine lv_aload_n hx hb (dc tbX7_init_1_k 4 rfl) rfl (lv_at hl 0 rfl) ?_
  refine lv_sipush (v := 4352) hx hb (dc tbX7_init_1_k 5 rfl) (by decide) ?_
  obtain ⟨M29, e30, hf⟩ := bnd_s hf
  refine c_newa (ty := .int) (n := 4352) hx hb rfl q_t1_74 hts hC hinj ((congrArg ad (by omega : (k0 + 14) = k0 + 1 + 13)).trans (had 13 (by omega))) ((setk_o (by omega)).trans (hB.2.2.2.2.2.2.2.2.2.2.2.2.2.2.1)) (hK.2 0 _ rfl).2 rfl rfl ⟨by decide, by decide⟩ (Nat.le_of_ble_eq_true rfl) ⟨Nat.le_of_ble_eq_true rfl, Nat.le_of_ble_eq_true rfl⟩ e30 dX7_init_123 (fun H hC => ?_)
  refine c_put true hx hb hts inW7 tyX7 tyX7_ok nmX7 hown hK hC hinj hin (q' := (27, 14)) (setk_s) (by simp) (by simp) (Nat.lt_of_lt_of_le hak (Nat.le_add_right _ _)) rfl rfl 27 (by decide) ⟨rfl, rfl, rfl⟩ q_t7_103 rfl (fun h => by first | rfl | cases h) (ty := (.array (.int))) (by decide +kernel) rfl rfl (Nat.le_of_ble_eq_true rfl) (M' := M29) rfl (fun _ _ => ⟨rfl, rfl, rfl⟩) (dc tbX7_init_1_k 6 rfl) (fun H locs hC => ?_)
  have hC := hC.eqK setk_setk
  refine lv_aload_n hx hb (dc tbX7_init_1_k 7 rfl) rfl (lv_at hl 0 rfl) ?_
  refine lv_sipush (v := 256) hx hb (dc tbX7_init_1_k 8 rfl) (by decide) ?_
  obtain ⟨M31, e32, hf⟩ := bnd_s hf
  refine c_newa (ty := .boolean) (n := 256) hx hb rfl q_t2_48 hts hC hinj ((congrArg ad (by omega : (k0 + 15) = k0 + 1 + 14)).trans (had 14 (by omega))) ((setk_o (by omega)).trans (hB.2.2.2.2.2.2.2.2.2.2.2.2.2.2.2.1)) (hK.2 2 _ rfl).2 rfl rfl ⟨by decide, by decide⟩ (Nat.le_of_ble_eq_true rfl) ⟨Nat.le_of_ble_eq_true rfl, Nat.le_of_ble_eq_true rfl⟩ e32 dX7_init_132 (fun H hC => ?_)
  refine c_put true hx hb hts inW7 tyX7 tyX7_ok nmX7 hown hK hC hinj hin (q' := (27, 15)) (setk_s) (by simp) (by simp) (Nat.lt_of_lt_of_le hak (Nat.le_add_right _ _)) rfl rfl 28 (by decide) ⟨rfl, rfl, rfl⟩ q_t7_104 rfl (fun h => by first | rfl | cases h) (ty := (.array (.boolean))) (by decide +kernel) rfl rfl (Nat.le_of_ble_eq_true rfl) (M' := M31) rfl (fun _ _ => ⟨rfl, rfl, rfl⟩) (dc tbX7_init_1_k 9 rfl) (fun H locs hC => ?_)
  have hC := hC.eqK setk_setk
  refine lv_aload_n hx hb (dc tbX7_init_1_k 10 rfl) rfl (lv_at hl 0 rfl) ?_
  refine lv_bipush (v := 120) hx hb (dc tbX7_init_1_k 11 rfl) (by decide) ?_
  obtain ⟨M33, e34, hf⟩ := bnd_s hf
  refine c_newa (ty := .int) (n := 120) hx hb rfl q_t1_74 hts hC hinj ((congrArg ad (by omega : (k0 + 16) = k0 + 1 + 15)).trans (had 15 (by omega))) ((setk_o (by omega)).trans (hB.2.2.2.2.2.2.2.2.2.2.2.2.2.2.2.2)) (hK.2 0 _ rfl).2 rfl rfl ⟨by decide, by decide⟩ (Nat.le_of_ble_eq_true rfl) ⟨Nat.le_of_ble_eq_true rfl, Nat.le_of_ble_eq_true rfl⟩ e34 dX7_init_140 (fun H hC => ?_)
  refine c_put true hx hb hts inW7 tyX7 tyX7_ok nmX7 hown hK hC hinj hin (q' := (27, 16)) (setk_s) (by simp) (by simp) (Nat.lt_of_lt_of_le hak (Nat.le_add_right _ _)) rfl rfl 29 (by decide) ⟨rfl, rfl, rfl⟩ q_t7_105 rfl (fun h => by first | rfl | cases h) (ty := (.array (.int))) (by decide +kernel) rfl rfl (Nat.le_of_ble_eq_true rfl) (M' := M33) rfl (fun _ _ => ⟨rfl, rfl, rfl⟩) (dc tbX7_init_1_k 12 rfl) (fun H locs hC => ?_)
  have hC := hC.eqK setk_setk
  refine lv_aload_n hx hb (dc tbX7_init_1_k 13 rfl) rfl (lv_at hl 0 rfl) ?_
  have hC := (hC.as_kind (q' := (7, 0)) setk_s (by simp) (by simp) rfl).eqK (setk_setk.trans (setk_id hB.1))
  have hkd : kModel (kdN KF ad (s.heap.size + 16)) k0 := (kModel_congr hB (fun j hj => kdN_in (ltB hak had (by omega) hj)))
  obtain ⟨M35, _, q36, hf⟩ := cal_s hf
  refine c_callV hx hb hml hown hts hK hsx hC hinj (tX7_reset l hkd q36 H.size) cv_X7_reset q_t7_65 rfl rfl ⟨Nat.le_of_ble_eq_true rfl, Nat.le_of_ble_eq_true rfl⟩ hkd.1 (by simp) rfl rfl hl.1 (Nat.le_of_ble_eq_true rfl) (dc tbX7_init_1_k 14 rfl) ⟨Nat.le_of_ble_eq_true rfl, Nat.le_of_ble_eq_true rfl⟩ (fun H locs hC => ?_)
  refine lv_aload_n hx hb (dc tbX7_init_1_k 15 rfl) rfl (lv_at hl 0 rfl) ?_
  refine g_get hx hb hts inW7 hown hK hC.inv ((kdN_in (Nat.lt_of_lt_of_le hak (Nat.le_add_right _ _))).trans (hB.1)) (by simp) rfl rfl 1 (by decide) ⟨rfl, rfl, rfl⟩ q_t7_77 rfl (dc tbX7_init_1_k 16 rfl) ?_
  refine lv_aload_n hx hb (dc tbX7_init_1_k 17 rfl) rfl (lv_at hl 0 rfl) ?_
  refine g_get hx hb hts inW7 hown hK hC.inv ((kdN_in (Nat.lt_of_lt_of_le hak (Nat.le_add_right _ _))).trans (hB.1)) (by simp) rfl rfl 0 (by decide) ⟨rfl, rfl, rfl⟩ q_t7_76 rfl (dc tbX7_init_1_k 18 rfl) ?_
  have hkd : kModel (kdN KF ad (s.heap.size + 16)) k0 := (kModel_congr hB (fun j hj => kdN_in (ltB hak had (by omega) hj)))
  obtain ⟨M37, _, q38, hf⟩ := cal_s hf
  refine c_callS hx hb hml hown hts hK hsx hC hinj (tX7_copy l (k0 := (k0 + 2)) (k1 := (k0 + 1)) hkd.2.2.1 hkd.2.1 q38 H.size) cs_X7_copy q_t7_73 rfl rfl ⟨Nat.le_of_ble_eq_true rfl, Nat.le_of_ble_eq_true rfl⟩ rfl hl.1 rfl (Nat.le_of_ble_eq_true rfl) (dc tbX7_init_1_k 19 rfl) ⟨Nat.le_of_ble_eq_true rfl, Nat.le_of_ble_eq_true rfl⟩ (fun H locs hC => ?_)
  cases hf
  exact c_ret hx hb hr hlk hC (dc tbX7_init_1_k 20 rfl)
theorem ci_X7_init : Cond.initialized yX7_init.cls ∈ WA ∧ Cond.instanceMethod yX7_init ∈ WA ∧ Cond.code yX7_init cX7_init 1 none ∈ WA := ⟨q_t1_11, q_t7_62, q_t7_63⟩
theorem inWJ4 : ∀ w ∈ u_ws RJ4 TJ4 4, w ∈ WA := wa_f (List.forall_mem_cons.mpr ⟨q_t2_73, List.forall_mem_cons.mpr ⟨q_t2_75, List.forall_mem_cons.mpr ⟨q_t2_77, List.forall_mem_cons.mpr ⟨q_t2_79, fun _ h => absurd h List.not_mem_nil⟩⟩⟩⟩) _ rfl
def mJ5_init_d00df (k0 : Nat) (M : Mem) : Option (Mem × Unit) := bnd (zr M (k0 + 1)) (fun M1 => bnd (wr M1 k0 1 (0 : Int32)) (fun M3 => chk (decide (rd M3 k0 0 = 0)) (some (M3, ()))))
set_option maxHeartbeats 4000000 in
set_option maxRecDepth 100000 in
theorem tJ5_init_d00df (l : Launch) {G : GT} {KF : Nat → Nat × Nat} {ad : Nat → Nat} {N : Nat} {k0 : Nat} (hinj : ∀ i j, ad i = ad j → i = j) (hB : kSB KF k0) (had : ∀ j, j < 1 → ad (k0 + 1 + j) = N + j) (hak : ad k0 < N) {M MO : Mem} (hf : mJ5_init_d00df k0 M = some (MO, ())) : Met l yJ5_init_d00df (Cond.code yJ5_init_d00df cJ5_init_d00df 2 none :: WA) (rmO 0 1 16) (Pk G (setk KF k0 (29, 0)) ad N [.ref (ad k0), .int (16 : Int32)] M) (Qk G (setk KF k0 (29, 0)) KF ad N 1 MO) 1 16 (AS (setk KF k0 (29, 0)) ad N) := by
  refine c_body (own := RJ5) (by decide) rfl rfl hinj ?_ (Nat.le_of_ble_eq_true rfl)
  intro p e s m args below meth c C hsz H ls hC hl
  subst hsz
  obtain ⟨hx, hb, hml, hr, hown, hts, hlk, hK, hsx, hex, hin, hinj⟩ := id C
  have hl : lv_has ls 2 [(0, .ref (ad k0)), (1, .int (16 : Int32))] := hl
  unfold mJ5_init_d00df at hf
  refine lv_aload_n hx hb (dc tbJ5_init_d00df_k 0 rfl) rfl (lv_at hl 0 rfl) ?_
  refine W.objInit hx hb hown (hts _ q_t2_58) (hts _ q_t1_35) (hts _ q_t1_36) rfl (by rw [hml]; exact hl.1) rfl (dc tbJ5_init_d00df_k 1 rfl) (Nat.le_of_ble_eq_true rfl) (Nat.le_of_ble_eq_true rfl) ?_
  refine W.eq (g2 := F0 m 4 ls []) rfl ?_
  refine va_gets hx hb hex.2.2 hC.2.1 hown (hts _ q_t2_59) (fun _ h => h) (dc tbJ5_init_d00df_k 2 rfl) ?_
  refine lv_if_eq (tgt := 25) hx hb (dc tbJ5_init_d00df_k 3 rfl) rfl (fun c => absurd c (by decide)) (fun _ => ?_)
  refine lv_aload_n hx hb (dc tbJ5_init_d00df_k 4 rfl) rfl (lv_at hl 0 rfl) ?_
  refine lv_iload_n hx hb (dc tbJ5_init_d00df_k 5 rfl) rfl (lv_at hl 1 rfl) ?_
  obtain ⟨M1, e2, hf⟩ := bnd_s hf
  refine c_newa (ty := .byte) (n := 16) hx hb rfl q_t1_73 hts hC hinj ((congrArg ad (by omega : (k0 + 1) = k0 + 1 + 0)).trans (had 0 (by omega))) ((setk_o (by omega)).trans (hB.2)) (hK.2 1 _ rfl).2 rfl rfl ⟨by decide, by decide⟩ (Nat.le_of_ble_eq_true rfl) ⟨Nat.le_of_ble_eq_true rfl, Nat.le_of_ble_eq_true rfl⟩ e2 dJ5_init_d00df_12 (fun H hC => ?_)
  refine c_put false hx hb hts inWJ4 tyJ4 tyJ4_ok nmJ4 hown hK hC hinj hin (q' := (29, 1)) (setk_s) (by simp) (by simp) (Nat.lt_of_lt_of_le hak (Nat.le_add_right _ _)) rfl rfl 0 (by decide) ⟨rfl, rfl, rfl⟩ q_t2_68 rfl (fun h => by first | rfl | cases h) (ty := (.array (.byte))) (by decide +kernel) rfl rfl (Nat.le_of_ble_eq_true rfl) (M' := M1) rfl (fun _ _ => ⟨rfl, rfl, rfl⟩) (dc tbJ5_init_d00df_k 6 rfl) (fun H locs hC => ?_)
  have hC := hC.eqK setk_setk
  refine lv_aload_n hx hb (dc tbJ5_init_d00df_k 7 rfl) rfl (lv_at hl 0 rfl) ?_
  refine lv_iconst (v := 0) hx hb (dc tbJ5_init_d00df_k 8 rfl) (by decide) ?_
  obtain ⟨M3, e4, hf⟩ := bnd_s hf
  refine c_put false hx hb hts inWJ4 tyJ4 tyJ4_ok nmJ4 hown hK hC hinj hin (q' := (29, 1)) (setk_s) (by simp) (by simp) (Nat.lt_of_lt_of_le hak (Nat.le_add_right _ _)) rfl rfl 1 (by decide) ⟨rfl, rfl, rfl⟩ q_t2_69 rfl (fun h => by first | rfl | cases h) (ty := .byte) (by decide +kernel) rfl rfl (Nat.le_of_ble_eq_true rfl) (M' := M3) (by rw [e4, wr_s]; rfl) (by rw [e4]; exact wr_o) (dc tbJ5_init_d00df_k 9 rfl) (fun H locs hC => ?_)
  have hC := hC.eqK setk_setk
  refine lv_goto (tgt := 38) hx hb (dc tbJ5_init_d00df_k 10 rfl) rfl ?_
  obtain ⟨h5, hf⟩ := chk_s hf
  have h5 : sbv k0 (M3.1 k0 0) = k0 + 1 := if_pos (of_decide_eq_true h5)
  have hC := (hC.as_kind (q' := (9, 0)) setk_s (by simp) (by simp) (by show (Sum.inr (1, eSB ad k0 (M3.1 k0)) : va_E) = _; unfold eSB; rw [h5]; rfl)).eqK (setk_setk.trans (setk_id hB.1))
  cases hf
  exact c_ret hx hb hr hlk hC (dc tbJ5_init_d00df_k 18 rfl)
theorem ci_J5_init_d00df : Cond.initialized yJ5_init_d00df.cls ∈ WA ∧ Cond.instanceMethod yJ5_init_d00df ∈ WA ∧ Cond.code yJ5_init_d00df cJ5_init_d00df 2 none ∈ WA := ⟨q_t1_7, q_t2_56, q_t2_57⟩
def mJ4_init_da8c8 (k0 : Nat) (M : Mem) : Option (Mem × Unit) := cal (mJ5_init_d00df k0 M) (fun M1 _ => some (M1, ()))
set_option maxHeartbeats 4000000 in
set_option maxRecDepth 100000 in
theorem tJ4_init_da8c8 (l : Launch) {G : GT} {KF : Nat → Nat × Nat} {ad : Nat → Nat} {N : Nat} {k0 : Nat} (hinj : ∀ i j, ad i = ad j → i = j) (hB : kSB KF k0) (had : ∀ j, j < 1 → ad (k0 + 1 + j) = N + j) (hak : ad k0 < N) {M MO : Mem} (hf : mJ4_init_da8c8 k0 M = some (MO, ())) : Met l yJ4_init_da8c8 (Cond.code yJ4_init_da8c8 cJ4_init_da8c8 1 none :: WA) (rmO 1 1 16) (Pk G (setk KF k0 (29, 0)) ad N [.ref (ad k0)] M) (Qk G (setk KF k0 (29, 0)) KF ad N 1 MO) 1 16 (AS (setk KF k0 (29, 0)) ad N) := by
  refine c_body (own := RJ4) (by decide) rfl rfl hinj ?_ (Nat.le_of_ble_eq_true rfl)
  intro p e s m args below meth c C hsz H ls hC hl
  subst hsz
  obtain ⟨hx, hb, hml, hr, hown, hts, hlk, hK, hsx, hex, hin, hinj⟩ := id C
  have hl : lv_has ls 1 [(0, .ref (ad k0))] := hl
  unfold mJ4_init_da8c8 at hf
  refine lv_aload_n hx hb (dc tbJ4_init_da8c8_k 0 rfl) rfl (lv_at hl 0 rfl) ?_
  refine lv_bipush (v := 16) hx hb (dc tbJ4_init_da8c8_k 1 rfl) (by decide) ?_
  obtain ⟨M1, _, q2, hf⟩ := cal_s hf
  refine c_callI hx hb hml hown hts hK hsx hex hC (nzE_set (by rw [hB.1]; simp) (by simp)) (As := [.int (16 : Int32)]) (tJ5_init_d00df l hinj hB (fun j hj => by have h8 := hC.2.2.1; have h9 := had (0 + j) (by omega); rw [show k0 + 1 + j = k0 + 1 + (0 + j) by omega]; omega) (by have := hC.2.2.1; have := hak; omega) q2) ci_J5_init_d00df q_t2_55 ⟨rfl, by decide +kernel⟩ rfl rfl rfl ⟨Nat.le_of_ble_eq_true rfl, Nat.le_of_ble_eq_true rfl⟩ hl.1 rfl (Nat.le_of_ble_eq_true rfl) (dc tbJ4_init_da8c8_k 2 rfl) ⟨Nat.le_of_ble_eq_true rfl, Nat.le_of_ble_eq_true rfl⟩ (fun H locs hC => ?_)
  cases hf
  exact c_ret hx hb hr hlk hC (dc tbJ4_init_da8c8_k 3 rfl)
theorem ci_J4_init_da8c8 : Cond.initialized yJ4_init_da8c8.cls ∈ WA ∧ Cond.instanceMethod yJ4_init_da8c8 ∈ WA ∧ Cond.code yJ4_init_da8c8 cJ4_init_da8c8 1 none ∈ WA := ⟨q_t1_8, q_t2_53, q_t2_54⟩
def mX4_init (M : Mem) : Option (Mem × Unit) := bnd (wr M 2 0 (0 : Int32)) (fun M1 => bnd (wr M1 2 1 (-1 : Int32)) (fun M3 => bnd (zr M3 4) (fun M5 => chk (decide (¬ rd M5 2 2 = 1)) (bnd (wr M5 2 3 (0 : Int32)) (fun M8 => bnd (wr M8 2 4 (0 : Int32)) (fun M10 => bnd (wr M10 2 5 (0 : Int32)) (fun M12 => bnd (wr M12 2 6 (0 : Int32)) (fun M14 => bnd (wr M14 2 7 (0 : Int32)) (fun M16 => bnd (zr M16 3) (fun M18 => some (M18, ())))))))))))
set_option maxHeartbeats 4000000 in
set_option maxRecDepth 100000 in
theorem tX4_init (l : Launch) {G : GT} {KF : Nat → Nat × Nat} {ad : Nat → Nat} {N : Nat} (hinj : ∀ i j, ad i = ad j → i = j) (hB : kReader KF 2) (h4 : KF 4 = (11, 0)) (had : ad 4 = N ∧ ad 3 = N + 1) (hak : ad 2 < N) {M MO : Mem} (hf : mX4_init M = some (MO, ())) : Met l yX4_init (Cond.code yX4_init cX4_init 1 none :: WA) (rmO 0 2 3) (Pk G (setk KF 2 (25, 0)) ad N [.ref (ad 2)] M) (Qk G (setk KF 2 (25, 0)) KF ad N 2 MO) 2 3 (AS (setk KF 2 (25, 0)) ad N) := by
  refine c_body (own := RX4) (by decide) rfl rfl hinj ?_ (Nat.le_of_ble_eq_true rfl)
  intro p e s m args below meth c C hsz H ls hC hl
  subst hsz
  obtain ⟨hx, hb, hml, hr, hown, hts, hlk, hK, hsx, hex, hin, hinj⟩ := id C
  have hl : lv_has ls 1 [(0, .ref (ad 2))] := hl
  unfold mX4_init at hf
  refine lv_aload_n hx hb (dc tbX4_init_k 0 rfl) rfl (lv_at hl 0 rfl) ?_
  refine W.objInit hx hb hown (hts _ q_t1_42) (hts _ q_t1_35) (hts _ q_t1_36) rfl (by rw [hml]; exact hl.1) rfl (dc tbX4_init_k 1 rfl) (Nat.le_of_ble_eq_true rfl) (Nat.le_of_ble_eq_true rfl) ?_
  refine W.eq (g2 := F0 m 4 ls []) rfl ?_
  refine lv_aload_n hx hb (dc tbX4_init_k 2 rfl) rfl (lv_at hl 0 rfl) ?_
  refine lv_iconst (v := 0) hx hb (dc tbX4_init_k 3 rfl) (by decide) ?_
  obtain ⟨M1, e2, hf⟩ := bnd_s hf
  refine c_put false hx hb hts inW4 tyX4 tyX4_ok nmX4 hown hK hC hinj hin (q' := (25, 0)) (setk_s) (by simp) (by simp) (Nat.lt_of_lt_of_le hak (Nat.le_add_right _ _)) rfl rfl 0 (by decide) ⟨rfl, rfl, rfl⟩ q_t1_43 rfl (fun h => by first | rfl | cases h) (ty := .int) (by decide +kernel) rfl rfl (Nat.le_of_ble_eq_true rfl) (M' := M1) (by rw [e2, wr_s]; rfl) (by rw [e2]; exact wr_o) (dc tbX4_init_k 4 rfl) (fun H locs hC => ?_)
  have hC := hC.eqK setk_setk
  refine lv_aload_n hx hb (dc tbX4_init_k 5 rfl) rfl (lv_at hl 0 rfl) ?_
  refine lv_iconst (v := -1) hx hb (dc tbX4_init_k 6 rfl) (by decide) ?_
  obtain ⟨M3, e4, hf⟩ := bnd_s hf
  refine c_put false hx hb hts inW4 tyX4 tyX4_ok nmX4 hown hK hC hinj hin (q' := (25, 0)) (setk_s) (by simp) (by simp) (Nat.lt_of_lt_of_le hak (Nat.le_add_right _ _)) rfl rfl 1 (by decide) ⟨rfl, rfl, rfl⟩ q_t1_45 rfl (fun h => by first | rfl | cases h) (ty := .int) (by decide +kernel) rfl rfl (Nat.le_of_ble_eq_true rfl) (M' := M3) (by rw [e4, wr_s]; rfl) (by rw [e4]; exact wr_o) (dc tbX4_init_k 7 rfl) (fun H locs hC => ?_)
  have hC := hC.eqK setk_setk
  refine lv_aload_n hx hb (dc tbX4_init_k 8 rfl) rfl (lv_at hl 0 rfl) ?_
  refine lv_iconst (v := 0) hx hb (dc tbX4_init_k 9 rfl) (by decide) ?_
  obtain ⟨M5, e6, hf⟩ := bnd_s hf
  refine c_newa (ty := .byte) (n := 0) hx hb rfl q_t1_73 hts hC hinj had.1 ((setk_o (by omega)).trans (h4)) (hK.2 1 _ rfl).2 rfl rfl ⟨by decide, by decide⟩ (Nat.le_of_ble_eq_true rfl) ⟨Nat.le_of_ble_eq_true rfl, Nat.le_of_ble_eq_true rfl⟩ e6 dX4_init_16 (fun H hC => ?_)
  obtain ⟨h7, hf⟩ := chk_s hf
  have h7 : ¬ M5.1 2 2 = 1 := of_decide_eq_true h7
  refine c_put false hx hb hts inW4 tyX4 tyX4_ok nmX4 hown hK hC hinj hin (q' := (25, 1)) (setk_s) (by simp) (by simp) (Nat.lt_of_lt_of_le hak (Nat.le_add_right _ _)) rfl rfl 2 (by decide) ⟨rfl, rfl, rfl⟩ q_t1_47 rfl (fun h => by first | rfl | cases h) (ty := (.array (.byte))) (by decide +kernel) rfl rfl (Nat.le_of_ble_eq_true rfl) (M' := M5) (by rw [show ad 4 = ad (if M5.1 2 2 = 1 then 1 else 4) from congrArg ad (if_neg h7).symm]; rfl) (fun _ _ => ⟨rfl, rfl, rfl⟩) (dc tbX4_init_k 10 rfl) (fun H locs hC => ?_)
  have hC := hC.eqK setk_setk
  refine lv_aload_n hx hb (dc tbX4_init_k 11 rfl) rfl (lv_at hl 0 rfl) ?_
  refine lv_iconst (v := 0) hx hb (dc tbX4_init_k 12 rfl) (by decide) ?_
  obtain ⟨M8, e9, hf⟩ := bnd_s hf
  refine c_put false hx hb hts inW4 tyX4 tyX4_ok nmX4 hown hK hC hinj hin (q' := (25, 1)) (setk_s) (by simp) (by simp) (Nat.lt_of_lt_of_le hak (Nat.le_add_right _ _)) rfl rfl 3 (by decide) ⟨rfl, rfl, rfl⟩ q_t1_48 rfl (fun h => by first | rfl | cases h) (ty := .int) (by decide +kernel) rfl rfl (Nat.le_of_ble_eq_true rfl) (M' := M8) (by rw [e9, wr_s]; rfl) (by rw [e9]; exact wr_o) (dc tbX4_init_k 13 rfl) (fun H locs hC => ?_)
  have hC := hC.eqK setk_setk
  refine lv_aload_n hx hb (dc tbX4_init_k 14 rfl) rfl (lv_at hl 0 rfl) ?_
  refine lv_iconst (v := 0) hx hb (dc tbX4_init_k 15 rfl) (by decide) ?_
  obtain ⟨M10, e11, hf⟩ := bnd_s hf
  refine c_put false hx hb hts inW4 tyX4 tyX4_ok nmX4 hown hK hC hinj hin (q' := (25, 1)) (setk_s) (by simp) (by simp) (Nat.lt_of_lt_of_le hak (Nat.le_add_right _ _)) rfl rfl 4 (by decide) ⟨rfl, rfl, rfl⟩ q_t1_49 rfl (fun h => by first | rfl | cases h) (ty := .int) (by decide +kernel) rfl rfl (Nat.le_of_ble_eq_true rfl) (M' := M10) (by rw [e11, wr_s]; rfl) (by rw [e11]; exact wr_o) (dc tbX4_init_k 16 rfl) (fun H locs hC => ?_)
  have hC := hC.eqK setk_setk
  refine lv_aload_n hx hb (dc tbX4_init_k 17 rfl) rfl (lv_at hl 0 rfl) ?_
  refine lv_iconst (v := 0) hx hb (dc tbX4_init_k 18 rfl) (by decide) ?_
  obtain ⟨M12, e13, hf⟩ := bnd_s hf
  refine c_put false hx hb hts inW4 tyX4 tyX4_ok nmX4 hown hK hC hinj hin (q' := (25, 1)) (setk_s) (by simp) (by simp) (Nat.lt_of_lt_of_le hak (Nat.le_add_right _ _)) rfl rfl 5 (by decide) ⟨rfl, rfl, rfl⟩ q_t1_50 rfl (fun h => by first | rfl | cases h) (ty := .int) (by decide +kernel) rfl rfl (Nat.le_of_ble_eq_true rfl) (M' := M12) (by rw [e13, wr_s]; rfl) (by rw [e13]; exact wr_o) (dc tbX4_init_k 19 rfl) (fun H locs hC => ?_)
  have hC := hC.eqK setk_setk
  refine lv_aload_n hx hb (dc tbX4_init_k 20 rfl) rfl (lv_at hl 0 rfl) ?_
  refine lv_iconst (v := 0) hx hb (dc tbX4_init_k 21 rfl) (by decide) ?_
  obtain ⟨M14, e15, hf⟩ := bnd_s hf
  refine c_put false hx hb hts inW4 tyX4 tyX4_ok nmX4 hown hK hC hinj hin (q' := (25, 1)) (setk_s) (by simp) (by simp) (Nat.lt_of_lt_of_le hak (Nat.le_add_right _ _)) rfl rfl 6 (by decide) ⟨rfl, rfl, rfl⟩ q_t1_51 rfl (fun h => by first | rfl | cases h) (ty := .int) (by decide +kernel) rfl rfl (Nat.le_of_ble_eq_true rfl) (M' := M14) (by rw [e15, wr_s]; rfl) (by rw [e15]; exact wr_o) (dc tbX4_init_k 22 rfl) (fun H locs hC => ?_)
  have hC := hC.eqK setk_setk
  refine lv_aload_n hx hb (dc tbX4_init_k 23 rfl) rfl (lv_at hl 0 rfl) ?_
  refine lv_iconst (v := 0) hx hb (dc tbX4_init_k 24 rfl) (by decide) ?_
  obtain ⟨M16, e17, hf⟩ := bnd_s hf
  refine c_put false hx hb hts inW4 tyX4 tyX4_ok nmX4 hown hK hC hinj hin (q' := (25, 1)) (setk_s) (by simp) (by simp) (Nat.lt_of_lt_of_le hak (Nat.le_add_right _ _)) rfl rfl 7 (by decide) ⟨rfl, rfl, rfl⟩ q_t1_52 rfl (fun h => by first | rfl | cases h) (ty := .int) (by decide +kernel) rfl rfl (Nat.le_of_ble_eq_true rfl) (M' := M16) (by rw [e17, wr_s]; rfl) (by rw [e17]; exact wr_o) (dc tbX4_init_k 25 rfl) (fun H locs hC => ?_)
  have hC := hC.eqK setk_setk
  refine lv_aload_n hx hb (dc tbX4_init_k 26 rfl) rfl (lv_at hl 0 rfl) ?_
  refine lv_iconst (v := 3) hx hb (dc tbX4_init_k 27 rfl) (by decide) ?_
  obtain ⟨M18, e19, hf⟩ := bnd_s hf
  refine c_newa (ty := .int) (n := 3) hx hb rfl q_t1_74 hts hC hinj had.2 ((setk_o (by omega)).trans (hB.2.1)) (hK.2 0 _ rfl).2 rfl rfl ⟨by decide, by decide⟩ (Nat.le_of_ble_eq_true rfl) ⟨Nat.le_of_ble_eq_true rfl, Nat.le_of_ble_eq_true rfl⟩ e19 dX4_init_48 (fun H hC => ?_)
  refine c_put true hx hb hts inW4 tyX4 tyX4_ok nmX4 hown hK hC hinj hin (q' := (25, 2)) (setk_s) (by simp) (by simp) (Nat.lt_of_lt_of_le hak (Nat.le_add_right _ _)) rfl rfl 8 (by decide) ⟨rfl, rfl, rfl⟩ q_t1_53 rfl (fun h => by first | rfl | cases h) (ty := (.array (.int))) (by decide +kernel) rfl rfl (Nat.le_of_ble_eq_true rfl) (M' := M18) rfl (fun _ _ => ⟨rfl, rfl, rfl⟩) (dc tbX4_init_k 28 rfl) (fun H locs hC => ?_)
  have hC := hC.eqK setk_setk
  have hC := (hC.as_kind (q' := (5, 0)) setk_s (by simp) (by simp) rfl).eqK (setk_setk.trans (setk_id hB.1))
  cases hf
  exact c_ret hx hb hr hlk hC (dc tbX4_init_k 29 rfl)
theorem ci_X4_init : Cond.initialized yX4_init.cls ∈ WA ∧ Cond.instanceMethod yX4_init ∈ WA ∧ Cond.code yX4_init cX4_init 1 none ∈ WA := ⟨q_t1_2, q_t1_40, q_t1_41⟩
def mX6_init (M : Mem) : Option (Mem × Unit) := bnd (zr M 1) (fun M1 => bnd (wr M1 0 1 (0 : Int32)) (fun M3 => bnd (zr M3 2) (fun M5 => cal (mX4_init M5) (fun M7 _ => bnd (zr M7 5) (fun M9 => cal (mX1_init 5 M9) (fun M11 _ => bnd (zr M11 13) (fun M13 => cal (mX1_init 13 M13) (fun M15 _ => bnd (zr M15 21) (fun M17 => cal (mX0_init 21 M17) (fun M19 _ => bnd (zr M19 103) (fun M21 => cal (mX2_init 103 M21) (fun M23 _ => bnd (zr M23 110) (fun M25 => cal (mX3_init 110 M25) (fun M27 _ => bnd (zr M27 133) (fun M29 => cal (mJ4_init_da8c8 133 M29) (fun M31 _ => some (M31, ())))))))))))))))))
set_option maxHeartbeats 4000000 in
set_option maxRecDepth 100000 in
theorem tX6_init (l : Launch) {G : GT} {KF : Nat → Nat × Nat} {ad : Nat → Nat} {N : Nat} (hinj : ∀ i j, ad i = ad j → i = j) (hB : kRoot KF 0) (h4 : KF 4 = (11, 0)) (hS : kSB KF 133) (had : (∀ j, 1 ≤ j → j ≤ 134 → j ≠ 3 → j ≠ 4 → ad j = N + (j - 1)) ∧ ad 4 = N + 2 ∧ ad 3 = N + 3) (hak : ad 0 < N) {M MO : Mem} (hf : mX6_init M = some (MO, ())) : Met l yX6_init (Cond.code yX6_init cX6_init 1 none :: WA) (rmO 4 134 14849) (Pk G (setk KF 0 (26, 0)) ad N [.ref (ad 0)] M) (Qk G (setk KF 0 (26, 0)) KF ad N 134 MO) 134 14849 (AS (setk KF 0 (26, 0)) ad N) := by
  refine c_body (own := RX6) (by decide) rfl rfl hinj ?_ (Nat.le_of_ble_eq_true rfl)
  intro p e s m args below meth c C hsz H ls hC hl
  subst hsz
  obtain ⟨hx, hb, hml, hr, hown, hts, hlk, hK, hsx, hex, hin, hinj⟩ := id C
  have hl : lv_has ls 1 [(0, .ref (ad 0))] := hl
  unfold mX6_init at hf
  refine lv_aload_n hx hb (dc tbX6_init_0_k 0 rfl) rfl (lv_at hl 0 rfl) ?_
  refine W.objInit hx hb hown (hts _ q_t1_34) (hts _ q_t1_35) (hts _ q_t1_36) rfl (by rw [hml]; exact hl.1) rfl (dc tbX6_init_0_k 1 rfl) (Nat.le_of_ble_eq_true rfl) (Nat.le_of_ble_eq_true rfl) ?_
  refine W.eq (g2 := F0 m 4 ls []) rfl ?_
  refine lv_aload_n hx hb (dc tbX6_init_0_k 2 rfl) rfl (lv_at hl 0 rfl) ?_
  refine lv_sipush (v := 600) hx hb (dc tbX6_init_0_k 3 rfl) (by decide) ?_
  obtain ⟨M1, e2, hf⟩ := bnd_s hf
  refine c_newa (ty := .byte) (n := 600) hx hb rfl q_t1_73 hts hC hinj (had.1 1 (by decide) (by decide) (by decide) (by decide)) ((setk_o (by omega)).trans (hB.2.1)) (hK.2 1 _ rfl).2 rfl rfl ⟨by decide, by decide⟩ (Nat.le_of_ble_eq_true rfl) ⟨Nat.le_of_ble_eq_true rfl, Nat.le_of_ble_eq_true rfl⟩ e2 dX6_init_8 (fun H hC => ?_)
  refine c_put true hx hb hts inW6 tyX6 tyX6_ok nmX6 hown hK hC hinj hin (q' := (26, 1)) (setk_s) (by simp) (by simp) (Nat.lt_of_lt_of_le hak (Nat.le_add_right _ _)) rfl rfl 0 (by decide) ⟨rfl, rfl, rfl⟩ q_t2_82 rfl (fun h => by first | rfl | cases h) (ty := (.array (.byte))) (by decide +kernel) rfl rfl (Nat.le_of_ble_eq_true rfl) (M' := M1) rfl (fun _ _ => ⟨rfl, rfl, rfl⟩) (dc tbX6_init_0_k 4 rfl) (fun H locs hC => ?_)
  have hC := hC.eqK setk_setk
  refine lv_aload_n hx hb (dc tbX6_init_0_k 5 rfl) rfl (lv_at hl 0 rfl) ?_
  refine lv_iconst (v := 0) hx hb (dc tbX6_init_0_k 6 rfl) (by decide) ?_
  obtain ⟨M3, e4, hf⟩ := bnd_s hf
  refine c_put false hx hb hts inW6 tyX6 tyX6_ok nmX6 hown hK hC hinj hin (q' := (26, 1)) (setk_s) (by simp) (by simp) (Nat.lt_of_lt_of_le hak (Nat.le_add_right _ _)) rfl rfl 1 (by decide) ⟨rfl, rfl, rfl⟩ q_t2_83 rfl (fun h => by first | rfl | cases h) (ty := .int) (by decide +kernel) rfl rfl (Nat.le_of_ble_eq_true rfl) (M' := M3) (by rw [e4, wr_s]; rfl) (by rw [e4]; exact wr_o) (dc tbX6_init_0_k 7 rfl) (fun H locs hC => ?_)
  have hC := hC.eqK setk_setk
  refine lv_aload_n hx hb (dc tbX6_init_0_k 8 rfl) rfl (lv_at hl 0 rfl) ?_
  obtain ⟨M5, e6, hf⟩ := bnd_s hf
  refine c_new hx hb hts inW4 tyX4 tyX4_ok hown q_t1_37 q_t1_38 q_t1_2 hK hC hinj (had.1 2 (by decide) (by decide) (by decide) (by decide)) ((setk_o (by omega)).trans (hB.2.2.1.1)) (q := (25, 0)) (by simp) (by simp) rfl (fs := [.int 0, .int 0, .null, .int 0, .int 0, .int 0, .int 0, .int 0, .null]) rfl (by decide +kernel) ⟨Nat.le_of_ble_eq_true rfl, Nat.le_of_ble_eq_true rfl⟩ e6 (dc tbX6_init_0_k 9 rfl) (fun H hC => ?_)
  refine lv_dup hx hb (dc tbX6_init_0_k 10 rfl) rfl ?_
  obtain ⟨M7, _, q8, hf⟩ := cal_s hf
  refine c_callIN hx hb hml hown hts hK hsx hex hC (nzE_set (by rw [(setk_o (by omega)).trans (hB.2.2.1.1)]; simp) (by simp)) (As := []) (tX4_init l hinj (kReader_congr hB.2.2.1 (fun j h1 h2 => setk_o (by omega))) ((setk_o (by omega)).trans h4) ⟨by have h8 := hC.2.2.1; have h9 := had.2.1; omega, by have h8 := hC.2.2.1; have h9 := had.2.2; omega⟩ (by have := hC.2.2.1; have := (had.1 2 (by decide) (by decide) (by decide) (by decide)); omega) q8) ci_X4_init (by decide +kernel) ⟨rfl, by decide +kernel⟩ rfl rfl rfl ⟨Nat.le_of_ble_eq_true rfl, Nat.le_of_ble_eq_true rfl⟩ hl.1 rfl (Nat.le_of_ble_eq_true rfl) (dc tbX6_init_0_k 11 rfl) ⟨Nat.le_of_ble_eq_true rfl, Nat.le_of_ble_eq_true rfl⟩ (fun H locs hC => ?_)
  refine c_put true hx hb hts inW6 tyX6 tyX6_ok nmX6 hown hK hC hinj hin (q' := (26, 2)) (setk_s) (by simp) (by simp) (Nat.lt_of_lt_of_le hak (Nat.le_add_right _ _)) rfl rfl 2 (by decide) ⟨rfl, rfl, rfl⟩ q_t2_84 rfl (fun h => by first | rfl | cases h) (ty := (.object "SheetFolder$TextReader")) (by decide +kernel) rfl rfl (Nat.le_of_ble_eq_true rfl) (M' := M7) rfl (fun _ _ => ⟨rfl, rfl, rfl⟩) (dc tbX6_init_0_k 12 rfl) (fun H locs hC => ?_)
  have hC := hC.eqK setk_setk
  refine lv_aload_n hx hb (dc tbX6_init_0_k 13 rfl) rfl (lv_at hl 0 rfl) ?_
  obtain ⟨M9, e10, hf⟩ := bnd_s hf
  refine c_new hx hb hts inW1 tyX1 tyX1_ok hown q_t1_75 q_t1_76 q_t1_3 hK hC hinj (had.1 5 (by decide) (by decide) (by decide) (by decide)) ((setk_o (by omega)).trans (hB.2.2.2.1.1)) (q := (21, 0)) (by simp) (by simp) rfl (fs := [.int 0, .null, .int 0, .int 0, .int 0, .int 0, .null, .int 0, .int 0, .int 0, .int 0, .null, .null, .int 0, .int 0, .null, .null, .null]) rfl (by decide +kernel) ⟨Nat.le_of_ble_eq_true rfl, Nat.le_of_ble_eq_true rfl⟩ e10 (dc tbX6_init_0_k 14 rfl) (fun H hC => ?_)
  refine lv_dup hx hb (dc tbX6_init_0_k 15 rfl) rfl ?_
  obtain ⟨M11, _, q12, hf⟩ := cal_s hf
  refine c_callI hx hb hml hown hts hK hsx hex hC (nzE_set (by rw [(setk_o (by omega)).trans (hB.2.2.2.1.1)]; simp) (by simp)) (As := []) (tX1_init l hinj (kPart_congr hB.2.2.2.1 (fun j hj => setk_o (by omega))) (fun j hj => by have h8 := hC.2.2.1; have h9 := had.1 (5 + 1 + j) (by omega) (by omega) (by omega) (by omega); omega) (by have := hC.2.2.1; have := (had.1 5 (by decide) (by decide) (by decide) (by decide)); omega) q12) ci_X1_init q_t1_77 ⟨rfl, by decide +kernel⟩ rfl rfl rfl ⟨Nat.le_of_ble_eq_true rfl, Nat.le_of_ble_eq_true rfl⟩ hl.1 rfl (Nat.le_of_ble_eq_true rfl) (dc tbX6_init_0_k 16 rfl) ⟨Nat.le_of_ble_eq_true rfl, Nat.le_of_ble_eq_true rfl⟩ (fun H locs hC => ?_)
  refine c_put true hx hb hts inW6 tyX6 tyX6_ok nmX6 hown hK hC hinj hin (q' := (26, 3)) (setk_s) (by simp) (by simp) (Nat.lt_of_lt_of_le hak (Nat.le_add_right _ _)) rfl rfl 3 (by decide) ⟨rfl, rfl, rfl⟩ q_t2_85 rfl (fun h => by first | rfl | cases h) (ty := (.object "SheetFolder$Part")) (by decide +kernel) rfl rfl (Nat.le_of_ble_eq_true rfl) (M' := M11) rfl (fun _ _ => ⟨rfl, rfl, rfl⟩) (dc tbX6_init_0_k 17 rfl) (fun H locs hC => ?_)
  have hC := hC.eqK setk_setk
  refine lv_aload_n hx hb (dc tbX6_init_0_k 18 rfl) rfl (lv_at hl 0 rfl) ?_
  obtain ⟨M13, e14, hf⟩ := bnd_s hf
  refine c_new hx hb hts inW1 tyX1 tyX1_ok hown q_t1_75 q_t1_76 q_t1_3 hK hC hinj (had.1 13 (by decide) (by decide) (by decide) (by decide)) ((setk_o (by omega)).trans (hB.2.2.2.2.1.1)) (q := (21, 0)) (by simp) (by simp) rfl (fs := [.int 0, .null, .int 0, .int 0, .int 0, .int 0, .null, .int 0, .int 0, .int 0, .int 0, .null, .null, .int 0, .int 0, .null, .null, .null]) rfl (by decide +kernel) ⟨Nat.le_of_ble_eq_true rfl, Nat.le_of_ble_eq_true rfl⟩ e14 (dc tbX6_init_0_k 19 rfl) (fun H hC => ?_)
  refine lv_dup hx hb (dc tbX6_init_0_k 20 rfl) rfl ?_
  obtain ⟨M15, _, q16, hf⟩ := cal_s hf
  refine c_callI hx hb hml hown hts hK hsx hex hC (nzE_set (by rw [(setk_o (by omega)).trans (hB.2.2.2.2.1.1)]; simp) (by simp)) (As := []) (tX1_init l hinj (kPart_congr hB.2.2.2.2.1 (fun j hj => setk_o (by omega))) (fun j hj => by have h8 := hC.2.2.1; have h9 := had.1 (13 + 1 + j) (by omega) (by omega) (by omega) (by omega); omega) (by have := hC.2.2.1; have := (had.1 13 (by decide) (by decide) (by decide) (by decide)); omega) q16) ci_X1_init q_t1_77 ⟨rfl, by decide +kernel⟩ rfl rfl rfl ⟨Nat.le_of_ble_eq_true rfl, Nat.le_of_ble_eq_true rfl⟩ hl.1 rfl (Nat.le_of_ble_eq_true rfl) (dc tbX6_init_0_k 21 rfl) ⟨Nat.le_of_ble_eq_true rfl, Nat.le_of_ble_eq_true rfl⟩ (fun H locs hC => ?_)
  refine c_put true hx hb hts inW6 tyX6 tyX6_ok nmX6 hown hK hC hinj hin (q' := (26, 4)) (setk_s) (by simp) (by simp) (Nat.lt_of_lt_of_le hak (Nat.le_add_right _ _)) rfl rfl 4 (by decide) ⟨rfl, rfl, rfl⟩ q_t2_86 rfl (fun h => by first | rfl | cases h) (ty := (.object "SheetFolder$Part")) (by decide +kernel) rfl rfl (Nat.le_of_ble_eq_true rfl) (M' := M15) rfl (fun _ _ => ⟨rfl, rfl, rfl⟩) (dc tbX6_init_0_k 22 rfl) (fun H locs hC => ?_)
  have hC := hC.eqK setk_setk
  refine lv_aload_n hx hb (dc tbX6_init_0_k 23 rfl) rfl (lv_at hl 0 rfl) ?_
  obtain ⟨M17, e18, hf⟩ := bnd_s hf
  refine c_new hx hb hts inW0 tyX0 tyX0_ok hown q_t1_174 q_t1_175 q_t1_4 hK hC hinj (had.1 21 (by decide) (by decide) (by decide) (by decide)) ((setk_o (by omega)).trans (hB.2.2.2.2.2.1.1)) (q := (24, 0)) (by simp) (by simp) rfl (fs := [.null, .int 0, .int 0]) rfl (by decide +kernel) ⟨Nat.le_of_ble_eq_true rfl, Nat.le_of_ble_eq_true rfl⟩ e18 (dc tbX6_init_0_k 24 rfl) (fun H hC => ?_)
  refine lv_dup hx hb (dc tbX6_init_0_k 25 rfl) rfl ?_
  obtain ⟨M19, _, q20, hf⟩ := cal_s hf
  refine c_callI hx hb hml hown hts hK hsx hex hC (nzE_set (by rw [(setk_o (by omega)).trans (hB.2.2.2.2.2.1.1)]; simp) (by simp)) (As := []) (tX0_init l hinj (kHist_congr hB.2.2.2.2.2.1 (fun j hj => setk_o (by omega))) (fun j hj => by have h8 := hC.2.2.1; have h9 := had.1 (21 + 1 + j) (by omega) (by omega) (by omega) (by omega); omega) (by have := hC.2.2.1; have := (had.1 21 (by decide) (by decide) (by decide) (by decide)); omega) q20) ci_X0_init q_t1_176 ⟨rfl, by decide +kernel⟩ rfl rfl rfl ⟨Nat.le_of_ble_eq_true rfl, Nat.le_of_ble_eq_true rfl⟩ hl.1 rfl (Nat.le_of_ble_eq_true rfl) (dc tbX6_init_0_k 26 rfl) ⟨Nat.le_of_ble_eq_true rfl, Nat.le_of_ble_eq_true rfl⟩ (fun H locs hC => ?_)
  refine c_put true hx hb hts inW6 tyX6 tyX6_ok nmX6 hown hK hC hinj hin (q' := (26, 5)) (setk_s) (by simp) (by simp) (Nat.lt_of_lt_of_le hak (Nat.le_add_right _ _)) rfl rfl 5 (by decide) ⟨rfl, rfl, rfl⟩ q_t2_87 rfl (fun h => by first | rfl | cases h) (ty := (.object "SheetFolder$History")) (by decide +kernel) rfl rfl (Nat.le_of_ble_eq_true rfl) (M' := M19) rfl (fun _ _ => ⟨rfl, rfl, rfl⟩) (dc tbX6_init_0_k 27 rfl) (fun H locs hC => ?_)
  have hC := hC.eqK setk_setk
  refine lv_aload_n hx hb (dc tbX6_init_0_k 28 rfl) rfl (lv_at hl 0 rfl) ?_
  obtain ⟨M21, e22, hf⟩ := bnd_s hf
  refine c_new hx hb hts inW2 tyX2 tyX2_ok hown q_t1_194 q_t1_195 q_t1_5 hK hC hinj (had.1 103 (by decide) (by decide) (by decide) (by decide)) ((setk_o (by omega)).trans (hB.2.2.2.2.2.2.1.1)) (q := (22, 0)) (by simp) (by simp) rfl (fs := [.null, .null, .null, .null, .null, .null, .int 0, .int 0, .int 0]) rfl (by decide +kernel) ⟨Nat.le_of_ble_eq_true rfl, Nat.le_of_ble_eq_true rfl⟩ e22 (dc tbX6_init_0_k 29 rfl) (fun H hC => ?_)
  refine lv_dup hx hb (dc tbX6_init_0_k 30 rfl) rfl ?_
  obtain ⟨M23, _, q24, hf⟩ := cal_s hf
  refine c_callIN hx hb hml hown hts hK hsx hex hC (nzE_set (by rw [(setk_o (by omega)).trans (hB.2.2.2.2.2.2.1.1)]; simp) (by simp)) (As := []) (tX2_init l hinj (kPlaces_congr hB.2.2.2.2.2.2.1 (fun j hj => setk_o (by omega))) (fun j hj => by have h8 := hC.2.2.1; have h9 := had.1 (103 + 1 + j) (by omega) (by omega) (by omega) (by omega); omega) (by have := hC.2.2.1; have := (had.1 103 (by decide) (by decide) (by decide) (by decide)); omega) q24) ci_X2_init (by decide +kernel) ⟨rfl, by decide +kernel⟩ rfl rfl rfl ⟨Nat.le_of_ble_eq_true rfl, Nat.le_of_ble_eq_true rfl⟩ hl.1 rfl (Nat.le_of_ble_eq_true rfl) (dc tbX6_init_0_k 31 rfl) ⟨Nat.le_of_ble_eq_true rfl, Nat.le_of_ble_eq_true rfl⟩ (fun H locs hC => ?_)
  refine c_put true hx hb hts inW6 tyX6 tyX6_ok nmX6 hown hK hC hinj hin (q' := (26, 6)) (setk_s) (by simp) (by simp) (Nat.lt_of_lt_of_le hak (Nat.le_add_right _ _)) rfl rfl 6 (by decide) ⟨rfl, rfl, rfl⟩ q_t2_88 rfl (fun h => by first | rfl | cases h) (ty := (.object "SheetFolder$Places")) (by decide +kernel) rfl rfl (Nat.le_of_ble_eq_true rfl) (M' := M23) rfl (fun _ _ => ⟨rfl, rfl, rfl⟩) (dc tbX6_init_0_k 32 rfl) (fun H locs hC => ?_)
  have hC := hC.eqK setk_setk
  refine lv_aload_n hx hb (dc tbX6_init_0_k 33 rfl) rfl (lv_at hl 0 rfl) ?_
  obtain ⟨M25, e26, hf⟩ := bnd_s hf
  refine c_new hx hb hts inW3 tyX3 tyX3_ok hown q_t1_230 q_t1_231 q_t1_6 hK hC hinj (had.1 110 (by decide) (by decide) (by decide) (by decide)) ((setk_o (by omega)).trans (hB.2.2.2.2.2.2.2.1)) (q := (23, 0)) (by simp) (by simp) rfl (fs := [.int 0, .int 0, .null, .int 0, .null, .null, .int 0, .null, .null, .null, .null, .null, .null]) rfl (by decide +kernel) ⟨Nat.le_of_ble_eq_true rfl, Nat.le_of_ble_eq_true rfl⟩ e26 (dc tbX6_init_0_k 34 rfl) (fun H hC => ?_)
  refine lv_dup hx hb (dc tbX6_init_0_k 35 rfl) rfl ?_
  obtain ⟨M27, _, q28, hf⟩ := cal_s hf
  refine c_callI hx hb hml hown hts hK hsx hex hC (nzE_set (by rw [(setk_o (by omega)).trans (hB.2.2.2.2.2.2.2.1)]; simp) (by simp)) (As := []) (tX3_init l hinj (kPlanner_congr hB.2.2.2.2.2.2.2 (fun j hj => setk_o (by omega))) (fun j hj => by have h8 := hC.2.2.1; have h9 := had.1 (110 + 1 + j) (by omega) (by omega) (by omega) (by omega); omega) (by have := hC.2.2.1; have := (had.1 110 (by decide) (by decide) (by decide) (by decide)); omega) q28) ci_X3_init q_t1_232 ⟨rfl, by decide +kernel⟩ rfl rfl rfl ⟨Nat.le_of_ble_eq_true rfl, Nat.le_of_ble_eq_true rfl⟩ hl.1 rfl (Nat.le_of_ble_eq_true rfl) (dc tbX6_init_0_k 36 rfl) ⟨Nat.le_of_ble_eq_true rfl, Nat.le_of_ble_eq_true rfl⟩ (fun H locs hC => ?_)
  refine c_put true hx hb hts inW6 tyX6 tyX6_ok nmX6 hown hK hC hinj hin (q' := (26, 7)) (setk_s) (by simp) (by simp) (Nat.lt_of_lt_of_le hak (Nat.le_add_right _ _)) rfl rfl 7 (by decide) ⟨rfl, rfl, rfl⟩ q_t2_89 rfl (fun h => by first | rfl | cases h) (ty := (.object "SheetFolder$Planner")) (by decide +kernel) rfl rfl (Nat.le_of_ble_eq_true rfl) (M' := M27) rfl (fun _ _ => ⟨rfl, rfl, rfl⟩) (dc tbX6_init_0_k 37 rfl) (fun H locs hC => ?_)
  have hC := hC.eqK setk_setk
  refine lv_aload_n hx hb (dc tbX6_init_0_k 38 rfl) rfl (lv_at hl 0 rfl) ?_
  obtain ⟨M29, e30, hf⟩ := bnd_s hf
  refine c_new hx hb hts inWJ4 tyJ4 tyJ4_ok hown q_t2_50 q_t2_51 q_t1_8 hK hC hinj (had.1 133 (by decide) (by decide) (by decide) (by decide)) ((setk_o (by omega)).trans (hS.1)) (q := (29, 0)) (by simp) (by simp) rfl (fs := [.null, .int 0, .int 0, .int 0]) rfl (by decide +kernel) ⟨Nat.le_of_ble_eq_true rfl, Nat.le_of_ble_eq_true rfl⟩ e30 (dc tbX6_init_0_k 39 rfl) (fun H hC => ?_)
  refine lv_dup hx hb (dc tbX6_init_1_k 0 rfl) rfl ?_
  obtain ⟨M31, _, q32, hf⟩ := cal_s hf
  refine c_callI hx hb hml hown hts hK hsx hex hC (nzE_set (by rw [(setk_o (by omega)).trans (hS.1)]; simp) (by simp)) (As := []) (tJ4_init_da8c8 l hinj (kSB_congr hS (fun j hj => setk_o (by omega))) (fun j hj => by have h8 := hC.2.2.1; have h9 := had.1 (133 + 1 + j) (by omega) (by omega) (by omega) (by omega); omega) (by have := hC.2.2.1; have := (had.1 133 (by decide) (by decide) (by decide) (by decide)); omega) q32) ci_J4_init_da8c8 q_t2_52 ⟨rfl, by decide +kernel⟩ rfl rfl rfl ⟨Nat.le_of_ble_eq_true rfl, Nat.le_of_ble_eq_true rfl⟩ hl.1 rfl (Nat.le_of_ble_eq_true rfl) (dc tbX6_init_1_k 1 rfl) ⟨Nat.le_of_ble_eq_true rfl, Nat.le_of_ble_eq_true rfl⟩ (fun H locs hC => ?_)
  refine c_put true hx hb hts inW6 tyX6 tyX6_ok nmX6 hown hK hC hinj hin (q' := (26, 8)) (setk_s) (by simp) (by simp) (Nat.lt_of_lt_of_le hak (Nat.le_add_right _ _)) rfl rfl 8 (by decide) ⟨rfl, rfl, rfl⟩ q_t2_90 rfl (fun h => by first | rfl | cases h) (ty := (.object "java/lang/StringBuilder")) (by decide +kernel) rfl rfl (Nat.le_of_ble_eq_true rfl) (M' := M31) rfl (fun _ _ => ⟨rfl, rfl, rfl⟩) (dc tbX6_init_1_k 2 rfl) (fun H locs hC => ?_)
  have hC := hC.eqK setk_setk
  have hC := (hC.as_kind (q' := (6, 0)) setk_s (by simp) (by simp) rfl).eqK (setk_setk.trans (setk_id hB.1))
  cases hf
  exact c_ret hx hb hr hlk hC (dc tbX6_init_1_k 3 rfl)
theorem ci_X6_init : Cond.initialized yX6_init.cls ∈ WA ∧ Cond.instanceMethod yX6_init ∈ WA ∧ Cond.code yX6_init cX6_init 1 none ∈ WA := ⟨q_t1_1, q_t1_32, q_t1_33⟩
end CS
