/-! rows over the memory's world -/
section GR
variable {p : Program} {l : Launch} {e : Env} {R : Room} {s : State} {m : MethodId} {args : Array Value} {below : List Frame} {meth : Method} {c : Code} {H : Heap} {locs : List Loc} {cells slots : Nat} {Q : State → Prop}
variable {cc : ByteArray} {pc : Nat} {ls : Array Slot} {rest : List Value} {G : GT} {kd : Nat → Nat × Nat} {ad : Nat → Nat} {M : Mem} {H0 : Heap}
theorem va_P1 {D : va_G} {cl : List vw_C} {q : Nat × va_E} {H : Heap} (h : va_at D cl q H) : va_P D cl [q] H := by
  intro k q' hk
  match k, hk with
  | 0, hk => cases hk; exact h
  | k + 1, hk => simp at hk
theorem Inv.at (hI : Inv G kd ad H0 M H locs) {k : Nat} {q : Nat × Nat} {x : va_E} (hk : kd k = q) (hq : q.1 ≠ 0) (he : ent ad G.2.1 q k (M.1 k) (M.2.1 k) (M.2.2 k) = x) : va_at G.1 vwCl (ad k, x) H := by
  have h := hI.1 k (by rw [hk]; exact hq)
  rw [hk, he] at h
  exact h
theorem g_get (hx : p.tables.exec = Jvm.exec) (hb : c.code = cc) {own C : String} {T : u_T} {N ci index : Nat} (hts : ∀ w ∈ WA, w.before args s = true) (hin : ∀ w ∈ u_ws C T N, w ∈ WA) (hown : s.vm.findClass own = some m.cls) (hK : va_K G.1 vwCl (tyLs G) s) (hI : Inv G kd ad H0 M H locs)
    {k : Nat} {q : Nat × Nat} {fs : List Value} (hk : kd k = q) (hq : q.1 ≠ 0) (he : ent ad G.2.1 q k (M.1 k) (M.2.1 k) (M.2.2 k) = .inr (ci, fs)) (hc : vwCl[ci]? = some (C, T, N)) (j : Nat) (hj : j < N) {f d o : String} (hT : (T j).1 = o ∧ (T j).2.1 = f ∧ (T j).2.2.1 = d) (hlink : Cond.fieldLink own index o f d ∈ WA) {v : Value} (hv : fs[j]? = some v)
    (hdg : decode cc pc = .ok (.getfield index, 3)) (kk : W p l e R s m args below meth c H locs cells slots Q (F0 m (pc + 3) ls (v :: rest))) : W p l e R s m args below meth c H locs cells slots Q (F0 m pc ls (.ref (ad k) :: rest)) := by
  obtain ⟨e1, e2, e3⟩ := hT
  subst e1; subst e2; subst e3
  exact va_get (D := G.1) (cl := vwCl) (ws := [(ad k, .inr (ci, fs))]) hx hb hts hin hown hK (va_P1 (hI.at hk hq he)) 0 rfl hc j hj (hts _ hlink) (fun _ h => h) hv hdg kk
theorem g_iald (hx : p.tables.exec = Jvm.exec) (hb : c.code = cc) (hK : va_K G.1 vwCl (tyLs G) s) (hI : Inv G kd ad H0 M H locs) {k n : Nat} (hk : kd k = (10, n)) {i : Int32} (hin : vp_in i n) (hdg : decode cc pc = .ok (.iaload, 1))
    (kk : W p l e R s m args below meth c H locs cells slots Q (F0 m (pc + 1) ls (.int (rd M k i.toNatClampNeg) :: rest))) : W p l e R s m args below meth c H locs cells slots Q (F0 m pc ls (.int i :: .ref (ad k) :: rest)) :=
  va_iald (D := G.1) (cl := vwCl) (ws := [(ad k, .inl (G.2.1 0, n, .inl (M.1 k)))]) hx hb hK (va_P1 (hI.at hk (by simp) rfl)) 0 0 rfl rfl hin hdg kk
theorem g_bald (hx : p.tables.exec = Jvm.exec) (hb : c.code = cc) (hK : va_K G.1 vwCl (tyLs G) s) (hI : Inv G kd ad H0 M H locs) {k n : Nat} (hk : kd k = (11, n)) {i : Int32} (hin : vp_in i n) (hdg : decode cc pc = .ok (.baload, 1))
    (kk : W p l e R s m args below meth c H locs cells slots Q (F0 m (pc + 1) ls (.int (rd M k i.toNatClampNeg) :: rest))) : W p l e R s m args below meth c H locs cells slots Q (F0 m pc ls (.int i :: .ref (ad k) :: rest)) :=
  va_bald (D := G.1) (cl := vwCl) (ws := [(ad k, .inl (G.2.1 1, n, .inl (M.1 k)))]) hx hb hK (va_P1 (hI.at hk (by simp) rfl)) 0 1 rfl rfl hin hdg kk
theorem g_zald (hx : p.tables.exec = Jvm.exec) (hb : c.code = cc) (hK : va_K G.1 vwCl (tyLs G) s) (hI : Inv G kd ad H0 M H locs) {k n : Nat} (hk : kd k = (12, n)) {i : Int32} (hin : vp_in i n) (hdg : decode cc pc = .ok (.baload, 1))
    (kk : W p l e R s m args below meth c H locs cells slots Q (F0 m (pc + 1) ls (.int (rd M k i.toNatClampNeg) :: rest))) : W p l e R s m args below meth c H locs cells slots Q (F0 m pc ls (.int i :: .ref (ad k) :: rest)) :=
  va_zald (D := G.1) (cl := vwCl) (ws := [(ad k, .inl (G.2.1 2, n, .inl (M.1 k)))]) hx hb hK (va_P1 (hI.at hk (by simp) rfl)) 0 2 rfl rfl hin hdg kk
theorem g_lald (hx : p.tables.exec = Jvm.exec) (hb : c.code = cc) (hK : va_K G.1 vwCl (tyLs G) s) (hI : Inv G kd ad H0 M H locs) {k n : Nat} (hk : kd k = (13, n)) {i : Int32} (hin : vp_in i n) (hdg : decode cc pc = .ok (.laload, 1))
    (kk : W p l e R s m args below meth c H locs cells slots Q (F0 m (pc + 1) ls (.long (rl M k i.toNatClampNeg) :: rest))) : W p l e R s m args below meth c H locs cells slots Q (F0 m pc ls (.int i :: .ref (ad k) :: rest)) :=
  va_lald (D := G.1) (cl := vwCl) (ws := [(ad k, .inl (G.2.1 3, n, .inr (.inl (M.2.1 k))))]) hx hb hK (va_P1 (hI.at hk (by simp) rfl)) 0 3 rfl rfl hin hdg kk
theorem g_aald (hx : p.tables.exec = Jvm.exec) (hb : c.code = cc) (hK : va_K G.1 vwCl (tyLs G) s) (hI : Inv G kd ad H0 M H locs) {k n : Nat} (hk : kd k = (8, n)) {i : Int32} (hin : vp_in i n) (hdg : decode cc pc = .ok (.aaload, 1))
    (kk : W p l e R s m args below meth c H locs cells slots Q (F0 m (pc + 1) ls (.ref (ad (k + 1 + 8 * i.toNatClampNeg)) :: rest))) : W p l e R s m args below meth c H locs cells slots Q (F0 m pc ls (.int i :: .ref (ad k) :: rest)) :=
  va_aldq (D := G.1) (cl := vwCl) (C := "SheetFolder$Part") (ws := [(ad k, .inl (G.2.1 4, n, .inr (.inr (.inr (.inr (fun j => some (ad (k + 1 + 8 * j))))))))]) hx hb hK (va_P1 (hI.at hk (by simp) rfl)) 0 4 rfl rfl hin hdg kk
theorem g_alen (hx : p.tables.exec = Jvm.exec) (hb : c.code = cc) (hK : va_K G.1 vwCl (tyLs G) s) (hI : Inv G kd ad H0 M H locs) {k n : Nat} (hk : kd k = (10, n)) {v : Int32} (hv : Int32.ofNat n = v) (hdg : decode cc pc = .ok (.arraylength, 1))
    (kk : W p l e R s m args below meth c H locs cells slots Q (F0 m (pc + 1) ls (.int v :: rest))) : W p l e R s m args below meth c H locs cells slots Q (F0 m pc ls (.ref (ad k) :: rest)) :=
  va_alen (D := G.1) (cl := vwCl) (ws := [(ad k, .inl (G.2.1 0, n, .inl (M.1 k)))]) hx hb hK (va_P1 (hI.at hk (by simp) rfl)) 0 0 rfl rfl hv hdg kk
theorem g_alenB (hx : p.tables.exec = Jvm.exec) (hb : c.code = cc) (hK : va_K G.1 vwCl (tyLs G) s) (hI : Inv G kd ad H0 M H locs) {k n : Nat} (hk : kd k = (11, n)) {v : Int32} (hv : Int32.ofNat n = v) (hdg : decode cc pc = .ok (.arraylength, 1))
    (kk : W p l e R s m args below meth c H locs cells slots Q (F0 m (pc + 1) ls (.int v :: rest))) : W p l e R s m args below meth c H locs cells slots Q (F0 m pc ls (.ref (ad k) :: rest)) :=
  va_alen (D := G.1) (cl := vwCl) (ws := [(ad k, .inl (G.2.1 1, n, .inl (M.1 k)))]) hx hb hK (va_P1 (hI.at hk (by simp) rfl)) 0 1 rfl rfl hv hdg kk
theorem g_iast (hx : p.tables.exec = Jvm.exec) (hb : c.code = cc) (hK : va_K G.1 vwCl (tyLs G) s) (hap : Apt kd ad) (hI : Inv G kd ad H0 M H locs) {k n : Nat} (hk : kd k = (10, n)) {i x : Int32} (hin : vp_in i n) (hdg : decode cc pc = .ok (.iastore, 1)) {M' : Mem} (hM : M' = wr M k i.toNatClampNeg x)
    (kk : ∀ (H1 : Heap) (locs1 : List Loc), Inv G kd ad H0 M' H1 locs1 → W p l e R s m args below meth c H1 locs1 cells slots Q (F0 m (pc + 1) ls rest)) : W p l e R s m args below meth c H locs cells slots Q (F0 m pc ls (.int x :: .int i :: .ref (ad k) :: rest)) := by
  subst hM
  refine W.iast hx hb (hI.at hk (by simp) rfl) ((hK.2 0 _ rfl).1 n (fun j => .int (M.1 k j))) (fun q => by cases q) (by show ¬ (i < 0 ∨ (arrV _ _ _).slots.size ≤ _); rw [arrV_size]; exact hin) rfl rfl hdg fun H1 e z oq => ?_
  refine kk H1 _ (hI.set hap (by rw [hk]; simp) ?_ z oq wr_o)
  rw [wr_s, hk]
  show H1[ad k]? = some (vp_cell _ _)
  rw [e]
  show some (Cell.setSlot (vp_cell (G.2.1 0) (n, .inl (M.1 k))) _ _) = _
  rw [vp_cell_i, vp_cell_i, arrV_store]
  congr 2
  funext q
  by_cases hq : q = i.toNatClampNeg
  · subst hq
    simp [updV, upd, vp_nar]
    try rfl
  · simp [updV, upd, hq]
theorem g_bast (hx : p.tables.exec = Jvm.exec) (hb : c.code = cc) (hK : va_K G.1 vwCl (tyLs G) s) (hap : Apt kd ad) (hI : Inv G kd ad H0 M H locs) {k n : Nat} (hk : kd k = (11, n)) {i x : Int32} (hin : vp_in i n) (hdg : decode cc pc = .ok (.bastore, 1)) {M' : Mem} (hM : M' = wr M k i.toNatClampNeg (vp_nar .byte x))
    (kk : ∀ (H1 : Heap) (locs1 : List Loc), Inv G kd ad H0 M' H1 locs1 → W p l e R s m args below meth c H1 locs1 cells slots Q (F0 m (pc + 1) ls rest)) : W p l e R s m args below meth c H locs cells slots Q (F0 m pc ls (.int x :: .int i :: .ref (ad k) :: rest)) := by
  subst hM
  refine W.bast hx hb (hI.at hk (by simp) rfl) ((hK.2 1 _ rfl).1 n (fun j => .int (M.1 k j))) (fun q => by cases q) (by show ¬ (i < 0 ∨ (arrV _ _ _).slots.size ≤ _); rw [arrV_size]; exact hin) rfl rfl hdg fun H1 e z oq => ?_
  refine kk H1 _ (hI.set hap (by rw [hk]; simp) ?_ z oq wr_o)
  rw [wr_s, hk]
  show H1[ad k]? = some (vp_cell _ _)
  rw [e]
  show some (Cell.setSlot (vp_cell (G.2.1 1) (n, .inl (M.1 k))) _ _) = _
  rw [vp_cell_i, vp_cell_i, arrV_store]
  congr 2
  funext q
  by_cases hq : q = i.toNatClampNeg
  · subst hq
    simp [updV, upd, vp_nar]
    try rfl
  · simp [updV, upd, hq]
theorem g_zast (hx : p.tables.exec = Jvm.exec) (hb : c.code = cc) (hK : va_K G.1 vwCl (tyLs G) s) (hap : Apt kd ad) (hI : Inv G kd ad H0 M H locs) {k n : Nat} (hk : kd k = (12, n)) {i x : Int32} (hin : vp_in i n) (hdg : decode cc pc = .ok (.bastore, 1)) {M' : Mem} (hM : M' = wr M k i.toNatClampNeg (vp_nar .boolean x))
    (kk : ∀ (H1 : Heap) (locs1 : List Loc), Inv G kd ad H0 M' H1 locs1 → W p l e R s m args below meth c H1 locs1 cells slots Q (F0 m (pc + 1) ls rest)) : W p l e R s m args below meth c H locs cells slots Q (F0 m pc ls (.int x :: .int i :: .ref (ad k) :: rest)) := by
  subst hM
  refine W.zast hx hb (hI.at hk (by simp) rfl) ((hK.2 2 _ rfl).1 n (fun j => .int (M.1 k j))) (fun q => by cases q) (by show ¬ (i < 0 ∨ (arrV _ _ _).slots.size ≤ _); rw [arrV_size]; exact hin) rfl rfl hdg fun H1 e z oq => ?_
  refine kk H1 _ (hI.set hap (by rw [hk]; simp) ?_ z oq wr_o)
  rw [wr_s, hk]
  show H1[ad k]? = some (vp_cell _ _)
  rw [e]
  show some (Cell.setSlot (vp_cell (G.2.1 2) (n, .inl (M.1 k))) _ _) = _
  rw [vp_cell_i, vp_cell_i, arrV_store]
  congr 2
  funext q
  by_cases hq : q = i.toNatClampNeg
  · subst hq
    simp [updV, upd, vp_nar]
    try rfl
  · simp [updV, upd, hq]
theorem g_last (hx : p.tables.exec = Jvm.exec) (hb : c.code = cc) (hK : va_K G.1 vwCl (tyLs G) s) (hap : Apt kd ad) (hI : Inv G kd ad H0 M H locs) {k n : Nat} (hk : kd k = (13, n)) {i : Int32} {x : Int64} (hin : vp_in i n) (hdg : decode cc pc = .ok (.lastore, 1)) {M' : Mem} (hM : M' = wl M k i.toNatClampNeg x)
    (kk : ∀ (H1 : Heap) (locs1 : List Loc), Inv G kd ad H0 M' H1 locs1 → W p l e R s m args below meth c H1 locs1 cells slots Q (F0 m (pc + 1) ls rest)) : W p l e R s m args below meth c H locs cells slots Q (F0 m pc ls (.long x :: .int i :: .ref (ad k) :: rest)) := by
  subst hM
  refine W.last hx hb (hI.at hk (by simp) rfl) ((hK.2 3 _ rfl).1 n (fun j => .long (M.2.1 k j))) (fun q => by cases q) (by show ¬ (i < 0 ∨ (arrV _ _ _).slots.size ≤ _); rw [arrV_size]; exact hin) rfl rfl hdg fun H1 e z oq => ?_
  refine kk H1 _ (hI.set hap (by rw [hk]; simp) ?_ z oq wl_o)
  rw [wl_s, hk]
  show H1[ad k]? = some (vp_cell _ _)
  rw [e]
  show some (Cell.setSlot (vp_cell (G.2.1 3) (n, .inr (.inl (M.2.1 k)))) _ _) = _
  rw [vp_cell_l, vp_cell_l, arrV_store]
  congr 2
  funext q
  show _ = Value.long (vp_updL (M.2.1 k) _ _ q)
  unfold vp_updL updV; split <;> rfl
theorem g_put (hx : p.tables.exec = Jvm.exec) (hb : c.code = cc) {own C : String} {T : u_T} {N ci index : Nat} (hts : ∀ w ∈ WA, w.before args s = true) (hin : ∀ w ∈ u_ws C T N, w ∈ WA) (ty0 : Nat → FieldType) (hty : ∀ k, k < N → parseFieldDescriptor (T k).2.2.1 = some (ty0 k)) (hnm : ∀ a, a < N → ∀ b, b < N → a ≠ b → (T a).2.1 ≠ (T b).2.1)
    (hown : s.vm.findClass own = some m.cls) (hK : va_K G.1 vwCl (tyLs G) s) (hap : Apt kd ad) (hI : Inv G kd ad H0 M H locs)
    {k : Nat} {q : Nat × Nat} {fs : List Value} (hk : kd k = q) (hq : q.1 ≠ 0) (he : ent ad G.2.1 q k (M.1 k) (M.2.1 k) (M.2.2 k) = .inr (ci, fs)) (hc : vwCl[ci]? = some (C, T, N)) (j : Nat) (hj : j < N) {f d o : String} (hT : (T j).1 = o ∧ (T j).2.1 = f ∧ (T j).2.2.1 = d) (hlink : Cond.fieldLink own index o f d ∈ WA)
    (hfin : (T j).2.2.2 = false) {ty : FieldType} {v : Value} (hd : parseFieldDescriptor d = some ty) (hn : narrow ty v = v) (hfit : fits ty v = true) (hl : j < fs.length) {M' : Mem} (hset : ent ad G.2.1 q k (M'.1 k) (M'.2.1 k) (M'.2.2 k) = .inr (ci, fs.set j v)) (hM : ∀ k', k' ≠ k → M'.1 k' = M.1 k' ∧ M'.2.1 k' = M.2.1 k' ∧ M'.2.2 k' = M.2.2 k')
    (hdg : decode cc pc = .ok (.putfield index, 3)) (kk : ∀ (H1 : Heap) (locs1 : List Loc), Inv G kd ad H0 M' H1 locs1 → W p l e R s m args below meth c H1 locs1 cells slots Q (F0 m (pc + 3) ls rest)) : W p l e R s m args below meth c H locs cells slots Q (F0 m pc ls (v :: .ref (ad k) :: rest)) := by
  obtain ⟨e1, e2, e3⟩ := hT
  subst e1; subst e2; subst e3
  have hlk := hts _ hlink
  have hapt := va_apart (own := own) hts hin ty0 hty hnm hK hc
  obtain ⟨r, h1, cell, q1, q2, q3, q4⟩ := hI.at hk hq he
  have hr : r = (C, T, N) := Option.some.inj (h1.symm.trans hc)
  subst hr
  obtain ⟨hS, hfc, kC, hkC, hkind⟩ := hK.1 ci _ hc
  obtain ⟨cf, kf, fi, f, hi, hsl⟩ := hS j hj
  have hlay := hts _ (hin _ (u_in_lay hj))
  unfold u_lay at hlay
  rw [if_neg (by rw [hfin]; decide)] at hlay
  have hst := (u_facts hfc hkC (u_lays hts hin hj) hi).1
  have h6 := u_store hfc hkC hkind hlay hi hd hn hfit
  refine W.putK hx hb (f := f) ⟨hown, hlk, ⟨_, _, _, hi⟩, hst⟩ (by rw [q2]; exact h6) q1 q3 (by rw [hsl]; exact k2_hasslot (q4 j hj)) rfl rfl hdg fun H' e1 e2 e3 => ?_
  rw [hsl] at e1 ⊢
  refine kk H' _ (hI.set hap (by rw [hk]; exact hq) ?_ e2 e3 hM)
  rw [hk, hset]
  exact ⟨_, hc, t_OB.to (V := updV (vp_V fs) j v) ⟨_, e1, q2, q3, t_set q4 hapt hj v⟩ (fun j _ => vp_updV_set hl v j)⟩
/-! ends -/
theorem g_iret (hx : p.tables.exec = Jvm.exec) (hb : c.code = cc) (hr : meth.sig.returnType = some .int) (hlk : meth.locks = false) (hI : Inv G kd ad s.heap M H locs) {v : Int32} (hdg : decode cc pc = .ok (.ireturn, 1)) : W p l e R s m args below meth c H locs cells slots (MQ below (Qg G kd ad s.heap.size M (some (.int v))) args s cells slots (AS kd ad s.heap.size)) (F0 m pc ls [.int v]) :=
  W.iret hx hb hr (fun t ht _ => ⟨rfl, by rw [ht]; exact hI.1, hI.2.F ht⟩) hI.2.2.2 hdg hlk
theorem g_zret (hx : p.tables.exec = Jvm.exec) (hb : c.code = cc) {ty : FieldType} (hr : meth.sig.returnType = some ty) (hlk : meth.locks = false) (hI : Inv G kd ad s.heap M H locs) {v : Int32} (hn : narrow ty (.int v) = .int v) (hdg : decode cc pc = .ok (.ireturn, 1)) : W p l e R s m args below meth c H locs cells slots (MQ below (Qg G kd ad s.heap.size M (some (.int v))) args s cells slots (AS kd ad s.heap.size)) (F0 m pc ls [.int v]) :=
  W.zret hx hb hr hn (fun t ht _ => ⟨rfl, by rw [ht]; exact hI.1, hI.2.F ht⟩) hI.2.2.2 hdg hlk
theorem g_lret (hx : p.tables.exec = Jvm.exec) (hb : c.code = cc) (hr : meth.sig.returnType = some .long) (hlk : meth.locks = false) (hI : Inv G kd ad s.heap M H locs) {v : Int64} (hdg : decode cc pc = .ok (.lreturn, 1)) : W p l e R s m args below meth c H locs cells slots (MQ below (Qg G kd ad s.heap.size M (some (.long v))) args s cells slots (AS kd ad s.heap.size)) (F0 m pc ls [.long v]) :=
  W.lret hx hb hr (fun t ht _ => ⟨rfl, by rw [ht]; exact hI.1, hI.2.F ht⟩) hI.2.2.2 hdg hlk
theorem g_dret (hx : p.tables.exec = Jvm.exec) (hb : c.code = cc) (hr : meth.sig.returnType = some .double) (hlk : meth.locks = false) (hI : Inv G kd ad s.heap M H locs) {v : UInt64} (hdg : decode cc pc = .ok (.dreturn, 1)) : W p l e R s m args below meth c H locs cells slots (MQ below (Qg G kd ad s.heap.size M (some (.double v))) args s cells slots (AS kd ad s.heap.size)) (F0 m pc ls [.double v]) :=
  W.dret hx hb hr (fun t ht _ => ⟨rfl, by rw [ht]; exact hI.1, hI.2.F ht⟩) hI.2.2.2 hdg hlk
theorem g_vret (hx : p.tables.exec = Jvm.exec) (hb : c.code = cc) (hr : meth.sig.returnType = none) (hlk : meth.locks = false) (hI : Inv G kd ad s.heap M H locs) (hdg : decode cc pc = .ok (.return_, 1)) : W p l e R s m args below meth c H locs cells slots (MQ below (Qg G kd ad s.heap.size M none) args s cells slots (AS kd ad s.heap.size)) (F0 m pc ls []) :=
  W.vret hx hb hr (fun t ht _ => ⟨rfl, by rw [ht]; exact hI.1, hI.2.F ht⟩) hI.2.2.2 hdg hlk
/-! calls -/
theorem AS.mono {sz sz' : Nat} (h : sz ≤ sz') {q : Nat} (hq : AS kd ad sz' q) : AS kd ad sz q := hq.elim Or.inl (fun z => Or.inr (Nat.le_trans h z))
theorem AS.old {sz sz' : Nat} {q : Nat} (hl : q < sz') (hq : AS kd ad sz' q) : AS kd ad sz q := hq.elim Or.inl (fun z => absurd z (Nat.not_le.mpr hl))
theorem pg_blind {sz : Nat} {av : List Value} : FrameBlind (Pg G kd ad sz av M) := by
  intro a U g mk ⟨q0, q1, q2, q3, q4, q5⟩
  exact ⟨q0, q1, q2, q3, va_K.moved (u := U) (U := U.calling g mk a) (Vm.Alike.refl U.vm) q4, ⟨vx_Zq.moved (u := U) (U := U.calling g mk a) (Vm.Alike.refl U.vm) q5.1, vx_Zq.moved (u := U) (U := U.calling g mk a) (Vm.Alike.refl U.vm) q5.2.1, fun q hq => by obtain ⟨sa, h⟩ := q5.2.2.1 q hq; exact ⟨sa, vk_R.same rfl h⟩, ⟨sxW_moved (u := U) (U := U.calling g mk a) (Vm.Alike.refl U.vm) q5.2.2.2.1.1, q5.2.2.2.1.2.same (u := U) (U := U.calling g mk a) rfl⟩, va_En.moved (u := U) (U := U.calling g mk a) (Vm.Alike.refl U.vm) q5.2.2.2.2⟩⟩
theorem Sx.at {A B : Nat → Prop} {H1 : Heap} {U : State} (h : Sx G A s s.heap) (hS : ∀ q : Nat, q < s.heap.size → ¬ A q → H1[q]? = s.heap[q]?) (hW : s.WarmedH U.vm) (hAB : ∀ q, B q → A q) : Sx G B U H1 :=
  ⟨((h.1.kept hS).narrow hAB).moved hW.alike, ((h.2.1.kept hS).narrow hAB).moved hW.alike, fun q hq => by obtain ⟨sa, h⟩ := h.2.2.1 q hq; exact ⟨sa, vk_R.warm hW h⟩, ⟨sxW_moved hW.alike h.2.2.2.1.1, h.2.2.2.1.2.at hS hW hAB⟩, ((h.2.2.2.2.kept hS).narrow hAB).moved hW.alike⟩
theorem pg_of {av : List Value} {U : State} (hap : Apt kd ad) (hK : va_K G.1 vwCl (tyLs G) s) (hsx : Sx G (AS kd ad s.heap.size) s s.heap) (hI : Inv G kd ad s.heap M H locs) (hU : U.heap = H) (hW : s.WarmedH U.vm) : Pg G kd ad H.size av M av.toArray U :=
  ⟨rfl, by rw [hU], by rw [hU]; exact hI.1, hap, va_K.moved hW.alike hK, by rw [hU]; exact hsx.at hI.2.2.1 hW (fun q => AS.mono hI.2.1)⟩
theorem g_call {st0 : List Value} {a : Array Value} {mc ms : Nat} {M' : Mem} {v : Option Value} (hr : va_Run p l e R s m args below meth c H locs cells slots mc ms (F0 m pc ls st0) rest (Qg G kd ad H.size M' v a) (AS kd ad H.size)) (hI : Inv G kd ad s.heap M H locs)
    (kk : ∀ (H1 : Heap) (locs1 : List Loc), Inv G kd ad s.heap M' H1 locs1 → W p l e R s m args below meth c H1 locs1 (cells + mc) (slots + ms) Q (F0 m (pc + 3) ls (v.toList ++ rest))) : W p l e R s m args below meth c H locs cells slots Q (F0 m pc ls st0) := by
  intro T hT X
  obtain ⟨v', st₀, t, T', L, h0, X', hL, e1, e2, ⟨hv, hw, hF⟩, st⟩ := hr T hT X
  cases hv
  obtain ⟨k1, k2, k3⟩ := vx_keep h0 e1 hI.2 (fun q hq h => AS.old hq h) (fun q h => AS.mono hI.2.1 h) hL (by rw [← h0] at hF; rw [h0] at hF; exact hF)
  obtain ⟨t2, a1, b1⟩ := kk T'.heap (locs ++ L) ⟨by rw [e1]; exact hw, k3⟩ T' rfl X'
  exact ⟨t2, st t2 a1, b1⟩
/-- what is known of a callee: an instance method, a static one, a constructor -/
def cvF (C : String) (y : MethodName) (bytes : ByteArray) (maxL : Nat) (ret : Option FieldType) (n : Nat) : Prop := Cond.instanceMethod y ∈ WA ∧ Cond.selects C y y ∈ WA ∧ Cond.initialized C ∈ WA ∧ Cond.code y bytes maxL ret ∈ WA ∧ (y.cls = C ∧ y.cls ≠ "java/lang/invoke/MethodHandle" ∧ y.cls ≠ "java/lang/invoke/VarHandle" ∧ (parseMethodDescriptor y.desc).map (fun d => d.parameters.length) = some n)
def csF (y : MethodName) (bytes : ByteArray) (maxL : Nat) (ret : Option FieldType) (n : Nat) : Prop := Cond.static y ∈ WA ∧ Cond.initialized y.cls ∈ WA ∧ Cond.code y bytes maxL ret ∈ WA ∧ (y.cls ≠ "java/lang/invoke/MethodHandle" ∧ y.cls ≠ "java/lang/invoke/VarHandle" ∧ (parseMethodDescriptor y.desc).map (fun d => d.parameters.length) = some n)
variable {b : Nat} {y : MethodName} {bytes : ByteArray} {maxL nL mc ms n index : Nat} {ret : Option FieldType} {rm : Room} {own C : String} {As : List Value} {M' : Mem} {v : Option Value}
theorem ws_good (hc : Cond.code y bytes maxL ret ∈ WA) : ∀ w ∈ Cond.code y bytes maxL ret :: WA, w ∈ WA := fun w h => (List.mem_cons.mp h).elim (fun e => by rw [e]; exact hc) id
theorem g_callV (hx : p.tables.exec = Jvm.exec) (hb : c.code = cc) (hml : c.maxLocals = nL) (hown : s.vm.findClass own = some m.cls) (hts : ∀ w ∈ WA, w.before args s = true) (hK : va_K G.1 vwCl (tyLs G) s) (hap : Apt kd ad) (hsx : Sx G (AS kd ad s.heap.size) s s.heap) (hI : Inv G kd ad s.heap M H locs)
    (hM : Met l y (Cond.code y bytes maxL ret :: WA) rm (Pg G kd ad H.size (.ref (ad b) :: As) M) (Qg G kd ad H.size M' v) mc ms (AS kd ad H.size)) (hcv : cvF C y bytes maxL ret n) (hl : Cond.methodLink own index y ∈ WA) (hrc : rm.cells = mc) (hrs : rm.slots = ms) (hR : rm.frames + 1 ≤ R.frames ∧ 8 + (maxL + 11) + rm.locals ≤ R.locals)
    {ci : Nat} {q : Nat × Nat} {fs : List Value} {T : u_T} {N : Nat} (hk : kd b = q) (hq : q.1 ≠ 0) (he : ent ad G.2.1 q b (M.1 b) (M.2.1 b) (M.2.2 b) = .inr (ci, fs)) (hc : vwCl[ci]? = some (C, T, N))
    (hn : As.length = n) (hsize : ls.size = nL) {st : List Value} (hst : st = As.reverse ++ .ref (ad b) :: rest) (hW : (rest.map fun v => v.category).sum ≤ 8) (hdg : decode cc pc = .ok (.invokevirtual index, 3)) (hf : cells + mc ≤ R.cells ∧ slots + ms ≤ R.slots)
    (kk : ∀ (H1 : Heap) (locs1 : List Loc), Inv G kd ad s.heap M' H1 locs1 → W p l e R s m args below meth c H1 locs1 (cells + mc) (slots + ms) Q (F0 m (pc + 3) ls (v.toList ++ rest))) : W p l e R s m args below meth c H locs cells slots Q (F0 m pc ls st) := by
  subst hst
  obtain ⟨c1, c2, c3, c4, c5⟩ := hcv
  have hG : GoodIn WA (wsV own index C y (Cond.code y bytes maxL ret :: WA)) := fun w h => by
    have : w ∈ WA := by
      rcases List.mem_append.mp h with h | h
      · simp only [List.mem_cons, List.not_mem_nil, or_false] at h
        rcases h with rfl | rfl | rfl | rfl
        · exact hl
        · exact c1
        · exact c2
        · exact c3
      · exact ws_good c4 w h
    exact ⟨this, wa_good w this⟩
  exact g_call (va_runV (C := C) (b := ad b) (As := As) (rest := rest) ⟨hx, hb, hml, hown, hts⟩ hM (cwV n hts hG rfl hrc hrs c5 hR) ⟨pg_blind, va_recv hK (va_P1 (hI.at hk hq he)) hc (q0 := 0) rfl, fun U hU hW => pg_of hap hK hsx hI hU hW⟩ rfl hn hsize rfl (lv_room hW) hdg hf) hI kk
theorem g_callS (hx : p.tables.exec = Jvm.exec) (hb : c.code = cc) (hml : c.maxLocals = nL) (hown : s.vm.findClass own = some m.cls) (hts : ∀ w ∈ WA, w.before args s = true) (hK : va_K G.1 vwCl (tyLs G) s) (hap : Apt kd ad) (hsx : Sx G (AS kd ad s.heap.size) s s.heap) (hI : Inv G kd ad s.heap M H locs)
    (hM : Met l y (Cond.code y bytes maxL ret :: WA) rm (Pg G kd ad H.size As M) (Qg G kd ad H.size M' v) mc ms (AS kd ad H.size)) (hcv : csF y bytes maxL ret n) (hl : Cond.methodLink own index y ∈ WA) (hrc : rm.cells = mc) (hrs : rm.slots = ms) (hR : rm.frames + 1 ≤ R.frames ∧ 8 + (maxL + 11) + rm.locals ≤ R.locals)
    (hn : As.length = n) (hsize : ls.size = nL) {st : List Value} (hst : st = As.reverse ++ rest) (hW : (rest.map fun v => v.category).sum ≤ 8) (hdg : decode cc pc = .ok (.invokestatic index, 3)) (hf : cells + mc ≤ R.cells ∧ slots + ms ≤ R.slots)
    (kk : ∀ (H1 : Heap) (locs1 : List Loc), Inv G kd ad s.heap M' H1 locs1 → W p l e R s m args below meth c H1 locs1 (cells + mc) (slots + ms) Q (F0 m (pc + 3) ls (v.toList ++ rest))) : W p l e R s m args below meth c H locs cells slots Q (F0 m pc ls st) := by
  subst hst
  obtain ⟨c1, c3, c4, c5⟩ := hcv
  have hG : GoodIn WA (va_wsS own index y (Cond.code y bytes maxL ret :: WA)) := fun w h => by
    have : w ∈ WA := by
      rcases List.mem_append.mp h with h | h
      · simp only [List.mem_cons, List.not_mem_nil, or_false] at h
        rcases h with rfl | rfl | rfl
        · exact hl
        · exact c1
        · exact c3
      · exact ws_good c4 w h
    exact ⟨this, wa_good w this⟩
  exact g_call (va_runS (As := As) (rest := rest) ⟨hx, hb, hml, hown, hts⟩ hM (va_cwS n hts hG rfl hrc hrs c5 hR) ⟨pg_blind, fun U hU hW => pg_of hap hK hsx hI hU hW⟩ rfl hn hsize rfl (lv_room hW) hdg hf) hI kk
end GR
