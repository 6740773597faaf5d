/-! methods that let the array grow: their worlds, calls, ends -/
def Qr (G : GT) (kd : Nat → Nat × Nat) (ad : Nat → Nat) (sz : Nat) (M : Mem) (v : Option Value) : Array Value → State → Outcome → State → Prop := fun _ st oc t => oc = .returned v ∧ (∃ kd' ad', Ext kd ad kd' ad' sz ∧ Low kd' ∧ Sb kd' (rd M 133 0) ∧ Apt kd' ad' ∧ Wd G kd' ad' M t.heap) ∧ va_F (AS kd ad sz) st t
theorem Ext.le {kd kd' : Nat → Nat × Nat} {ad ad' : Nat → Nat} {sz sz' : Nat} (h : Ext kd ad kd' ad' sz') (hs : sz ≤ sz') : Ext kd ad kd' ad' sz := ⟨h.1, fun k h1 h2 => Nat.le_trans hs (h.2 k h1 h2)⟩
theorem kPart_ext {kd kd' : Nat → Nat × Nat} {ad ad' : Nat → Nat} {sz k : Nat} (h : kPart kd k) (he : Ext kd ad kd' ad' sz) : kPart kd' k := by
  obtain ⟨h0, h1, h2, h3, h4, h5, h6, h7⟩ := h
  have f : ∀ j q, kd j = q → q.1 ≠ 0 → kd' j = q := fun j q hq hn => by rw [(he.1 j (by rw [hq]; exact hn)).1, hq]
  exact ⟨f _ _ h0 (by simp), f _ _ h1 (by simp), f _ _ h2 (by simp), f _ _ h3 (by simp), f _ _ h4 (by simp), f _ _ h5 (by simp), f _ _ h6 (by simp), f _ _ h7 (by simp)⟩
theorem kPlaces_ext {kd kd' : Nat → Nat × Nat} {ad ad' : Nat → Nat} {sz k : Nat} (h : kPlaces kd k) (he : Ext kd ad kd' ad' sz) : kPlaces kd' k := by
  obtain ⟨h0, h1, h2, h3, h4, h5, h6⟩ := h
  have f : ∀ j q, kd j = q → q.1 ≠ 0 → kd' j = q := fun j q hq hn => by rw [(he.1 j (by rw [hq]; exact hn)).1, hq]
  exact ⟨f _ _ h0 (by simp), f _ _ h1 (by simp), f _ _ h2 (by simp), f _ _ h3 (by simp), f _ _ h4 (by simp), f _ _ h5 (by simp), f _ _ h6 (by simp)⟩
theorem kPlanner_ext {kd kd' : Nat → Nat × Nat} {ad ad' : Nat → Nat} {sz k : Nat} (h : kPlanner kd k) (he : Ext kd ad kd' ad' sz) : kPlanner kd' k := by
  obtain ⟨h0, h1, h2, h3, h4, h5, h6, h7, h8, h9⟩ := h
  have f : ∀ j q, kd j = q → q.1 ≠ 0 → kd' j = q := fun j q hq hn => by rw [(he.1 j (by rw [hq]; exact hn)).1, hq]
  exact ⟨f _ _ h0 (by simp), f _ _ h1 (by simp), kPlaces_ext h2 he, kPart_ext h3 he, f _ _ h4 (by simp), f _ _ h5 (by simp), f _ _ h6 (by simp), f _ _ h7 (by simp), f _ _ h8 (by simp), f _ _ h9 (by simp)⟩
theorem kHist_ext {kd kd' : Nat → Nat × Nat} {ad ad' : Nat → Nat} {sz k : Nat} (h : kHist kd k) (he : Ext kd ad kd' ad' sz) : kHist kd' k := by
  obtain ⟨h0, h1, h2⟩ := h
  have f : ∀ j q, kd j = q → q.1 ≠ 0 → kd' j = q := fun j q hq hn => by rw [(he.1 j (by rw [hq]; exact hn)).1, hq]
  exact ⟨f _ _ h0 (by simp), f _ _ h1 (by simp), fun i hi => kPart_ext (h2 i hi) he⟩
theorem kReader_ext {kd kd' : Nat → Nat × Nat} {ad ad' : Nat → Nat} {sz k : Nat} (h : kReader kd k) (he : Ext kd ad kd' ad' sz) : kReader kd' k := by
  obtain ⟨h0, h1, h2⟩ := h
  have f : ∀ j q, kd j = q → q.1 ≠ 0 → kd' j = q := fun j q hq hn => by rw [(he.1 j (by rw [hq]; exact hn)).1, hq]
  exact ⟨f _ _ h0 (by simp), f _ _ h1 (by simp), f _ _ h2 (by simp)⟩
theorem kRoot_ext {kd kd' : Nat → Nat × Nat} {ad ad' : Nat → Nat} {sz k : Nat} (h : kRoot kd k) (he : Ext kd ad kd' ad' sz) : kRoot kd' k := by
  obtain ⟨h0, h1, h2, h3, h4, h5, h6, h7⟩ := h
  have f : ∀ j q, kd j = q → q.1 ≠ 0 → kd' j = q := fun j q hq hn => by rw [(he.1 j (by rw [hq]; exact hn)).1, hq]
  exact ⟨f _ _ h0 (by simp), f _ _ h1 (by simp), kReader_ext h2 he, kPart_ext h3 he, kPart_ext h4 he, kHist_ext h5 he, kPlaces_ext h6 he, kPlanner_ext h7 he⟩
theorem Cx.ext {p : Program} {s : State} {m : MethodId} {args : Array Value} {meth : Method} {c : Code} {cc : ByteArray} {nL : Nat} {ret : Option FieldType} {own : String} {G : GT} {kd kd' : Nat → Nat × Nat} {ad ad' : Nat → Nat} (C : Cx p s m args meth c cc nL ret own G kd ad) (he : Ext kd ad kd' ad' s.heap.size) (hap : Apt kd' ad') : Cx p s m args meth c cc nL ret own G kd' ad' := by
  obtain ⟨h1, h2, h3, h4, h5, h6, h7, h8, -, h9⟩ := C
  exact ⟨h1, h2, h3, h4, h5, h6, h7, h8, hap, by rw [he.AS]; exact h9⟩
section GR2
variable {p : Program} {l : Launch} {e : Env} {R : Room} {s : State} {m : MethodId} {args : Array Value} {below : List Frame} {meth : Method} {c : Code} {H : Heap} {locs : List Loc} {cells slots : Nat} {Q : State → Prop}
variable {cc : ByteArray} {pc : Nat} {ls : Array Slot} {rest : List Value} {G : GT} {kd : Nat → Nat × Nat} {ad : Nat → Nat} {M : Mem} {H0 : Heap}
theorem g_bodyR {y : MethodName} {bytes : ByteArray} {maxL mc ms n : Nat} {ret : Option FieldType} {own : String} {As : List Value} {M' : Mem} {v : Option Value} {d : Nat} (hy : plainName y.cls = true) (hyo : y.cls = own)
    (body : ∀ p e s m args below meth c, Cx p s m args meth c bytes maxL ret own G kd ad → s.heap.size = n → At p l e (rmO d mc ms) s m args below meth c 0 0 (MQ below (Qr G kd ad s.heap.size M' v) args s mc ms (AS kd ad s.heap.size)) G kd ad maxL 0 (lv_args 0 As) [] M) (hlen : (lg_sl As).length ≤ maxL) :
    Met l y (Cond.code y bytes maxL ret :: WA) (rmO d mc ms) (Pg G kd ad n As M) (Qr G kd ad n M' v) mc ms (AS kd ad n) := by
  refine Met.ofW (cc := bytes) (maxL := maxL) (ret := ret) hy rfl ?_
  intro p e s m args below meth c s₁ B hml hv
  obtain ⟨rfl, hsz, hw, hap, hK, hsx⟩ := hv
  have hts := atoms_spec (ws := Cond.code y bytes maxL ret :: WA) B.pre
  have hown : s.vm.findClass own = some m.cls := hyo ▸ findClass_of_methodNamed B.named
  subst hsz
  have hl := lv_entry As (n := maxL) hlen
  rw [lg_entry_eq]
  generalize (lg_sl As ++ List.replicate (maxL - (lg_sl As).length) Slot.unset).toArray = ls at hl ⊢
  exact body p e s m _ below meth c ⟨B.exec, B.bytes, hml, B.returns, hown, fun w h => hts w (List.mem_cons_of_mem _ h), B.notSynchronized, hK, hap, hsx⟩ rfl _ _ ls ⟨hw, va_S.rf⟩ hl
theorem g_vretR (hx : p.tables.exec = Jvm.exec) (hb : c.code = cc) (hr : meth.sig.returnType = none) (hlk : meth.locks = false) {kd0 : Nat → Nat × Nat} {ad0 : Nat → Nat} (he : Ext kd0 ad0 kd ad s.heap.size) (hL : Low kd) (hS : Sb kd (rd M 133 0)) (hap : Apt kd ad) (hI : Inv G kd ad s.heap M H locs) (hdg : decode cc pc = .ok (.return_, 1)) : W p l e R s m args below meth c H locs cells slots (MQ below (Qr G kd0 ad0 s.heap.size M none) args s cells slots (AS kd0 ad0 s.heap.size)) (F0 m pc ls []) :=
  W.vret hx hb hr (fun t ht _ => ⟨rfl, ⟨kd, ad, he, hL, hS, hap, by rw [ht]; exact hI.1⟩, by rw [← he.AS]; exact hI.2.F ht⟩) (fun q hq => by rw [← he.AS]; exact hI.2.2.2 q hq) hdg hlk
theorem g_iretR (hx : p.tables.exec = Jvm.exec) (hb : c.code = cc) (hr : meth.sig.returnType = some .int) (hlk : meth.locks = false) {kd0 : Nat → Nat × Nat} {ad0 : Nat → Nat} (he : Ext kd0 ad0 kd ad s.heap.size) (hL : Low kd) (hS : Sb kd (rd M 133 0)) (hap : Apt kd ad) (hI : Inv G kd ad s.heap M H locs) {v : Int32} (hdg : decode cc pc = .ok (.ireturn, 1)) : W p l e R s m args below meth c H locs cells slots (MQ below (Qr G kd0 ad0 s.heap.size M (some (.int v))) args s cells slots (AS kd0 ad0 s.heap.size)) (F0 m pc ls [.int v]) :=
  W.iret hx hb hr (fun t ht _ => ⟨rfl, ⟨kd, ad, he, hL, hS, hap, by rw [ht]; exact hI.1⟩, by rw [← he.AS]; exact hI.2.F ht⟩) (fun q hq => by rw [← he.AS]; exact hI.2.2.2 q hq) hdg hlk
theorem g_aretR (hx : p.tables.exec = Jvm.exec) (hb : c.code = cc) {rt : FieldType} (hr : meth.sig.returnType = some rt) (hrt : (∃ n, rt = .object n) ∨ ∃ t, rt = .array t) (hlk : meth.locks = false) {kd0 : Nat → Nat × Nat} {ad0 : Nat → Nat} (he : Ext kd0 ad0 kd ad s.heap.size) (hL : Low kd) (hS : Sb kd (rd M 133 0)) (hap : Apt kd ad) (hI : Inv G kd ad s.heap M H locs) {a : Nat} (hdg : decode cc pc = .ok (.areturn, 1)) : W p l e R s m args below meth c H locs cells slots (MQ below (Qr G kd0 ad0 s.heap.size M (some (.ref a))) args s cells slots (AS kd0 ad0 s.heap.size)) (F0 m pc ls [.ref a]) :=
  W.aret hx hb hr hrt (Or.inr ⟨_, rfl⟩) (fun t ht _ => ⟨rfl, ⟨kd, ad, he, hL, hS, hap, by rw [ht]; exact hI.1⟩, by rw [← he.AS]; exact hI.2.F ht⟩) (fun q hq => by rw [← he.AS]; exact hI.2.2.2 q hq) hdg hlk
theorem g_callR {st0 : List Value} {a : Array Value} {mc ms : Nat} {M' : Mem} {v : Option Value} (hr : va_Run p l e R s m args below meth c H locs cells slots mc ms (F0 m pc ls st0) rest (Qr G kd ad H.size M' v a) (AS kd ad H.size)) (hI : Inv G kd ad s.heap M H locs)
    (kk : ∀ (kd1 : Nat → Nat × Nat) (ad1 : Nat → Nat) (H1 : Heap) (locs1 : List Loc), Ext kd ad kd1 ad1 s.heap.size → Low kd1 → Sb kd1 (rd M' 133 0) → Apt kd1 ad1 → Inv G kd1 ad1 s.heap M' H1 locs1 → W p l e R s m args below meth c H1 locs1 (cells + mc) (slots + ms) Q (F0 m (pc + 3) ls (v.toList ++ rest))) : W p l e R s m args below meth c H locs cells slots Q (F0 m pc ls st0) := by
  intro T hT X
  obtain ⟨v', st₀, t, T', L, h0, X', hL, e1, e2, ⟨hv, ⟨kd1, ad1, hE, hLw, hSb, hAp, hw⟩, hF⟩, st⟩ := hr T hT X
  cases hv
  obtain ⟨k1, k2, k3⟩ := vx_keep h0 e1 hI.2 (fun q hq h => AS.old hq h) (fun q h => AS.mono hI.2.1 h) hL (by rw [← h0] at hF; rw [h0] at hF; exact hF)
  have hE' := hE.le hI.2.1
  obtain ⟨t2, a1, b1⟩ := kk kd1 ad1 T'.heap (locs ++ L) hE' hLw hSb hAp ⟨by rw [e1]; exact hw, by rw [hE'.AS]; exact k3⟩ T' rfl X'
  exact ⟨t2, st t2 a1, b1⟩
theorem g_callVRa {b : Nat} {C : String} {y : MethodName} {bytes : ByteArray} {maxL nL mc ms n index : Nat} {ret : Option FieldType} {rm : Room} {own : String} {As : List Value} {M' : Mem}  (hx : p.tables.exec = Jvm.exec) (hb : c.code = cc) (hml : c.maxLocals = nL) (hown : s.vm.findClass own = some m.cls) (hts : ∀ w ∈ WA, w.before args s = true) (hK : va_K G.1 vwCl (tyL G) s) (hap : Apt kd ad) (hsx : Sx G (AS kd ad s.heap.size) s s.heap) (hI : Inv G kd ad s.heap M H locs)
    (hM : Met l y (Cond.code y bytes maxL ret :: WA) rm (Pg G kd ad H.size (.ref (ad b) :: As) M) (Qr G kd ad H.size M' (some (.ref (ad b)))) mc ms (AS kd ad H.size)) (hcv : cvF C y bytes maxL ret n) (hl : Cond.methodLink own index y ∈ WA) (hrc : rm.cells = mc) (hrs : rm.slots = ms) (hR : rm.frames + 1 ≤ R.frames ∧ 8 + (maxL + 11) + rm.locals ≤ R.locals)
    {ci : Nat} {q : Nat × Nat} {fs : List Value} {T : u_T} {N : Nat} (hk : kd b = q) (hq : q.1 ≠ 0) (he : ent ad G.2.1 q b (M.1 b) (M.2.1 b) (M.2.2 b) = .inr (ci, fs)) (hc : vwCl[ci]? = some (C, T, N))
    (hn : As.length = n) (hsize : ls.size = nL) {st : List Value} (hst : st = As.reverse ++ .ref (ad b) :: rest) (hW : (rest.map fun v => v.category).sum ≤ 8) (hdg : decode cc pc = .ok (.invokevirtual index, 3)) (hf : cells + mc ≤ R.cells ∧ slots + ms ≤ R.slots)
    (kk : ∀ (kd1 : Nat → Nat × Nat) (ad1 : Nat → Nat) (H1 : Heap) (locs1 : List Loc), Ext kd ad kd1 ad1 s.heap.size → Low kd1 → Sb kd1 (rd M' 133 0) → Apt kd1 ad1 → Inv G kd1 ad1 s.heap M' H1 locs1 → W p l e R s m args below meth c H1 locs1 (cells + mc) (slots + ms) Q (F0 m (pc + 3) ls (.ref (ad b) :: rest))) : W p l e R s m args below meth c H locs cells slots Q (F0 m pc ls st) := by
  subst hst
  obtain ⟨c1, c2, c3, c4, c5⟩ := hcv
  have hG : GoodIn WA (wsV own index C y (Cond.code y bytes maxL ret :: WA)) := fun w h => by
    have : w ∈ WA := by
      rcases List.mem_append.mp h with h | h
      · simp only [List.mem_cons, List.not_mem_nil, or_false] at h
        rcases h with rfl | rfl | rfl | rfl
        · exact hl
        · exact c1
        · exact c2
        · exact c3
      · exact ws_good c4 w h
    exact ⟨this, wa_good w this⟩
  exact g_callR (va_runV (C := C) (b := ad b) (As := As) (rest := rest) ⟨hx, hb, hml, hown, hts⟩ hM (cwV n hts hG rfl hrc hrs c5 hR) ⟨pg_blind, va_recv hK (va_P1 (hI.at hk hq he)) hc (q0 := 0) rfl, fun U hU hW => pg_of hap hK hsx hI hU hW⟩ rfl hn hsize rfl (lv_room hW) hdg hf) hI kk
theorem g_callVRv {b : Nat} {C : String} {y : MethodName} {bytes : ByteArray} {maxL nL mc ms n index : Nat} {ret : Option FieldType} {rm : Room} {own : String} {As : List Value} {M' : Mem}  (hx : p.tables.exec = Jvm.exec) (hb : c.code = cc) (hml : c.maxLocals = nL) (hown : s.vm.findClass own = some m.cls) (hts : ∀ w ∈ WA, w.before args s = true) (hK : va_K G.1 vwCl (tyL G) s) (hap : Apt kd ad) (hsx : Sx G (AS kd ad s.heap.size) s s.heap) (hI : Inv G kd ad s.heap M H locs)
    (hM : Met l y (Cond.code y bytes maxL ret :: WA) rm (Pg G kd ad H.size (.ref (ad b) :: As) M) (Qr G kd ad H.size M' none) mc ms (AS kd ad H.size)) (hcv : cvF C y bytes maxL ret n) (hl : Cond.methodLink own index y ∈ WA) (hrc : rm.cells = mc) (hrs : rm.slots = ms) (hR : rm.frames + 1 ≤ R.frames ∧ 8 + (maxL + 11) + rm.locals ≤ R.locals)
    {ci : Nat} {q : Nat × Nat} {fs : List Value} {T : u_T} {N : Nat} (hk : kd b = q) (hq : q.1 ≠ 0) (he : ent ad G.2.1 q b (M.1 b) (M.2.1 b) (M.2.2 b) = .inr (ci, fs)) (hc : vwCl[ci]? = some (C, T, N))
    (hn : As.length = n) (hsize : ls.size = nL) {st : List Value} (hst : st = As.reverse ++ .ref (ad b) :: rest) (hW : (rest.map fun v => v.category).sum ≤ 8) (hdg : decode cc pc = .ok (.invokevirtual index, 3)) (hf : cells + mc ≤ R.cells ∧ slots + ms ≤ R.slots)
    (kk : ∀ (kd1 : Nat → Nat × Nat) (ad1 : Nat → Nat) (H1 : Heap) (locs1 : List Loc), Ext kd ad kd1 ad1 s.heap.size → Low kd1 → Sb kd1 (rd M' 133 0) → Apt kd1 ad1 → Inv G kd1 ad1 s.heap M' H1 locs1 → W p l e R s m args below meth c H1 locs1 (cells + mc) (slots + ms) Q (F0 m (pc + 3) ls (rest))) : W p l e R s m args below meth c H locs cells slots Q (F0 m pc ls st) := by
  subst hst
  obtain ⟨c1, c2, c3, c4, c5⟩ := hcv
  have hG : GoodIn WA (wsV own index C y (Cond.code y bytes maxL ret :: WA)) := fun w h => by
    have : w ∈ WA := by
      rcases List.mem_append.mp h with h | h
      · simp only [List.mem_cons, List.not_mem_nil, or_false] at h
        rcases h with rfl | rfl | rfl | rfl
        · exact hl
        · exact c1
        · exact c2
        · exact c3
      · exact ws_good c4 w h
    exact ⟨this, wa_good w this⟩
  exact g_callR (va_runV (C := C) (b := ad b) (As := As) (rest := rest) ⟨hx, hb, hml, hown, hts⟩ hM (cwV n hts hG rfl hrc hrs c5 hR) ⟨pg_blind, va_recv hK (va_P1 (hI.at hk hq he)) hc (q0 := 0) rfl, fun U hU hW => pg_of hap hK hsx hI hU hW⟩ rfl hn hsize rfl (lv_room hW) hdg hf) hI kk
theorem g_callVRi {b : Nat} {C : String} {y : MethodName} {bytes : ByteArray} {maxL nL mc ms n index : Nat} {ret : Option FieldType} {rm : Room} {own : String} {As : List Value} {M' : Mem} {r : Int32} (hx : p.tables.exec = Jvm.exec) (hb : c.code = cc) (hml : c.maxLocals = nL) (hown : s.vm.findClass own = some m.cls) (hts : ∀ w ∈ WA, w.before args s = true) (hK : va_K G.1 vwCl (tyL G) s) (hap : Apt kd ad) (hsx : Sx G (AS kd ad s.heap.size) s s.heap) (hI : Inv G kd ad s.heap M H locs)
    (hM : Met l y (Cond.code y bytes maxL ret :: WA) rm (Pg G kd ad H.size (.ref (ad b) :: As) M) (Qr G kd ad H.size M' (some (.int r))) mc ms (AS kd ad H.size)) (hcv : cvF C y bytes maxL ret n) (hl : Cond.methodLink own index y ∈ WA) (hrc : rm.cells = mc) (hrs : rm.slots = ms) (hR : rm.frames + 1 ≤ R.frames ∧ 8 + (maxL + 11) + rm.locals ≤ R.locals)
    {ci : Nat} {q : Nat × Nat} {fs : List Value} {T : u_T} {N : Nat} (hk : kd b = q) (hq : q.1 ≠ 0) (he : ent ad G.2.1 q b (M.1 b) (M.2.1 b) (M.2.2 b) = .inr (ci, fs)) (hc : vwCl[ci]? = some (C, T, N))
    (hn : As.length = n) (hsize : ls.size = nL) {st : List Value} (hst : st = As.reverse ++ .ref (ad b) :: rest) (hW : (rest.map fun v => v.category).sum ≤ 8) (hdg : decode cc pc = .ok (.invokevirtual index, 3)) (hf : cells + mc ≤ R.cells ∧ slots + ms ≤ R.slots)
    (kk : ∀ (kd1 : Nat → Nat × Nat) (ad1 : Nat → Nat) (H1 : Heap) (locs1 : List Loc), Ext kd ad kd1 ad1 s.heap.size → Low kd1 → Sb kd1 (rd M' 133 0) → Apt kd1 ad1 → Inv G kd1 ad1 s.heap M' H1 locs1 → W p l e R s m args below meth c H1 locs1 (cells + mc) (slots + ms) Q (F0 m (pc + 3) ls (.int r :: rest))) : W p l e R s m args below meth c H locs cells slots Q (F0 m pc ls st) := by
  subst hst
  obtain ⟨c1, c2, c3, c4, c5⟩ := hcv
  have hG : GoodIn WA (wsV own index C y (Cond.code y bytes maxL ret :: WA)) := fun w h => by
    have : w ∈ WA := by
      rcases List.mem_append.mp h with h | h
      · simp only [List.mem_cons, List.not_mem_nil, or_false] at h
        rcases h with rfl | rfl | rfl | rfl
        · exact hl
        · exact c1
        · exact c2
        · exact c3
      · exact ws_good c4 w h
    exact ⟨this, wa_good w this⟩
  exact g_callR (va_runV (C := C) (b := ad b) (As := As) (rest := rest) ⟨hx, hb, hml, hown, hts⟩ hM (cwV n hts hG rfl hrc hrs c5 hR) ⟨pg_blind, va_recv hK (va_P1 (hI.at hk hq he)) hc (q0 := 0) rfl, fun U hU hW => pg_of hap hK hsx hI hU hW⟩ rfl hn hsize rfl (lv_room hW) hdg hf) hI kk
theorem g_callURa {b : Nat} {C : String} {y : MethodName} {bytes : ByteArray} {maxL nL mc ms n index : Nat} {ret : Option FieldType} {rm : Room} {own : String} {As : List Value} {M' : Mem}  (hx : p.tables.exec = Jvm.exec) (hb : c.code = cc) (hml : c.maxLocals = nL) (hown : s.vm.findClass own = some m.cls) (hts : ∀ w ∈ WA, w.before args s = true) (hK : va_K G.1 vwCl (tyL G) s) (hap : Apt kd ad) (hsx : Sx G (AS kd ad s.heap.size) s s.heap) (hI : Inv G kd ad s.heap M H locs)
    (hM : Met l y (Cond.code y bytes maxL ret :: WA) rm (Pg G kd ad H.size (.ref (ad b) :: As) M) (Qr G kd ad H.size M' (some (.ref (ad b)))) mc ms (AS kd ad H.size)) (hl : Cond.methodLink own index y ∈ WA) (h2 : Cond.sameMethod y.cls y.cls y.name y.desc ∈ WA) (h3 : Cond.instanceMethod y ∈ WA) (h4 : Cond.initialized y.cls ∈ WA) (h5 : Cond.code y bytes maxL ret ∈ WA) (hsel : Cond.selects C y y ∈ WA) (hf9 : (y.cls ≠ "java/lang/invoke/MethodHandle" ∧ y.cls ≠ "java/lang/invoke/VarHandle" ∧ (parseMethodDescriptor y.desc).map (fun d => d.parameters.length) = some n)) (hrc : rm.cells = mc) (hrs : rm.slots = ms) (hR : rm.frames + 1 ≤ R.frames ∧ 8 + (maxL + 11) + rm.locals ≤ R.locals)
    {ci : Nat} {q : Nat × Nat} {fs : List Value} {T : u_T} {N : Nat} (hk : kd b = q) (hq : q.1 ≠ 0) (he : ent ad G.2.1 q b (M.1 b) (M.2.1 b) (M.2.2 b) = .inr (ci, fs)) (hc : vwCl[ci]? = some (C, T, N))
    (hn : As.length = n) (hsize : ls.size = nL) {st : List Value} (hst : st = As.reverse ++ .ref (ad b) :: rest) (hW : (rest.map fun v => v.category).sum ≤ 8) (hdg : decode cc pc = .ok (.invokevirtual index, 3)) (hf : cells + mc ≤ R.cells ∧ slots + ms ≤ R.slots)
    (kk : ∀ (kd1 : Nat → Nat × Nat) (ad1 : Nat → Nat) (H1 : Heap) (locs1 : List Loc), Ext kd ad kd1 ad1 s.heap.size → Low kd1 → Sb kd1 (rd M' 133 0) → Apt kd1 ad1 → Inv G kd1 ad1 s.heap M' H1 locs1 → W p l e R s m args below meth c H1 locs1 (cells + mc) (slots + ms) Q (F0 m (pc + 3) ls (.ref (ad b) :: rest))) : W p l e R s m args below meth c H locs cells slots Q (F0 m pc ls st) := by
  subst hst
  have hG : GoodIn WA (va_wsU own index C y.cls y y (Cond.code y bytes maxL ret :: WA)) := fun w h => by
    have : w ∈ WA := by
      rcases List.mem_append.mp h with h | h
      · simp only [List.mem_cons, List.not_mem_nil, or_false] at h
        rcases h with rfl | rfl | rfl | rfl | rfl
        · exact hl
        · exact h2
        · exact hsel
        · exact h3
        · exact h4
      · exact ws_good h5 w h
    exact ⟨this, wa_good w this⟩
  exact g_callR (va_runU (C := C) (b := ad b) (As := As) (rest := rest) ⟨hx, hb, hml, hown, hts⟩ hM (va_cwU n hts hG rfl hrc hrs rfl hf9 hR) ⟨pg_blind, va_recv hK (va_P1 (hI.at hk hq he)) hc (q0 := 0) rfl, fun U hU hW => pg_of hap hK hsx hI hU hW⟩ rfl hn hsize rfl (lv_room hW) hdg hf) hI kk
theorem g_callURv {b : Nat} {C : String} {y : MethodName} {bytes : ByteArray} {maxL nL mc ms n index : Nat} {ret : Option FieldType} {rm : Room} {own : String} {As : List Value} {M' : Mem}  (hx : p.tables.exec = Jvm.exec) (hb : c.code = cc) (hml : c.maxLocals = nL) (hown : s.vm.findClass own = some m.cls) (hts : ∀ w ∈ WA, w.before args s = true) (hK : va_K G.1 vwCl (tyL G) s) (hap : Apt kd ad) (hsx : Sx G (AS kd ad s.heap.size) s s.heap) (hI : Inv G kd ad s.heap M H locs)
    (hM : Met l y (Cond.code y bytes maxL ret :: WA) rm (Pg G kd ad H.size (.ref (ad b) :: As) M) (Qr G kd ad H.size M' none) mc ms (AS kd ad H.size)) (hl : Cond.methodLink own index y ∈ WA) (h2 : Cond.sameMethod y.cls y.cls y.name y.desc ∈ WA) (h3 : Cond.instanceMethod y ∈ WA) (h4 : Cond.initialized y.cls ∈ WA) (h5 : Cond.code y bytes maxL ret ∈ WA) (hsel : Cond.selects C y y ∈ WA) (hf9 : (y.cls ≠ "java/lang/invoke/MethodHandle" ∧ y.cls ≠ "java/lang/invoke/VarHandle" ∧ (parseMethodDescriptor y.desc).map (fun d => d.parameters.length) = some n)) (hrc : rm.cells = mc) (hrs : rm.slots = ms) (hR : rm.frames + 1 ≤ R.frames ∧ 8 + (maxL + 11) + rm.locals ≤ R.locals)
    {ci : Nat} {q : Nat × Nat} {fs : List Value} {T : u_T} {N : Nat} (hk : kd b = q) (hq : q.1 ≠ 0) (he : ent ad G.2.1 q b (M.1 b) (M.2.1 b) (M.2.2 b) = .inr (ci, fs)) (hc : vwCl[ci]? = some (C, T, N))
    (hn : As.length = n) (hsize : ls.size = nL) {st : List Value} (hst : st = As.reverse ++ .ref (ad b) :: rest) (hW : (rest.map fun v => v.category).sum ≤ 8) (hdg : decode cc pc = .ok (.invokevirtual index, 3)) (hf : cells + mc ≤ R.cells ∧ slots + ms ≤ R.slots)
    (kk : ∀ (kd1 : Nat → Nat × Nat) (ad1 : Nat → Nat) (H1 : Heap) (locs1 : List Loc), Ext kd ad kd1 ad1 s.heap.size → Low kd1 → Sb kd1 (rd M' 133 0) → Apt kd1 ad1 → Inv G kd1 ad1 s.heap M' H1 locs1 → W p l e R s m args below meth c H1 locs1 (cells + mc) (slots + ms) Q (F0 m (pc + 3) ls (rest))) : W p l e R s m args below meth c H locs cells slots Q (F0 m pc ls st) := by
  subst hst
  have hG : GoodIn WA (va_wsU own index C y.cls y y (Cond.code y bytes maxL ret :: WA)) := fun w h => by
    have : w ∈ WA := by
      rcases List.mem_append.mp h with h | h
      · simp only [List.mem_cons, List.not_mem_nil, or_false] at h
        rcases h with rfl | rfl | rfl | rfl | rfl
        · exact hl
        · exact h2
        · exact hsel
        · exact h3
        · exact h4
      · exact ws_good h5 w h
    exact ⟨this, wa_good w this⟩
  exact g_callR (va_runU (C := C) (b := ad b) (As := As) (rest := rest) ⟨hx, hb, hml, hown, hts⟩ hM (va_cwU n hts hG rfl hrc hrs rfl hf9 hR) ⟨pg_blind, va_recv hK (va_P1 (hI.at hk hq he)) hc (q0 := 0) rfl, fun U hU hW => pg_of hap hK hsx hI hU hW⟩ rfl hn hsize rfl (lv_room hW) hdg hf) hI kk
theorem g_callURi {b : Nat} {C : String} {y : MethodName} {bytes : ByteArray} {maxL nL mc ms n index : Nat} {ret : Option FieldType} {rm : Room} {own : String} {As : List Value} {M' : Mem} {r : Int32} (hx : p.tables.exec = Jvm.exec) (hb : c.code = cc) (hml : c.maxLocals = nL) (hown : s.vm.findClass own = some m.cls) (hts : ∀ w ∈ WA, w.before args s = true) (hK : va_K G.1 vwCl (tyL G) s) (hap : Apt kd ad) (hsx : Sx G (AS kd ad s.heap.size) s s.heap) (hI : Inv G kd ad s.heap M H locs)
    (hM : Met l y (Cond.code y bytes maxL ret :: WA) rm (Pg G kd ad H.size (.ref (ad b) :: As) M) (Qr G kd ad H.size M' (some (.int r))) mc ms (AS kd ad H.size)) (hl : Cond.methodLink own index y ∈ WA) (h2 : Cond.sameMethod y.cls y.cls y.name y.desc ∈ WA) (h3 : Cond.instanceMethod y ∈ WA) (h4 : Cond.initialized y.cls ∈ WA) (h5 : Cond.code y bytes maxL ret ∈ WA) (hsel : Cond.selects C y y ∈ WA) (hf9 : (y.cls ≠ "java/lang/invoke/MethodHandle" ∧ y.cls ≠ "java/lang/invoke/VarHandle" ∧ (parseMethodDescriptor y.desc).map (fun d => d.parameters.length) = some n)) (hrc : rm.cells = mc) (hrs : rm.slots = ms) (hR : rm.frames + 1 ≤ R.frames ∧ 8 + (maxL + 11) + rm.locals ≤ R.locals)
    {ci : Nat} {q : Nat × Nat} {fs : List Value} {T : u_T} {N : Nat} (hk : kd b = q) (hq : q.1 ≠ 0) (he : ent ad G.2.1 q b (M.1 b) (M.2.1 b) (M.2.2 b) = .inr (ci, fs)) (hc : vwCl[ci]? = some (C, T, N))
    (hn : As.length = n) (hsize : ls.size = nL) {st : List Value} (hst : st = As.reverse ++ .ref (ad b) :: rest) (hW : (rest.map fun v => v.category).sum ≤ 8) (hdg : decode cc pc = .ok (.invokevirtual index, 3)) (hf : cells + mc ≤ R.cells ∧ slots + ms ≤ R.slots)
    (kk : ∀ (kd1 : Nat → Nat × Nat) (ad1 : Nat → Nat) (H1 : Heap) (locs1 : List Loc), Ext kd ad kd1 ad1 s.heap.size → Low kd1 → Sb kd1 (rd M' 133 0) → Apt kd1 ad1 → Inv G kd1 ad1 s.heap M' H1 locs1 → W p l e R s m args below meth c H1 locs1 (cells + mc) (slots + ms) Q (F0 m (pc + 3) ls (.int r :: rest))) : W p l e R s m args below meth c H locs cells slots Q (F0 m pc ls st) := by
  subst hst
  have hG : GoodIn WA (va_wsU own index C y.cls y y (Cond.code y bytes maxL ret :: WA)) := fun w h => by
    have : w ∈ WA := by
      rcases List.mem_append.mp h with h | h
      · simp only [List.mem_cons, List.not_mem_nil, or_false] at h
        rcases h with rfl | rfl | rfl | rfl | rfl
        · exact hl
        · exact h2
        · exact hsel
        · exact h3
        · exact h4
      · exact ws_good h5 w h
    exact ⟨this, wa_good w this⟩
  exact g_callR (va_runU (C := C) (b := ad b) (As := As) (rest := rest) ⟨hx, hb, hml, hown, hts⟩ hM (va_cwU n hts hG rfl hrc hrs rfl hf9 hR) ⟨pg_blind, va_recv hK (va_P1 (hI.at hk hq he)) hc (q0 := 0) rfl, fun U hU hW => pg_of hap hK hsx hI hU hW⟩ rfl hn hsize rfl (lv_room hW) hdg hf) hI kk
theorem g_callSURa {b : Nat} {C : String} {y : MethodName} {bytes : ByteArray} {maxL nL mc ms n index : Nat} {ret : Option FieldType} {rm : Room} {own : String} {As : List Value} {M' : Mem}  (hx : p.tables.exec = Jvm.exec) (hb : c.code = cc) (hml : c.maxLocals = nL) (hown : s.vm.findClass own = some m.cls) (hts : ∀ w ∈ WA, w.before args s = true) (hK : va_K G.1 vwCl (tyL G) s) (hap : Apt kd ad) (hsx : Sx G (AS kd ad s.heap.size) s s.heap) (hI : Inv G kd ad s.heap M H locs)
    (hM : Met l y (Cond.code y bytes maxL ret :: WA) rm (Pg G kd ad H.size (.ref (ad b) :: As) M) (Qr G kd ad H.size M' (some (.ref (ad b)))) mc ms (AS kd ad H.size)) (hl : Cond.methodLink own index y ∈ WA) (h2 : Cond.sameMethod y.cls y.cls y.name y.desc ∈ WA) (h3 : Cond.instanceMethod y ∈ WA) (h4 : Cond.initialized y.cls ∈ WA) (h5 : Cond.code y bytes maxL ret ∈ WA) (hsup : Cond.superclass own y.cls ∈ WA) (hf9 : (y.name ≠ "<init>" ∧ (parseMethodDescriptor y.desc).map (fun d => d.parameters.length) = some n)) (hrc : rm.cells = mc) (hrs : rm.slots = ms) (hR : rm.frames + 1 ≤ R.frames ∧ 8 + (maxL + 11) + rm.locals ≤ R.locals)
    {ci : Nat} {q : Nat × Nat} {fs : List Value} {T : u_T} {N : Nat} (hk : kd b = q) (hq : q.1 ≠ 0) (he : ent ad G.2.1 q b (M.1 b) (M.2.1 b) (M.2.2 b) = .inr (ci, fs)) (hc : vwCl[ci]? = some (C, T, N))
    (hn : As.length = n) (hsize : ls.size = nL) {st : List Value} (hst : st = As.reverse ++ .ref (ad b) :: rest) (hW : (rest.map fun v => v.category).sum ≤ 8) (hdg : decode cc pc = .ok (.invokespecial index, 3)) (hf : cells + mc ≤ R.cells ∧ slots + ms ≤ R.slots)
    (kk : ∀ (kd1 : Nat → Nat × Nat) (ad1 : Nat → Nat) (H1 : Heap) (locs1 : List Loc), Ext kd ad kd1 ad1 s.heap.size → Low kd1 → Sb kd1 (rd M' 133 0) → Apt kd1 ad1 → Inv G kd1 ad1 s.heap M' H1 locs1 → W p l e R s m args below meth c H1 locs1 (cells + mc) (slots + ms) Q (F0 m (pc + 3) ls (.ref (ad b) :: rest))) : W p l e R s m args below meth c H locs cells slots Q (F0 m pc ls st) := by
  subst hst
  have hG : GoodIn WA (va_wsSU own index y (Cond.code y bytes maxL ret :: WA)) := fun w h => by
    have : w ∈ WA := by
      rcases List.mem_append.mp h with h | h
      · simp only [List.mem_cons, List.not_mem_nil, or_false] at h
        rcases h with rfl | rfl | rfl | rfl | rfl
        · exact hl
        · exact h2
        · exact hsup
        · exact h3
        · exact h4
      · exact ws_good h5 w h
    exact ⟨this, wa_good w this⟩
  have hKn := (hK.1 ci _ hc).2
  have hcl : ClassAt s C (G.1.1 ci) := ⟨hKn.1, by obtain ⟨kC, hkC, hkind⟩ := hKn.2; exact ⟨kC, hkC, hkind⟩⟩
  exact g_callR (va_runSU (C := C) (b := ad b) (As := As) (rest := rest) hcl ⟨hx, hb, hml, hown, hts⟩ hM (va_cwSU n hts hG rfl hrc hrs hf9 hR) ⟨pg_blind, va_recv hK (va_P1 (hI.at hk hq he)) hc (q0 := 0) rfl, fun U hU hW => pg_of hap hK hsx hI hU hW⟩ rfl hn hsize rfl (lv_room hW) hdg hf) hI kk
theorem g_callSURv {b : Nat} {C : String} {y : MethodName} {bytes : ByteArray} {maxL nL mc ms n index : Nat} {ret : Option FieldType} {rm : Room} {own : String} {As : List Value} {M' : Mem}  (hx : p.tables.exec = Jvm.exec) (hb : c.code = cc) (hml : c.maxLocals = nL) (hown : s.vm.findClass own = some m.cls) (hts : ∀ w ∈ WA, w.before args s = true) (hK : va_K G.1 vwCl (tyL G) s) (hap : Apt kd ad) (hsx : Sx G (AS kd ad s.heap.size) s s.heap) (hI : Inv G kd ad s.heap M H locs)
    (hM : Met l y (Cond.code y bytes maxL ret :: WA) rm (Pg G kd ad H.size (.ref (ad b) :: As) M) (Qr G kd ad H.size M' none) mc ms (AS kd ad H.size)) (hl : Cond.methodLink own index y ∈ WA) (h2 : Cond.sameMethod y.cls y.cls y.name y.desc ∈ WA) (h3 : Cond.instanceMethod y ∈ WA) (h4 : Cond.initialized y.cls ∈ WA) (h5 : Cond.code y bytes maxL ret ∈ WA) (hsup : Cond.superclass own y.cls ∈ WA) (hf9 : (y.name ≠ "<init>" ∧ (parseMethodDescriptor y.desc).map (fun d => d.parameters.length) = some n)) (hrc : rm.cells = mc) (hrs : rm.slots = ms) (hR : rm.frames + 1 ≤ R.frames ∧ 8 + (maxL + 11) + rm.locals ≤ R.locals)
    {ci : Nat} {q : Nat × Nat} {fs : List Value} {T : u_T} {N : Nat} (hk : kd b = q) (hq : q.1 ≠ 0) (he : ent ad G.2.1 q b (M.1 b) (M.2.1 b) (M.2.2 b) = .inr (ci, fs)) (hc : vwCl[ci]? = some (C, T, N))
    (hn : As.length = n) (hsize : ls.size = nL) {st : List Value} (hst : st = As.reverse ++ .ref (ad b) :: rest) (hW : (rest.map fun v => v.category).sum ≤ 8) (hdg : decode cc pc = .ok (.invokespecial index, 3)) (hf : cells + mc ≤ R.cells ∧ slots + ms ≤ R.slots)
    (kk : ∀ (kd1 : Nat → Nat × Nat) (ad1 : Nat → Nat) (H1 : Heap) (locs1 : List Loc), Ext kd ad kd1 ad1 s.heap.size → Low kd1 → Sb kd1 (rd M' 133 0) → Apt kd1 ad1 → Inv G kd1 ad1 s.heap M' H1 locs1 → W p l e R s m args below meth c H1 locs1 (cells + mc) (slots + ms) Q (F0 m (pc + 3) ls (rest))) : W p l e R s m args below meth c H locs cells slots Q (F0 m pc ls st) := by
  subst hst
  have hG : GoodIn WA (va_wsSU own index y (Cond.code y bytes maxL ret :: WA)) := fun w h => by
    have : w ∈ WA := by
      rcases List.mem_append.mp h with h | h
      · simp only [List.mem_cons, List.not_mem_nil, or_false] at h
        rcases h with rfl | rfl | rfl | rfl | rfl
        · exact hl
        · exact h2
        · exact hsup
        · exact h3
        · exact h4
      · exact ws_good h5 w h
    exact ⟨this, wa_good w this⟩
  have hKn := (hK.1 ci _ hc).2
  have hcl : ClassAt s C (G.1.1 ci) := ⟨hKn.1, by obtain ⟨kC, hkC, hkind⟩ := hKn.2; exact ⟨kC, hkC, hkind⟩⟩
  exact g_callR (va_runSU (C := C) (b := ad b) (As := As) (rest := rest) hcl ⟨hx, hb, hml, hown, hts⟩ hM (va_cwSU n hts hG rfl hrc hrs hf9 hR) ⟨pg_blind, va_recv hK (va_P1 (hI.at hk hq he)) hc (q0 := 0) rfl, fun U hU hW => pg_of hap hK hsx hI hU hW⟩ rfl hn hsize rfl (lv_room hW) hdg hf) hI kk
theorem g_callSURi {b : Nat} {C : String} {y : MethodName} {bytes : ByteArray} {maxL nL mc ms n index : Nat} {ret : Option FieldType} {rm : Room} {own : String} {As : List Value} {M' : Mem} {r : Int32} (hx : p.tables.exec = Jvm.exec) (hb : c.code = cc) (hml : c.maxLocals = nL) (hown : s.vm.findClass own = some m.cls) (hts : ∀ w ∈ WA, w.before args s = true) (hK : va_K G.1 vwCl (tyL G) s) (hap : Apt kd ad) (hsx : Sx G (AS kd ad s.heap.size) s s.heap) (hI : Inv G kd ad s.heap M H locs)
    (hM : Met l y (Cond.code y bytes maxL ret :: WA) rm (Pg G kd ad H.size (.ref (ad b) :: As) M) (Qr G kd ad H.size M' (some (.int r))) mc ms (AS kd ad H.size)) (hl : Cond.methodLink own index y ∈ WA) (h2 : Cond.sameMethod y.cls y.cls y.name y.desc ∈ WA) (h3 : Cond.instanceMethod y ∈ WA) (h4 : Cond.initialized y.cls ∈ WA) (h5 : Cond.code y bytes maxL ret ∈ WA) (hsup : Cond.superclass own y.cls ∈ WA) (hf9 : (y.name ≠ "<init>" ∧ (parseMethodDescriptor y.desc).map (fun d => d.parameters.length) = some n)) (hrc : rm.cells = mc) (hrs : rm.slots = ms) (hR : rm.frames + 1 ≤ R.frames ∧ 8 + (maxL + 11) + rm.locals ≤ R.locals)
    {ci : Nat} {q : Nat × Nat} {fs : List Value} {T : u_T} {N : Nat} (hk : kd b = q) (hq : q.1 ≠ 0) (he : ent ad G.2.1 q b (M.1 b) (M.2.1 b) (M.2.2 b) = .inr (ci, fs)) (hc : vwCl[ci]? = some (C, T, N))
    (hn : As.length = n) (hsize : ls.size = nL) {st : List Value} (hst : st = As.reverse ++ .ref (ad b) :: rest) (hW : (rest.map fun v => v.category).sum ≤ 8) (hdg : decode cc pc = .ok (.invokespecial index, 3)) (hf : cells + mc ≤ R.cells ∧ slots + ms ≤ R.slots)
    (kk : ∀ (kd1 : Nat → Nat × Nat) (ad1 : Nat → Nat) (H1 : Heap) (locs1 : List Loc), Ext kd ad kd1 ad1 s.heap.size → Low kd1 → Sb kd1 (rd M' 133 0) → Apt kd1 ad1 → Inv G kd1 ad1 s.heap M' H1 locs1 → W p l e R s m args below meth c H1 locs1 (cells + mc) (slots + ms) Q (F0 m (pc + 3) ls (.int r :: rest))) : W p l e R s m args below meth c H locs cells slots Q (F0 m pc ls st) := by
  subst hst
  have hG : GoodIn WA (va_wsSU own index y (Cond.code y bytes maxL ret :: WA)) := fun w h => by
    have : w ∈ WA := by
      rcases List.mem_append.mp h with h | h
      · simp only [List.mem_cons, List.not_mem_nil, or_false] at h
        rcases h with rfl | rfl | rfl | rfl | rfl
        · exact hl
        · exact h2
        · exact hsup
        · exact h3
        · exact h4
      · exact ws_good h5 w h
    exact ⟨this, wa_good w this⟩
  have hKn := (hK.1 ci _ hc).2
  have hcl : ClassAt s C (G.1.1 ci) := ⟨hKn.1, by obtain ⟨kC, hkC, hkind⟩ := hKn.2; exact ⟨kC, hkC, hkind⟩⟩
  exact g_callR (va_runSU (C := C) (b := ad b) (As := As) (rest := rest) hcl ⟨hx, hb, hml, hown, hts⟩ hM (va_cwSU n hts hG rfl hrc hrs hf9 hR) ⟨pg_blind, va_recv hK (va_P1 (hI.at hk hq he)) hc (q0 := 0) rfl, fun U hU hW => pg_of hap hK hsx hI hU hW⟩ rfl hn hsize rfl (lv_room hW) hdg hf) hI kk
end GR2
