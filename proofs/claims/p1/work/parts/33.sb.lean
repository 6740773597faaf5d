section SBR
variable {p : Program} {l : Launch} {e : Env} {R : Room} {s : State} {m : MethodId} {args : Array Value} {below : List Frame} {meth : Method} {c : Code} {H : Heap} {locs : List Loc} {cells slots : Nat} {Q : State → Prop}
variable {cc : ByteArray} {pc : Nat} {ls : Array Slot} {rest : List Value} {G : GT} {kd : Nat → Nat × Nat} {ad : Nat → Nat} {M : Mem} {H0 : Heap}
theorem ggSB_0 (hx : p.tables.exec = Jvm.exec) (hb : c.code = cc) (hts : ∀ w ∈ WA, w.before args s = true) {own : String} {index k : Nat} (hown : s.vm.findClass own = some m.cls) (hK : va_K G.1 vwCl (tyL G) s) (hI : Inv G kd ad H0 M H locs) (hk : kd k = (9, 0)) (hlink : Cond.fieldLink own index "java/lang/AbstractStringBuilder" "value" "[B" ∈ WA) (hdg : decode cc pc = .ok (.getfield index, 3)) (kk : W p l e R s m args below meth c H locs cells slots Q (F0 m (pc + 3) ls (.ref (ad (k + 1)) :: rest))) : W p l e R s m args below meth c H locs cells slots Q (F0 m pc ls (.ref (ad k) :: rest)) :=
  g_get hx hb hts inWJ4 hown hK hI hk (by simp) rfl rfl 0 (by decide) ⟨rfl, rfl, rfl⟩ hlink rfl hdg kk
theorem ggSB_1 (hx : p.tables.exec = Jvm.exec) (hb : c.code = cc) (hts : ∀ w ∈ WA, w.before args s = true) {own : String} {index k : Nat} (hown : s.vm.findClass own = some m.cls) (hK : va_K G.1 vwCl (tyL G) s) (hI : Inv G kd ad H0 M H locs) (hk : kd k = (9, 0)) (hlink : Cond.fieldLink own index "java/lang/AbstractStringBuilder" "coder" "B" ∈ WA) (hdg : decode cc pc = .ok (.getfield index, 3)) (kk : W p l e R s m args below meth c H locs cells slots Q (F0 m (pc + 3) ls (.int (rd M k 1) :: rest))) : W p l e R s m args below meth c H locs cells slots Q (F0 m pc ls (.ref (ad k) :: rest)) :=
  g_get hx hb hts inWJ4 hown hK hI hk (by simp) rfl rfl 1 (by decide) ⟨rfl, rfl, rfl⟩ hlink rfl hdg kk
theorem ggSB_2 (hx : p.tables.exec = Jvm.exec) (hb : c.code = cc) (hts : ∀ w ∈ WA, w.before args s = true) {own : String} {index k : Nat} (hown : s.vm.findClass own = some m.cls) (hK : va_K G.1 vwCl (tyL G) s) (hI : Inv G kd ad H0 M H locs) (hk : kd k = (9, 0)) (hlink : Cond.fieldLink own index "java/lang/AbstractStringBuilder" "maybeLatin1" "Z" ∈ WA) (hdg : decode cc pc = .ok (.getfield index, 3)) (kk : W p l e R s m args below meth c H locs cells slots Q (F0 m (pc + 3) ls (.int (rd M k 2) :: rest))) : W p l e R s m args below meth c H locs cells slots Q (F0 m pc ls (.ref (ad k) :: rest)) :=
  g_get hx hb hts inWJ4 hown hK hI hk (by simp) rfl rfl 2 (by decide) ⟨rfl, rfl, rfl⟩ hlink rfl hdg kk
theorem gpSB_2 (hx : p.tables.exec = Jvm.exec) (hb : c.code = cc) (hts : ∀ w ∈ WA, w.before args s = true) {own : String} {index k : Nat} (hown : s.vm.findClass own = some m.cls) (hK : va_K G.1 vwCl (tyL G) s) (hap : Apt kd ad) (hI : Inv G kd ad H0 M H locs) (hk : kd k = (9, 0)) (hlink : Cond.fieldLink own index "java/lang/AbstractStringBuilder" "maybeLatin1" "Z" ∈ WA) {v : Int32} (hdg : decode cc pc = .ok (.putfield index, 3)) (hn : narrow .boolean (.int v) = .int v) (hfz : fits .boolean (.int v) = true) {M' : Mem} (hM : M' = wr M k 2 v) (kk : ∀ (H1 : Heap) (locs1 : List Loc), Inv G kd ad H0 M' H1 locs1 → W p l e R s m args below meth c H1 locs1 cells slots Q (F0 m (pc + 3) ls rest)) : W p l e R s m args below meth c H locs cells slots Q (F0 m pc ls (.int v :: .ref (ad k) :: rest)) := by
  subst hM
  exact g_put hx hb hts inWJ4 tyJ4 tyJ4_ok nmJ4 hown hK hap hI hk (by simp) rfl rfl 2 (by decide) ⟨rfl, rfl, rfl⟩ hlink rfl (ty := .boolean) (by decide +kernel) hn hfz (Nat.le_of_ble_eq_true rfl) (by rw [wr_s]; rfl) wr_o hdg kk
theorem ggSB_3 (hx : p.tables.exec = Jvm.exec) (hb : c.code = cc) (hts : ∀ w ∈ WA, w.before args s = true) {own : String} {index k : Nat} (hown : s.vm.findClass own = some m.cls) (hK : va_K G.1 vwCl (tyL G) s) (hI : Inv G kd ad H0 M H locs) (hk : kd k = (9, 0)) (hlink : Cond.fieldLink own index "java/lang/AbstractStringBuilder" "count" "I" ∈ WA) (hdg : decode cc pc = .ok (.getfield index, 3)) (kk : W p l e R s m args below meth c H locs cells slots Q (F0 m (pc + 3) ls (.int (rd M k 3) :: rest))) : W p l e R s m args below meth c H locs cells slots Q (F0 m pc ls (.ref (ad k) :: rest)) :=
  g_get hx hb hts inWJ4 hown hK hI hk (by simp) rfl rfl 3 (by decide) ⟨rfl, rfl, rfl⟩ hlink rfl hdg kk
theorem gpSB_3 (hx : p.tables.exec = Jvm.exec) (hb : c.code = cc) (hts : ∀ w ∈ WA, w.before args s = true) {own : String} {index k : Nat} (hown : s.vm.findClass own = some m.cls) (hK : va_K G.1 vwCl (tyL G) s) (hap : Apt kd ad) (hI : Inv G kd ad H0 M H locs) (hk : kd k = (9, 0)) (hlink : Cond.fieldLink own index "java/lang/AbstractStringBuilder" "count" "I" ∈ WA) {v : Int32} (hdg : decode cc pc = .ok (.putfield index, 3)) {M' : Mem} (hM : M' = wr M k 3 v) (kk : ∀ (H1 : Heap) (locs1 : List Loc), Inv G kd ad H0 M' H1 locs1 → W p l e R s m args below meth c H1 locs1 cells slots Q (F0 m (pc + 3) ls rest)) : W p l e R s m args below meth c H locs cells slots Q (F0 m pc ls (.int v :: .ref (ad k) :: rest)) := by
  subst hM
  exact g_put hx hb hts inWJ4 tyJ4 tyJ4_ok nmJ4 hown hK hap hI hk (by simp) rfl rfl 3 (by decide) ⟨rfl, rfl, rfl⟩ hlink rfl (ty := .int) (by decide +kernel) rfl rfl (Nat.le_of_ble_eq_true rfl) (by rw [wr_s]; rfl) wr_o hdg kk
theorem g_callUi {b : Nat} {C : String} {y : MethodName} {bytes : ByteArray} {maxL nL mc ms n index : Nat} {ret : Option FieldType} {rm : Room} {own : String} {As : List Value} {M' : Mem} {r : Int32} (hx : p.tables.exec = Jvm.exec) (hb : c.code = cc) (hml : c.maxLocals = nL) (hown : s.vm.findClass own = some m.cls) (hts : ∀ w ∈ WA, w.before args s = true) (hK : va_K G.1 vwCl (tyL G) s) (hap : Apt kd ad) (hsx : Sx G (AS kd ad s.heap.size) s s.heap) (hI : Inv G kd ad s.heap M H locs)
    (hM : Met l y (Cond.code y bytes maxL ret :: WA) rm (Pg G kd ad H.size (.ref (ad b) :: As) M) (Qg G kd ad H.size M' (some (.int r))) mc ms (AS kd ad H.size)) (hl : Cond.methodLink own index y ∈ WA) (h2 : Cond.sameMethod y.cls y.cls y.name y.desc ∈ WA) (h3 : Cond.instanceMethod y ∈ WA) (h4 : Cond.initialized y.cls ∈ WA) (h5 : Cond.code y bytes maxL ret ∈ WA) (hsel : Cond.selects C y y ∈ WA) (hf9 : (y.cls ≠ "java/lang/invoke/MethodHandle" ∧ y.cls ≠ "java/lang/invoke/VarHandle" ∧ (parseMethodDescriptor y.desc).map (fun d => d.parameters.length) = some n)) (hrc : rm.cells = mc) (hrs : rm.slots = ms) (hR : rm.frames + 1 ≤ R.frames ∧ 8 + (maxL + 11) + rm.locals ≤ R.locals)
    {ci : Nat} {q : Nat × Nat} {fs : List Value} {T : u_T} {N : Nat} (hk : kd b = q) (hq : q.1 ≠ 0) (he : ent ad G.2.1 q b (M.1 b) (M.2.1 b) (M.2.2 b) = .inr (ci, fs)) (hc : vwCl[ci]? = some (C, T, N))
    (hn : As.length = n) (hsize : ls.size = nL) {st : List Value} (hst : st = As.reverse ++ .ref (ad b) :: rest) (hW : (rest.map fun v => v.category).sum ≤ 8) (hdg : decode cc pc = .ok (.invokevirtual index, 3)) (hf : cells + mc ≤ R.cells ∧ slots + ms ≤ R.slots)
    (kk : ∀ (H1 : Heap) (locs1 : List Loc), Inv G kd ad s.heap M' H1 locs1 → W p l e R s m args below meth c H1 locs1 (cells + mc) (slots + ms) Q (F0 m (pc + 3) ls (.int r :: rest))) : W p l e R s m args below meth c H locs cells slots Q (F0 m pc ls st) := by
  subst hst
  have hG : GoodIn WA (va_wsU own index C y.cls y y (Cond.code y bytes maxL ret :: WA)) := fun w h => by
    have : w ∈ WA := by
      rcases List.mem_append.mp h with h | h
      · simp only [List.mem_cons, List.not_mem_nil, or_false] at h
        rcases h with rfl | rfl | rfl | rfl | rfl
        · exact hl
        · exact h2
        · exact hsel
        · exact h3
        · exact h4
      · exact ws_good h5 w h
    exact ⟨this, wa_good w this⟩
  exact g_call (va_runU (C := C) (b := ad b) (As := As) (rest := rest) ⟨hx, hb, hml, hown, hts⟩ hM (va_cwU n hts hG rfl hrc hrs rfl hf9 hR) ⟨pg_blind, va_recv hK (va_P1 (hI.at hk hq he)) hc (q0 := 0) rfl, fun U hU hW => pg_of hap hK hsx hI hU hW⟩ rfl hn hsize rfl (lv_room hW) hdg hf) hI kk
theorem g_callUv {b : Nat} {C : String} {y : MethodName} {bytes : ByteArray} {maxL nL mc ms n index : Nat} {ret : Option FieldType} {rm : Room} {own : String} {As : List Value} {M' : Mem}  (hx : p.tables.exec = Jvm.exec) (hb : c.code = cc) (hml : c.maxLocals = nL) (hown : s.vm.findClass own = some m.cls) (hts : ∀ w ∈ WA, w.before args s = true) (hK : va_K G.1 vwCl (tyL G) s) (hap : Apt kd ad) (hsx : Sx G (AS kd ad s.heap.size) s s.heap) (hI : Inv G kd ad s.heap M H locs)
    (hM : Met l y (Cond.code y bytes maxL ret :: WA) rm (Pg G kd ad H.size (.ref (ad b) :: As) M) (Qg G kd ad H.size M' none) mc ms (AS kd ad H.size)) (hl : Cond.methodLink own index y ∈ WA) (h2 : Cond.sameMethod y.cls y.cls y.name y.desc ∈ WA) (h3 : Cond.instanceMethod y ∈ WA) (h4 : Cond.initialized y.cls ∈ WA) (h5 : Cond.code y bytes maxL ret ∈ WA) (hsel : Cond.selects C y y ∈ WA) (hf9 : (y.cls ≠ "java/lang/invoke/MethodHandle" ∧ y.cls ≠ "java/lang/invoke/VarHandle" ∧ (parseMethodDescriptor y.desc).map (fun d => d.parameters.length) = some n)) (hrc : rm.cells = mc) (hrs : rm.slots = ms) (hR : rm.frames + 1 ≤ R.frames ∧ 8 + (maxL + 11) + rm.locals ≤ R.locals)
    {ci : Nat} {q : Nat × Nat} {fs : List Value} {T : u_T} {N : Nat} (hk : kd b = q) (hq : q.1 ≠ 0) (he : ent ad G.2.1 q b (M.1 b) (M.2.1 b) (M.2.2 b) = .inr (ci, fs)) (hc : vwCl[ci]? = some (C, T, N))
    (hn : As.length = n) (hsize : ls.size = nL) {st : List Value} (hst : st = As.reverse ++ .ref (ad b) :: rest) (hW : (rest.map fun v => v.category).sum ≤ 8) (hdg : decode cc pc = .ok (.invokevirtual index, 3)) (hf : cells + mc ≤ R.cells ∧ slots + ms ≤ R.slots)
    (kk : ∀ (H1 : Heap) (locs1 : List Loc), Inv G kd ad s.heap M' H1 locs1 → W p l e R s m args below meth c H1 locs1 (cells + mc) (slots + ms) Q (F0 m (pc + 3) ls rest)) : W p l e R s m args below meth c H locs cells slots Q (F0 m pc ls st) := by
  subst hst
  have hG : GoodIn WA (va_wsU own index C y.cls y y (Cond.code y bytes maxL ret :: WA)) := fun w h => by
    have : w ∈ WA := by
      rcases List.mem_append.mp h with h | h
      · simp only [List.mem_cons, List.not_mem_nil, or_false] at h
        rcases h with rfl | rfl | rfl | rfl | rfl
        · exact hl
        · exact h2
        · exact hsel
        · exact h3
        · exact h4
      · exact ws_good h5 w h
    exact ⟨this, wa_good w this⟩
  exact g_call (va_runU (C := C) (b := ad b) (As := As) (rest := rest) ⟨hx, hb, hml, hown, hts⟩ hM (va_cwU n hts hG rfl hrc hrs rfl hf9 hR) ⟨pg_blind, va_recv hK (va_P1 (hI.at hk hq he)) hc (q0 := 0) rfl, fun U hU hW => pg_of hap hK hsx hI hU hW⟩ rfl hn hsize rfl (lv_room hW) hdg hf) hI kk
theorem g_callSUi {b : Nat} {C : String} {y : MethodName} {bytes : ByteArray} {maxL nL mc ms n index : Nat} {ret : Option FieldType} {rm : Room} {own : String} {As : List Value} {M' : Mem} {r : Int32} (hx : p.tables.exec = Jvm.exec) (hb : c.code = cc) (hml : c.maxLocals = nL) (hown : s.vm.findClass own = some m.cls) (hts : ∀ w ∈ WA, w.before args s = true) (hK : va_K G.1 vwCl (tyL G) s) (hap : Apt kd ad) (hsx : Sx G (AS kd ad s.heap.size) s s.heap) (hI : Inv G kd ad s.heap M H locs)
    (hM : Met l y (Cond.code y bytes maxL ret :: WA) rm (Pg G kd ad H.size (.ref (ad b) :: As) M) (Qg G kd ad H.size M' (some (.int r))) mc ms (AS kd ad H.size)) (hl : Cond.methodLink own index y ∈ WA) (h2 : Cond.sameMethod y.cls y.cls y.name y.desc ∈ WA) (h3 : Cond.instanceMethod y ∈ WA) (h4 : Cond.initialized y.cls ∈ WA) (h5 : Cond.code y bytes maxL ret ∈ WA) (hsup : Cond.superclass own y.cls ∈ WA) (hf9 : (y.name ≠ "<init>" ∧ (parseMethodDescriptor y.desc).map (fun d => d.parameters.length) = some n)) (hrc : rm.cells = mc) (hrs : rm.slots = ms) (hR : rm.frames + 1 ≤ R.frames ∧ 8 + (maxL + 11) + rm.locals ≤ R.locals)
    {ci : Nat} {q : Nat × Nat} {fs : List Value} {T : u_T} {N : Nat} (hk : kd b = q) (hq : q.1 ≠ 0) (he : ent ad G.2.1 q b (M.1 b) (M.2.1 b) (M.2.2 b) = .inr (ci, fs)) (hc : vwCl[ci]? = some (C, T, N))
    (hn : As.length = n) (hsize : ls.size = nL) {st : List Value} (hst : st = As.reverse ++ .ref (ad b) :: rest) (hW : (rest.map fun v => v.category).sum ≤ 8) (hdg : decode cc pc = .ok (.invokespecial index, 3)) (hf : cells + mc ≤ R.cells ∧ slots + ms ≤ R.slots)
    (kk : ∀ (H1 : Heap) (locs1 : List Loc), Inv G kd ad s.heap M' H1 locs1 → W p l e R s m args below meth c H1 locs1 (cells + mc) (slots + ms) Q (F0 m (pc + 3) ls (.int r :: rest))) : W p l e R s m args below meth c H locs cells slots Q (F0 m pc ls st) := by
  subst hst
  have hG : GoodIn WA (va_wsSU own index y (Cond.code y bytes maxL ret :: WA)) := fun w h => by
    have : w ∈ WA := by
      rcases List.mem_append.mp h with h | h
      · simp only [List.mem_cons, List.not_mem_nil, or_false] at h
        rcases h with rfl | rfl | rfl | rfl | rfl
        · exact hl
        · exact h2
        · exact hsup
        · exact h3
        · exact h4
      · exact ws_good h5 w h
    exact ⟨this, wa_good w this⟩
  have hKn := (hK.1 ci _ hc).2
  have hcl : ClassAt s C (G.1.1 ci) := ⟨hKn.1, by obtain ⟨kC, hkC, hkind⟩ := hKn.2; exact ⟨kC, hkC, hkind⟩⟩
  exact g_call (va_runSU (C := C) (b := ad b) (As := As) (rest := rest) hcl ⟨hx, hb, hml, hown, hts⟩ hM (va_cwSU n hts hG rfl hrc hrs hf9 hR) ⟨pg_blind, va_recv hK (va_P1 (hI.at hk hq he)) hc (q0 := 0) rfl, fun U hU hW => pg_of hap hK hsx hI hU hW⟩ rfl hn hsize rfl (lv_room hW) hdg hf) hI kk
theorem g_callSUv {b : Nat} {C : String} {y : MethodName} {bytes : ByteArray} {maxL nL mc ms n index : Nat} {ret : Option FieldType} {rm : Room} {own : String} {As : List Value} {M' : Mem}  (hx : p.tables.exec = Jvm.exec) (hb : c.code = cc) (hml : c.maxLocals = nL) (hown : s.vm.findClass own = some m.cls) (hts : ∀ w ∈ WA, w.before args s = true) (hK : va_K G.1 vwCl (tyL G) s) (hap : Apt kd ad) (hsx : Sx G (AS kd ad s.heap.size) s s.heap) (hI : Inv G kd ad s.heap M H locs)
    (hM : Met l y (Cond.code y bytes maxL ret :: WA) rm (Pg G kd ad H.size (.ref (ad b) :: As) M) (Qg G kd ad H.size M' none) mc ms (AS kd ad H.size)) (hl : Cond.methodLink own index y ∈ WA) (h2 : Cond.sameMethod y.cls y.cls y.name y.desc ∈ WA) (h3 : Cond.instanceMethod y ∈ WA) (h4 : Cond.initialized y.cls ∈ WA) (h5 : Cond.code y bytes maxL ret ∈ WA) (hsup : Cond.superclass own y.cls ∈ WA) (hf9 : (y.name ≠ "<init>" ∧ (parseMethodDescriptor y.desc).map (fun d => d.parameters.length) = some n)) (hrc : rm.cells = mc) (hrs : rm.slots = ms) (hR : rm.frames + 1 ≤ R.frames ∧ 8 + (maxL + 11) + rm.locals ≤ R.locals)
    {ci : Nat} {q : Nat × Nat} {fs : List Value} {T : u_T} {N : Nat} (hk : kd b = q) (hq : q.1 ≠ 0) (he : ent ad G.2.1 q b (M.1 b) (M.2.1 b) (M.2.2 b) = .inr (ci, fs)) (hc : vwCl[ci]? = some (C, T, N))
    (hn : As.length = n) (hsize : ls.size = nL) {st : List Value} (hst : st = As.reverse ++ .ref (ad b) :: rest) (hW : (rest.map fun v => v.category).sum ≤ 8) (hdg : decode cc pc = .ok (.invokespecial index, 3)) (hf : cells + mc ≤ R.cells ∧ slots + ms ≤ R.slots)
    (kk : ∀ (H1 : Heap) (locs1 : List Loc), Inv G kd ad s.heap M' H1 locs1 → W p l e R s m args below meth c H1 locs1 (cells + mc) (slots + ms) Q (F0 m (pc + 3) ls rest)) : W p l e R s m args below meth c H locs cells slots Q (F0 m pc ls st) := by
  subst hst
  have hG : GoodIn WA (va_wsSU own index y (Cond.code y bytes maxL ret :: WA)) := fun w h => by
    have : w ∈ WA := by
      rcases List.mem_append.mp h with h | h
      · simp only [List.mem_cons, List.not_mem_nil, or_false] at h
        rcases h with rfl | rfl | rfl | rfl | rfl
        · exact hl
        · exact h2
        · exact hsup
        · exact h3
        · exact h4
      · exact ws_good h5 w h
    exact ⟨this, wa_good w this⟩
  have hKn := (hK.1 ci _ hc).2
  have hcl : ClassAt s C (G.1.1 ci) := ⟨hKn.1, by obtain ⟨kC, hkC, hkind⟩ := hKn.2; exact ⟨kC, hkC, hkind⟩⟩
  exact g_call (va_runSU (C := C) (b := ad b) (As := As) (rest := rest) hcl ⟨hx, hb, hml, hown, hts⟩ hM (va_cwSU n hts hG rfl hrc hrs hf9 hR) ⟨pg_blind, va_recv hK (va_P1 (hI.at hk hq he)) hc (q0 := 0) rfl, fun U hU hW => pg_of hap hK hsx hI hU hW⟩ rfl hn hsize rfl (lv_room hW) hdg hf) hI kk
end SBR
def mJ5_ensureCapacityInternal_d00df (k0 : Nat) (x1 : Int32) (M : Mem) : Option Unit := bnd (((16 : Int32) >>> ((rd M k0 1) &&& 31))) (fun x2_10 => ite2 ((x1 - x2_10) ≤ 0) (some ()) (none))
set_option maxHeartbeats 4000000 in
set_option maxRecDepth 100000 in
theorem tJ5_ensureCapacityInternal_d00df (l : Launch) {G : GT} {kd : Nat → Nat × Nat} {ad : Nat → Nat} {k0 : Nat} (hk0 : kSB kd k0) {x1 : Int32} {M : Mem} {vo : Unit} (hf : mJ5_ensureCapacityInternal_d00df k0 x1 M = some vo) (n : Nat) : Met l yJ5_ensureCapacityInternal_d00df (Cond.code yJ5_ensureCapacityInternal_d00df cJ5_ensureCapacityInternal_d00df 3 none :: WA) (rmO 0 0 0) (Pg G kd ad n [.ref (ad k0), .int x1] M) (Qg G kd ad n M none) 0 0 (AS kd ad n) := by
  refine g_body (own := RJ5) (by decide) rfl ?_ (Nat.le_of_ble_eq_true rfl)
  intro p e s m args below meth c C _ H locs ls hI hl
  obtain ⟨hx, hb, hml, hr, hown, hts, hlk, hK, hap, hsx⟩ := id C
  have hl : lv_has ls 3 [(0, .ref (ad k0)), (1, .int x1)] := hl
  unfold mJ5_ensureCapacityInternal_d00df at hf
  refine lv_aload_n hx hb (dc tbJ5_ensureCapacityInternal_d00df_k 0 rfl) rfl (lv_at hl 0 rfl) ?_
  refine ggSB_0 hx hb hts hown hK hI hk0.1 q_t2_68 (dc tbJ5_ensureCapacityInternal_d00df_k 1 rfl) ?_
  refine g_alenB hx hb hK hI hk0.2 (v := 16) (by decide) (dc tbJ5_ensureCapacityInternal_d00df_k 2 rfl) ?_
  refine lv_aload_n hx hb (dc tbJ5_ensureCapacityInternal_d00df_k 3 rfl) rfl (lv_at hl 0 rfl) ?_
  refine ggSB_1 hx hb hts hown hK hI hk0.1 q_t2_69 (dc tbJ5_ensureCapacityInternal_d00df_k 4 rfl) ?_
  refine lv_ishr hx hb (dc tbJ5_ensureCapacityInternal_d00df_k 5 rfl) ?_
  obtain ⟨x2_10, e1, hf⟩ := bnd_s hf
  refine lv_ei e1 ?_
  refine lv_istore_n (lv' := [(2, .int x2_10), (0, .ref (ad k0)), (1, .int x1)]) hx hb (dc tbJ5_ensureCapacityInternal_d00df_k 6 rfl) rfl hl (by decide) rfl (fun ls hl => ?_)
  refine lv_iload_n hx hb (dc tbJ5_ensureCapacityInternal_d00df_k 7 rfl) rfl (lv_at hl 2 rfl) ?_
  refine lv_iload_n hx hb (dc tbJ5_ensureCapacityInternal_d00df_k 8 rfl) rfl (lv_at hl 0 rfl) ?_
  refine lv_isub hx hb (dc tbJ5_ensureCapacityInternal_d00df_k 9 rfl) ?_
  refine lv_if_le (tgt := 38) hx hb (dc tbJ5_ensureCapacityInternal_d00df_k 10 rfl) rfl (fun c2 => ?_) (fun c2 => ?_)
  · have hf := ite_t c2 hf
    cases hf
    exact g_vret hx hb hr hlk hI (dc tbJ5_ensureCapacityInternal_d00df_k 22 rfl)
  · have hf := ite_f c2 hf
    refine lv_aload_n hx hb (dc tbJ5_ensureCapacityInternal_d00df_k 11 rfl) rfl (lv_at hl 1 rfl) ?_
    refine lv_aload_n hx hb (dc tbJ5_ensureCapacityInternal_d00df_k 12 rfl) rfl (lv_at hl 1 rfl) ?_
    refine ggSB_0 hx hb hts hown hK hI hk0.1 q_t2_68 (dc tbJ5_ensureCapacityInternal_d00df_k 13 rfl) ?_
    refine lv_aload_n hx hb (dc tbJ5_ensureCapacityInternal_d00df_k 14 rfl) rfl (lv_at hl 1 rfl) ?_
    refine lv_iload_n hx hb (dc tbJ5_ensureCapacityInternal_d00df_k 15 rfl) rfl (lv_at hl 2 rfl) ?_
    cases hf
def mJ5_setLength_d00df (k0 : Nat) (x1 : Int32) (M : Mem) : Option (Mem × Unit) := ite2 (0 ≤ x1) (cap (mJ5_ensureCapacityInternal_d00df k0 x1 M) (fun r3 => ite2 (x1 ≤ (rd M k0 3)) (ite2 ((rd M k0 3) ≤ x1) (bnd (wr M k0 3 x1) (fun M7 => some (M7, ()))) (bnd (wr M k0 2 (1 : Int32)) (fun M9 => bnd (wr M9 k0 3 x1) (fun M11 => some (M11, ()))))) (none))) (none)
set_option maxHeartbeats 4000000 in
set_option maxRecDepth 100000 in
theorem tJ5_setLength_d00df (l : Launch) {G : GT} {kd : Nat → Nat × Nat} {ad : Nat → Nat} {k0 : Nat} (hk0 : kSB kd k0) {x1 : Int32} {M : Mem} {MO : Mem} {vo : Unit} (hf : mJ5_setLength_d00df k0 x1 M = some (MO, vo)) (n : Nat) : Met l yJ5_setLength_d00df (Cond.code yJ5_setLength_d00df cJ5_setLength_d00df 2 none :: WA) (rmO 1 0 0) (Pg G kd ad n [.ref (ad k0), .int x1] M) (Qg G kd ad n MO none) 0 0 (AS kd ad n) := by
  refine g_body (own := RJ5) (by decide) rfl ?_ (Nat.le_of_ble_eq_true rfl)
  intro p e s m args below meth c C _ H locs ls hI hl
  obtain ⟨hx, hb, hml, hr, hown, hts, hlk, hK, hap, hsx⟩ := id C
  have hl : lv_has ls 2 [(0, .ref (ad k0)), (1, .int x1)] := hl
  unfold mJ5_setLength_d00df at hf
  refine lv_iload_n hx hb (dc tbJ5_setLength_d00df_0_k 0 rfl) rfl (lv_at hl 1 rfl) ?_
  refine lv_if_ge (tgt := 13) hx hb (dc tbJ5_setLength_d00df_0_k 1 rfl) rfl (fun c1 => ?_) (fun c1 => ?_)
  · have hf := ite_t c1 hf
    refine lv_aload_n hx hb (dc tbJ5_setLength_d00df_0_k 7 rfl) rfl (lv_at hl 0 rfl) ?_
    refine lv_iload_n hx hb (dc tbJ5_setLength_d00df_0_k 8 rfl) rfl (lv_at hl 1 rfl) ?_
    obtain ⟨r3, q2, hf⟩ := cap_s hf
    refine g_callUv (n := 1) hx hb hml hown hts hK hap hsx hI (tJ5_ensureCapacityInternal_d00df l hk0 q2 H.size) q_t3_235 q_t10_25 q_t3_237 q_t1_7 q_t3_238 q_wk_0 (by decide +kernel) rfl rfl ⟨Nat.le_of_ble_eq_true rfl, Nat.le_of_ble_eq_true rfl⟩ hk0.1 (by simp) rfl rfl rfl hl.1 rfl (Nat.le_of_ble_eq_true rfl) (dc tbJ5_setLength_d00df_0_k 9 rfl) ⟨Nat.le_of_ble_eq_true rfl, Nat.le_of_ble_eq_true rfl⟩ (fun H locs hI => ?_)
    refine lv_aload_n hx hb (dc tbJ5_setLength_d00df_0_k 10 rfl) rfl (lv_at hl 0 rfl) ?_
    refine ggSB_3 hx hb hts hown hK hI hk0.1 q_t2_72 (dc tbJ5_setLength_d00df_0_k 11 rfl) ?_
    refine lv_iload_n hx hb (dc tbJ5_setLength_d00df_0_k 12 rfl) rfl (lv_at hl 1 rfl) ?_
    refine lv_icmp_ge (tgt := 63) hx hb (dc tbJ5_setLength_d00df_0_k 13 rfl) rfl (fun c5 => ?_) (fun c5 => ?_)
    · have hf := ite_t c5 hf
      refine lv_aload_n hx hb (dc tbJ5_setLength_d00df_0_k 31 rfl) rfl (lv_at hl 0 rfl) ?_
      refine ggSB_3 hx hb hts hown hK hI hk0.1 q_t2_72 (dc tbJ5_setLength_d00df_0_k 32 rfl) ?_
      refine lv_iload_n hx hb (dc tbJ5_setLength_d00df_0_k 33 rfl) rfl (lv_at hl 1 rfl) ?_
      refine lv_icmp_le (tgt := 76) hx hb (dc tbJ5_setLength_d00df_0_k 34 rfl) rfl (fun c6 => ?_) (fun c6 => ?_)
      · have hf := ite_t c6 hf
        refine lv_aload_n hx hb (dc tbJ5_setLength_d00df_0_k 38 rfl) rfl (lv_at hl 0 rfl) ?_
        refine lv_iload_n hx hb (dc tbJ5_setLength_d00df_0_k 39 rfl) rfl (lv_at hl 1 rfl) ?_
        obtain ⟨M7, e8, hf⟩ := bnd_s hf
        refine gpSB_3 hx hb hts hown hK hap hI hk0.1 q_t2_72 (dc tbJ5_setLength_d00df_1_k 0 rfl) e8 (fun H locs hI => ?_)
        cases hf
        exact g_vret hx hb hr hlk hI (dc tbJ5_setLength_d00df_1_k 1 rfl)
      · have hf := ite_f c6 hf
        refine lv_aload_n hx hb (dc tbJ5_setLength_d00df_0_k 35 rfl) rfl (lv_at hl 0 rfl) ?_
        refine lv_iconst (v := 1) hx hb (dc tbJ5_setLength_d00df_0_k 36 rfl) ic_1 ?_
        obtain ⟨M9, e10, hf⟩ := bnd_s hf
        refine gpSB_2 hx hb hts hown hK hap hI hk0.1 q_t2_70 (dc tbJ5_setLength_d00df_0_k 37 rfl) rfl rfl e10 (fun H locs hI => ?_)
        refine lv_aload_n hx hb (dc tbJ5_setLength_d00df_0_k 38 rfl) rfl (lv_at hl 0 rfl) ?_
        refine lv_iload_n hx hb (dc tbJ5_setLength_d00df_0_k 39 rfl) rfl (lv_at hl 1 rfl) ?_
        obtain ⟨M11, e12, hf⟩ := bnd_s hf
        refine gpSB_3 hx hb hts hown hK hap hI hk0.1 q_t2_72 (dc tbJ5_setLength_d00df_1_k 0 rfl) e12 (fun H locs hI => ?_)
        cases hf
        exact g_vret hx hb hr hlk hI (dc tbJ5_setLength_d00df_1_k 1 rfl)
    · have hf := ite_f c5 hf
      refine lv_aload_n hx hb (dc tbJ5_setLength_d00df_0_k 14 rfl) rfl (lv_at hl 0 rfl) ?_
      cases hf
  · have hf := ite_f c1 hf
    cases hf
def mJ4_setLength_d00df (k0 : Nat) (x1 : Int32) (M : Mem) : Option (Mem × Unit) := cal (mJ5_setLength_d00df k0 x1 M) (fun M3 _ => some (M3, ()))
set_option maxHeartbeats 4000000 in
set_option maxRecDepth 100000 in
theorem tJ4_setLength_d00df (l : Launch) {G : GT} {kd : Nat → Nat × Nat} {ad : Nat → Nat} {k0 : Nat} (hk0 : kSB kd k0) {x1 : Int32} {M : Mem} {MO : Mem} {vo : Unit} (hf : mJ4_setLength_d00df k0 x1 M = some (MO, vo)) (n : Nat) : Met l yJ4_setLength_d00df (Cond.code yJ4_setLength_d00df cJ4_setLength_d00df 2 none :: WA) (rmO 2 0 0) (Pg G kd ad n [.ref (ad k0), .int x1] M) (Qg G kd ad n MO none) 0 0 (AS kd ad n) := by
  refine g_body (own := RJ4) (by decide) rfl ?_ (Nat.le_of_ble_eq_true rfl)
  intro p e s m args below meth c C _ H locs ls hI hl
  obtain ⟨hx, hb, hml, hr, hown, hts, hlk, hK, hap, hsx⟩ := id C
  have hl : lv_has ls 2 [(0, .ref (ad k0)), (1, .int x1)] := hl
  unfold mJ4_setLength_d00df at hf
  refine lv_aload_n hx hb (dc tbJ4_setLength_d00df_k 0 rfl) rfl (lv_at hl 0 rfl) ?_
  refine lv_iload_n hx hb (dc tbJ4_setLength_d00df_k 1 rfl) rfl (lv_at hl 1 rfl) ?_
  obtain ⟨M3, r2, q1, hf⟩ := cal_s hf
  refine g_callSUv (n := 1) hx hb hml hown hts hK hap hsx hI (tJ5_setLength_d00df l hk0 q1 H.size) q_t3_213 q_t10_22 q_t3_214 q_t1_7 q_t3_215 q_t2_81 (by decide +kernel) rfl rfl ⟨Nat.le_of_ble_eq_true rfl, Nat.le_of_ble_eq_true rfl⟩ hk0.1 (by simp) rfl rfl rfl hl.1 rfl (Nat.le_of_ble_eq_true rfl) (dc tbJ4_setLength_d00df_k 2 rfl) ⟨Nat.le_of_ble_eq_true rfl, Nat.le_of_ble_eq_true rfl⟩ (fun H locs hI => ?_)
  cases hf
  exact g_vret hx hb hr hlk hI (dc tbJ4_setLength_d00df_k 3 rfl)
theorem cv_J4_setLength_d00df : cvF RJ4 yJ4_setLength_d00df cJ4_setLength_d00df 2 none 1 := ⟨q_t3_210, q_t3_211, q_t1_8, q_t3_212, by decide +kernel⟩
def mJ5_length_8abf5 (k0 : Nat) (M : Mem) : Option Int32 := some (rd M k0 3)
set_option maxHeartbeats 4000000 in
set_option maxRecDepth 100000 in
theorem tJ5_length_8abf5 (l : Launch) {G : GT} {kd : Nat → Nat × Nat} {ad : Nat → Nat} {k0 : Nat} (hk0 : kSB kd k0) {M : Mem} {vo : Int32} (hf : mJ5_length_8abf5 k0 M = some vo) (n : Nat) : Met l yJ5_length_8abf5 (Cond.code yJ5_length_8abf5 cJ5_length_8abf5 1 (some .int) :: WA) (rmO 0 0 0) (Pg G kd ad n [.ref (ad k0)] M) (Qg G kd ad n M (some (.int vo))) 0 0 (AS kd ad n) := by
  refine g_body (own := RJ5) (by decide) rfl ?_ (Nat.le_of_ble_eq_true rfl)
  intro p e s m args below meth c C _ H locs ls hI hl
  obtain ⟨hx, hb, hml, hr, hown, hts, hlk, hK, hap, hsx⟩ := id C
  have hl : lv_has ls 1 [(0, .ref (ad k0))] := hl
  unfold mJ5_length_8abf5 at hf
  refine lv_aload_n hx hb (dc tbJ5_length_8abf5_k 0 rfl) rfl (lv_at hl 0 rfl) ?_
  refine ggSB_3 hx hb hts hown hK hI hk0.1 q_t2_72 (dc tbJ5_length_8abf5_k 1 rfl) ?_
  cases hf
  exact g_iret hx hb hr hlk hI (dc tbJ5_length_8abf5_k 2 rfl)
def mJ4_length_8abf5 (k0 : Nat) (M : Mem) : Option Int32 := cap (mJ5_length_8abf5 k0 M) (fun r2 => some r2)
set_option maxHeartbeats 4000000 in
set_option maxRecDepth 100000 in
theorem tJ4_length_8abf5 (l : Launch) {G : GT} {kd : Nat → Nat × Nat} {ad : Nat → Nat} {k0 : Nat} (hk0 : kSB kd k0) {M : Mem} {vo : Int32} (hf : mJ4_length_8abf5 k0 M = some vo) (n : Nat) : Met l yJ4_length_8abf5 (Cond.code yJ4_length_8abf5 cJ4_length_8abf5 1 (some .int) :: WA) (rmO 1 0 0) (Pg G kd ad n [.ref (ad k0)] M) (Qg G kd ad n M (some (.int vo))) 0 0 (AS kd ad n) := by
  refine g_body (own := RJ4) (by decide) rfl ?_ (Nat.le_of_ble_eq_true rfl)
  intro p e s m args below meth c C _ H locs ls hI hl
  obtain ⟨hx, hb, hml, hr, hown, hts, hlk, hK, hap, hsx⟩ := id C
  have hl : lv_has ls 1 [(0, .ref (ad k0))] := hl
  unfold mJ4_length_8abf5 at hf
  refine lv_aload_n hx hb (dc tbJ4_length_8abf5_k 0 rfl) rfl (lv_at hl 0 rfl) ?_
  obtain ⟨r2, q1, hf⟩ := cap_s hf
  refine g_callSUi (n := 0) hx hb hml hown hts hK hap hsx hI (tJ5_length_8abf5 l hk0 q1 H.size) q_t4_147 q_t4_143 q_t4_142 q_t1_7 q_t4_148 q_t2_81 (by decide +kernel) rfl rfl ⟨Nat.le_of_ble_eq_true rfl, Nat.le_of_ble_eq_true rfl⟩ hk0.1 (by simp) rfl rfl rfl hl.1 rfl (Nat.le_of_ble_eq_true rfl) (dc tbJ4_length_8abf5_k 1 rfl) ⟨Nat.le_of_ble_eq_true rfl, Nat.le_of_ble_eq_true rfl⟩ (fun H locs hI => ?_)
  cases hf
  exact g_iret hx hb hr hlk hI (dc tbJ4_length_8abf5_k 2 rfl)
theorem cv_J4_length_8abf5 : cvF RJ4 yJ4_length_8abf5 cJ4_length_8abf5 1 (some .int) 0 := ⟨q_t4_145, q_t10_33, q_t1_8, q_t4_146, by decide +kernel⟩
def mX6_writeBend_b22 (k0 : Nat) (M : Mem) (y1 : Int32) : Option Unit := none
set_option maxHeartbeats 4000000 in
set_option maxRecDepth 100000 in
theorem tX6_writeBend_b22 {p : Program} {l : Launch} {e : Env} {s : State} {m : MethodId} {args : Array Value} {below : List Frame} {meth : Method} {c : Code} {G : GT} {kd : Nat → Nat × Nat} {ad : Nat → Nat} (C : Cx p s m args meth c cX6_writeBend 2 none RX6 G kd ad) {k0 : Nat} (hk0 : kRoot kd k0) (hS : kSB kd 133) {M : Mem} {vo : Unit}   : ∀ (y1 : Int32), mX6_writeBend_b22 k0 M y1 = some vo → At p l e (rmO 1 0 0) s m args below meth c 0 0 (MQ below (Qg G kd ad s.heap.size M none) args s 0 0 (AS kd ad s.heap.size)) G kd ad 2 22 [] [.int y1, .ref (ad 133)] M := by
  intro y1 hf H locs ls hI hl
  obtain ⟨hx, hb, hml, hr, hown, hts, hlk, hK, hap, hsx⟩ := id C
  unfold mX6_writeBend_b22 at hf
  cases hf
def mX6_writeBend (k0 : Nat) (x1 : Int32) (M : Mem) : Option Unit := cap (mX1_goesUp 5 x1 M) (fun r2 => ite2 (r2 = 0) (mX6_writeBend_b22 k0 M (118 : Int32)) (mX6_writeBend_b22 k0 M (94 : Int32)))
set_option maxHeartbeats 4000000 in
set_option maxRecDepth 100000 in
theorem tX6_writeBend (l : Launch) {G : GT} {kd : Nat → Nat × Nat} {ad : Nat → Nat} {k0 : Nat} (hk0 : kRoot kd k0) (hS : kSB kd 133) {x1 : Int32} {M : Mem} {vo : Unit} (hf : mX6_writeBend k0 x1 M = some vo) (n : Nat) : Met l yX6_writeBend (Cond.code yX6_writeBend cX6_writeBend 2 none :: WA) (rmO 1 0 0) (Pg G kd ad n [.ref (ad k0), .int x1] M) (Qg G kd ad n M none) 0 0 (AS kd ad n) := by
  refine g_body (own := RX6) (by decide) rfl ?_ (Nat.le_of_ble_eq_true rfl)
  intro p e s m args below meth c C _ H locs ls hI hl
  obtain ⟨hx, hb, hml, hr, hown, hts, hlk, hK, hap, hsx⟩ := id C
  have hl : lv_has ls 2 [(0, .ref (ad k0)), (1, .int x1)] := hl
  unfold mX6_writeBend at hf
  refine lv_aload_n hx hb (dc tbX6_writeBend_k 0 rfl) rfl (lv_at hl 0 rfl) ?_
  refine gg6_8 hx hb hts hown hK hI hk0.1 q_t2_90 (dc tbX6_writeBend_k 1 rfl) ?_
  refine lv_aload_n hx hb (dc tbX6_writeBend_k 2 rfl) rfl (lv_at hl 0 rfl) ?_
  refine gg6_3 hx hb hts hown hK hI hk0.1 q_t2_85 (dc tbX6_writeBend_k 3 rfl) ?_
  refine lv_iload_n hx hb (dc tbX6_writeBend_k 4 rfl) rfl (lv_at hl 1 rfl) ?_
  obtain ⟨r2, q1, hf⟩ := cap_s hf
  refine g_callVi hx hb hml hown hts hK hap hsx hI (tX1_goesUp l hk0.2.2.2.1 q1 H.size) cv_X1_goesUp q_t5_71 rfl rfl ⟨Nat.le_of_ble_eq_true rfl, Nat.le_of_ble_eq_true rfl⟩ hk0.2.2.2.1.1 (by simp) rfl rfl rfl hl.1 rfl (Nat.le_of_ble_eq_true rfl) (dc tbX6_writeBend_k 5 rfl) ⟨Nat.le_of_ble_eq_true rfl, Nat.le_of_ble_eq_true rfl⟩ (fun H locs hI => ?_)
  refine lv_if_eq (tgt := 20) hx hb (dc tbX6_writeBend_k 6 rfl) rfl (fun c4 => ?_) (fun c4 => ?_)
  · have hf := ite_t c4 hf
    refine lv_bipush (v := 118) hx hb (dc tbX6_writeBend_k 9 rfl) bp_118 ?_
    exact tX6_writeBend_b22 C hk0 hS (118 : Int32) hf _ _ _ hI (lv_sub hl [] rfl)
  · have hf := ite_f c4 hf
    refine lv_bipush (v := 94) hx hb (dc tbX6_writeBend_k 7 rfl) bp_94 ?_
    refine lv_goto (tgt := 22) hx hb (dc tbX6_writeBend_k 8 rfl) rfl ?_
    exact tX6_writeBend_b22 C hk0 hS (94 : Int32) hf _ _ _ hI (lv_sub hl [] rfl)
theorem cv_X6_writeBend : cvF RX6 yX6_writeBend cX6_writeBend 2 none 1 := ⟨q_t5_69, q_s2_2, q_t1_1, q_t5_70, by decide +kernel⟩
def mX6_write_b61 (k0 : Nat) (M : Mem) : Option (Mem × Int32) := ite2 ((rd M 5 14) ≤ 0) (cap (mJ4_length_8abf5 133 M) (fun r7 => some (M, r7))) (none)
set_option maxHeartbeats 4000000 in
set_option maxRecDepth 100000 in
theorem tX6_write_b61 {p : Program} {l : Launch} {e : Env} {s : State} {m : MethodId} {args : Array Value} {below : List Frame} {meth : Method} {c : Code} {G : GT} {kd : Nat → Nat × Nat} {ad : Nat → Nat} (C : Cx p s m args meth c cX6_write 2 (some .int) RX6 G kd ad) {k0 : Nat} (hk0 : kRoot kd k0) (hS : kSB kd 133) {MO : Mem} {vo : Int32}   : ∀  (M : Mem), mX6_write_b61 k0 M = some (MO, vo) → At p l e (rmO 3 0 0) s m args below meth c 0 0 (MQ below (Qg G kd ad s.heap.size MO (some (.int vo))) args s 0 0 (AS kd ad s.heap.size)) G kd ad 2 61 [(0, .ref (ad k0))] [] M := by
  intro M hf H locs ls hI hl
  obtain ⟨hx, hb, hml, hr, hown, hts, hlk, hK, hap, hsx⟩ := id C
  unfold mX6_write_b61 at hf
  refine lv_aload_n hx hb (dc tbX6_write_0_k 32 rfl) rfl (lv_at hl 0 rfl) ?_
  refine gg6_3 hx hb hts hown hK hI hk0.1 q_t2_85 (dc tbX6_write_0_k 33 rfl) ?_
  refine gg1_14 hx hb hts hown hK hI hk0.2.2.2.1.1 q_t1_130 (dc tbX6_write_0_k 34 rfl) ?_
  refine lv_if_le (tgt := 97) hx hb (dc tbX6_write_0_k 35 rfl) rfl (fun c5 => ?_) (fun c5 => ?_)
  · have hf := ite_t c5 hf
    refine lv_aload_n hx hb (dc tbX6_write_1_k 8 rfl) rfl (lv_at hl 0 rfl) ?_
    refine gg6_8 hx hb hts hown hK hI hk0.1 q_t2_90 (dc tbX6_write_1_k 9 rfl) ?_
    obtain ⟨r7, q6, hf⟩ := cap_s hf
    refine g_callVi hx hb hml hown hts hK hap hsx hI (tJ4_length_8abf5 l hS q6 H.size) cv_J4_length_8abf5 q_t5_97 rfl rfl ⟨Nat.le_of_ble_eq_true rfl, Nat.le_of_ble_eq_true rfl⟩ hS.1 (by simp) rfl rfl rfl hl.1 rfl (Nat.le_of_ble_eq_true rfl) (dc tbX6_write_1_k 10 rfl) ⟨Nat.le_of_ble_eq_true rfl, Nat.le_of_ble_eq_true rfl⟩ (fun H locs hI => ?_)
    cases hf
    exact g_iret hx hb hr hlk hI (dc tbX6_write_1_k 11 rfl)
  · have hf := ite_f c5 hf
    refine lv_aload_n hx hb (dc tbX6_write_0_k 36 rfl) rfl (lv_at hl 0 rfl) ?_
    refine gg6_8 hx hb hts hown hK hI hk0.1 q_t2_90 (dc tbX6_write_0_k 37 rfl) ?_
    cases hf
def mX6_write_b38 (k0 : Nat) (x1 : Int32) (M : Mem) : Option (Mem × Int32) := chk (okb x1 9) (none)
set_option maxHeartbeats 4000000 in
set_option maxRecDepth 100000 in
theorem tX6_write_b38 {p : Program} {l : Launch} {e : Env} {s : State} {m : MethodId} {args : Array Value} {below : List Frame} {meth : Method} {c : Code} {G : GT} {kd : Nat → Nat × Nat} {ad : Nat → Nat} (C : Cx p s m args meth c cX6_write 2 (some .int) RX6 G kd ad) {k0 : Nat} (hk0 : kRoot kd k0) (hS : kSB kd 133) {MO : Mem} {vo : Int32}   : ∀ (x1 : Int32) (M : Mem), mX6_write_b38 k0 x1 M = some (MO, vo) → At p l e (rmO 3 0 0) s m args below meth c 0 0 (MQ below (Qg G kd ad s.heap.size MO (some (.int vo))) args s 0 0 (AS kd ad s.heap.size)) G kd ad 2 38 [(0, .ref (ad k0)), (1, .int x1)] [] M := by
  intro x1 M hf H locs ls hI hl
  obtain ⟨hx, hb, hml, hr, hown, hts, hlk, hK, hap, hsx⟩ := id C
  unfold mX6_write_b38 at hf
  refine lv_aload_n hx hb (dc tbX6_write_0_k 21 rfl) rfl (lv_at hl 0 rfl) ?_
  refine gg6_8 hx hb hts hown hK hI hk0.1 q_t2_90 (dc tbX6_write_0_k 22 rfl) ?_
  refine lv_aload_n hx hb (dc tbX6_write_0_k 23 rfl) rfl (lv_at hl 0 rfl) ?_
  refine gg6_3 hx hb hts hown hK hI hk0.1 q_t2_85 (dc tbX6_write_0_k 24 rfl) ?_
  refine gg1_1 hx hb hts hown hK hI hk0.2.2.2.1.1 q_t1_107 (dc tbX6_write_0_k 25 rfl) ?_
  refine lv_iload_n hx hb (dc tbX6_write_0_k 26 rfl) rfl (lv_at hl 1 rfl) ?_
  obtain ⟨h11, hf⟩ := chk_s hf
  refine g_iald hx hb hK hI hk0.2.2.2.1.2.1 (okb_in h11) (dc tbX6_write_0_k 27 rfl) ?_
  cases hf
def mX6_write (k0 : Nat) (M : Mem) : Option (Mem × Int32) := cal (mJ4_setLength_d00df 133 (0 : Int32) M) (fun M3 _ => ite2 ((rd M3 5 0) ≤ (0 : Int32)) (mX6_write_b61 k0 M3) (ite2 ((9 : Int32) ≤ (0 : Int32)) (mX6_write_b61 k0 M3) (ite2 ((0 : Int32) ≤ 0) (mX6_write_b38 k0 (0 : Int32) M3) (cap (mX6_writeBend k0 ((0 : Int32) - (1 : Int32)) M3) (fun r13 => mX6_write_b38 k0 (0 : Int32) M3)))))
set_option maxHeartbeats 4000000 in
set_option maxRecDepth 100000 in
theorem tX6_write (l : Launch) {G : GT} {kd : Nat → Nat × Nat} {ad : Nat → Nat} {k0 : Nat} (hk0 : kRoot kd k0) (hS : kSB kd 133) {M : Mem} {MO : Mem} {vo : Int32} (hf : mX6_write k0 M = some (MO, vo)) (n : Nat) : Met l yX6_write (Cond.code yX6_write cX6_write 2 (some .int) :: WA) (rmO 3 0 0) (Pg G kd ad n [.ref (ad k0)] M) (Qg G kd ad n MO (some (.int vo))) 0 0 (AS kd ad n) := by
  refine g_body (own := RX6) (by decide) rfl ?_ (Nat.le_of_ble_eq_true rfl)
  intro p e s m args below meth c C _ H locs ls hI hl
  obtain ⟨hx, hb, hml, hr, hown, hts, hlk, hK, hap, hsx⟩ := id C
  have hl : lv_has ls 2 [(0, .ref (ad k0))] := hl
  unfold mX6_write at hf
  refine lv_aload_n hx hb (dc tbX6_write_0_k 0 rfl) rfl (lv_at hl 0 rfl) ?_
  refine gg6_8 hx hb hts hown hK hI hk0.1 q_t2_90 (dc tbX6_write_0_k 1 rfl) ?_
  refine lv_iconst (v := 0) hx hb (dc tbX6_write_0_k 2 rfl) ic_0 ?_
  obtain ⟨M3, r2, q1, hf⟩ := cal_s hf
  refine g_callVv hx hb hml hown hts hK hap hsx hI (tJ4_setLength_d00df l hS q1 H.size) cv_J4_setLength_d00df q_t3_209 rfl rfl ⟨Nat.le_of_ble_eq_true rfl, Nat.le_of_ble_eq_true rfl⟩ hS.1 (by simp) rfl rfl rfl hl.1 rfl (Nat.le_of_ble_eq_true rfl) (dc tbX6_write_0_k 3 rfl) ⟨Nat.le_of_ble_eq_true rfl, Nat.le_of_ble_eq_true rfl⟩ (fun H locs hI => ?_)
  refine lv_iconst (v := 0) hx hb (dc tbX6_write_0_k 4 rfl) ic_0 ?_
  refine lv_istore_n (lv' := [(1, .int (0 : Int32)), (0, .ref (ad k0))]) hx hb (dc tbX6_write_0_k 5 rfl) rfl hl (by decide) rfl (fun ls hl => ?_)
  refine lv_iload_n hx hb (dc tbX6_write_0_k 6 rfl) rfl (lv_at hl 0 rfl) ?_
  refine lv_aload_n hx hb (dc tbX6_write_0_k 7 rfl) rfl (lv_at hl 1 rfl) ?_
  refine gg6_3 hx hb hts hown hK hI hk0.1 q_t2_85 (dc tbX6_write_0_k 8 rfl) ?_
  refine gg1_0 hx hb hts hown hK hI hk0.2.2.2.1.1 q_t1_104 (dc tbX6_write_0_k 9 rfl) ?_
  refine lv_icmp_ge (tgt := 61) hx hb (dc tbX6_write_0_k 10 rfl) rfl (fun c4 => ?_) (fun c4 => ?_)
  · have hf := ite_t c4 hf
    exact tX6_write_b61 C hk0 hS M3 hf _ _ _ hI (lv_sub hl [1] rfl)
  · have hf := ite_f c4 hf
    refine lv_iload_n hx hb (dc tbX6_write_0_k 11 rfl) rfl (lv_at hl 0 rfl) ?_
    refine lv_bipush (v := 9) hx hb (dc tbX6_write_0_k 12 rfl) bp_9 ?_
    refine lv_icmp_ge (tgt := 61) hx hb (dc tbX6_write_0_k 13 rfl) rfl (fun c9 => ?_) (fun c9 => ?_)
    · have hf := ite_t c9 hf
      exact tX6_write_b61 C hk0 hS M3 hf _ _ _ hI (lv_sub hl [1] rfl)
    · have hf := ite_f c9 hf
      refine lv_iload_n hx hb (dc tbX6_write_0_k 14 rfl) rfl (lv_at hl 0 rfl) ?_
      refine lv_if_le (tgt := 38) hx hb (dc tbX6_write_0_k 15 rfl) rfl (fun c10 => ?_) (fun c10 => ?_)
      · have hf := ite_t c10 hf
        exact tX6_write_b38 C hk0 hS (0 : Int32) M3 hf _ _ _ hI (lv_sub hl [1, 0] rfl)
      · have hf := ite_f c10 hf
        refine lv_aload_n hx hb (dc tbX6_write_0_k 16 rfl) rfl (lv_at hl 1 rfl) ?_
        refine lv_iload_n hx hb (dc tbX6_write_0_k 17 rfl) rfl (lv_at hl 0 rfl) ?_
        refine lv_iconst (v := 1) hx hb (dc tbX6_write_0_k 18 rfl) ic_1 ?_
        refine lv_isub hx hb (dc tbX6_write_0_k 19 rfl) ?_
        obtain ⟨r13, q12, hf⟩ := cap_s hf
        refine g_callVv hx hb hml hown hts hK hap hsx hI (tX6_writeBend l hk0 hS q12 H.size) cv_X6_writeBend q_t5_67 rfl rfl ⟨Nat.le_of_ble_eq_true rfl, Nat.le_of_ble_eq_true rfl⟩ hk0.1 (by simp) rfl rfl rfl hl.1 rfl (Nat.le_of_ble_eq_true rfl) (dc tbX6_write_0_k 20 rfl) ⟨Nat.le_of_ble_eq_true rfl, Nat.le_of_ble_eq_true rfl⟩ (fun H locs hI => ?_)
        exact tX6_write_b38 C hk0 hS (0 : Int32) M3 hf _ _ _ hI (lv_sub hl [1, 0] rfl)
theorem cv_X6_write : cvF RX6 yX6_write cX6_write 2 (some .int) 0 := ⟨q_t3_206, q_t3_207, q_t1_1, q_t3_208, by decide +kernel⟩
def mX6_written_b15 (k0 : Nat) (M : Mem) : Option (Mem × (Int32 ⊕ Nat)) := some (M, Sum.inr 1)
set_option maxHeartbeats 4000000 in
set_option maxRecDepth 100000 in
theorem tX6_written_b15 {p : Program} {l : Launch} {e : Env} {s : State} {m : MethodId} {args : Array Value} {below : List Frame} {meth : Method} {c : Code} {G : GT} {kd : Nat → Nat × Nat} {ad : Nat → Nat} (C : Cx p s m args meth c cX6_written 2 (some .char) RX6 G kd ad) (hst : l.stackTraces = false) (htb : ∀ x ∈ c.exceptionTable.toList, False) {k0 : Nat} (hk0 : kRoot kd k0) (hS : kSB kd 133) {MO : Mem} {vo : Int32 ⊕ Nat}   : ∀  (M : Mem), mX6_written_b15 k0 M = some (MO, vo) → At p l e (rmO 2 1 6) s m args below meth c 0 0 (XQ G kd ad below args s MO (zi vo) 1 6) G kd ad 2 15 [] [] M := by
  intro M hf H locs ls hI hl
  obtain ⟨hx, hb, hml, hr, hown, hts, hlk, hK, hap, hsx⟩ := id C
  unfold mX6_written_b15 at hf
  cases hf
  exact x_throw (text := "there is no such character") (e9 := 1) true hx hb hst hml hown hts hlk hsx htb (by decide +kernel) fit_n q_t6_19 q_t1_21 (by decide +kernel) at_ioo nb_ioo gd_ioo_176 rfl hI hl.1 (dc tbX6_written_k 7 rfl) (dc tbX6_written_k 8 rfl) (dc tbX6_written_k 9 rfl) (dc tbX6_written_k 10 rfl) (dc tbX6_written_k 11 rfl) (Nat.le_of_ble_eq_true rfl) (Nat.le_of_ble_eq_true rfl) ⟨Nat.le_of_ble_eq_true rfl, Nat.le_of_ble_eq_true rfl⟩ (Nat.le_of_ble_eq_true rfl) (Nat.le_of_ble_eq_true rfl)
def mX6_written (k0 : Nat) (x1 : Int32) (M : Mem) : Option (Mem × (Int32 ⊕ Nat)) := ite2 (x1 < 0) (mX6_written_b15 k0 M) (cap (mJ4_length_8abf5 133 M) (fun r3 => ite2 (x1 < r3) (none) (mX6_written_b15 k0 M)))
set_option maxHeartbeats 4000000 in
set_option maxRecDepth 100000 in
theorem tX6_written (l : Launch) (hst : l.stackTraces = false) {G : GT} {kd : Nat → Nat × Nat} {ad : Nat → Nat} {k0 : Nat} (hk0 : kRoot kd k0) (hS : kSB kd 133) {x1 : Int32} {M : Mem} {MO : Mem} {vo : Int32 ⊕ Nat} (hf : mX6_written k0 x1 M = some (MO, vo)) (n : Nat) : vx_Met l yX6_written (Cond.code yX6_written cX6_written 2 (some .char) :: WA) (rmO 2 1 6) (Pg G kd ad n [.ref (ad k0), .int x1] M) (Qx G kd ad n MO (zi vo)) (Xx G kd ad n MO (zi vo)) 1 6 (AS kd ad n) := by
  refine g_bodyX (own := RX6) (by decide) rfl ?_ (Nat.le_of_ble_eq_true rfl)
  intro p e s m args below meth c C htb _ H locs ls hI hl
  obtain ⟨hx, hb, hml, hr, hown, hts, hlk, hK, hap, hsx⟩ := id C
  have hl : lv_has ls 2 [(0, .ref (ad k0)), (1, .int x1)] := hl
  unfold mX6_written at hf
  refine lv_iload_n hx hb (dc tbX6_written_k 0 rfl) rfl (lv_at hl 1 rfl) ?_
  refine lv_if_lt (tgt := 15) hx hb (dc tbX6_written_k 1 rfl) rfl (fun c1 => ?_) (fun c1 => ?_)
  · have hf := ite_t c1 hf
    exact tX6_written_b15 C hst htb hk0 hS M hf _ _ _ hI (lv_sub hl [] rfl)
  · have hf := ite_f c1 hf
    refine lv_iload_n hx hb (dc tbX6_written_k 2 rfl) rfl (lv_at hl 1 rfl) ?_
    refine lv_aload_n hx hb (dc tbX6_written_k 3 rfl) rfl (lv_at hl 0 rfl) ?_
    refine gg6_8 hx hb hts hown hK hI hk0.1 q_t2_90 (dc tbX6_written_k 4 rfl) ?_
    obtain ⟨r3, q2, hf⟩ := cap_s hf
    refine g_callVi hx hb hml hown hts hK hap hsx hI (tJ4_length_8abf5 l hS q2 H.size) cv_J4_length_8abf5 q_t5_97 rfl rfl ⟨Nat.le_of_ble_eq_true rfl, Nat.le_of_ble_eq_true rfl⟩ hS.1 (by simp) rfl rfl rfl hl.1 rfl (Nat.le_of_ble_eq_true rfl) (dc tbX6_written_k 5 rfl) ⟨Nat.le_of_ble_eq_true rfl, Nat.le_of_ble_eq_true rfl⟩ (fun H locs hI => ?_)
    refine lv_icmp_lt (tgt := 26) hx hb (dc tbX6_written_k 6 rfl) rfl (fun c5 => ?_) (fun c5 => ?_)
    · have hf := ite_t c5 hf
      refine lv_aload_n hx hb (dc tbX6_written_k 12 rfl) rfl (lv_at hl 0 rfl) ?_
      refine gg6_8 hx hb hts hown hK hI hk0.1 q_t2_90 (dc tbX6_written_k 13 rfl) ?_
      refine lv_iload_n hx hb (dc tbX6_written_k 14 rfl) rfl (lv_at hl 1 rfl) ?_
      cases hf
    · have hf := ite_f c5 hf
      exact tX6_written_b15 C hst htb hk0 hS M hf _ _ _ hI (lv_sub hl [] rfl)
theorem cv_X6_written : cvF RX6 yX6_written cX6_written 2 (some .char) 1 := ⟨q_t7_45, q_t7_46, q_t1_1, q_t7_47, by decide +kernel⟩
