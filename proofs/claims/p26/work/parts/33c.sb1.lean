section SBR
variable {p : Program} {l : Launch} {e : Env} {R : Room} {s : State} {m : MethodId} {args : Array Value} {below : List Frame} {meth : Method} {c : Code} {H : Heap} {locs : List Loc} {cells slots : Nat} {Q : State → Prop}
variable {cc : ByteArray} {pc : Nat} {ls : Array Slot} {rest : List Value} {G : GT} {kd : Nat → Nat × Nat} {ad : Nat → Nat} {M : Mem} {H0 : Heap}
theorem ggSB_0 (hx : p.tables.exec = Jvm.exec) (hb : c.code = cc) (hts : ∀ w ∈ WA, w.before args s = true) {own : String} {index k : Nat} (hown : s.vm.findClass own = some m.cls) (hK : va_K G.1 vwCl (tyL G) s) (hI : Inv G kd ad H0 M H locs) (hk : kd k = (9, 0)) (hlink : Cond.fieldLink own index "java/lang/AbstractStringBuilder" "value" "[B" ∈ WA) (hdg : decode cc pc = .ok (.getfield index, 3)) (kk : W p l e R s m args below meth c H locs cells slots Q (F0 m (pc + 3) ls (.ref (ad (sbv k (rd M k 0))) :: rest))) : W p l e R s m args below meth c H locs cells slots Q (F0 m pc ls (.ref (ad k) :: rest)) :=
  g_get hx hb hts inWJ4 hown hK hI hk (by simp) rfl rfl 0 (by decide) ⟨rfl, rfl, rfl⟩ hlink rfl hdg kk
theorem ggSB_1 (hx : p.tables.exec = Jvm.exec) (hb : c.code = cc) (hts : ∀ w ∈ WA, w.before args s = true) {own : String} {index k : Nat} (hown : s.vm.findClass own = some m.cls) (hK : va_K G.1 vwCl (tyL G) s) (hI : Inv G kd ad H0 M H locs) (hk : kd k = (9, 0)) (hlink : Cond.fieldLink own index "java/lang/AbstractStringBuilder" "coder" "B" ∈ WA) (hdg : decode cc pc = .ok (.getfield index, 3)) (kk : W p l e R s m args below meth c H locs cells slots Q (F0 m (pc + 3) ls (.int (rd M k 1) :: rest))) : W p l e R s m args below meth c H locs cells slots Q (F0 m pc ls (.ref (ad k) :: rest)) :=
  g_get hx hb hts inWJ4 hown hK hI hk (by simp) rfl rfl 1 (by decide) ⟨rfl, rfl, rfl⟩ hlink rfl hdg kk
theorem ggSB_2 (hx : p.tables.exec = Jvm.exec) (hb : c.code = cc) (hts : ∀ w ∈ WA, w.before args s = true) {own : String} {index k : Nat} (hown : s.vm.findClass own = some m.cls) (hK : va_K G.1 vwCl (tyL G) s) (hI : Inv G kd ad H0 M H locs) (hk : kd k = (9, 0)) (hlink : Cond.fieldLink own index "java/lang/AbstractStringBuilder" "maybeLatin1" "Z" ∈ WA) (hdg : decode cc pc = .ok (.getfield index, 3)) (kk : W p l e R s m args below meth c H locs cells slots Q (F0 m (pc + 3) ls (.int (rd M k 2) :: rest))) : W p l e R s m args below meth c H locs cells slots Q (F0 m pc ls (.ref (ad k) :: rest)) :=
  g_get hx hb hts inWJ4 hown hK hI hk (by simp) rfl rfl 2 (by decide) ⟨rfl, rfl, rfl⟩ hlink rfl hdg kk
theorem gpSB_2 (hx : p.tables.exec = Jvm.exec) (hb : c.code = cc) (hts : ∀ w ∈ WA, w.before args s = true) {own : String} {index k : Nat} (hown : s.vm.findClass own = some m.cls) (hK : va_K G.1 vwCl (tyL G) s) (hap : Apt kd ad) (hI : Inv G kd ad H0 M H locs) (hk : kd k = (9, 0)) (hlink : Cond.fieldLink own index "java/lang/AbstractStringBuilder" "maybeLatin1" "Z" ∈ WA) {v : Int32} (hdg : decode cc pc = .ok (.putfield index, 3)) (hn : narrow .boolean (.int v) = .int v) (hfz : fits .boolean (.int v) = true) {M' : Mem} (hM : M' = wr M k 2 v) (kk : ∀ (H1 : Heap) (locs1 : List Loc), Inv G kd ad H0 M' H1 locs1 → W p l e R s m args below meth c H1 locs1 cells slots Q (F0 m (pc + 3) ls rest)) : W p l e R s m args below meth c H locs cells slots Q (F0 m pc ls (.int v :: .ref (ad k) :: rest)) := by
  subst hM
  exact g_put hx hb hts inWJ4 tyJ4 tyJ4_ok nmJ4 hown hK hap hI hk (by simp) rfl rfl 2 (by decide) ⟨rfl, rfl, rfl⟩ hlink rfl (ty := .boolean) (by decide +kernel) hn hfz (Nat.le_of_ble_eq_true rfl) (by rw [wr_s]; rfl) wr_o hdg kk
theorem ggSB_3 (hx : p.tables.exec = Jvm.exec) (hb : c.code = cc) (hts : ∀ w ∈ WA, w.before args s = true) {own : String} {index k : Nat} (hown : s.vm.findClass own = some m.cls) (hK : va_K G.1 vwCl (tyL G) s) (hI : Inv G kd ad H0 M H locs) (hk : kd k = (9, 0)) (hlink : Cond.fieldLink own index "java/lang/AbstractStringBuilder" "count" "I" ∈ WA) (hdg : decode cc pc = .ok (.getfield index, 3)) (kk : W p l e R s m args below meth c H locs cells slots Q (F0 m (pc + 3) ls (.int (rd M k 3) :: rest))) : W p l e R s m args below meth c H locs cells slots Q (F0 m pc ls (.ref (ad k) :: rest)) :=
  g_get hx hb hts inWJ4 hown hK hI hk (by simp) rfl rfl 3 (by decide) ⟨rfl, rfl, rfl⟩ hlink rfl hdg kk
theorem gpSB_3 (hx : p.tables.exec = Jvm.exec) (hb : c.code = cc) (hts : ∀ w ∈ WA, w.before args s = true) {own : String} {index k : Nat} (hown : s.vm.findClass own = some m.cls) (hK : va_K G.1 vwCl (tyL G) s) (hap : Apt kd ad) (hI : Inv G kd ad H0 M H locs) (hk : kd k = (9, 0)) (hlink : Cond.fieldLink own index "java/lang/AbstractStringBuilder" "count" "I" ∈ WA) {v : Int32} (hdg : decode cc pc = .ok (.putfield index, 3)) {M' : Mem} (hM : M' = wr M k 3 v) (kk : ∀ (H1 : Heap) (locs1 : List Loc), Inv G kd ad H0 M' H1 locs1 → W p l e R s m args below meth c H1 locs1 cells slots Q (F0 m (pc + 3) ls rest)) : W p l e R s m args below meth c H locs cells slots Q (F0 m pc ls (.int v :: .ref (ad k) :: rest)) := by
  subst hM
  exact g_put hx hb hts inWJ4 tyJ4 tyJ4_ok nmJ4 hown hK hap hI hk (by simp) rfl rfl 3 (by decide) ⟨rfl, rfl, rfl⟩ hlink rfl (ty := .int) (by decide +kernel) rfl rfl (Nat.le_of_ble_eq_true rfl) (by rw [wr_s]; rfl) wr_o hdg kk
theorem g_callUi {b : Nat} {C : String} {y : MethodName} {bytes : ByteArray} {maxL nL mc ms n index : Nat} {ret : Option FieldType} {rm : Room} {own : String} {As : List Value} {M' : Mem} {r : Int32} (hx : p.tables.exec = Jvm.exec) (hb : c.code = cc) (hml : c.maxLocals = nL) (hown : s.vm.findClass own = some m.cls) (hts : ∀ w ∈ WA, w.before args s = true) (hK : va_K G.1 vwCl (tyL G) s) (hap : Apt kd ad) (hsx : Sx G (AS kd ad s.heap.size) s s.heap) (hI : Inv G kd ad s.heap M H locs)
    (hM : Met l y (Cond.code y bytes maxL ret :: WA) rm (Pg G kd ad H.size (.ref (ad b) :: As) M) (Qg G kd ad H.size M' (some (.int r))) mc ms (AS kd ad H.size)) (hl : Cond.methodLink own index y ∈ WA) (h2 : Cond.sameMethod y.cls y.cls y.name y.desc ∈ WA) (h3 : Cond.instanceMethod y ∈ WA) (h4 : Cond.initialized y.cls ∈ WA) (h5 : Cond.code y bytes maxL ret ∈ WA) (hsel : Cond.selects C y y ∈ WA) (hf9 : (y.cls ≠ "java/lang/invoke/MethodHandle" ∧ y.cls ≠ "java/lang/invoke/VarHandle" ∧ (parseMethodDescriptor y.desc).map (fun d => d.parameters.length) = some n)) (hrc : rm.cells = mc) (hrs : rm.slots = ms) (hR : rm.frames + 1 ≤ R.frames ∧ 8 + (maxL + 11) + rm.locals ≤ R.locals)
    {ci : Nat} {q : Nat × Nat} {fs : List Value} {T : u_T} {N : Nat} (hk : kd b = q) (hq : q.1 ≠ 0) (he : ent ad G.2.1 q b (M.1 b) (M.2.1 b) (M.2.2 b) = .inr (ci, fs)) (hc : vwCl[ci]? = some (C, T, N))
    (hn : As.length = n) (hsize : ls.size = nL) {st : List Value} (hst : st = As.reverse ++ .ref (ad b) :: rest) (hW : (rest.map fun v => v.category).sum ≤ 8) (hdg : decode cc pc = .ok (.invokevirtual index, 3)) (hf : cells + mc ≤ R.cells ∧ slots + ms ≤ R.slots)
    (kk : ∀ (H1 : Heap) (locs1 : List Loc), Inv G kd ad s.heap M' H1 locs1 → W p l e R s m args below meth c H1 locs1 (cells + mc) (slots + ms) Q (F0 m (pc + 3) ls (.int r :: rest))) : W p l e R s m args below meth c H locs cells slots Q (F0 m pc ls st) := by
  subst hst
  have hG : GoodIn WA (va_wsU own index C y.cls y y (Cond.code y bytes maxL ret :: WA)) := fun w h => by
    have : w ∈ WA := by
      rcases List.mem_append.mp h with h | h
      · simp only [List.mem_cons, List.not_mem_nil, or_false] at h
        rcases h with rfl | rfl | rfl | rfl | rfl
        · exact hl
        · exact h2
        · exact hsel
        · exact h3
        · exact h4
      · exact ws_good h5 w h
    exact ⟨this, wa_good w this⟩
  exact g_call (va_runU (C := C) (b := ad b) (As := As) (rest := rest) ⟨hx, hb, hml, hown, hts⟩ hM (va_cwU n hts hG rfl hrc hrs rfl hf9 hR) ⟨pg_blind, va_recv hK (va_P1 (hI.at hk hq he)) hc (q0 := 0) rfl, fun U hU hW => pg_of hap hK hsx hI hU hW⟩ rfl hn hsize rfl (lv_room hW) hdg hf) hI kk
theorem g_callUv {b : Nat} {C : String} {y : MethodName} {bytes : ByteArray} {maxL nL mc ms n index : Nat} {ret : Option FieldType} {rm : Room} {own : String} {As : List Value} {M' : Mem}  (hx : p.tables.exec = Jvm.exec) (hb : c.code = cc) (hml : c.maxLocals = nL) (hown : s.vm.findClass own = some m.cls) (hts : ∀ w ∈ WA, w.before args s = true) (hK : va_K G.1 vwCl (tyL G) s) (hap : Apt kd ad) (hsx : Sx G (AS kd ad s.heap.size) s s.heap) (hI : Inv G kd ad s.heap M H locs)
    (hM : Met l y (Cond.code y bytes maxL ret :: WA) rm (Pg G kd ad H.size (.ref (ad b) :: As) M) (Qg G kd ad H.size M' none) mc ms (AS kd ad H.size)) (hl : Cond.methodLink own index y ∈ WA) (h2 : Cond.sameMethod y.cls y.cls y.name y.desc ∈ WA) (h3 : Cond.instanceMethod y ∈ WA) (h4 : Cond.initialized y.cls ∈ WA) (h5 : Cond.code y bytes maxL ret ∈ WA) (hsel : Cond.selects C y y ∈ WA) (hf9 : (y.cls ≠ "java/lang/invoke/MethodHandle" ∧ y.cls ≠ "java/lang/invoke/VarHandle" ∧ (parseMethodDescriptor y.desc).map (fun d => d.parameters.length) = some n)) (hrc : rm.cells = mc) (hrs : rm.slots = ms) (hR : rm.frames + 1 ≤ R.frames ∧ 8 + (maxL + 11) + rm.locals ≤ R.locals)
    {ci : Nat} {q : Nat × Nat} {fs : List Value} {T : u_T} {N : Nat} (hk : kd b = q) (hq : q.1 ≠ 0) (he : ent ad G.2.1 q b (M.1 b) (M.2.1 b) (M.2.2 b) = .inr (ci, fs)) (hc : vwCl[ci]? = some (C, T, N))
    (hn : As.length = n) (hsize : ls.size = nL) {st : List Value} (hst : st = As.reverse ++ .ref (ad b) :: rest) (hW : (rest.map fun v => v.category).sum ≤ 8) (hdg : decode cc pc = .ok (.invokevirtual index, 3)) (hf : cells + mc ≤ R.cells ∧ slots + ms ≤ R.slots)
    (kk : ∀ (H1 : Heap) (locs1 : List Loc), Inv G kd ad s.heap M' H1 locs1 → W p l e R s m args below meth c H1 locs1 (cells + mc) (slots + ms) Q (F0 m (pc + 3) ls rest)) : W p l e R s m args below meth c H locs cells slots Q (F0 m pc ls st) := by
  subst hst
  have hG : GoodIn WA (va_wsU own index C y.cls y y (Cond.code y bytes maxL ret :: WA)) := fun w h => by
    have : w ∈ WA := by
      rcases List.mem_append.mp h with h | h
      · simp only [List.mem_cons, List.not_mem_nil, or_false] at h
        rcases h with rfl | rfl | rfl | rfl | rfl
        · exact hl
        · exact h2
        · exact hsel
        · exact h3
        · exact h4
      · exact ws_good h5 w h
    exact ⟨this, wa_good w this⟩
  exact g_call (va_runU (C := C) (b := ad b) (As := As) (rest := rest) ⟨hx, hb, hml, hown, hts⟩ hM (va_cwU n hts hG rfl hrc hrs rfl hf9 hR) ⟨pg_blind, va_recv hK (va_P1 (hI.at hk hq he)) hc (q0 := 0) rfl, fun U hU hW => pg_of hap hK hsx hI hU hW⟩ rfl hn hsize rfl (lv_room hW) hdg hf) hI kk
theorem g_callSUi {b : Nat} {C : String} {y : MethodName} {bytes : ByteArray} {maxL nL mc ms n index : Nat} {ret : Option FieldType} {rm : Room} {own : String} {As : List Value} {M' : Mem} {r : Int32} (hx : p.tables.exec = Jvm.exec) (hb : c.code = cc) (hml : c.maxLocals = nL) (hown : s.vm.findClass own = some m.cls) (hts : ∀ w ∈ WA, w.before args s = true) (hK : va_K G.1 vwCl (tyL G) s) (hap : Apt kd ad) (hsx : Sx G (AS kd ad s.heap.size) s s.heap) (hI : Inv G kd ad s.heap M H locs)
    (hM : Met l y (Cond.code y bytes maxL ret :: WA) rm (Pg G kd ad H.size (.ref (ad b) :: As) M) (Qg G kd ad H.size M' (some (.int r))) mc ms (AS kd ad H.size)) (hl : Cond.methodLink own index y ∈ WA) (h2 : Cond.sameMethod y.cls y.cls y.name y.desc ∈ WA) (h3 : Cond.instanceMethod y ∈ WA) (h4 : Cond.initialized y.cls ∈ WA) (h5 : Cond.code y bytes maxL ret ∈ WA) (hsup : Cond.superclass own y.cls ∈ WA) (hf9 : (y.name ≠ "<init>" ∧ (parseMethodDescriptor y.desc).map (fun d => d.parameters.length) = some n)) (hrc : rm.cells = mc) (hrs : rm.slots = ms) (hR : rm.frames + 1 ≤ R.frames ∧ 8 + (maxL + 11) + rm.locals ≤ R.locals)
    {ci : Nat} {q : Nat × Nat} {fs : List Value} {T : u_T} {N : Nat} (hk : kd b = q) (hq : q.1 ≠ 0) (he : ent ad G.2.1 q b (M.1 b) (M.2.1 b) (M.2.2 b) = .inr (ci, fs)) (hc : vwCl[ci]? = some (C, T, N))
    (hn : As.length = n) (hsize : ls.size = nL) {st : List Value} (hst : st = As.reverse ++ .ref (ad b) :: rest) (hW : (rest.map fun v => v.category).sum ≤ 8) (hdg : decode cc pc = .ok (.invokespecial index, 3)) (hf : cells + mc ≤ R.cells ∧ slots + ms ≤ R.slots)
    (kk : ∀ (H1 : Heap) (locs1 : List Loc), Inv G kd ad s.heap M' H1 locs1 → W p l e R s m args below meth c H1 locs1 (cells + mc) (slots + ms) Q (F0 m (pc + 3) ls (.int r :: rest))) : W p l e R s m args below meth c H locs cells slots Q (F0 m pc ls st) := by
  subst hst
  have hG : GoodIn WA (va_wsSU own index y (Cond.code y bytes maxL ret :: WA)) := fun w h => by
    have : w ∈ WA := by
      rcases List.mem_append.mp h with h | h
      · simp only [List.mem_cons, List.not_mem_nil, or_false] at h
        rcases h with rfl | rfl | rfl | rfl | rfl
        · exact hl
        · exact h2
        · exact hsup
        · exact h3
        · exact h4
      · exact ws_good h5 w h
    exact ⟨this, wa_good w this⟩
  have hKn := (hK.1 ci _ hc).2
  have hcl : ClassAt s C (G.1.1 ci) := ⟨hKn.1, by obtain ⟨kC, hkC, hkind⟩ := hKn.2; exact ⟨kC, hkC, hkind⟩⟩
  exact g_call (va_runSU (C := C) (b := ad b) (As := As) (rest := rest) hcl ⟨hx, hb, hml, hown, hts⟩ hM (va_cwSU n hts hG rfl hrc hrs hf9 hR) ⟨pg_blind, va_recv hK (va_P1 (hI.at hk hq he)) hc (q0 := 0) rfl, fun U hU hW => pg_of hap hK hsx hI hU hW⟩ rfl hn hsize rfl (lv_room hW) hdg hf) hI kk
theorem g_callSUv {b : Nat} {C : String} {y : MethodName} {bytes : ByteArray} {maxL nL mc ms n index : Nat} {ret : Option FieldType} {rm : Room} {own : String} {As : List Value} {M' : Mem}  (hx : p.tables.exec = Jvm.exec) (hb : c.code = cc) (hml : c.maxLocals = nL) (hown : s.vm.findClass own = some m.cls) (hts : ∀ w ∈ WA, w.before args s = true) (hK : va_K G.1 vwCl (tyL G) s) (hap : Apt kd ad) (hsx : Sx G (AS kd ad s.heap.size) s s.heap) (hI : Inv G kd ad s.heap M H locs)
    (hM : Met l y (Cond.code y bytes maxL ret :: WA) rm (Pg G kd ad H.size (.ref (ad b) :: As) M) (Qg G kd ad H.size M' none) mc ms (AS kd ad H.size)) (hl : Cond.methodLink own index y ∈ WA) (h2 : Cond.sameMethod y.cls y.cls y.name y.desc ∈ WA) (h3 : Cond.instanceMethod y ∈ WA) (h4 : Cond.initialized y.cls ∈ WA) (h5 : Cond.code y bytes maxL ret ∈ WA) (hsup : Cond.superclass own y.cls ∈ WA) (hf9 : (y.name ≠ "<init>" ∧ (parseMethodDescriptor y.desc).map (fun d => d.parameters.length) = some n)) (hrc : rm.cells = mc) (hrs : rm.slots = ms) (hR : rm.frames + 1 ≤ R.frames ∧ 8 + (maxL + 11) + rm.locals ≤ R.locals)
    {ci : Nat} {q : Nat × Nat} {fs : List Value} {T : u_T} {N : Nat} (hk : kd b = q) (hq : q.1 ≠ 0) (he : ent ad G.2.1 q b (M.1 b) (M.2.1 b) (M.2.2 b) = .inr (ci, fs)) (hc : vwCl[ci]? = some (C, T, N))
    (hn : As.length = n) (hsize : ls.size = nL) {st : List Value} (hst : st = As.reverse ++ .ref (ad b) :: rest) (hW : (rest.map fun v => v.category).sum ≤ 8) (hdg : decode cc pc = .ok (.invokespecial index, 3)) (hf : cells + mc ≤ R.cells ∧ slots + ms ≤ R.slots)
    (kk : ∀ (H1 : Heap) (locs1 : List Loc), Inv G kd ad s.heap M' H1 locs1 → W p l e R s m args below meth c H1 locs1 (cells + mc) (slots + ms) Q (F0 m (pc + 3) ls rest)) : W p l e R s m args below meth c H locs cells slots Q (F0 m pc ls st) := by
  subst hst
  have hG : GoodIn WA (va_wsSU own index y (Cond.code y bytes maxL ret :: WA)) := fun w h => by
    have : w ∈ WA := by
      rcases List.mem_append.mp h with h | h
      · simp only [List.mem_cons, List.not_mem_nil, or_false] at h
        rcases h with rfl | rfl | rfl | rfl | rfl
        · exact hl
        · exact h2
        · exact hsup
        · exact h3
        · exact h4
      · exact ws_good h5 w h
    exact ⟨this, wa_good w this⟩
  have hKn := (hK.1 ci _ hc).2
  have hcl : ClassAt s C (G.1.1 ci) := ⟨hKn.1, by obtain ⟨kC, hkC, hkind⟩ := hKn.2; exact ⟨kC, hkC, hkind⟩⟩
  exact g_call (va_runSU (C := C) (b := ad b) (As := As) (rest := rest) hcl ⟨hx, hb, hml, hown, hts⟩ hM (va_cwSU n hts hG rfl hrc hrs hf9 hR) ⟨pg_blind, va_recv hK (va_P1 (hI.at hk hq he)) hc (q0 := 0) rfl, fun U hU hW => pg_of hap hK hsx hI hU hW⟩ rfl hn hsize rfl (lv_room hW) hdg hf) hI kk
end SBR
def mJ6_stringSize_0f7a4_b16 (M : Mem) (ih16 : Int32 → Int32 → Int32 → Int32 → Option Int32) (x0 : Int32) (x1 : Int32) (x2 : Int32) (x3 : Int32) : Option Int32 := ite2 ((10 : Int32) ≤ x3) (some ((10 : Int32) + x1)) (ite2 (x0 ≤ x2) (bnd (((10 : Int32) * x2)) (fun x2_35 => bnd (x3 + (1 : Int32)) (fun x3_36 => ih16 x0 x1 x2_35 x3_36))) (some (x3 + x1)))
set_option maxHeartbeats 4000000 in
set_option maxRecDepth 100000 in
theorem tJ6_stringSize_0f7a4_b16 {p : Program} {l : Launch} {e : Env} {s : State} {m : MethodId} {args : Array Value} {below : List Frame} {meth : Method} {c : Code} {G : GT} {kd : Nat → Nat × Nat} {ad : Nat → Nat} (C : Cx p s m args meth c cJ6_stringSize_0f7a4 4 (some .int) RJ6 G kd ad)  {M : Mem} {vo : Int32} {ih16 : Int32 → Int32 → Int32 → Int32 → Option Int32} (hih16 : ∀ (x0 : Int32) (x1 : Int32) (x2 : Int32) (x3 : Int32), ih16 x0 x1 x2 x3 = some vo → At p l e (rmO 0 0 0) s m args below meth c 0 0 (MQ below (Qg G kd ad s.heap.size M (some (.int vo))) args s 0 0 (AS kd ad s.heap.size)) G kd ad 4 16 [(0, .int x0), (1, .int x1), (2, .int x2), (3, .int x3)] [] M) : ∀ (x0 : Int32) (x1 : Int32) (x2 : Int32) (x3 : Int32), mJ6_stringSize_0f7a4_b16  M ih16 x0 x1 x2 x3 = some vo → At p l e (rmO 0 0 0) s m args below meth c 0 0 (MQ below (Qg G kd ad s.heap.size M (some (.int vo))) args s 0 0 (AS kd ad s.heap.size)) G kd ad 4 16 [(0, .int x0), (1, .int x1), (2, .int x2), (3, .int x3)] [] M := by
  intro x0 x1 x2 x3 hf H locs ls hI hl
  obtain ⟨hx, hb, hml, hr, hown, hts, hlk, hK, hap, hsx⟩ := id C
  unfold mJ6_stringSize_0f7a4_b16 at hf
  refine lv_iload_n hx hb (dc tbJ6_stringSize_0f7a4_k 13 rfl) rfl (lv_at hl 3 rfl) ?_
  refine lv_bipush (v := 10) hx hb (dc tbJ6_stringSize_0f7a4_k 14 rfl) bp_10 ?_
  refine lv_icmp_ge (tgt := 42) hx hb (dc tbJ6_stringSize_0f7a4_k 15 rfl) rfl (fun c2 => ?_) (fun c2 => ?_)
  · have hf := ite_t c2 hf
    refine lv_bipush (v := 10) hx hb (dc tbJ6_stringSize_0f7a4_k 29 rfl) bp_10 ?_
    refine lv_iload_n hx hb (dc tbJ6_stringSize_0f7a4_k 30 rfl) rfl (lv_at hl 1 rfl) ?_
    refine lv_iadd hx hb (dc tbJ6_stringSize_0f7a4_k 31 rfl) ?_
    cases hf
    exact g_iret hx hb hr hlk hI (dc tbJ6_stringSize_0f7a4_k 32 rfl)
  · have hf := ite_f c2 hf
    refine lv_iload_n hx hb (dc tbJ6_stringSize_0f7a4_k 16 rfl) rfl (lv_at hl 0 rfl) ?_
    refine lv_iload_n hx hb (dc tbJ6_stringSize_0f7a4_k 17 rfl) rfl (lv_at hl 2 rfl) ?_
    refine lv_icmp_le (tgt := 31) hx hb (dc tbJ6_stringSize_0f7a4_k 18 rfl) rfl (fun c3 => ?_) (fun c3 => ?_)
    · have hf := ite_t c3 hf
      refine lv_bipush (v := 10) hx hb (dc tbJ6_stringSize_0f7a4_k 23 rfl) bp_10 ?_
      refine lv_iload_n hx hb (dc tbJ6_stringSize_0f7a4_k 24 rfl) rfl (lv_at hl 2 rfl) ?_
      refine lv_imul hx hb (dc tbJ6_stringSize_0f7a4_k 25 rfl) ?_
      obtain ⟨x2_35, e4, hf⟩ := bnd_s hf
      refine lv_ei e4 ?_
      refine lv_istore_n (lv' := [(2, .int x2_35), (0, .int x0), (1, .int x1), (3, .int x3)]) hx hb (dc tbJ6_stringSize_0f7a4_k 26 rfl) rfl hl (by decide) rfl (fun ls hl => ?_)
      obtain ⟨x3_36, e5, hf⟩ := bnd_s hf
      refine lv_iinc (v := x3_36) (lv' := [(3, .int x3_36), (2, .int x2_35), (0, .int x0), (1, .int x1)]) hx hb (dc tbJ6_stringSize_0f7a4_k 27 rfl) hl (k := 3) rfl (ii_e e5 ic_1) (by decide) rfl (fun ls hl => ?_)
      refine lv_goto (tgt := 16) hx hb (dc tbJ6_stringSize_0f7a4_k 28 rfl) rfl ?_
      exact hih16 x0 x1 x2_35 x3_36 hf _ _ _ hI (lv_sub hl [2, 3, 1, 0] rfl)
    · have hf := ite_f c3 hf
      refine lv_iload_n hx hb (dc tbJ6_stringSize_0f7a4_k 19 rfl) rfl (lv_at hl 3 rfl) ?_
      refine lv_iload_n hx hb (dc tbJ6_stringSize_0f7a4_k 20 rfl) rfl (lv_at hl 1 rfl) ?_
      refine lv_iadd hx hb (dc tbJ6_stringSize_0f7a4_k 21 rfl) ?_
      cases hf
      exact g_iret hx hb hr hlk hI (dc tbJ6_stringSize_0f7a4_k 22 rfl)
def mJ6_stringSize_0f7a4_l16 (M : Mem) : Nat → Int32 → Int32 → Int32 → Int32 → Option Int32
  | 0 => fun _ _ _ _ => none
  | n + 1 => mJ6_stringSize_0f7a4_b16  M (mJ6_stringSize_0f7a4_l16  M n)
theorem tJ6_stringSize_0f7a4_l16 {p : Program} {l : Launch} {e : Env} {s : State} {m : MethodId} {args : Array Value} {below : List Frame} {meth : Method} {c : Code} {G : GT} {kd : Nat → Nat × Nat} {ad : Nat → Nat} (C : Cx p s m args meth c cJ6_stringSize_0f7a4 4 (some .int) RJ6 G kd ad)  {M : Mem} {vo : Int32}   : ∀ (fuel : Nat) (x0 : Int32) (x1 : Int32) (x2 : Int32) (x3 : Int32), mJ6_stringSize_0f7a4_l16  M fuel x0 x1 x2 x3 = some vo → At p l e (rmO 0 0 0) s m args below meth c 0 0 (MQ below (Qg G kd ad s.heap.size M (some (.int vo))) args s 0 0 (AS kd ad s.heap.size)) G kd ad 4 16 [(0, .int x0), (1, .int x1), (2, .int x2), (3, .int x3)] [] M := by
  intro fuel
  induction fuel with
  | zero => intro x0 x1 x2 x3 hf; cases hf
  | succ n IH => exact tJ6_stringSize_0f7a4_b16 C  IH
def mJ6_stringSize_0f7a4_b11 (M : Mem) (x0 : Int32) (x1 : Int32) : Option Int32 := mJ6_stringSize_0f7a4_l16  M 5000 x0 x1 (-10 : Int32) (1 : Int32)
set_option maxHeartbeats 4000000 in
set_option maxRecDepth 100000 in
theorem tJ6_stringSize_0f7a4_b11 {p : Program} {l : Launch} {e : Env} {s : State} {m : MethodId} {args : Array Value} {below : List Frame} {meth : Method} {c : Code} {G : GT} {kd : Nat → Nat × Nat} {ad : Nat → Nat} (C : Cx p s m args meth c cJ6_stringSize_0f7a4 4 (some .int) RJ6 G kd ad)  {M : Mem} {vo : Int32}   : ∀ (x0 : Int32) (x1 : Int32), mJ6_stringSize_0f7a4_b11  M x0 x1 = some vo → At p l e (rmO 0 0 0) s m args below meth c 0 0 (MQ below (Qg G kd ad s.heap.size M (some (.int vo))) args s 0 0 (AS kd ad s.heap.size)) G kd ad 4 11 [(0, .int x0), (1, .int x1)] [] M := by
  intro x0 x1 hf H locs ls hI hl
  obtain ⟨hx, hb, hml, hr, hown, hts, hlk, hK, hap, hsx⟩ := id C
  unfold mJ6_stringSize_0f7a4_b11 at hf
  refine lv_bipush (v := -10) hx hb (dc tbJ6_stringSize_0f7a4_k 9 rfl) bp_m10 ?_
  refine lv_istore_n (lv' := [(2, .int (-10 : Int32)), (0, .int x0), (1, .int x1)]) hx hb (dc tbJ6_stringSize_0f7a4_k 10 rfl) rfl hl (by decide) rfl (fun ls hl => ?_)
  refine lv_iconst (v := 1) hx hb (dc tbJ6_stringSize_0f7a4_k 11 rfl) ic_1 ?_
  refine lv_istore_n (lv' := [(3, .int (1 : Int32)), (2, .int (-10 : Int32)), (0, .int x0), (1, .int x1)]) hx hb (dc tbJ6_stringSize_0f7a4_k 12 rfl) rfl hl (by decide) rfl (fun ls hl => ?_)
  exact tJ6_stringSize_0f7a4_l16 C  5000 x0 x1 (-10 : Int32) (1 : Int32) hf _ _ _ hI (lv_sub hl [2, 3, 1, 0] rfl)
def mJ6_stringSize_0f7a4 (x0 : Int32) (M : Mem) : Option Int32 := ite2 (x0 < 0) (mJ6_stringSize_0f7a4_b11  M x0 (1 : Int32)) (bnd ((-x0)) (fun x0_10 => mJ6_stringSize_0f7a4_b11  M x0_10 (0 : Int32)))
set_option maxHeartbeats 4000000 in
set_option maxRecDepth 100000 in
theorem tJ6_stringSize_0f7a4 (l : Launch) {G : GT} {kd : Nat → Nat × Nat} {ad : Nat → Nat}  {x0 : Int32} {M : Mem} {vo : Int32} (hf : mJ6_stringSize_0f7a4  x0 M = some vo) (n : Nat) : Met l yJ6_stringSize_0f7a4 (Cond.code yJ6_stringSize_0f7a4 cJ6_stringSize_0f7a4 4 (some .int) :: WA) (rmO 0 0 0) (Pg G kd ad n [.int x0] M) (Qg G kd ad n M (some (.int vo))) 0 0 (AS kd ad n) := by
  refine g_body (own := RJ6) (by decide) rfl ?_ (Nat.le_of_ble_eq_true rfl)
  intro p e s m args below meth c C _ H locs ls hI hl
  obtain ⟨hx, hb, hml, hr, hown, hts, hlk, hK, hap, hsx⟩ := id C
  have hl : lv_has ls 4 [(0, .int x0)] := hl
  unfold mJ6_stringSize_0f7a4 at hf
  refine lv_iconst (v := 1) hx hb (dc tbJ6_stringSize_0f7a4_k 0 rfl) ic_1 ?_
  refine lv_istore_n (lv' := [(1, .int (1 : Int32)), (0, .int x0)]) hx hb (dc tbJ6_stringSize_0f7a4_k 1 rfl) rfl hl (by decide) rfl (fun ls hl => ?_)
  refine lv_iload_n hx hb (dc tbJ6_stringSize_0f7a4_k 2 rfl) rfl (lv_at hl 1 rfl) ?_
  refine lv_if_lt (tgt := 11) hx hb (dc tbJ6_stringSize_0f7a4_k 3 rfl) rfl (fun c1 => ?_) (fun c1 => ?_)
  · have hf := ite_t c1 hf
    exact tJ6_stringSize_0f7a4_b11 C  x0 (1 : Int32) hf _ _ _ hI (lv_sub hl [1, 0] rfl)
  · have hf := ite_f c1 hf
    refine lv_iconst (v := 0) hx hb (dc tbJ6_stringSize_0f7a4_k 4 rfl) ic_0 ?_
    refine lv_istore_n (lv' := [(1, .int (0 : Int32)), (0, .int x0)]) hx hb (dc tbJ6_stringSize_0f7a4_k 5 rfl) rfl hl (by decide) rfl (fun ls hl => ?_)
    refine lv_iload_n hx hb (dc tbJ6_stringSize_0f7a4_k 6 rfl) rfl (lv_at hl 1 rfl) ?_
    refine lv_ineg hx hb (dc tbJ6_stringSize_0f7a4_k 7 rfl) ?_
    obtain ⟨x0_10, e6, hf⟩ := bnd_s hf
    refine lv_ei e6 ?_
    refine lv_istore_n (lv' := [(0, .int x0_10), (1, .int (0 : Int32))]) hx hb (dc tbJ6_stringSize_0f7a4_k 8 rfl) rfl hl (by decide) rfl (fun ls hl => ?_)
    exact tJ6_stringSize_0f7a4_b11 C  x0_10 (0 : Int32) hf _ _ _ hI (lv_sub hl [0, 1] rfl)
theorem cs_J6_stringSize_0f7a4 : csF yJ6_stringSize_0f7a4 cJ6_stringSize_0f7a4 4 (some .int) 1 := ⟨q_t4_106, q_t1_23, q_t4_107, by decide +kernel⟩
def mJ6_getChars_ba4f3_b104 (k0 : Nat) (n0 : Nat) (x5 : Int32) (x6 : Int32) (M : Mem) : Option (Mem × Int32) := ite2 (x6 = 0) (some (M, x5)) (bnd (x5 + (-1 : Int32)) (fun x5_110 => chk (okb x5_110 n0) (bnd (wr M k0 (x5_110).toNatClampNeg (vp_nar .byte (45 : Int32))) (fun M14 => some (M14, x5_110)))))
set_option maxHeartbeats 4000000 in
set_option maxRecDepth 100000 in
theorem tJ6_getChars_ba4f3_b104 {p : Program} {l : Launch} {e : Env} {s : State} {m : MethodId} {args : Array Value} {below : List Frame} {meth : Method} {c : Code} {G : GT} {kd : Nat → Nat × Nat} {ad : Nat → Nat} (C : Cx p s m args meth c cJ6_getChars_ba4f3 7 (some .int) RJ6 G kd ad) {k0 : Nat} {n0 : Nat} (hk0 : kd k0 = (11, n0)) {MO : Mem} {vo : Int32}   : ∀ (x5 : Int32) (x6 : Int32) (M : Mem), mJ6_getChars_ba4f3_b104 k0 n0 x5 x6 M = some (MO, vo) → At p l e (rmO 0 0 0) s m args below meth c 0 0 (MQ below (Qg G kd ad s.heap.size MO (some (.int vo))) args s 0 0 (AS kd ad s.heap.size)) G kd ad 7 104 [(2, .ref (ad k0)), (5, .int x5), (6, .int x6)] [] M := by
  intro x5 x6 M hf H locs ls hI hl
  obtain ⟨hx, hb, hml, hr, hown, hts, hlk, hK, hap, hsx⟩ := id C
  unfold mJ6_getChars_ba4f3_b104 at hf
  refine lv_iload hx hb (dc tbJ6_getChars_ba4f3_1_k 22 rfl) (lv_at hl 2 rfl) ?_
  refine lv_if_eq (tgt := 118) hx hb (dc tbJ6_getChars_ba4f3_1_k 23 rfl) rfl (fun c10 => ?_) (fun c10 => ?_)
  · have hf := ite_t c10 hf
    refine lv_iload hx hb (dc tbJ6_getChars_ba4f3_1_k 29 rfl) (lv_at hl 1 rfl) ?_
    cases hf
    exact g_iret hx hb hr hlk hI (dc tbJ6_getChars_ba4f3_1_k 30 rfl)
  · have hf := ite_f c10 hf
    refine lv_aload_n hx hb (dc tbJ6_getChars_ba4f3_1_k 24 rfl) rfl (lv_at hl 0 rfl) ?_
    obtain ⟨x5_110, e11, hf⟩ := bnd_s hf
    refine lv_iinc (v := x5_110) (lv' := [(5, .int x5_110), (2, .ref (ad k0)), (6, .int x6)]) hx hb (dc tbJ6_getChars_ba4f3_1_k 25 rfl) hl (k := 1) rfl (ii_e e11 ic_m1) (by decide) rfl (fun ls hl => ?_)
    refine lv_iload hx hb (dc tbJ6_getChars_ba4f3_1_k 26 rfl) (lv_at hl 0 rfl) ?_
    refine lv_bipush (v := 45) hx hb (dc tbJ6_getChars_ba4f3_1_k 27 rfl) bp_45 ?_
    obtain ⟨h12, hf⟩ := chk_s hf
    obtain ⟨M14, e13, hf⟩ := bnd_s hf
    refine g_bast hx hb hK hap hI hk0 (okb_in h12) (dc tbJ6_getChars_ba4f3_1_k 28 rfl) e13 (fun H locs hI => ?_)
    refine lv_iload hx hb (dc tbJ6_getChars_ba4f3_1_k 29 rfl) (lv_at hl 0 rfl) ?_
    cases hf
    exact g_iret hx hb hr hlk hI (dc tbJ6_getChars_ba4f3_1_k 30 rfl)
def mJ6_getChars_ba4f3_b22 (k0 : Nat) (n0 : Nat) (ih22 : Int32 → Int32 → Int32 → Mem → Option (Mem × Int32)) (x0 : Int32) (x5 : Int32) (x6 : Int32) (M : Mem) : Option (Mem × Int32) := ite2 ((-100 : Int32) < x0) (bnd (x5 + (-1 : Int32)) (fun x5_73 => chk (okb (-x0) 100) (chk (okb x5_73 n0) (bnd (wr M k0 (x5_73).toNatClampNeg (vp_nar .byte (dgOnes.getD ((-x0)).toNatClampNeg 0))) (fun M8 => ite2 ((-9 : Int32) ≤ x0) (mJ6_getChars_ba4f3_b104 k0 n0 x5_73 x6 M8) (bnd (x5_73 + (-1 : Int32)) (fun x5_92 => chk (okb (-x0) 100) (chk (okb x5_92 n0) (bnd (wr M8 k0 (x5_92).toNatClampNeg (vp_nar .byte (dgTens.getD ((-x0)).toNatClampNeg 0))) (fun M19 => mJ6_getChars_ba4f3_b104 k0 n0 x5_92 x6 M19)))))))))) (bnd ((x0 / (100 : Int32))) (fun x3_32 => bnd (((x3_32 * (100 : Int32)) - x0)) (fun x4_39 => bnd (x5 + (-1 : Int32)) (fun x5_44 => chk (okb x4_39 100) (chk (okb x5_44 n0) (bnd (wr M k0 (x5_44).toNatClampNeg (vp_nar .byte (dgOnes.getD (x4_39).toNatClampNeg 0))) (fun M26 => bnd (x5_44 + (-1 : Int32)) (fun x5_57 => chk (okb x4_39 100) (chk (okb x5_57 n0) (bnd (wr M26 k0 (x5_57).toNatClampNeg (vp_nar .byte (dgTens.getD (x4_39).toNatClampNeg 0))) (fun M31 => ih22 x3_32 x5_57 x6 M31)))))))))))
set_option maxHeartbeats 4000000 in
set_option maxRecDepth 100000 in
theorem tJ6_getChars_ba4f3_b22 {p : Program} {l : Launch} {e : Env} {s : State} {m : MethodId} {args : Array Value} {below : List Frame} {meth : Method} {c : Code} {G : GT} {kd : Nat → Nat × Nat} {ad : Nat → Nat} (C : Cx p s m args meth c cJ6_getChars_ba4f3 7 (some .int) RJ6 G kd ad) {k0 : Nat} {n0 : Nat} (hk0 : kd k0 = (11, n0)) {MO : Mem} {vo : Int32} {ih22 : Int32 → Int32 → Int32 → Mem → Option (Mem × Int32)} (hih22 : ∀ (x0 : Int32) (x5 : Int32) (x6 : Int32) (M : Mem), ih22 x0 x5 x6 M = some (MO, vo) → At p l e (rmO 0 0 0) s m args below meth c 0 0 (MQ below (Qg G kd ad s.heap.size MO (some (.int vo))) args s 0 0 (AS kd ad s.heap.size)) G kd ad 7 22 [(0, .int x0), (2, .ref (ad k0)), (5, .int x5), (6, .int x6)] [] M) : ∀ (x0 : Int32) (x5 : Int32) (x6 : Int32) (M : Mem), mJ6_getChars_ba4f3_b22 k0 n0 ih22 x0 x5 x6 M = some (MO, vo) → At p l e (rmO 0 0 0) s m args below meth c 0 0 (MQ below (Qg G kd ad s.heap.size MO (some (.int vo))) args s 0 0 (AS kd ad s.heap.size)) G kd ad 7 22 [(0, .int x0), (2, .ref (ad k0)), (5, .int x5), (6, .int x6)] [] M := by
  intro x0 x5 x6 M hf H locs ls hI hl
  obtain ⟨hx, hb, hml, hr, hown, hts, hlk, hK, hap, hsx⟩ := id C
  unfold mJ6_getChars_ba4f3_b22 at hf
  refine lv_iload_n hx hb (dc tbJ6_getChars_ba4f3_0_k 13 rfl) rfl (lv_at hl 0 rfl) ?_
  refine lv_bipush (v := -100) hx hb (dc tbJ6_getChars_ba4f3_0_k 14 rfl) bp_m100 ?_
  refine lv_icmp_gt (tgt := 72) hx hb (dc tbJ6_getChars_ba4f3_0_k 15 rfl) rfl (fun c3 => ?_) (fun c3 => ?_)
  · have hf := ite_t c3 hf
    refine lv_aload_n hx hb (dc tbJ6_getChars_ba4f3_1_k 3 rfl) rfl (lv_at hl 1 rfl) ?_
    obtain ⟨x5_73, e4, hf⟩ := bnd_s hf
    refine lv_iinc (v := x5_73) (lv' := [(5, .int x5_73), (0, .int x0), (2, .ref (ad k0)), (6, .int x6)]) hx hb (dc tbJ6_getChars_ba4f3_1_k 4 rfl) hl (k := 2) rfl (ii_e e4 ic_m1) (by decide) rfl (fun ls hl => ?_)
    refine lv_iload hx hb (dc tbJ6_getChars_ba4f3_1_k 5 rfl) (lv_at hl 0 rfl) ?_
    refine g_gsd1 hx hb hown hts hsx hI q_t4_111 (dc tbJ6_getChars_ba4f3_1_k 6 rfl) ?_
    refine lv_iload_n hx hb (dc tbJ6_getChars_ba4f3_1_k 7 rfl) rfl (lv_at hl 1 rfl) ?_
    refine lv_ineg hx hb (dc tbJ6_getChars_ba4f3_1_k 8 rfl) ?_
    obtain ⟨h5, hf⟩ := chk_s hf
    refine g_d1ld hx hb hsx hI (okb_in h5) (dc tbJ6_getChars_ba4f3_1_k 9 rfl) ?_
    obtain ⟨h6, hf⟩ := chk_s hf
    obtain ⟨M8, e7, hf⟩ := bnd_s hf
    refine g_bast hx hb hK hap hI hk0 (okb_in h6) (dc tbJ6_getChars_ba4f3_1_k 10 rfl) e7 (fun H locs hI => ?_)
    refine lv_iload_n hx hb (dc tbJ6_getChars_ba4f3_1_k 11 rfl) rfl (lv_at hl 1 rfl) ?_
    refine lv_bipush (v := -9) hx hb (dc tbJ6_getChars_ba4f3_1_k 12 rfl) bp_m9 ?_
    refine lv_icmp_ge (tgt := 104) hx hb (dc tbJ6_getChars_ba4f3_1_k 13 rfl) rfl (fun c9 => ?_) (fun c9 => ?_)
    · have hf := ite_t c9 hf
      exact tJ6_getChars_ba4f3_b104 C hk0 x5_73 x6 M8 hf _ _ _ hI (lv_sub hl [2, 0, 3] rfl)
    · have hf := ite_f c9 hf
      refine lv_aload_n hx hb (dc tbJ6_getChars_ba4f3_1_k 14 rfl) rfl (lv_at hl 2 rfl) ?_
      obtain ⟨x5_92, e15, hf⟩ := bnd_s hf
      refine lv_iinc (v := x5_92) (lv' := [(5, .int x5_92), (0, .int x0), (2, .ref (ad k0)), (6, .int x6)]) hx hb (dc tbJ6_getChars_ba4f3_1_k 15 rfl) hl (k := 0) rfl (ii_e e15 ic_m1) (by decide) rfl (fun ls hl => ?_)
      refine lv_iload hx hb (dc tbJ6_getChars_ba4f3_1_k 16 rfl) (lv_at hl 0 rfl) ?_
      refine g_gsd2 hx hb hown hts hsx hI q_t4_113 (dc tbJ6_getChars_ba4f3_1_k 17 rfl) ?_
      refine lv_iload_n hx hb (dc tbJ6_getChars_ba4f3_1_k 18 rfl) rfl (lv_at hl 1 rfl) ?_
      refine lv_ineg hx hb (dc tbJ6_getChars_ba4f3_1_k 19 rfl) ?_
      obtain ⟨h16, hf⟩ := chk_s hf
      refine g_d2ld hx hb hsx hI (okb_in h16) (dc tbJ6_getChars_ba4f3_1_k 20 rfl) ?_
      obtain ⟨h17, hf⟩ := chk_s hf
      obtain ⟨M19, e18, hf⟩ := bnd_s hf
      refine g_bast hx hb hK hap hI hk0 (okb_in h17) (dc tbJ6_getChars_ba4f3_1_k 21 rfl) e18 (fun H locs hI => ?_)
      exact tJ6_getChars_ba4f3_b104 C hk0 x5_92 x6 M19 hf _ _ _ hI (lv_sub hl [2, 0, 3] rfl)
  · have hf := ite_f c3 hf
    refine lv_iload_n hx hb (dc tbJ6_getChars_ba4f3_0_k 16 rfl) rfl (lv_at hl 0 rfl) ?_
    refine lv_bipush (v := 100) hx hb (dc tbJ6_getChars_ba4f3_0_k 17 rfl) bp_100 ?_
    refine lv_idiv hx hb (dc tbJ6_getChars_ba4f3_0_k 18 rfl) (by decide) ?_
    obtain ⟨x3_32, e20, hf⟩ := bnd_s hf
    refine lv_ei e20 ?_
    refine lv_istore_n (lv' := [(3, .int x3_32), (0, .int x0), (2, .ref (ad k0)), (5, .int x5), (6, .int x6)]) hx hb (dc tbJ6_getChars_ba4f3_0_k 19 rfl) rfl hl (by decide) rfl (fun ls hl => ?_)
    refine lv_iload_n hx hb (dc tbJ6_getChars_ba4f3_0_k 20 rfl) rfl (lv_at hl 0 rfl) ?_
    refine lv_bipush (v := 100) hx hb (dc tbJ6_getChars_ba4f3_0_k 21 rfl) bp_100 ?_
    refine lv_imul hx hb (dc tbJ6_getChars_ba4f3_0_k 22 rfl) ?_
    refine lv_iload_n hx hb (dc tbJ6_getChars_ba4f3_0_k 23 rfl) rfl (lv_at hl 1 rfl) ?_
    refine lv_isub hx hb (dc tbJ6_getChars_ba4f3_0_k 24 rfl) ?_
    obtain ⟨x4_39, e21, hf⟩ := bnd_s hf
    refine lv_ei e21 ?_
    refine lv_istore (lv' := [(4, .int x4_39), (3, .int x3_32), (0, .int x0), (2, .ref (ad k0)), (5, .int x5), (6, .int x6)]) hx hb (dc tbJ6_getChars_ba4f3_0_k 25 rfl) hl (by decide) rfl (fun ls hl => ?_)
    refine lv_iload_n hx hb (dc tbJ6_getChars_ba4f3_0_k 26 rfl) rfl (lv_at hl 1 rfl) ?_
    refine lv_istore_n (lv' := [(0, .int x3_32), (4, .int x4_39), (3, .int x3_32), (2, .ref (ad k0)), (5, .int x5), (6, .int x6)]) hx hb (dc tbJ6_getChars_ba4f3_0_k 27 rfl) rfl hl (by decide) rfl (fun ls hl => ?_)
    refine lv_aload_n hx hb (dc tbJ6_getChars_ba4f3_0_k 28 rfl) rfl (lv_at hl 3 rfl) ?_
    obtain ⟨x5_44, e22, hf⟩ := bnd_s hf
    refine lv_iinc (v := x5_44) (lv' := [(5, .int x5_44), (0, .int x3_32), (4, .int x4_39), (3, .int x3_32), (2, .ref (ad k0)), (6, .int x6)]) hx hb (dc tbJ6_getChars_ba4f3_0_k 29 rfl) hl (k := 4) rfl (ii_e e22 ic_m1) (by decide) rfl (fun ls hl => ?_)
    refine lv_iload hx hb (dc tbJ6_getChars_ba4f3_0_k 30 rfl) (lv_at hl 0 rfl) ?_
    refine g_gsd1 hx hb hown hts hsx hI q_t4_111 (dc tbJ6_getChars_ba4f3_0_k 31 rfl) ?_
    refine lv_iload hx hb (dc tbJ6_getChars_ba4f3_0_k 32 rfl) (lv_at hl 2 rfl) ?_
    obtain ⟨h23, hf⟩ := chk_s hf
    refine g_d1ld hx hb hsx hI (okb_in h23) (dc tbJ6_getChars_ba4f3_0_k 33 rfl) ?_
    obtain ⟨h24, hf⟩ := chk_s hf
    obtain ⟨M26, e25, hf⟩ := bnd_s hf
    refine g_bast hx hb hK hap hI hk0 (okb_in h24) (dc tbJ6_getChars_ba4f3_0_k 34 rfl) e25 (fun H locs hI => ?_)
    refine lv_aload_n hx hb (dc tbJ6_getChars_ba4f3_0_k 35 rfl) rfl (lv_at hl 4 rfl) ?_
    obtain ⟨x5_57, e27, hf⟩ := bnd_s hf
    refine lv_iinc (v := x5_57) (lv' := [(5, .int x5_57), (0, .int x3_32), (4, .int x4_39), (3, .int x3_32), (2, .ref (ad k0)), (6, .int x6)]) hx hb (dc tbJ6_getChars_ba4f3_0_k 36 rfl) hl (k := 0) rfl (ii_e e27 ic_m1) (by decide) rfl (fun ls hl => ?_)
    refine lv_iload hx hb (dc tbJ6_getChars_ba4f3_0_k 37 rfl) (lv_at hl 0 rfl) ?_
    refine g_gsd2 hx hb hown hts hsx hI q_t4_113 (dc tbJ6_getChars_ba4f3_0_k 38 rfl) ?_
    refine lv_iload hx hb (dc tbJ6_getChars_ba4f3_0_k 39 rfl) (lv_at hl 2 rfl) ?_
    obtain ⟨h28, hf⟩ := chk_s hf
    refine g_d2ld hx hb hsx hI (okb_in h28) (dc tbJ6_getChars_ba4f3_1_k 0 rfl) ?_
    obtain ⟨h29, hf⟩ := chk_s hf
    obtain ⟨M31, e30, hf⟩ := bnd_s hf
    refine g_bast hx hb hK hap hI hk0 (okb_in h29) (dc tbJ6_getChars_ba4f3_1_k 1 rfl) e30 (fun H locs hI => ?_)
    refine lv_goto (tgt := 22) hx hb (dc tbJ6_getChars_ba4f3_1_k 2 rfl) rfl ?_
    exact hih22 x3_32 x5_57 x6 M31 hf _ _ _ hI (lv_sub hl [1, 4, 0, 5] rfl)
def mJ6_getChars_ba4f3_l22 (k0 : Nat) (n0 : Nat) : Nat → Int32 → Int32 → Int32 → Mem → Option (Mem × Int32)
  | 0 => fun _ _ _ _ => none
  | n + 1 => mJ6_getChars_ba4f3_b22 k0 n0 (mJ6_getChars_ba4f3_l22 k0 n0 n)
theorem tJ6_getChars_ba4f3_l22 {p : Program} {l : Launch} {e : Env} {s : State} {m : MethodId} {args : Array Value} {below : List Frame} {meth : Method} {c : Code} {G : GT} {kd : Nat → Nat × Nat} {ad : Nat → Nat} (C : Cx p s m args meth c cJ6_getChars_ba4f3 7 (some .int) RJ6 G kd ad) {k0 : Nat} {n0 : Nat} (hk0 : kd k0 = (11, n0)) {MO : Mem} {vo : Int32}   : ∀ (fuel : Nat) (x0 : Int32) (x5 : Int32) (x6 : Int32) (M : Mem), mJ6_getChars_ba4f3_l22 k0 n0 fuel x0 x5 x6 M = some (MO, vo) → At p l e (rmO 0 0 0) s m args below meth c 0 0 (MQ below (Qg G kd ad s.heap.size MO (some (.int vo))) args s 0 0 (AS kd ad s.heap.size)) G kd ad 7 22 [(0, .int x0), (2, .ref (ad k0)), (5, .int x5), (6, .int x6)] [] M := by
  intro fuel
  induction fuel with
  | zero => intro x0 x5 x6 M hf; cases hf
  | succ n IH => exact tJ6_getChars_ba4f3_b22 C hk0 IH
def mJ6_getChars_ba4f3_b12 (k0 : Nat) (n0 : Nat) (x0 : Int32) (x5 : Int32) (y0 : Int32) (M : Mem) : Option (Mem × Int32) := ite2 (y0 = 0) (bnd ((-x0)) (fun x0_21 => mJ6_getChars_ba4f3_l22 k0 n0 5000 x0_21 x5 y0 M)) (mJ6_getChars_ba4f3_l22 k0 n0 5000 x0 x5 y0 M)
set_option maxHeartbeats 4000000 in
set_option maxRecDepth 100000 in
theorem tJ6_getChars_ba4f3_b12 {p : Program} {l : Launch} {e : Env} {s : State} {m : MethodId} {args : Array Value} {below : List Frame} {meth : Method} {c : Code} {G : GT} {kd : Nat → Nat × Nat} {ad : Nat → Nat} (C : Cx p s m args meth c cJ6_getChars_ba4f3 7 (some .int) RJ6 G kd ad) {k0 : Nat} {n0 : Nat} (hk0 : kd k0 = (11, n0)) {MO : Mem} {vo : Int32}   : ∀ (x0 : Int32) (x5 : Int32) (y0 : Int32) (M : Mem), mJ6_getChars_ba4f3_b12 k0 n0 x0 x5 y0 M = some (MO, vo) → At p l e (rmO 0 0 0) s m args below meth c 0 0 (MQ below (Qg G kd ad s.heap.size MO (some (.int vo))) args s 0 0 (AS kd ad s.heap.size)) G kd ad 7 12 [(0, .int x0), (2, .ref (ad k0)), (5, .int x5)] [.int y0] M := by
  intro x0 x5 y0 M hf H locs ls hI hl
  obtain ⟨hx, hb, hml, hr, hown, hts, hlk, hK, hap, hsx⟩ := id C
  unfold mJ6_getChars_ba4f3_b12 at hf
  refine lv_istore (lv' := [(6, .int y0), (0, .int x0), (2, .ref (ad k0)), (5, .int x5)]) hx hb (dc tbJ6_getChars_ba4f3_0_k 7 rfl) hl (by decide) rfl (fun ls hl => ?_)
  refine lv_iload hx hb (dc tbJ6_getChars_ba4f3_0_k 8 rfl) (lv_at hl 0 rfl) ?_
  refine lv_if_ne (tgt := 22) hx hb (dc tbJ6_getChars_ba4f3_0_k 9 rfl) rfl (fun c2 => ?_) (fun c2 => ?_)
  · have hf := ite_f c2 hf
    exact tJ6_getChars_ba4f3_l22 C hk0 5000 x0 x5 y0 M hf _ _ _ hI (lv_sub hl [1, 2, 3, 0] rfl)
  · have hf := ite_t c2 hf
    refine lv_iload_n hx hb (dc tbJ6_getChars_ba4f3_0_k 10 rfl) rfl (lv_at hl 1 rfl) ?_
    refine lv_ineg hx hb (dc tbJ6_getChars_ba4f3_0_k 11 rfl) ?_
    obtain ⟨x0_21, e32, hf⟩ := bnd_s hf
    refine lv_ei e32 ?_
    refine lv_istore_n (lv' := [(0, .int x0_21), (6, .int y0), (2, .ref (ad k0)), (5, .int x5)]) hx hb (dc tbJ6_getChars_ba4f3_0_k 12 rfl) rfl hl (by decide) rfl (fun ls hl => ?_)
    exact tJ6_getChars_ba4f3_l22 C hk0 5000 x0_21 x5 y0 M hf _ _ _ hI (lv_sub hl [0, 2, 3, 1] rfl)
def mJ6_getChars_ba4f3 (k0 : Nat) (n0 : Nat) (x0 : Int32) (x1 : Int32) (M : Mem) : Option (Mem × Int32) := ite2 (0 ≤ x0) (mJ6_getChars_ba4f3_b12 k0 n0 x0 x1 (0 : Int32) M) (mJ6_getChars_ba4f3_b12 k0 n0 x0 x1 (1 : Int32) M)
set_option maxHeartbeats 4000000 in
set_option maxRecDepth 100000 in
theorem tJ6_getChars_ba4f3 (l : Launch) {G : GT} {kd : Nat → Nat × Nat} {ad : Nat → Nat} {k0 : Nat} {n0 : Nat} (hk0 : kd k0 = (11, n0)) {x0 : Int32} {x1 : Int32} {M : Mem} {MO : Mem} {vo : Int32} (hf : mJ6_getChars_ba4f3 k0 n0 x0 x1 M = some (MO, vo)) (n : Nat) : Met l yJ6_getChars_ba4f3 (Cond.code yJ6_getChars_ba4f3 cJ6_getChars_ba4f3 7 (some .int) :: WA) (rmO 0 0 0) (Pg G kd ad n [.int x0, .int x1, .ref (ad k0)] M) (Qg G kd ad n MO (some (.int vo))) 0 0 (AS kd ad n) := by
  refine g_body (own := RJ6) (by decide) rfl ?_ (Nat.le_of_ble_eq_true rfl)
  intro p e s m args below meth c C _ H locs ls hI hl
  obtain ⟨hx, hb, hml, hr, hown, hts, hlk, hK, hap, hsx⟩ := id C
  have hl : lv_has ls 7 [(0, .int x0), (1, .int x1), (2, .ref (ad k0))] := hl
  unfold mJ6_getChars_ba4f3 at hf
  refine lv_iload_n hx hb (dc tbJ6_getChars_ba4f3_0_k 0 rfl) rfl (lv_at hl 1 rfl) ?_
  refine lv_istore (lv' := [(5, .int x1), (0, .int x0), (1, .int x1), (2, .ref (ad k0))]) hx hb (dc tbJ6_getChars_ba4f3_0_k 1 rfl) hl (by decide) rfl (fun ls hl => ?_)
  refine lv_iload_n hx hb (dc tbJ6_getChars_ba4f3_0_k 2 rfl) rfl (lv_at hl 1 rfl) ?_
  refine lv_if_ge (tgt := 11) hx hb (dc tbJ6_getChars_ba4f3_0_k 3 rfl) rfl (fun c1 => ?_) (fun c1 => ?_)
  · have hf := ite_t c1 hf
    refine lv_iconst (v := 0) hx hb (dc tbJ6_getChars_ba4f3_0_k 6 rfl) ic_0 ?_
    exact tJ6_getChars_ba4f3_b12 C hk0 x0 x1 (0 : Int32) M hf _ _ _ hI (lv_sub hl [1, 3, 0] rfl)
  · have hf := ite_f c1 hf
    refine lv_iconst (v := 1) hx hb (dc tbJ6_getChars_ba4f3_0_k 4 rfl) ic_1 ?_
    refine lv_goto (tgt := 12) hx hb (dc tbJ6_getChars_ba4f3_0_k 5 rfl) rfl ?_
    exact tJ6_getChars_ba4f3_b12 C hk0 x0 x1 (1 : Int32) M hf _ _ _ hI (lv_sub hl [1, 3, 0] rfl)
theorem cs_J6_getChars_ba4f3 : csF yJ6_getChars_ba4f3 cJ6_getChars_ba4f3 7 (some .int) 3 := ⟨q_t4_109, q_t1_23, q_t4_110, by decide +kernel⟩
def mJ1_canEncode_fc78d (x0 : Int32) (M : Mem) : Option Int32 := ite2 ((255 : Int32) < x0) (some (0 : Int32)) (some (1 : Int32))
set_option maxHeartbeats 4000000 in
set_option maxRecDepth 100000 in
theorem tJ1_canEncode_fc78d (l : Launch) {G : GT} {kd : Nat → Nat × Nat} {ad : Nat → Nat}  {x0 : Int32} {M : Mem} {vo : Int32} (hf : mJ1_canEncode_fc78d  x0 M = some vo) (n : Nat) : Met l yJ1_canEncode_fc78d (Cond.code yJ1_canEncode_fc78d cJ1_canEncode_fc78d 1 (some .boolean) :: WA) (rmO 0 0 0) (Pg G kd ad n [.int x0] M) (Qg G kd ad n M (some (.int vo))) 0 0 (AS kd ad n) := by
  refine g_body (own := RJ1) (by decide) rfl ?_ (Nat.le_of_ble_eq_true rfl)
  intro p e s m args below meth c C _ H locs ls hI hl
  obtain ⟨hx, hb, hml, hr, hown, hts, hlk, hK, hap, hsx⟩ := id C
  have hl : lv_has ls 1 [(0, .int x0)] := hl
  unfold mJ1_canEncode_fc78d at hf
  refine lv_iload_n hx hb (dc tbJ1_canEncode_fc78d_k 0 rfl) rfl (lv_at hl 0 rfl) ?_
  refine lv_sipush (v := 255) hx hb (dc tbJ1_canEncode_fc78d_k 1 rfl) sp_255 ?_
  refine lv_icmp_gt (tgt := 11) hx hb (dc tbJ1_canEncode_fc78d_k 2 rfl) rfl (fun c1 => ?_) (fun c1 => ?_)
  · have hf := ite_t c1 hf
    refine lv_iconst (v := 0) hx hb (dc tbJ1_canEncode_fc78d_k 5 rfl) ic_0 ?_
    cases hf
    exact g_zret hx hb hr hlk hI rfl (dc tbJ1_canEncode_fc78d_k 6 rfl)
  · have hf := ite_f c1 hf
    refine lv_iconst (v := 1) hx hb (dc tbJ1_canEncode_fc78d_k 3 rfl) ic_1 ?_
    refine lv_goto (tgt := 12) hx hb (dc tbJ1_canEncode_fc78d_k 4 rfl) rfl ?_
    cases hf
    exact g_zret hx hb hr hlk hI rfl (dc tbJ1_canEncode_fc78d_k 6 rfl)
theorem cs_J1_canEncode_fc78d : csF yJ1_canEncode_fc78d cJ1_canEncode_fc78d 1 (some .boolean) 1 := ⟨q_t5_80, q_t1_18, q_t5_81, by decide +kernel⟩
def mJ8_newLength_cabcc_b21 (M : Mem) (x0 : Int32) (x1 : Int32) : Option Int32 := none
set_option maxHeartbeats 4000000 in
set_option maxRecDepth 100000 in
theorem tJ8_newLength_cabcc_b21 {p : Program} {l : Launch} {e : Env} {s : State} {m : MethodId} {args : Array Value} {below : List Frame} {meth : Method} {c : Code} {G : GT} {kd : Nat → Nat × Nat} {ad : Nat → Nat} (C : Cx p s m args meth c cJ8_newLength_cabcc 4 (some .int) RJ8 G kd ad)  {M : Mem} {vo : Int32}   : ∀ (x0 : Int32) (x1 : Int32), mJ8_newLength_cabcc_b21  M x0 x1 = some vo → At p l e (rmO 0 0 0) s m args below meth c 0 0 (MQ below (Qg G kd ad s.heap.size M (some (.int vo))) args s 0 0 (AS kd ad s.heap.size)) G kd ad 4 21 [(0, .int x0), (1, .int x1)] [] M := by
  intro x0 x1 hf H locs ls hI hl
  obtain ⟨hx, hb, hml, hr, hown, hts, hlk, hK, hap, hsx⟩ := id C
  unfold mJ8_newLength_cabcc_b21 at hf
  refine lv_iload_n hx hb (dc tbJ8_newLength_cabcc_k 14 rfl) rfl (lv_at hl 0 rfl) ?_
  refine lv_iload_n hx hb (dc tbJ8_newLength_cabcc_k 15 rfl) rfl (lv_at hl 1 rfl) ?_
  cases hf
def mJ8_newLength_cabcc (x0 : Int32) (x1 : Int32) (x2 : Int32) (M : Mem) : Option Int32 := bnd ((x0 + (imax x1 x2))) (fun x3_7 => ite2 (x3_7 ≤ (0 : Int32)) (mJ8_newLength_cabcc_b21  M x0 x1) (ite2 ((2147483639 : Int32) < x3_7) (mJ8_newLength_cabcc_b21  M x0 x1) (some x3_7)))
set_option maxHeartbeats 4000000 in
set_option maxRecDepth 100000 in
theorem tJ8_newLength_cabcc (l : Launch) {G : GT} {kd : Nat → Nat × Nat} {ad : Nat → Nat}  {x0 : Int32} {x1 : Int32} {x2 : Int32} {M : Mem} {vo : Int32} (hf : mJ8_newLength_cabcc  x0 x1 x2 M = some vo) (n : Nat) : Met l yJ8_newLength_cabcc (Cond.code yJ8_newLength_cabcc cJ8_newLength_cabcc 4 (some .int) :: WA) (rmO 0 0 0) (Pg G kd ad n [.int x0, .int x1, .int x2] M) (Qg G kd ad n M (some (.int vo))) 0 0 (AS kd ad n) := by
  refine g_body (own := RJ8) (by decide) rfl ?_ (Nat.le_of_ble_eq_true rfl)
  intro p e s m args below meth c C _ H locs ls hI hl
  obtain ⟨hx, hb, hml, hr, hown, hts, hlk, hK, hap, hsx⟩ := id C
  have hl : lv_has ls 4 [(0, .int x0), (1, .int x1), (2, .int x2)] := hl
  unfold mJ8_newLength_cabcc at hf
  refine lv_iload_n hx hb (dc tbJ8_newLength_cabcc_k 0 rfl) rfl (lv_at hl 0 rfl) ?_
  refine lv_iload_n hx hb (dc tbJ8_newLength_cabcc_k 1 rfl) rfl (lv_at hl 1 rfl) ?_
  refine lv_iload_n hx hb (dc tbJ8_newLength_cabcc_k 2 rfl) rfl (lv_at hl 2 rfl) ?_
  refine va_mmax hx hb (hml.trans hl.1.symm) hown (hts _ q_t4_6) (hts _ q_t2_203) (hts _ q_t1_22) (hts _ q_t2_204) (Nat.le_of_ble_eq_true rfl) (Nat.le_of_ble_eq_true rfl) (Nat.le_of_ble_eq_true rfl) (Nat.le_of_ble_eq_true rfl) (dc tbJ8_newLength_cabcc_k 3 rfl) ?_
  refine lv_et (show (if _ then _ else _) = (imax x1 x2) from rfl) ?_
  refine lv_iadd hx hb (dc tbJ8_newLength_cabcc_k 4 rfl) ?_
  obtain ⟨x3_7, e1, hf⟩ := bnd_s hf
  refine lv_ei e1 ?_
  refine lv_istore_n (lv' := [(3, .int x3_7), (0, .int x0), (1, .int x1), (2, .int x2)]) hx hb (dc tbJ8_newLength_cabcc_k 5 rfl) rfl hl (by decide) rfl (fun ls hl => ?_)
  refine lv_iconst (v := 0) hx hb (dc tbJ8_newLength_cabcc_k 6 rfl) ic_0 ?_
  refine lv_iload_n hx hb (dc tbJ8_newLength_cabcc_k 7 rfl) rfl (lv_at hl 0 rfl) ?_
  refine lv_icmp_ge (tgt := 21) hx hb (dc tbJ8_newLength_cabcc_k 8 rfl) rfl (fun c2 => ?_) (fun c2 => ?_)
  · have hf := ite_t c2 hf
    exact tJ8_newLength_cabcc_b21 C  x0 x1 hf _ _ _ hI (lv_sub hl [1, 2] rfl)
  · have hf := ite_f c2 hf
    refine lv_iload_n hx hb (dc tbJ8_newLength_cabcc_k 9 rfl) rfl (lv_at hl 0 rfl) ?_
    refine lv_ldc hx hb hown (hts _ q_t4_7) (dc tbJ8_newLength_cabcc_k 10 rfl) ?_
    refine lv_icmp_gt (tgt := 21) hx hb (dc tbJ8_newLength_cabcc_k 11 rfl) rfl (fun c3 => ?_) (fun c3 => ?_)
    · have hf := ite_t c3 hf
      exact tJ8_newLength_cabcc_b21 C  x0 x1 hf _ _ _ hI (lv_sub hl [1, 2] rfl)
    · have hf := ite_f c3 hf
      refine lv_iload_n hx hb (dc tbJ8_newLength_cabcc_k 12 rfl) rfl (lv_at hl 0 rfl) ?_
      cases hf
      exact g_iret hx hb hr hlk hI (dc tbJ8_newLength_cabcc_k 13 rfl)
theorem cs_J8_newLength_cabcc : csF yJ8_newLength_cabcc cJ8_newLength_cabcc 4 (some .int) 3 := ⟨q_t4_4, q_t1_26, q_t4_5, by decide +kernel⟩
def mJ5_isLatin1_aae02 (M : Mem) : Option Int32 := ite2 ((1 : Int32) = 0) (some (0 : Int32)) (ite2 ((rd M 133 1) = 0) (some (1 : Int32)) (some (0 : Int32)))
set_option maxHeartbeats 4000000 in
set_option maxRecDepth 100000 in
theorem tJ5_isLatin1_aae02 (l : Launch) {G : GT} {kd : Nat → Nat × Nat} {ad : Nat → Nat} {M : Mem} (hS : Sb kd (rd M 133 0)) {vo : Int32} (hf : mJ5_isLatin1_aae02  M = some vo) (n : Nat) : Met l yJ5_isLatin1_aae02 (Cond.code yJ5_isLatin1_aae02 cJ5_isLatin1_aae02 1 (some .boolean) :: WA) (rmO 0 0 0) (Pg G kd ad n [.ref (ad 133)] M) (Qg G kd ad n M (some (.int vo))) 0 0 (AS kd ad n) := by
  refine g_body (own := RJ5) (by decide) rfl ?_ (Nat.le_of_ble_eq_true rfl)
  intro p e s m args below meth c C _ H locs ls hI hl
  obtain ⟨hx, hb, hml, hr, hown, hts, hlk, hK, hap, hsx⟩ := id C
  have hl : lv_has ls 1 [(0, .ref (ad 133))] := hl
  unfold mJ5_isLatin1_aae02 at hf
  refine g_gscs hx hb hown hts hsx hI q_t2_59 (dc tbJ5_isLatin1_aae02_k 0 rfl) ?_
  refine lv_if_eq (tgt := 17) hx hb (dc tbJ5_isLatin1_aae02_k 1 rfl) rfl (fun c1 => ?_) (fun c1 => ?_)
  · have hf := ite_t c1 hf
    refine lv_iconst (v := 0) hx hb (dc tbJ5_isLatin1_aae02_k 7 rfl) ic_0 ?_
    cases hf
    exact g_zret hx hb hr hlk hI rfl (dc tbJ5_isLatin1_aae02_k 8 rfl)
  · have hf := ite_f c1 hf
    refine lv_aload_n hx hb (dc tbJ5_isLatin1_aae02_k 2 rfl) rfl (lv_at hl 0 rfl) ?_
    refine ggSB_1 hx hb hts hown hK hI hS.1 q_t2_69 (dc tbJ5_isLatin1_aae02_k 3 rfl) ?_
    refine lv_if_ne (tgt := 17) hx hb (dc tbJ5_isLatin1_aae02_k 4 rfl) rfl (fun c2 => ?_) (fun c2 => ?_)
    · have hf := ite_f c2 hf
      refine lv_iconst (v := 0) hx hb (dc tbJ5_isLatin1_aae02_k 7 rfl) ic_0 ?_
      cases hf
      exact g_zret hx hb hr hlk hI rfl (dc tbJ5_isLatin1_aae02_k 8 rfl)
    · have hf := ite_t c2 hf
      refine lv_iconst (v := 1) hx hb (dc tbJ5_isLatin1_aae02_k 5 rfl) ic_1 ?_
      refine lv_goto (tgt := 18) hx hb (dc tbJ5_isLatin1_aae02_k 6 rfl) rfl ?_
      cases hf
      exact g_zret hx hb hr hlk hI rfl (dc tbJ5_isLatin1_aae02_k 8 rfl)
def mJ5_newCapacity_0f7a4 (x1 : Int32) (M : Mem) : Option Int32 := bnd ((Int32.ofNat (sbn (rd M 133 0)))) (fun x2_5 => bnd ((x1 <<< ((rd M 133 1) &&& 31))) (fun x3_12 => bnd ((x3_12 - x2_5)) (fun x4_16 => cap (mJ8_newLength_cabcc x2_5 x4_16 (x2_5 + ((2 : Int32) <<< ((rd M 133 1) &&& 31))) M) (fun r6 => ite2 (r6 = (2147483647 : Int32)) (none) (some (r6 >>> ((rd M 133 1) &&& 31)))))))
set_option maxHeartbeats 4000000 in
set_option maxRecDepth 100000 in
theorem tJ5_newCapacity_0f7a4 (l : Launch) {G : GT} {kd : Nat → Nat × Nat} {ad : Nat → Nat} {M : Mem} (hS : Sb kd (rd M 133 0)) {x1 : Int32} {vo : Int32} (hf : mJ5_newCapacity_0f7a4  x1 M = some vo) (n : Nat) : Met l yJ5_newCapacity_0f7a4 (Cond.code yJ5_newCapacity_0f7a4 cJ5_newCapacity_0f7a4 6 (some .int) :: WA) (rmO 1 0 0) (Pg G kd ad n [.ref (ad 133), .int x1] M) (Qg G kd ad n M (some (.int vo))) 0 0 (AS kd ad n) := by
  refine g_body (own := RJ5) (by decide) rfl ?_ (Nat.le_of_ble_eq_true rfl)
  intro p e s m args below meth c C _ H locs ls hI hl
  obtain ⟨hx, hb, hml, hr, hown, hts, hlk, hK, hap, hsx⟩ := id C
  have hl : lv_has ls 6 [(0, .ref (ad 133)), (1, .int x1)] := hl
  unfold mJ5_newCapacity_0f7a4 at hf
  refine lv_aload_n hx hb (dc tbJ5_newCapacity_0f7a4_k 0 rfl) rfl (lv_at hl 0 rfl) ?_
  refine ggSB_0 hx hb hts hown hK hI hS.1 q_t2_68 (dc tbJ5_newCapacity_0f7a4_k 1 rfl) ?_
  refine g_alenB hx hb hK hI hS.2.1 (v := Int32.ofNat (sbn (rd M 133 0))) rfl (dc tbJ5_newCapacity_0f7a4_k 2 rfl) ?_
  obtain ⟨x2_5, e2, hf⟩ := bnd_s hf
  refine lv_ei e2 ?_
  refine lv_istore_n (lv' := [(2, .int x2_5), (0, .ref (ad 133)), (1, .int x1)]) hx hb (dc tbJ5_newCapacity_0f7a4_k 3 rfl) rfl hl (by decide) rfl (fun ls hl => ?_)
  refine lv_iload_n hx hb (dc tbJ5_newCapacity_0f7a4_k 4 rfl) rfl (lv_at hl 2 rfl) ?_
  refine lv_aload_n hx hb (dc tbJ5_newCapacity_0f7a4_k 5 rfl) rfl (lv_at hl 1 rfl) ?_
  refine ggSB_1 hx hb hts hown hK hI hS.1 q_t2_69 (dc tbJ5_newCapacity_0f7a4_k 6 rfl) ?_
  refine lv_ishl hx hb (dc tbJ5_newCapacity_0f7a4_k 7 rfl) ?_
  obtain ⟨x3_12, e3, hf⟩ := bnd_s hf
  refine lv_ei e3 ?_
  refine lv_istore_n (lv' := [(3, .int x3_12), (2, .int x2_5), (0, .ref (ad 133)), (1, .int x1)]) hx hb (dc tbJ5_newCapacity_0f7a4_k 8 rfl) rfl hl (by decide) rfl (fun ls hl => ?_)
  refine lv_iload_n hx hb (dc tbJ5_newCapacity_0f7a4_k 9 rfl) rfl (lv_at hl 0 rfl) ?_
  refine lv_iload_n hx hb (dc tbJ5_newCapacity_0f7a4_k 10 rfl) rfl (lv_at hl 1 rfl) ?_
  refine lv_isub hx hb (dc tbJ5_newCapacity_0f7a4_k 11 rfl) ?_
  obtain ⟨x4_16, e4, hf⟩ := bnd_s hf
  refine lv_ei e4 ?_
  refine lv_istore (lv' := [(4, .int x4_16), (3, .int x3_12), (2, .int x2_5), (0, .ref (ad 133)), (1, .int x1)]) hx hb (dc tbJ5_newCapacity_0f7a4_k 12 rfl) hl (by decide) rfl (fun ls hl => ?_)
  refine lv_iload_n hx hb (dc tbJ5_newCapacity_0f7a4_k 13 rfl) rfl (lv_at hl 2 rfl) ?_
  refine lv_iload hx hb (dc tbJ5_newCapacity_0f7a4_k 14 rfl) (lv_at hl 0 rfl) ?_
  refine lv_iload_n hx hb (dc tbJ5_newCapacity_0f7a4_k 15 rfl) rfl (lv_at hl 2 rfl) ?_
  refine lv_iconst (v := 2) hx hb (dc tbJ5_newCapacity_0f7a4_k 16 rfl) ic_2 ?_
  refine lv_aload_n hx hb (dc tbJ5_newCapacity_0f7a4_k 17 rfl) rfl (lv_at hl 3 rfl) ?_
  refine ggSB_1 hx hb hts hown hK hI hS.1 q_t2_69 (dc tbJ5_newCapacity_0f7a4_k 18 rfl) ?_
  refine lv_ishl hx hb (dc tbJ5_newCapacity_0f7a4_k 19 rfl) ?_
  refine lv_iadd hx hb (dc tbJ5_newCapacity_0f7a4_k 20 rfl) ?_
  obtain ⟨r6, q5, hf⟩ := cap_s hf
  refine g_callSi hx hb hml hown hts hK hap hsx hI (tJ8_newLength_cabcc l  q5 H.size) cs_J8_newLength_cabcc q_t4_3 rfl rfl ⟨Nat.le_of_ble_eq_true rfl, Nat.le_of_ble_eq_true rfl⟩ rfl hl.1 rfl (Nat.le_of_ble_eq_true rfl) (dc tbJ5_newCapacity_0f7a4_k 21 rfl) ⟨Nat.le_of_ble_eq_true rfl, Nat.le_of_ble_eq_true rfl⟩ (fun H locs hI => ?_)
  refine lv_istore (lv' := [(5, .int r6), (4, .int x4_16), (3, .int x3_12), (2, .int x2_5), (0, .ref (ad 133)), (1, .int x1)]) hx hb (dc tbJ5_newCapacity_0f7a4_k 22 rfl) hl (by decide) rfl (fun ls hl => ?_)
  refine lv_iload hx hb (dc tbJ5_newCapacity_0f7a4_k 23 rfl) (lv_at hl 0 rfl) ?_
  refine lv_ldc hx hb hown (hts _ q_t4_11) (dc tbJ5_newCapacity_0f7a4_k 24 rfl) ?_
  refine lv_icmp_ne (tgt := 51) hx hb (dc tbJ5_newCapacity_0f7a4_k 25 rfl) rfl (fun c8 => ?_) (fun c8 => ?_)
  · have hf := ite_f c8 hf
    refine lv_iload hx hb (dc tbJ5_newCapacity_0f7a4_k 31 rfl) (lv_at hl 0 rfl) ?_
    refine lv_aload_n hx hb (dc tbJ5_newCapacity_0f7a4_k 32 rfl) rfl (lv_at hl 4 rfl) ?_
    refine ggSB_1 hx hb hts hown hK hI hS.1 q_t2_69 (dc tbJ5_newCapacity_0f7a4_k 33 rfl) ?_
    refine lv_ishr hx hb (dc tbJ5_newCapacity_0f7a4_k 34 rfl) ?_
    cases hf
    exact g_iret hx hb hr hlk hI (dc tbJ5_newCapacity_0f7a4_k 35 rfl)
  · have hf := ite_t c8 hf
    cases hf
