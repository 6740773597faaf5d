/-! methods that may throw -/
def exN (e : Nat) : String := if e = 0 then "java/lang/IllegalArgumentException" else if e = 1 then "java/lang/IndexOutOfBoundsException" else "java/lang/IllegalStateException"
def zi (v : Int32 ⊕ Nat) : Option Value ⊕ Nat := match v with
  | .inl r => .inl (some (.int r))
  | .inr e => .inr e
def zl (v : Int64 ⊕ Nat) : Option Value ⊕ Nat := match v with
  | .inl r => .inl (some (.long r))
  | .inr e => .inr e
def zd (v : UInt64 ⊕ Nat) : Option Value ⊕ Nat := match v with
  | .inl r => .inl (some (.double r))
  | .inr e => .inr e
def zv (v : Unit ⊕ Nat) : Option Value ⊕ Nat := match v with
  | .inl _ => .inl none
  | .inr e => .inr e
def Qx (G : GT) (kd : Nat → Nat × Nat) (ad : Nat → Nat) (sz : Nat) (M : Mem) (z : Option Value ⊕ Nat) : Array Value → State → Outcome → State → Prop := fun a st oc t => ∃ v, z = .inl v ∧ Qg G kd ad sz M v a st oc t
def Xx (G : GT) (kd : Nat → Nat × Nat) (ad : Nat → Nat) (sz : Nat) (M : Mem) (z : Option Value ⊕ Nat) : String → State → State → Prop := fun E st t => ∃ e, z = .inr e ∧ E = exN e ∧ Wd G kd ad M t.heap ∧ va_F (AS kd ad sz) st t
def calx {ρ σ : Type} (x : Option (Mem × (ρ ⊕ Nat))) (k : Mem → ρ → Option (Mem × (σ ⊕ Nat))) : Option (Mem × (σ ⊕ Nat)) := match x with
  | none => none
  | some (M, .inl r) => k M r
  | some (M, .inr e) => some (M, .inr e)
theorem calx_s {ρ σ : Type} {x : Option (Mem × (ρ ⊕ Nat))} {k : Mem → ρ → Option (Mem × (σ ⊕ Nat))} {MO : Mem} {vo : σ ⊕ Nat} (h : calx x k = some (MO, vo)) : (∃ M r, x = some (M, .inl r) ∧ k M r = some (MO, vo)) ∨ ∃ e, x = some (MO, .inr e) ∧ vo = .inr e := by
  match x, h with
  | some (M, .inl r), h => exact Or.inl ⟨M, r, rfl, h⟩
  | some (M, .inr e), h => cases h; exact Or.inr ⟨e, rfl, rfl⟩
section GX
variable {p : Program} {l : Launch} {e : Env} {R : Room} {s : State} {m : MethodId} {args : Array Value} {below : List Frame} {meth : Method} {c : Code} {H : Heap} {locs : List Loc} {cells slots : Nat} {Q : State → Prop}
variable {cc : ByteArray} {pc : Nat} {ls : Array Slot} {rest : List Value} {G : GT} {kd : Nat → Nat × Nat} {ad : Nat → Nat} {M : Mem} {H0 : Heap}
theorem px_blind {sz : Nat} {av : List Value} : FrameBlind (Pg G kd ad sz av M) := pg_blind
abbrev XQ (G : GT) (kd : Nat → Nat × Nat) (ad : Nat → Nat) (below : List Frame) (args : Array Value) (s : State) (M : Mem) (z : Option Value ⊕ Nat) (mc ms : Nat) : State → Prop := vx_MQ below (Qx G kd ad s.heap.size M z) (Xx G kd ad s.heap.size M z) args s mc ms (AS kd ad s.heap.size)
theorem x_ret {v : Option Value} {g : JFrame} (k : W p l e R s m args below meth c H locs cells slots (MQ below (Qg G kd ad s.heap.size M v) args s cells slots (AS kd ad s.heap.size)) g) : W p l e R s m args below meth c H locs cells slots (XQ G kd ad below args s M (.inl v) cells slots) g := by
  intro T hT X
  obtain ⟨t, a1, o, b1, b2, b3, b4⟩ := k T hT X
  exact ⟨t, a1, o, b1, b2, Or.inl ⟨⟨v, rfl, b3⟩, b4⟩⟩
theorem x_callR {st0 : List Value} {a : Array Value} {mc ms : Nat} {M' : Mem} {v : Option Value} (hr : vx_Run p l e R s m args below meth c H locs cells slots mc ms (F0 m pc ls st0) rest (Qx G kd ad H.size M' (.inl v) a) (Xx G kd ad H.size M' (.inl v)) (AS kd ad H.size)) (hI : Inv G kd ad s.heap M H locs)
    (kk : ∀ (H1 : Heap) (locs1 : List Loc), Inv G kd ad s.heap M' H1 locs1 → W p l e R s m args below meth c H1 locs1 (cells + mc) (slots + ms) Q (F0 m (pc + 3) ls (v.toList ++ rest))) : W p l e R s m args below meth c H locs cells slots Q (F0 m pc ls st0) := by
  intro T hT X
  rcases hr T hT X with ⟨v', st₀, t, T', L, h0, X', hL, e1, e2, ⟨v2, hz, hv, hw, hF⟩, st⟩ | ⟨q, st₀, t, T', L, E, ce, h0, X', hL, e1, e2, ⟨e3, hz, -⟩, -⟩
  · cases hz
    cases hv
    obtain ⟨k1, k2, k3⟩ := vx_keep h0 e1 hI.2 (fun q hq h => AS.old hq h) (fun q h => AS.mono hI.2.1 h) hL hF
    obtain ⟨t2, a1, b1⟩ := kk T'.heap (locs ++ L) ⟨by rw [e1]; exact hw, k3⟩ T' rfl X'
    exact ⟨t2, st t2 a1, b1⟩
  · cases hz
theorem x_callT {st0 : List Value} {a : Array Value} {mc ms mcc msc : Nat} {M' : Mem} {e9 : Nat} (hr : vx_Run p l e R s m args below meth c H locs cells slots mc ms (F0 m pc ls st0) rest (Qx G kd ad H.size M' (.inr e9) a) (Xx G kd ad H.size M' (.inr e9)) (AS kd ad H.size)) (hI : Inv G kd ad s.heap M H locs)
    (htb : ∀ x ∈ c.exceptionTable.toList, False) (hlk : meth.locks = false) (hc : cells + mc ≤ mcc) (hs : slots + ms ≤ msc) : W p l e R s m args below meth c H locs cells slots (XQ G kd ad below args s M' (.inr e9) mcc msc) (F0 m pc ls st0) := by
  intro T hT X
  rcases hr T hT X with ⟨v', st₀, t, T', L, h0, X', hL, e1, e2, ⟨v2, hz, -⟩, st⟩ | ⟨q, st₀, t, T', L, E, ce, h0, X', hL, e1, e2, ⟨e3, hz, hE, hw, hF⟩, hce, hcv, hcl, st⟩
  · cases hz
  · cases hz
    obtain ⟨k1, k2, k3⟩ := vx_keep h0 e1 hI.2 (fun q hq h => AS.old hq h) (fun q h => AS.mono hI.2.1 h) hL hF
    obtain ⟨t2, a1, b1⟩ := vx_out (Qc := Qx G kd ad s.heap.size M' (.inr e9)) (XC := Xx G kd ad s.heap.size M' (.inr e9)) (free := AS kd ad s.heap.size) (pc := pc) (ls := ls) (rest := rest) (fun x hx => (htb x hx).elim) hlk (show T'.heap[q]? = some ce by rw [e1]; exact hce) hcv hcl (fun t9 ht _ => ⟨e9, rfl, hE, by rw [ht, e1]; exact hw, k3.F ht⟩) k3.2.2 hc hs T' rfl X'
    exact ⟨t2, st.trans a1, b1⟩
theorem g_runXV {b : Nat} {y : MethodName} {bytes : ByteArray} {maxL nL mc ms n index : Nat} {ret : Option FieldType} {rm : Room} {own C : String} {As : List Value} {M' : Mem} {z : Option Value ⊕ Nat} (hx : p.tables.exec = Jvm.exec) (hb : c.code = cc) (hml : c.maxLocals = nL) (hown : s.vm.findClass own = some m.cls) (hts : ∀ w ∈ WA, w.before args s = true) (hK : va_K G.1 vwCl (tyL G) s) (hap : Apt kd ad) (hsx : Sx G (AS kd ad s.heap.size) s s.heap) (hI : Inv G kd ad s.heap M H locs)
    (hM : vx_Met l y (Cond.code y bytes maxL ret :: WA) rm (Pg G kd ad H.size (.ref (ad b) :: As) M) (Qx G kd ad H.size M' z) (Xx G kd ad H.size M' z) mc ms (AS kd ad H.size)) (hcv : cvF C y bytes maxL ret n) (hl : Cond.methodLink own index y ∈ WA) (hrc : rm.cells = mc) (hrs : rm.slots = ms) (hR : rm.frames + 1 ≤ R.frames ∧ 8 + (maxL + 11) + rm.locals ≤ R.locals)
    {ci : Nat} {q : Nat × Nat} {fs : List Value} {T : u_T} {N : Nat} (hk : kd b = q) (hq : q.1 ≠ 0) (he : ent ad G.2.1 q b (M.1 b) (M.2.1 b) (M.2.2 b) = .inr (ci, fs)) (hc : vwCl[ci]? = some (C, T, N))
    (hn : As.length = n) (hsize : ls.size = nL) {st : List Value} (hst : st = As.reverse ++ .ref (ad b) :: rest) (hW : (rest.map fun v => v.category).sum ≤ 8) (hdg : decode cc pc = .ok (.invokevirtual index, 3)) (hf : cells + mc ≤ R.cells ∧ slots + ms ≤ R.slots) :
    vx_Run p l e R s m args below meth c H locs cells slots mc ms (F0 m pc ls st) rest (Qx G kd ad H.size M' z (Value.ref (ad b) :: As).toArray) (Xx G kd ad H.size M' z) (AS kd ad H.size) := by
  subst hst
  obtain ⟨c1, c2, c3, c4, c5⟩ := hcv
  have hG : GoodIn WA (wsV own index C y (Cond.code y bytes maxL ret :: WA)) := fun w h => by
    have : w ∈ WA := by
      rcases List.mem_append.mp h with h | h
      · simp only [List.mem_cons, List.not_mem_nil, or_false] at h
        rcases h with rfl | rfl | rfl | rfl
        · exact hl
        · exact c1
        · exact c2
        · exact c3
      · exact ws_good c4 w h
    exact ⟨this, wa_good w this⟩
  exact vx_runV (C := C) (b := ad b) (As := As) (rest := rest) ⟨hx, hb, hml, hown, hts⟩ hM (cwV n hts hG rfl hrc hrs c5 hR) ⟨px_blind, va_recv hK (va_P1 (hI.at hk hq he)) hc (q0 := 0) rfl, fun U hU hW => pg_of hap hK hsx hI hU hW⟩ rfl hn hsize rfl (lv_room hW) hdg hf
theorem g_runXS {y : MethodName} {bytes : ByteArray} {maxL nL mc ms n index : Nat} {ret : Option FieldType} {rm : Room} {own : String} {As : List Value} {M' : Mem} {z : Option Value ⊕ Nat} (hx : p.tables.exec = Jvm.exec) (hb : c.code = cc) (hml : c.maxLocals = nL) (hown : s.vm.findClass own = some m.cls) (hts : ∀ w ∈ WA, w.before args s = true) (hK : va_K G.1 vwCl (tyL G) s) (hap : Apt kd ad) (hsx : Sx G (AS kd ad s.heap.size) s s.heap) (hI : Inv G kd ad s.heap M H locs)
    (hM : vx_Met l y (Cond.code y bytes maxL ret :: WA) rm (Pg G kd ad H.size As M) (Qx G kd ad H.size M' z) (Xx G kd ad H.size M' z) mc ms (AS kd ad H.size)) (hcv : csF y bytes maxL ret n) (hl : Cond.methodLink own index y ∈ WA) (hrc : rm.cells = mc) (hrs : rm.slots = ms) (hR : rm.frames + 1 ≤ R.frames ∧ 8 + (maxL + 11) + rm.locals ≤ R.locals)
    (hn : As.length = n) (hsize : ls.size = nL) {st : List Value} (hst : st = As.reverse ++ rest) (hW : (rest.map fun v => v.category).sum ≤ 8) (hdg : decode cc pc = .ok (.invokestatic index, 3)) (hf : cells + mc ≤ R.cells ∧ slots + ms ≤ R.slots) :
    vx_Run p l e R s m args below meth c H locs cells slots mc ms (F0 m pc ls st) rest (Qx G kd ad H.size M' z As.toArray) (Xx G kd ad H.size M' z) (AS kd ad H.size) := by
  subst hst
  obtain ⟨c1, c3, c4, c5⟩ := hcv
  have hG : GoodIn WA (va_wsS own index y (Cond.code y bytes maxL ret :: WA)) := fun w h => by
    have : w ∈ WA := by
      rcases List.mem_append.mp h with h | h
      · simp only [List.mem_cons, List.not_mem_nil, or_false] at h
        rcases h with rfl | rfl | rfl
        · exact hl
        · exact c1
        · exact c3
      · exact ws_good c4 w h
    exact ⟨this, wa_good w this⟩
  exact vx_runS (As := As) (rest := rest) ⟨hx, hb, hml, hown, hts⟩ hM (va_cwS n hts hG rfl hrc hrs c5 hR) ⟨px_blind, fun U hU hW => pg_of hap hK hsx hI hU hW⟩ rfl hn hsize rfl (lv_room hW) hdg hf
theorem x_callRi {st0 : List Value} {a : Array Value} {mc ms : Nat} {M' : Mem} {r : Int32} (hr : vx_Run p l e R s m args below meth c H locs cells slots mc ms (F0 m pc ls st0) rest (Qx G kd ad H.size M' (.inl (some (.int r))) a) (Xx G kd ad H.size M' (.inl (some (.int r)))) (AS kd ad H.size)) (hI : Inv G kd ad s.heap M H locs)
    (kk : ∀ (H1 : Heap) (locs1 : List Loc), Inv G kd ad s.heap M' H1 locs1 → W p l e R s m args below meth c H1 locs1 (cells + mc) (slots + ms) Q (F0 m (pc + 3) ls ((.int r) :: rest))) : W p l e R s m args below meth c H locs cells slots Q (F0 m pc ls st0) := x_callR hr hI kk
theorem x_callRl {st0 : List Value} {a : Array Value} {mc ms : Nat} {M' : Mem} {r : Int64} (hr : vx_Run p l e R s m args below meth c H locs cells slots mc ms (F0 m pc ls st0) rest (Qx G kd ad H.size M' (.inl (some (.long r))) a) (Xx G kd ad H.size M' (.inl (some (.long r)))) (AS kd ad H.size)) (hI : Inv G kd ad s.heap M H locs)
    (kk : ∀ (H1 : Heap) (locs1 : List Loc), Inv G kd ad s.heap M' H1 locs1 → W p l e R s m args below meth c H1 locs1 (cells + mc) (slots + ms) Q (F0 m (pc + 3) ls ((.long r) :: rest))) : W p l e R s m args below meth c H locs cells slots Q (F0 m pc ls st0) := x_callR hr hI kk
theorem x_callRd {st0 : List Value} {a : Array Value} {mc ms : Nat} {M' : Mem} {r : UInt64} (hr : vx_Run p l e R s m args below meth c H locs cells slots mc ms (F0 m pc ls st0) rest (Qx G kd ad H.size M' (.inl (some (.double r))) a) (Xx G kd ad H.size M' (.inl (some (.double r)))) (AS kd ad H.size)) (hI : Inv G kd ad s.heap M H locs)
    (kk : ∀ (H1 : Heap) (locs1 : List Loc), Inv G kd ad s.heap M' H1 locs1 → W p l e R s m args below meth c H1 locs1 (cells + mc) (slots + ms) Q (F0 m (pc + 3) ls ((.double r) :: rest))) : W p l e R s m args below meth c H locs cells slots Q (F0 m pc ls st0) := x_callR hr hI kk
theorem x_callRv {st0 : List Value} {a : Array Value} {mc ms : Nat} {M' : Mem} (hr : vx_Run p l e R s m args below meth c H locs cells slots mc ms (F0 m pc ls st0) rest (Qx G kd ad H.size M' (.inl none) a) (Xx G kd ad H.size M' (.inl none)) (AS kd ad H.size)) (hI : Inv G kd ad s.heap M H locs)
    (kk : ∀ (H1 : Heap) (locs1 : List Loc), Inv G kd ad s.heap M' H1 locs1 → W p l e R s m args below meth c H1 locs1 (cells + mc) (slots + ms) Q (F0 m (pc + 3) ls rest)) : W p l e R s m args below meth c H locs cells slots Q (F0 m pc ls st0) := x_callR hr hI kk
theorem x_throw {own cls text : String} {names : List String} {ik is ic mc ms e9 nL : Nat} (w : Bool) (hx : p.tables.exec = Jvm.exec) (hb : c.code = cc) (hst : l.stackTraces = false) (hml : c.maxLocals = nL) (hown : s.vm.findClass own = some m.cls) (hts : ∀ w ∈ WA, w.before args s = true) (hlk : meth.locks = false) (hsx : Sx G (AS kd ad s.heap.size) s s.heap) (htb : ∀ x ∈ c.exceptionTable.toList, False)
    (hfit : Bundle.fit cls = true) (hnames : ∀ n ∈ names, Bundle.fit n = true) (hk : Cond.classLink own ik cls ∈ WA) (hini : Cond.initialized cls ∈ WA) (hmsg : (own, is, text) ∈ sxMsgs) (hat : ∀ w ∈ (vx_atS own ic cls names).filter goodWord, w ∈ lw_tbl) (hnb : ∀ w ∈ (vx_atS own ic cls names).filter (fun w => !goodWord w), w ∈ sxW)
    (hgood : ∀ w ∈ Cond.classLink own ik cls :: Cond.initialized cls :: vx_atS own ic cls names, vx_ot w = true) (he : cls = exN e9) (hI : Inv G kd ad s.heap M H locs) (hsize : ls.size = nL)
    (d0 : decode cc pc = .ok (.new ik, 3)) (d3 : decode cc (pc + 3) = .ok (.dup, 1)) (d4 : decode cc (pc + 4) = .ok (if w then .ldc_w is else .ldc is, if w then 3 else 2)) (d7 : decode cc (pc + (if w then 7 else 6)) = .ok (.invokespecial ic, 3)) (d10 : decode cc (pc + (if w then 10 else 9)) = .ok (.athrow, 1))
    (hRframes : names.length + 3 < R.frames) (hRlocals : (rest.map fun v => v.category).sum + (13 * (names.length + 1) + 43) ≤ R.locals) (hR : cells + 1 ≤ R.cells ∧ slots + 6 ≤ R.slots) (hc : cells + 1 ≤ mc) (hs : slots + 6 ≤ ms) :
    W p l e R s m args below meth c H locs cells slots (XQ G kd ad below args s M (.inr e9) mc ms) (F0 m pc ls rest) := by
  obtain ⟨sa, hR0⟩ := hsx.2.2.1 _ hmsg
  have hat' : ∀ w ∈ vx_atS own ic cls names, w.before args s = true := vx_hat (fun w hw => hts w (wa_m (hat w hw) (List.mem_filter.mp hw).2)) hnb (fun w hw => va_any (sxW_on w hw) (hsx.2.2.2.1.1 w hw))
  have hX : ∀ t : State, s.vm.Alike t.vm → H.size ≤ t.heap.size → (∀ q : Nat, q < H.size → t.heap[q]? = H[q]?) → Xx G kd ad s.heap.size M (.inr e9) cls s t := fun t _ hz hq =>
    ⟨e9, rfl, he, hI.1.kept (fun k hk => hq _ (hI.1.lt hk)), Nat.le_trans hI.2.1 hz, fun q h1 h2 => (hq q (Nat.lt_of_lt_of_le h1 hI.2.1)).trans (hI.2.2.1 q h1 h2)⟩
  cases w with
  | true => exact vx_throwSW hx hb hst hown hfit hnames (hts _ hk) (hts _ hini) hR0 hat' hgood hsx.1 hsx.2.1 hI.2 (hsize.trans hml.symm) d0 d3 d4 d7 d10 (fun x hx => (htb x hx).elim) hRframes hRlocals hR.1 hR.2 hlk hX hI.2.2.2 hc hs
  | false => exact vx_throwS hx hb hst hown hfit hnames (hts _ hk) (hts _ hini) hR0 hat' hgood hsx.1 hsx.2.1 hI.2 (hsize.trans hml.symm) d0 d3 d4 d7 d10 (fun x hx => (htb x hx).elim) hRframes hRlocals hR.1 hR.2 hlk hX hI.2.2.2 hc hs
theorem at_of {L : List Cond} (ix : List Nat) (h : L.map some = ix.map (fun i => lw_tbl[i]?)) : ∀ w ∈ L, w ∈ lw_tbl := fun w hw => by
  have h1 : some w ∈ ix.map (fun i => lw_tbl[i]?) := by rw [← h]; exact List.mem_map.mpr ⟨w, hw, rfl⟩
  obtain ⟨i, _, e⟩ := List.mem_map.mp h1
  exact List.mem_of_getElem? e
theorem at_iae : ∀ w ∈ (vx_atS RX6 70 "java/lang/IllegalArgumentException" ["java/lang/RuntimeException", "java/lang/Exception"]).filter goodWord, w ∈ lw_tbl := at_of ix_iae (by decide +kernel)
theorem at_ioo : ∀ w ∈ (vx_atS RX6 180 "java/lang/IndexOutOfBoundsException" ["java/lang/RuntimeException", "java/lang/Exception"]).filter goodWord, w ∈ lw_tbl := at_of ix_ioo (by decide +kernel)
theorem at_ise : ∀ w ∈ (vx_atS RX6 280 "java/lang/IllegalStateException" ["java/lang/RuntimeException", "java/lang/Exception"]).filter goodWord, w ∈ lw_tbl := at_of ix_ise (by decide +kernel)
theorem nb_iae : ∀ w ∈ (vx_atS RX6 70 "java/lang/IllegalArgumentException" ["java/lang/RuntimeException", "java/lang/Exception"]).filter (fun w => !goodWord w), w ∈ sxW := by decide +kernel
theorem nb_ioo : ∀ w ∈ (vx_atS RX6 180 "java/lang/IndexOutOfBoundsException" ["java/lang/RuntimeException", "java/lang/Exception"]).filter (fun w => !goodWord w), w ∈ sxW := by decide +kernel
theorem nb_ise : ∀ w ∈ (vx_atS RX6 280 "java/lang/IllegalStateException" ["java/lang/RuntimeException", "java/lang/Exception"]).filter (fun w => !goodWord w), w ∈ sxW := by decide +kernel
theorem fit_n : ∀ n ∈ (["java/lang/RuntimeException", "java/lang/Exception"] : List String), Bundle.fit n = true := by decide +kernel
theorem g_bodyX {y : MethodName} {bytes : ByteArray} {maxL mc ms n : Nat} {ret : Option FieldType} {own : String} {As : List Value} {M' : Mem} {z : Option Value ⊕ Nat} {d : Nat} (hy : plainName y.cls = true) (hyo : y.cls = own)
    (body : ∀ p e s m args below meth c, Cx p s m args meth c bytes maxL ret own G kd ad → (∀ x ∈ c.exceptionTable.toList, False) → s.heap.size = n → At p l e (rmO d mc ms) s m args below meth c 0 0 (XQ G kd ad below args s M' z mc ms) G kd ad maxL 0 (lv_args 0 As) [] M) (hlen : (lg_sl As).length ≤ maxL) :
    vx_Met l y (Cond.code y bytes maxL ret :: WA) (rmO d mc ms) (Pg G kd ad n As M) (Qx G kd ad n M' z) (Xx G kd ad n M' z) mc ms (AS kd ad n) := by
  refine vx_ofW (cc := bytes) (maxL := maxL) (ret := ret) hy rfl ?_
  intro p e s m args below meth c s₁ B hml htb hv
  obtain ⟨rfl, hsz, hw, hap, hK, hsx⟩ := hv
  have hts := atoms_spec (ws := Cond.code y bytes maxL ret :: WA) B.pre
  have hown : s.vm.findClass own = some m.cls := hyo ▸ findClass_of_methodNamed B.named
  subst hsz
  have hl := lv_entry As (n := maxL) hlen
  rw [lg_entry_eq]
  generalize (lg_sl As ++ List.replicate (maxL - (lg_sl As).length) Slot.unset).toArray = ls at hl ⊢
  exact body p e s m _ below meth c ⟨B.exec, B.bytes, hml, B.returns, hown, fun w h => hts w (List.mem_cons_of_mem _ h), B.notSynchronized, hK, hap, hsx⟩ htb rfl _ _ ls ⟨hw, va_S.rf⟩ hl
end GX
