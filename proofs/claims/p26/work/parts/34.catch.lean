/-! methods with a table of handlers -/
def Nc (s : State) : Prop := va_Nc "java/lang/IllegalArgumentException" "java/lang/IndexOutOfBoundsException" s ∧ va_Nc "java/lang/IllegalStateException" "java/lang/IndexOutOfBoundsException" s ∧ va_Nc "java/lang/IllegalStateException" "java/lang/IllegalArgumentException" s
theorem Nc.moved {u U : State} (hvm : u.vm.Alike U.vm) (h : Nc u) : Nc U := ⟨va_Nc.moved hvm h.1, va_Nc.moved hvm h.2.1, va_Nc.moved hvm h.2.2⟩
def Pn (G : GT) (kd : Nat → Nat × Nat) (ad : Nat → Nat) (sz : Nat) (av : List Value) (M : Mem) : Array Value → State → Prop := fun a U => Pg G kd ad sz av M a U ∧ Nc U
theorem pn_blind {G : GT} {kd : Nat → Nat × Nat} {ad : Nat → Nat} {sz : Nat} {av : List Value} {M : Mem} : FrameBlind (Pn G kd ad sz av M) := by
  intro a U g mk ⟨h1, h2⟩
  exact ⟨pg_blind a U g mk h1, Nc.moved (u := U) (U := U.calling g mk a) (Vm.Alike.refl U.vm) h2⟩
def calt {ρ β : Type} (x : Option (Mem × (ρ ⊕ Nat))) (k : Mem → ρ → Option β) (h : Mem → Nat → Option β) : Option β := match x with
  | none => none
  | some (M, .inl r) => k M r
  | some (M, .inr e) => h M e
theorem calt_s {ρ β : Type} {x : Option (Mem × (ρ ⊕ Nat))} {k : Mem → ρ → Option β} {h : Mem → Nat → Option β} {y : β} (hf : calt x k h = some y) : (∃ M r, x = some (M, .inl r) ∧ k M r = some y) ∨ ∃ M e, x = some (M, .inr e) ∧ h M e = some y := by
  match x, hf with
  | some (M, .inl r), hf => exact Or.inl ⟨M, r, rfl, hf⟩
  | some (M, .inr e), hf => exact Or.inr ⟨M, e, rfl, hf⟩
section GC
variable {p : Program} {l : Launch} {e : Env} {R : Room} {s : State} {m : MethodId} {args : Array Value} {below : List Frame} {meth : Method} {c : Code} {H : Heap} {locs : List Loc} {cells slots : Nat} {Q : State → Prop}
variable {cc : ByteArray} {pc : Nat} {ls : Array Slot} {rest : List Value} {G : GT} {kd : Nat → Nat × Nat} {ad : Nat → Nat} {M : Mem} {H0 : Heap}
theorem x_callC {st0 : List Value} {a : Array Value} {mc ms : Nat} {M' : Mem} {e9 : Nat} {own E : String} {hh : List (Nat × Nat × Nat × Nat)} (hr : vx_Run p l e R s m args below meth c H locs cells slots mc ms (F0 m pc ls st0) rest (Qx G kd ad H.size M' (.inr e9) a) (Xx G kd ad H.size M' (.inr e9)) (AS kd ad H.size)) (hI : Inv G kd ad s.heap M H locs)
    (hown : s.vm.findClass own = some m.cls) (hts : ∀ w ∈ WA, w.before args s = true) (hsx : Sx G (AS kd ad s.heap.size) s s.heap) (hE : exN e9 = E) (htb : c.exceptionTable.toList = tableOf hh) (pre : List ExceptionTableEntry) (x : ExceptionTableEntry) (suf : List ExceptionTableEntry) (hsplit : tableOf hh = pre ++ x :: suf)
    (hpass : ∀ z ∈ pre, z.catchType ≠ 0 ∧ ∃ nm : String, Cond.classLink own z.catchType nm ∈ WA ∧ va_Nc E nm s) (hx : covers x pc = true) (h0 : x.catchType ≠ 0) (hlink : Cond.classLink own x.catchType E ∈ WA) (hcast : Cond.castable E E ∈ sxW) {hp : Nat} (hhp : x.handlerPc = hp)
    (kk : ∀ (q : Nat) (H1 : Heap) (locs1 : List Loc), Inv G kd ad s.heap M' H1 locs1 → W p l e R s m args below meth c H1 locs1 (cells + mc) (slots + ms) Q (F0 m hp ls [.ref q])) : W p l e R s m args below meth c H locs cells slots Q (F0 m pc ls st0) := by
  subst hE; subst hhp
  intro T hT X
  rcases hr T hT X with ⟨v', st₀, t, T', L, h0, X', hL, e1, e2, ⟨v2, hz, -⟩, st⟩ | ⟨q, st₀, t, T', L, E, ce, h0', X', hL, e1, e2, ⟨e3, hz, hE, hw, hF⟩, hce, hcv, hcl, st⟩
  · cases hz
  · cases hz
    subst hE
    obtain ⟨k1, k2, k3⟩ := vx_keep h0' e1 hI.2 (fun q hq h => AS.old hq h) (fun q h => AS.mono hI.2.1 h) hL hF
    obtain ⟨t2, a1, b1⟩ := vx_catch (H := T'.heap) (rest := rest) (pc := pc) (ls := ls) hown pre x suf (htb.trans hsplit) (fun z hz => Or.inr (by obtain ⟨q1, nm, q2, q3⟩ := hpass z hz; exact ⟨q1, nm, hts _ q2, q3⟩)) hx h0 (hts _ hlink) (va_any (sxW_on _ hcast) (hsx.2.2.2.1.1 _ hcast)) (show T'.heap[q]? = some ce by rw [e1]; exact hce) hcv hcl (kk q T'.heap (locs ++ L) ⟨by rw [e1]; exact hw, k3⟩) T' rfl X'
    exact ⟨t2, st.trans a1, b1⟩
theorem g_bodyXH {y : MethodName} {bytes : ByteArray} {maxL mc ms n : Nat} {ret : Option FieldType} {own : String} {As : List Value} {M' : Mem} {z : Option Value ⊕ Nat} {d : Nat} {hh : List (Nat × Nat × Nat × Nat)} (hy : plainName y.cls = true) (hyo : y.cls = own)
    (body : ∀ p e s m args below meth c, Cx p s m args meth c bytes maxL ret own G kd ad → c.exceptionTable.toList = tableOf hh → Nc s → s.heap.size = n → At p l e (rmO d mc ms) s m args below meth c 0 0 (XQ G kd ad below args s M' z mc ms) G kd ad maxL 0 (lv_args 0 As) [] M) (hlen : (lg_sl As).length ≤ maxL) :
    vx_Met l y (Cond.codeWith y bytes maxL ret hh :: WA) (rmO d mc ms) (Pn G kd ad n As M) (Qx G kd ad n M' z) (Xx G kd ad n M' z) mc ms (AS kd ad n) := by
  refine vx_ofWH (cc := bytes) (maxL := maxL) (ret := ret) (hh := hh) hy rfl ?_
  intro p e s m args below meth c s₁ B hml hv
  obtain ⟨⟨rfl, hsz, hw, hap, hK, hsx⟩, hnc⟩ := hv
  have hts := atoms_spec (ws := Cond.codeWith y bytes maxL ret hh :: WA) B.pre
  have htb := vx_table (x := y) B (hts _ List.mem_cons_self)
  have hown : s.vm.findClass own = some m.cls := hyo ▸ findClass_of_methodNamed B.named
  subst hsz
  have hl := lv_entry As (n := maxL) hlen
  rw [lg_entry_eq]
  generalize (lg_sl As ++ List.replicate (maxL - (lg_sl As).length) Slot.unset).toArray = ls at hl ⊢
  exact body p e s m _ below meth c ⟨B.exec, B.bytes, hml, B.returns, hown, fun w h => hts w (List.mem_cons_of_mem _ h), B.notSynchronized, hK, hap, hsx⟩ htb hnc rfl _ _ ls ⟨hw, va_S.rf⟩ hl
/-- a static call of such a method -/
theorem g_runH {y : MethodName} {bytes : ByteArray} {maxL nL mc ms n index : Nat} {ret : Option FieldType} {rm : Room} {own : String} {As : List Value} {M' : Mem} {z : Option Value ⊕ Nat} {hh : List (Nat × Nat × Nat × Nat)} (hx : p.tables.exec = Jvm.exec) (hb : c.code = cc) (hml : c.maxLocals = nL) (hown : s.vm.findClass own = some m.cls) (hts : ∀ w ∈ WA, w.before args s = true) (hK : va_K G.1 vwCl (tyL G) s) (hap : Apt kd ad) (hsx : Sx G (AS kd ad s.heap.size) s s.heap) (hnc : Nc s) (hI : Inv G kd ad s.heap M H locs)
    (hM : vx_Met l y (Cond.codeWith y bytes maxL ret hh :: WA) rm (Pn G kd ad H.size As M) (Qx G kd ad H.size M' z) (Xx G kd ad H.size M' z) mc ms (AS kd ad H.size)) (hcs : Cond.static y ∈ WA ∧ Cond.initialized y.cls ∈ WA ∧ Cond.codeWith y bytes maxL ret hh ∈ WA ∧ (y.cls ≠ "java/lang/invoke/MethodHandle" ∧ y.cls ≠ "java/lang/invoke/VarHandle" ∧ (parseMethodDescriptor y.desc).map (fun d => d.parameters.length) = some n)) (hl : Cond.methodLink own index y ∈ WA) (hrc : rm.cells = mc) (hrs : rm.slots = ms) (hR : rm.frames + 1 ≤ R.frames ∧ 8 + (maxL + 11) + rm.locals ≤ R.locals)
    (hn : As.length = n) (hsize : ls.size = nL) {st : List Value} (hst : st = As.reverse ++ rest) (hW : (rest.map fun v => v.category).sum ≤ 8) (hdg : decode cc pc = .ok (.invokestatic index, 3)) (hf : cells + mc ≤ R.cells ∧ slots + ms ≤ R.slots) :
    vx_Run p l e R s m args below meth c H locs cells slots mc ms (F0 m pc ls st) rest (Qx G kd ad H.size M' z As.toArray) (Xx G kd ad H.size M' z) (AS kd ad H.size) := by
  subst hst
  obtain ⟨c1, c3, c4, c5⟩ := hcs
  have hG : GoodIn WA (va_wsS own index y (Cond.codeWith y bytes maxL ret hh :: WA)) := fun w h => by
    have : w ∈ WA := by
      rcases List.mem_append.mp h with h | h
      · simp only [List.mem_cons, List.not_mem_nil, or_false] at h
        rcases h with rfl | rfl | rfl
        · exact hl
        · exact c1
        · exact c3
      · exact (List.mem_cons.mp h).elim (fun q => by rw [q]; exact c4) id
    exact ⟨this, wa_good w this⟩
  exact vx_runSX (As := As) (rest := rest) ⟨hx, hb, hml, hown, hts⟩ hM (vx_cwSW n hts hG rfl hrc hrs c5 hR) ⟨pn_blind, fun U hU hW => ⟨pg_of hap hK hsx hI hU hW, hnc.moved hW.alike⟩⟩ rfl hn hsize rfl (lv_room hW) hdg hf
end GC
