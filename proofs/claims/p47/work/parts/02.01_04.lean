/-! part 01.exc -/
section
/-! ===== END ===== -/

/-! ===== BEGIN exceptions that leave a method, and their catching by the caller (launches without stack traces) ===== -/
section VXA
/-! The laws vx_back, vx_callV, vx_callS, vx_callSW, vx_throw0, vx_throwS follow proofs of the library, with one case more: JvmDerived/Free/Laws.lean (Back.of_free), Shelf42/LK1.lean (callV, callS), Shelf/KitTraced.lean (throwNew0V, throwNewS). -/
/-- where a method has thrown q: the class by its name, the cell, what was written, the world -/
def vx_T (XC : String → State → State → Prop) (st : State) (q : Addr) (t : State) (mc ms : Nat) (free : Addr → Prop) : Prop :=
  ∃ (E : String) (ce : Cell) (L : List Loc), XC E st t ∧ t.heap[q]? = some ce ∧ ce.vm = .none ∧ st.vm.findClass E = some ce.cls ∧ st.WarmedH t.vm ∧ st.sameButNew ({ t with vm := st.vm } : State) L mc ms ∧ ∀ z ∈ L, free z.base
def vx_Q (Qc : Array Value → State → Outcome → State → Prop) (XC : String → State → State → Prop) (mc ms : Nat) (free : Addr → Prop) : Array Value → State → Outcome → State → Prop := fun a st o t =>
  (Qc a st o t ∧ ∃ L, FrameEnd st o t L mc ms ∧ ∀ q ∈ L, free q.base) ∨ ∃ q, o = .threw q ∧ vx_T XC st q t mc ms free
/-- a callee that returns or throws -/
def vx_Met (l : Launch) (y : MethodName) (ws : List Cond) (rm : Room) (Pc : Array Value → State → Prop) (Qc : Array Value → State → Outcome → State → Prop) (XC : String → State → State → Prop) (mc ms : Nat) (free : Addr → Prop) : Prop :=
  MetFree l y (headSpec ws rm) Pc (fun _ _ _ _ _ => True) (vx_Q Qc XC mc ms free)
def vx_Post (XC : String → State → State → Prop) (mc ms : Nat) (free : Addr → Prop) : Pt → Array Value → Addr → Pt → Prop := fun A a q B =>
  ∃ (g : JFrame) (mk : MethodId) (t : State) (L : List Loc) (E : String) (ce : Cell), B.U.heap = t.heap ∧ B.U.vm = t.vm ∧ XC E (A.U.calling g mk a) t ∧ t.heap[q]? = some ce ∧ ce.vm = .none ∧ A.U.vm.findClass E = some ce.cls ∧ B.locs = A.locs ++ L ∧ (∀ z ∈ L, free z.base) ∧ B.cells = A.cells + mc ∧ B.slots = A.slots + ms
def vx_Back (l : Launch) (R : Room) (p : Program) (e : Env) (below : List Frame) (s : State) (sargs : Array Value) (y : MethodName) (len W9 : Nat)
    (Pre : Pt → Array Value → Prop) (Post : Pt → Array Value → Option Value → Pt → Prop) (PostX : Pt → Array Value → Addr → Pt → Prop) : Prop :=
  ∀ (m : MethodId) (meth : Method) (c : Code) (A : Pt) (g : JFrame) (ig : Instr) (mk : MethodId) (a : Array Value),
    Stand p l e R s m sargs below meth c A.U A.locs A.cells A.slots → g.method = m → g.locals.size = c.maxLocals → decode c.code g.pc = .ok (ig, len) →
    2 * g.monitorRoom + (g.stack.map fun v => v.category).sum ≤ W9 → A.U.methodNamed? y = some mk → Pre A a →
    (∃ (v : Option Value) (B : Pt), Stand p l e R s m sargs below meth c B.U B.locs B.cells B.slots ∧ Post A a v B ∧
      Steps p.tables e below (doInvoke e (A.U.setTop g) [] mk a).1 (B.U.setTop { g with pc := g.pc + len, stack := v.toList ++ g.stack })) ∨
    (∃ (q : Addr) (B : Pt), Stand p l e R s m sargs below meth c B.U B.locs B.cells B.slots ∧ PostX A a q B ∧
      Steps p.tables e below (doInvoke e (A.U.setTop g) [] mk a).1 ((B.U.setTop g).pushFrame (.throwing q)))
section Payer
variable {l : Launch} {R : Room} {p : Program} {e : Env} {below : List Frame} {s : State} {sargs : Array Value} {y : MethodName} {len W9 : Nat}
theorem vx_back {ws : List Cond} {rm : Room} {Pc : Array Value → State → Prop} {Qc : Array Value → State → Outcome → State → Prop} {XC : String → State → State → Prop} {mc ms : Nat} {free : Addr → Prop} {bytes : ByteArray} {maxL : Nat} {ret : Option FieldType}
    (hM : vx_Met l y ws rm Pc Qc XC mc ms free) (hblind : FrameBlind Pc) (hrc : rm.cells = mc) (hrs : rm.slots = ms)
    (hframes : rm.frames + 1 ≤ R.frames) (hlocals : W9 + (maxL + 11) + rm.locals ≤ R.locals)
    (hws : ∀ w ∈ ws, ∀ a' U, s.WarmedH U.vm → w.before a' U = true) (hcode : Cond.code y bytes maxL ret ∈ ws) (hinit : ∀ a' U, s.WarmedH U.vm → (Cond.initialized y.cls).before a' U = true) :
    vx_Back l R p e below s sargs y len W9 (PreOf R mc ms Pc) (PostOf Qc mc ms free) (vx_Post XC mc ms free) := by
  intro m meth c A g ig mk a X hg hsize hdg hW hn hp
  have h1 : (headSpec ws rm).pre.before a A.U = true := atoms_intro fun w hw => hws w hw _ _ X.warmed
  have h2 : (Cond.code y bytes maxL ret).before a A.U = true := hws _ hcode _ _ X.warmed
  have h3 : (Cond.initialized y.cls).before a A.U = true := hinit _ _ X.warmed
  have h4 : A.cells + (headSpec ws rm).room.cells ≤ R.cells := by rw [show (headSpec ws rm).room.cells = mc from hrc]; exact hp.1
  have h5 : A.slots + (headSpec ws rm).room.slots ≤ R.slots := by rw [show (headSpec ws rm).room.slots = ms from hrs]; exact hp.2.1
  have hPc : Pc a (A.U.calling g mk a) := hblind _ _ _ _ hp.2.2
  obtain ⟨U, Ls, c0, s0⟩ := A
  dsimp only [Pt.U, Pt.locs, Pt.cells, Pt.slots] at h1 h2 h3 h4 h5 X hn hPc ⊢
  obtain ⟨methY, cY, hmY, hcY, -, hlY, -, -, -, -⟩ := Cond.code_spec hn h2
  obtain ⟨kY, hkY, -⟩ := className_of_methodNamed hn
  have hinitY : kY.init = .initialized := Cond.initialized_spec (findClass_of_methodNamed hn) hkY h3
  have h : At U g.method c below := by rw [hg]; exact X.here
  have hlocals9 : W9 + (maxL + 11) + (headSpec ws rm).room.locals ≤ R.locals := hlocals
  have happ : (headSpec ws rm).appliesLoose y e.platform (U.calling g mk a) = true :=
    Spec.appliesLoose_calling (g := g) h hdg hn hkY hinitY
      (X.room_calling (g := g) (R' := (headSpec ws rm).room) hsize hmY hcY hframes (by rw [hlY]; omega) h4 h5) h1
  obtain ⟨mid, hmid⟩ := h.above
  have hfr : (U.setTop g).frames = (.java g :: mid) ++ below := by rw [State.frames_setTop' g h.top, hmid]; rfl
  obtain ⟨o, s₂, hsteps, -, hend, hq⟩ := Steps.callFree hM p X.admits X.cas X.clock (acts := []) hfr happ hPc trivial
  have hq' : vx_Q Qc XC mc ms free a (U.calling g mk a) o s₂ := hq
  rw [State.frames_setTop' g h.top] at hend
  obtain ⟨g₀, hg0⟩ := Option.isSome_iff_exists.mp h.top
  obtain ⟨r, hr⟩ := State.topJava?_eq_some.mp hg0
  have hr' : (({ U with heap := s₂.heap, slotsUsed := s₂.slotsUsed } : State).setVm s₂.vm).frames = .java g₀ :: r := hr
  rcases hq' with ⟨hqc, L, hfe, hL⟩ | ⟨q, rfl, E, ce, L, hx, hce, hcv, hcl, hW₂, hsm, hL⟩
  · obtain ⟨⟨v, rfl⟩, hW₂, e2, q2, q3, q4, q5, q6⟩ := id hfe
    have e3 : s₂ = ({ (U.calling g mk a).setFrames s₂.frames with heap := s₂.heap, slotsUsed := s₂.slotsUsed } : State).setVm s₂.vm := by
      have : s₂ = ({ s₂ with vm := (U.calling g mk a).vm } : State).setVm s₂.vm := rfl
      rw [e2] at this
      exact this
    obtain ⟨c₂, i₂, len₂, hc₂, hd₂, hf₂⟩ := hend
    have hW' : U.WarmedH s₂.vm := hW₂
    have hcc : c₂ = c := by
      have h1 : s₂.code? g.method = U.code? g.method := by
        rw [State.code?_eq, State.code?_eq, hW'.alike.method?]
      exact Option.some.inj (hc₂.symm.trans (h1.trans h.code))
    subst hcc
    have hlen : len₂ = len := by rw [hdg] at hd₂; cases hd₂; rfl
    subst hlen
    have hs₂ : s₂ = (({ U with heap := s₂.heap, slotsUsed := s₂.slotsUsed } : State).setVm s₂.vm).setTop { g with pc := g.pc + len₂, stack := v.toList ++ g.stack } := by
      refine e3.trans ?_
      rw [hf₂, State.calling_eq h.top, State.setFrames_setFrames, State.setTop_of_frames _ hr', hr]
      rfl
    have hsame : U.sameButNew ({ U with heap := s₂.heap, slotsUsed := s₂.slotsUsed } : State) L mc ms := by
      refine ⟨?_, q2, q3, q4, q5, q6⟩
      obtain ⟨t, ht, -⟩ := State.frames_cons hr
      show ({ U with heap := s₂.heap, slotsUsed := s₂.slotsUsed } : State) = { U.setFrames U.frames with heap := s₂.heap, slotsUsed := s₂.slotsUsed }
      rw [State.setFrames_self ht]
    subst hg
    refine Or.inl ⟨v, ⟨(({ U with heap := s₂.heap, slotsUsed := s₂.slotsUsed } : State).setVm s₂.vm), Ls ++ L, c0 + mc, s0 + ms⟩,
      ⟨X.admits, X.cas, X.clock, X.frames, X.room, X.hears, X.method, X.code, (X.here.setHeapUsed s₂.heap s₂.slotsUsed).setVm hW'.alike, X.tail, State.WarmedH.trans X.warmed hW', X.limits, X.bytes, X.same.trans (hsame.setVm s.vm)⟩,
      ⟨g, mk, s₂, L, rfl, rfl, hqc, rfl, hL, rfl, rfl⟩, ?_⟩
    show Steps p.tables e below _ ((({ U with heap := s₂.heap, slotsUsed := s₂.slotsUsed } : State).setVm s₂.vm).setTop { g with pc := g.pc + len₂, stack := v.toList ++ g.stack })
    rw [← hs₂]
    exact hsteps
  · obtain ⟨e2, q2, q3, q4, q5, q6⟩ := id hsm
    have e3 : s₂ = ({ (U.calling g mk a).setFrames s₂.frames with heap := s₂.heap, slotsUsed := s₂.slotsUsed } : State).setVm s₂.vm := by
      have : s₂ = ({ s₂ with vm := (U.calling g mk a).vm } : State).setVm s₂.vm := rfl
      rw [e2] at this
      exact this
    have hf₂ : s₂.frames = .throwing q :: .java g :: U.frames.tail := hend
    have hW' : U.WarmedH s₂.vm := hW₂
    have hs₂ : s₂ = ((({ U with heap := s₂.heap, slotsUsed := s₂.slotsUsed } : State).setVm s₂.vm).setTop g).pushFrame (.throwing q) := by
      refine e3.trans ?_
      rw [hf₂, State.calling_eq h.top, State.setFrames_setFrames, State.pushFrame, State.frames_setTop _ hr', State.setTop_of_frames _ hr', State.setFrames_setFrames, hr]
      rfl
    have hsame : U.sameButNew ({ U with heap := s₂.heap, slotsUsed := s₂.slotsUsed } : State) L mc ms := by
      refine ⟨?_, q2, q3, q4, q5, q6⟩
      obtain ⟨t, ht, -⟩ := State.frames_cons hr
      show ({ U with heap := s₂.heap, slotsUsed := s₂.slotsUsed } : State) = { U.setFrames U.frames with heap := s₂.heap, slotsUsed := s₂.slotsUsed }
      rw [State.setFrames_self ht]
    subst hg
    refine Or.inr ⟨q, ⟨(({ U with heap := s₂.heap, slotsUsed := s₂.slotsUsed } : State).setVm s₂.vm), Ls ++ L, c0 + mc, s0 + ms⟩,
      ⟨X.admits, X.cas, X.clock, X.frames, X.room, X.hears, X.method, X.code, (X.here.setHeapUsed s₂.heap s₂.slotsUsed).setVm hW'.alike, X.tail, State.WarmedH.trans X.warmed hW', X.limits, X.bytes, X.same.trans (hsame.setVm s.vm)⟩,
      ⟨g, mk, s₂, L, E, ce, rfl, rfl, hx, hce, hcv, hcl, rfl, hL, rfl, rfl⟩, ?_⟩
    show Steps p.tables e below _ (((({ U with heap := s₂.heap, slotsUsed := s₂.slotsUsed } : State).setVm s₂.vm).setTop g).pushFrame (.throwing q))
    rw [← hs₂]
    exact hsteps
end Payer
section Calls
variable {p : Program} {l : Launch} {e : Env} {R : Room} {s : State} {m : MethodId} {args : Array Value} {below : List Frame} {meth : Method} {c : Code} {T : State} {locs : List Loc} {cells slots : Nat}
theorem vx_callV (X : Stand p l e R s m args below meth c T locs cells slots) (hexec : p.tables.exec = Jvm.exec) {own C : String} {index : Nat} {y : MethodName} {bytes : ByteArray} {maxL : Nat} {ret : Option FieldType}
    (hown : s.vm.findClass own = some m.cls) (hlink : (Cond.methodLink own index y).before args s = true) (hinst : (Cond.instanceMethod y).before args s = true) (hsel : (Cond.selects C y y).before args s = true)
    (hcode : (Cond.code y bytes maxL ret).before args s = true) (hy : y.cls ≠ "java/lang/invoke/MethodHandle" ∧ y.cls ≠ "java/lang/invoke/VarHandle")
    {W9 : Nat} {Pre : Pt → Array Value → Prop} {Post : Pt → Array Value → Option Value → Pt → Prop} {PostX : Pt → Array Value → Addr → Pt → Prop} (hK : vx_Back l R p e below s args y 3 W9 Pre Post PostX)
    {b : Addr} {cellB : Cell} (hcell : T.heap[b]? = some cellB) (hobj : cellB.vm.isStatics = false) (hcls : s.vm.findClass C = some cellB.cls)
    {g : JFrame} (hg : g.method = m) (hsize : g.locals.size = c.maxLocals) {argsL rest : List Value} (hlen : ∀ sig, parseMethodDescriptor y.desc = some sig → argsL.length = sig.parameters.length)
    (hstack : g.stack = argsL.reverse ++ .ref b :: rest) (hW : 2 * g.monitorRoom + (rest.map fun v => v.category).sum ≤ W9) (hdg : decode c.code g.pc = .ok (.invokevirtual index, 3))
    (hpre : ∀ vm₁, s.WarmedH vm₁ → Pre ⟨T.setVm vm₁, locs, cells, slots⟩ (Value.ref b :: argsL).toArray) :
    (∃ (v : Option Value) (vm₁ : Vm) (B : Pt), s.WarmedH vm₁ ∧ Stand p l e R s m args below meth c B.U B.locs B.cells B.slots ∧ Post ⟨T.setVm vm₁, locs, cells, slots⟩ (Value.ref b :: argsL).toArray v B ∧
      ∀ target, Steps p.tables e below (B.U.setTop { g with pc := g.pc + 3, stack := v.toList ++ rest }) target → Steps p.tables e below (T.setTop g) target) ∨
    (∃ (q : Addr) (vm₁ : Vm) (B : Pt), s.WarmedH vm₁ ∧ Stand p l e R s m args below meth c B.U B.locs B.cells B.slots ∧ PostX ⟨T.setVm vm₁, locs, cells, slots⟩ (Value.ref b :: argsL).toArray q B ∧
      Steps p.tables e below (T.setTop g) ((B.U.setTop { g with stack := rest }).pushFrame (.throwing q))) := by
  obtain ⟨mk, methM, hnamed, hmethM, hstM, habM⟩ := Cond.instanceMethod_spec hinst
  obtain ⟨methM', cM, hmethM', -, -, -, -, -, -, hsigM⟩ := Cond.code_spec hnamed hcode
  cases hmethM.symm.trans hmethM'
  obtain ⟨c2, r2, m2, q1, q2, q3, q4, kP, hkP, hkPi⟩ := Cond.selects_spec hsel
  cases hcls.symm.trans q1
  cases (State.methodFound?_of_named hnamed hy).symm.trans q2
  cases hnamed.symm.trans q3
  have hselP : selectMethod e.platform s.vm cellB.cls mk = .method mk := by rw [Launch.admits_selectMethod X.admits]; exact q4
  obtain ⟨vm₁, X₁, hstep₁⟩ := X.invokevirtual hexec hown hlink hnamed hmethM hstM hkP hkPi hy (a := b) (cell := cellB) hcell
    (fun z h => by rw [h] at hobj; cases hobj) hselP hmethM habM hkP hkPi (g := g) hg (argsL := argsL) (rest := rest) (hlen _ hsigM) hstack hdg
  rcases hK m meth c ⟨T.setVm vm₁, locs, cells, slots⟩ { g with stack := rest } (.invokevirtual index) mk (Value.ref b :: argsL).toArray X₁ hg hsize hdg hW (X₁.named hnamed) (hpre vm₁ X₁.warmed) with ⟨v, B, X', hpost, hsteps⟩ | ⟨q, B, X', hpost, hsteps⟩
  · exact Or.inl ⟨v, vm₁, B, X₁.warmed, X', hpost, fun target h => hstep₁ _ fun acts => by rw [doInvoke_state]; exact hsteps.trans h⟩
  · exact Or.inr ⟨q, vm₁, B, X₁.warmed, X', hpost, hstep₁ _ fun acts => by rw [doInvoke_state]; exact hsteps⟩
theorem vx_callS (X : Stand p l e R s m args below meth c T locs cells slots) (hexec : p.tables.exec = Jvm.exec) {own : String} {index : Nat} {y : MethodName} {bytes : ByteArray} {maxL : Nat} {ret : Option FieldType}
    (hown : s.vm.findClass own = some m.cls) (hlink : (Cond.methodLink own index y).before args s = true) (hstat : (Cond.static y).before args s = true) (hinit : (Cond.initialized y.cls).before args s = true)
    (hcode : (Cond.code y bytes maxL ret).before args s = true) (hy : y.cls ≠ "java/lang/invoke/MethodHandle" ∧ y.cls ≠ "java/lang/invoke/VarHandle")
    {W9 : Nat} {Pre : Pt → Array Value → Prop} {Post : Pt → Array Value → Option Value → Pt → Prop} {PostX : Pt → Array Value → Addr → Pt → Prop} (hK : vx_Back l R p e below s args y 3 W9 Pre Post PostX)
    {g : JFrame} (hg : g.method = m) (hsize : g.locals.size = c.maxLocals) {argsL rest : List Value} (hlen : ∀ sig, parseMethodDescriptor y.desc = some sig → argsL.length = sig.parameters.length)
    (hstack : g.stack = argsL.reverse ++ rest) (hW : 2 * g.monitorRoom + (rest.map fun v => v.category).sum ≤ W9) (hdg : decode c.code g.pc = .ok (.invokestatic index, 3))
    (hpre : ∀ vm₁, s.WarmedH vm₁ → Pre ⟨T.setVm vm₁, locs, cells, slots⟩ argsL.toArray) :
    (∃ (v : Option Value) (vm₁ : Vm) (B : Pt), s.WarmedH vm₁ ∧ Stand p l e R s m args below meth c B.U B.locs B.cells B.slots ∧ Post ⟨T.setVm vm₁, locs, cells, slots⟩ argsL.toArray v B ∧
      ∀ target, Steps p.tables e below (B.U.setTop { g with pc := g.pc + 3, stack := v.toList ++ rest }) target → Steps p.tables e below (T.setTop g) target) ∨
    (∃ (q : Addr) (vm₁ : Vm) (B : Pt), s.WarmedH vm₁ ∧ Stand p l e R s m args below meth c B.U B.locs B.cells B.slots ∧ PostX ⟨T.setVm vm₁, locs, cells, slots⟩ argsL.toArray q B ∧
      Steps p.tables e below (T.setTop g) ((B.U.setTop { g with stack := rest }).pushFrame (.throwing q))) := by
  obtain ⟨mk, hnamed⟩ := Cond.code_named hcode
  obtain ⟨methM, cM, hmethM, -, -, -, -, -, -, hsigM⟩ := Cond.code_spec hnamed hcode
  have hstatic : methM.isStatic = true := Cond.static_spec hnamed hmethM hstat
  obtain ⟨kP, hkP, -⟩ := className_of_methodNamed hnamed
  have hinitP : kP.init = .initialized := Cond.initialized_spec (findClass_of_methodNamed hnamed) hkP hinit
  obtain ⟨vm₁, X₁, hstep₁⟩ := X.invokestatic hexec hown hlink hnamed hmethM hstatic hkP hinitP hy (g := g) hg (argsL := argsL) (rest := rest) (hlen _ hsigM) hstack hdg
  rcases hK m meth c ⟨T.setVm vm₁, locs, cells, slots⟩ { g with stack := rest } (.invokestatic index) mk argsL.toArray X₁ hg hsize hdg hW (X₁.named hnamed) (hpre vm₁ X₁.warmed) with ⟨v, B, X', hpost, hsteps⟩ | ⟨q, B, X', hpost, hsteps⟩
  · exact Or.inl ⟨v, vm₁, B, X₁.warmed, X', hpost, fun target h => hstep₁ _ fun acts => by rw [doInvoke_state]; exact hsteps.trans h⟩
  · exact Or.inr ⟨q, vm₁, B, X₁.warmed, X', hpost, hstep₁ _ fun acts => by rw [doInvoke_state]; exact hsteps⟩
end Calls
theorem vx_cls {s : State} {T : State} {vm₁ : Vm} {E : String} {k : ClassId} (hW : s.WarmedH vm₁) (h : (T.setVm vm₁).vm.findClass E = some k) : s.vm.findClass E = some k := by
  have h1 : vm₁.findClass E = some k := h
  rw [hW.alike.findClass] at h1
  exact h1
/-- the method's frame g, with q thrown over it -/
def vx_W (p : Program) (l : Launch) (e : Env) (R : Room) (s : State) (m : MethodId) (args : Array Value) (below : List Frame) (meth : Method) (c : Code) (H : Heap) (locs : List Loc) (cells slots : Nat) (Q : State → Prop) (g : JFrame) (q : Addr) : Prop :=
  ∀ T : State, T.heap = H → Stand p l e R s m args below meth c T locs cells slots → ∃ t, Steps p.tables e below ((T.setTop g).pushFrame (.throwing q)) t ∧ Q t
def vx_Run (p : Program) (l : Launch) (e : Env) (R : Room) (s : State) (m : MethodId) (args : Array Value) (below : List Frame) (meth : Method) (c : Code) (H : Heap) (locs : List Loc) (cells slots mc ms : Nat) (g : JFrame) (rest : List Value) (Qa : State → Outcome → State → Prop) (XC : String → State → State → Prop) (free : Addr → Prop) : Prop :=
  ∀ T : State, T.heap = H → Stand p l e R s m args below meth c T locs cells slots →
    (∃ (v : Option Value) (st₀ t T' : State) (L : List Loc), st₀.heap = H ∧ Stand p l e R s m args below meth c T' (locs ++ L) (cells + mc) (slots + ms) ∧ (∀ q ∈ L, free q.base) ∧ T'.heap = t.heap ∧ T'.vm = t.vm ∧ Qa st₀ (.returned v) t ∧
      Goes p e below T g T' { g with pc := g.pc + 3, stack := v.toList ++ rest }) ∨
    (∃ (q : Addr) (st₀ t T' : State) (L : List Loc) (E : String) (ce : Cell), st₀.heap = H ∧ Stand p l e R s m args below meth c T' (locs ++ L) (cells + mc) (slots + ms) ∧ (∀ z ∈ L, free z.base) ∧ T'.heap = t.heap ∧ T'.vm = t.vm ∧ XC E st₀ t ∧ t.heap[q]? = some ce ∧ ce.vm = .none ∧ s.vm.findClass E = some ce.cls ∧
      Steps p.tables e below (T.setTop g) ((T'.setTop { g with stack := rest }).pushFrame (.throwing q)))
section Runs
variable {p : Program} {l : Launch} {e : Env} {R : Room} {s : State} {m : MethodId} {args : Array Value} {below : List Frame} {meth : Method} {c : Code} {H : Heap} {locs : List Loc} {cells slots : Nat}
variable {y : MethodName} {bytes cc : ByteArray} {maxL nL mc ms n index : Nat} {ret : Option FieldType} {ws : List Cond} {rm : Room} {Pc : Array Value → State → Prop} {Qc : Array Value → State → Outcome → State → Prop} {XC : String → State → State → Prop} {free : Addr → Prop} {Ts : List Cond} {own C : String} {b : Addr} {As rest : List Value} {g : JFrame}
theorem vx_callBack (cb : CallB R s args own index y bytes maxL ret ws rm mc ms n) (hM : vx_Met l y ws rm Pc Qc XC mc ms free) (hbl : FrameBlind Pc) : vx_Back l R p e below s args y 3 8 (PreOf R mc ms Pc) (PostOf Qc mc ms free) (vx_Post XC mc ms free) := by
  obtain ⟨hrc, hrs, hfr, hlo, hws, hcw, -, hini, -⟩ := cb
  exact vx_back (bytes := bytes) (maxL := maxL) (ret := ret) hM hbl hrc hrs hfr hlo hws hcw (fun a' U hW => word_at hW (Or.inl (by first | rfl | simp [Cond.onTables, Cond.keeps, Cond.steady])) hini)
theorem vx_runV (S : CallFix p m c cc nL s args Ts own) (hM : vx_Met l y ws rm Pc Qc XC mc ms free) (cw : CallW R s args own C index y bytes maxL ret ws rm mc ms n) (hp : PreV s H C b Pc As)
    (hg : g.method = m) (hn : As.length = n) (hsize : g.locals.size = nL) (hstack : g.stack = As.reverse ++ .ref b :: rest) (hW : 2 * g.monitorRoom + (rest.map fun v => v.category).sum ≤ 8) (hdg : decode cc g.pc = .ok (.invokevirtual index, 3)) (hf : cells + mc ≤ R.cells ∧ slots + ms ≤ R.slots) :
    vx_Run p l e R s m args below meth c H locs cells slots mc ms g rest (Qc (Value.ref b :: As).toArray) XC free := by
  have hK : vx_Back l R p e below s args y 3 8 (PreOf R mc ms Pc) (PostOf Qc mc ms free) (vx_Post XC mc ms free) := vx_callBack cw.1 hM hp.1
  obtain ⟨⟨-, -, -, -, -, -, hcode, -, hy, hlen, hl⟩, hin, hse⟩ := cw
  obtain ⟨hx, hb, hml, ho, -⟩ := S
  obtain ⟨-, ⟨cellB, hcB, hoB, hclB⟩, hPc⟩ := hp
  intro T hT X
  rcases vx_callV X hx (C := C) (bytes := bytes) (maxL := maxL) (ret := ret) ho hl hin hse hcode hy hK (by rw [hT]; exact hcB) hoB hclB hg (hsize.trans hml.symm) (argsL := As) (rest := rest) (fun sig h => hn.trans (hlen sig h)) hstack hW (by rw [hb]; exact hdg)
    (fun vm₁ hW₁ => ⟨hf.1, hf.2, hPc (T.setVm vm₁) hT hW₁⟩) with ⟨v, vm₁, ⟨U', l2, c2, s2⟩, hW₁, X', ⟨g', mk, t, L, e1, e2, hq, h1, hL, h2, h3⟩, st⟩ | ⟨q, vm₁, ⟨U', l2, c2, s2⟩, hW₁, X', ⟨g', mk, t, L, E, ce, e1, e2, hq, hce, hcv, hcl, h1, hL, h2, h3⟩, st⟩
  · dsimp only [Pt.U, Pt.locs, Pt.cells, Pt.slots] at X' e1 e2 h1 h2 h3 st
    subst h1; subst h2; subst h3
    exact Or.inl ⟨v, (T.setVm vm₁).calling g' mk (Value.ref b :: As).toArray, t, U', L, hT, X', hL, e1, e2, hq, st⟩
  · dsimp only [Pt.U, Pt.locs, Pt.cells, Pt.slots] at X' e1 e2 h1 h2 h3 st hcl
    subst h1; subst h2; subst h3
    exact Or.inr ⟨q, (T.setVm vm₁).calling g' mk (Value.ref b :: As).toArray, t, U', L, E, ce, hT, X', hL, e1, e2, hq, hce, hcv, vx_cls hW₁ hcl, st⟩
theorem vx_runS (S : CallFix p m c cc nL s args Ts own) (hM : vx_Met l y ws rm Pc Qc XC mc ms free) (cw : CallB R s args own index y bytes maxL ret ws rm mc ms n ∧ (Cond.static y).before args s = true) (hp : PreS s H Pc As)
    (hg : g.method = m) (hn : As.length = n) (hsize : g.locals.size = nL) (hstack : g.stack = As.reverse ++ rest) (hW : 2 * g.monitorRoom + (rest.map fun v => v.category).sum ≤ 8) (hdg : decode cc g.pc = .ok (.invokestatic index, 3)) (hf : cells + mc ≤ R.cells ∧ slots + ms ≤ R.slots) :
    vx_Run p l e R s m args below meth c H locs cells slots mc ms g rest (Qc As.toArray) XC free := by
  have hK : vx_Back l R p e below s args y 3 8 (PreOf R mc ms Pc) (PostOf Qc mc ms free) (vx_Post XC mc ms free) := vx_callBack cw.1 hM hp.1
  obtain ⟨⟨-, -, -, -, -, -, hcode, hini, hy, hlen, hl⟩, hstt⟩ := cw
  obtain ⟨hx, hb, hml, ho, -⟩ := S
  intro T hT X
  rcases vx_callS X hx (bytes := bytes) (maxL := maxL) (ret := ret) ho hl hstt hini hcode hy hK hg (hsize.trans hml.symm) (argsL := As) (rest := rest) (fun sig h => hn.trans (hlen sig h)) hstack hW (by rw [hb]; exact hdg)
    (fun vm₁ hW₁ => ⟨hf.1, hf.2, hp.2 (T.setVm vm₁) hT hW₁⟩) with ⟨v, vm₁, ⟨U', l2, c2, s2⟩, hW₁, X', ⟨g', mk, t, L, e1, e2, hq, h1, hL, h2, h3⟩, st⟩ | ⟨q, vm₁, ⟨U', l2, c2, s2⟩, hW₁, X', ⟨g', mk, t, L, E, ce, e1, e2, hq, hce, hcv, hcl, h1, hL, h2, h3⟩, st⟩
  · dsimp only [Pt.U, Pt.locs, Pt.cells, Pt.slots] at X' e1 e2 h1 h2 h3 st
    subst h1; subst h2; subst h3
    exact Or.inl ⟨v, (T.setVm vm₁).calling g' mk As.toArray, t, U', L, hT, X', hL, e1, e2, hq, st⟩
  · dsimp only [Pt.U, Pt.locs, Pt.cells, Pt.slots] at X' e1 e2 h1 h2 h3 st hcl
    subst h1; subst h2; subst h3
    exact Or.inr ⟨q, (T.setVm vm₁).calling g' mk As.toArray, t, U', L, E, ce, hT, X', hL, e1, e2, hq, hce, hcv, vx_cls hW₁ hcl, st⟩
end Runs
section Rows
variable {p : Program} {l : Launch} {e : Env} {R : Room} {s : State} {m : MethodId} {args : Array Value} {below : List Frame} {meth : Method} {c : Code} {H : Heap} {locs : List Loc} {cells slots : Nat} {Q : State → Prop}
variable {mc ms : Nat} {free : Addr → Prop} {A0 A1 : Nat → Prop} {H0 : Heap} {a : Array Value} {pc : Nat} {ls : Array Slot} {st0 rest : List Value}
theorem vx_keep {st₀ t T' : State} {L : List Loc} (h0 : st₀.heap = H) (e1 : T'.heap = t.heap) (hS : va_S A0 H0 H locs) (hA : ∀ q, q < H.size → A1 q → A0 q) (hf : ∀ q, free q → A0 q) (hL : ∀ q ∈ L, free q.base) (hF : va_F A1 st₀ t) :
    H.size ≤ T'.heap.size ∧ (∀ q : Nat, q < H.size → ¬ A1 q → T'.heap[q]? = H[q]?) ∧ va_S A0 H0 T'.heap (locs ++ L) := by
  obtain ⟨hz, hk⟩ := hF
  rw [h0] at hz hk
  exact ⟨by rw [e1]; exact hz, fun q h1 h2 => by rw [e1]; exact hk q h1 h2,
    ⟨Nat.le_trans hS.1 (by rw [e1]; exact hz), fun q h1 h2 => by rw [e1, hk q (Nat.lt_of_lt_of_le h1 hS.1) (fun z => h2 (hA q (Nat.lt_of_lt_of_le h1 hS.1) z))]; exact hS.2.1 q h1 h2, fun q hq => by
      rcases List.mem_append.mp hq with h | h
      · exact hS.2.2 q h
      · exact hf _ (hL q h)⟩⟩
/-- caught by the row x of this method's table; the rows ahead don't take it -/
theorem vx_catch {own name : String} {E : String} {ce : Cell} {q : Addr} (hown : s.vm.findClass own = some m.cls) (pre : List ExceptionTableEntry) (x : ExceptionTableEntry) (suf : List ExceptionTableEntry) (hsplit : c.exceptionTable.toList = pre ++ x :: suf)
    (hpass : ∀ z ∈ pre, covers z pc = false ∨ (z.catchType ≠ 0 ∧ ∃ nm : String, (Cond.classLink own z.catchType nm).before args s = true ∧ va_Nc E nm s)) (hx : covers x pc = true) (h0 : x.catchType ≠ 0)
    (hlink : (Cond.classLink own x.catchType name).before args s = true) (hcast : (Cond.castable E name).before args s = true) (hcell : H[q]? = some ce) (hv : ce.vm = .none) (hcl : s.vm.findClass E = some ce.cls)
    (kk : W p l e R s m args below meth c H locs cells slots Q (F0 m x.handlerPc ls [.ref q])) : vx_W p l e R s m args below meth c H locs cells slots Q (F0 m pc ls rest) q := by
  intro T hT X
  have hpl : e.platform.magicAccessors = ({} : Platform).magicAccessors := by rw [X.admits.platform]
  obtain ⟨c3, c4, hc3, hc4, hasg⟩ := Cond.castable_spec hcast
  cases Option.some.inj (hc3.symm.trans hcl)
  obtain ⟨c5, hc5, hcl5⟩ := Cond.classLink_spec hown hlink e.platform hpl
  cases Option.some.inj (hc4.symm.trans hc5)
  obtain ⟨vm', X', st⟩ := X.thenCaughtThrough q (g := F0 m pc ls rest) rfl (Steps.refl _) (by rw [hT]; exact hcell) (by rw [hv]; rfl) (by obtain ⟨k9, h9, -⟩ := Vm.findClass_spec hcl; exact ⟨k9, h9⟩) pre x suf hsplit
    (fun z hz => by
      rcases hpass z hz with h | ⟨hz0, nm, hl1, hn1⟩
      · exact Or.inl h
      · obtain ⟨c6, hc6, hcl6⟩ := Cond.classLink_spec hown hl1 e.platform hpl
        obtain ⟨a8, b8, h1, h2, h3⟩ := hn1
        cases Option.some.inj (h1.symm.trans hcl)
        cases Option.some.inj (h2.symm.trans hc6)
        exact Or.inr ⟨hz0, _, hcl6, h3⟩) hx (Or.inr ⟨h0, c4, hcl5, hasg⟩)
  obtain ⟨t, a1, b1⟩ := kk (T.setVm vm') hT X'
  exact ⟨t, st.trans a1, b1⟩
end Rows
section Ends
variable {p : Program} {l : Launch} {e : Env} {R : Room} {s : State} {m : MethodId} {args : Array Value} {below : List Frame} {meth : Method} {c : Code} {H : Heap} {locs : List Loc} {cells slots : Nat} {Q : State → Prop}
variable {mc ms : Nat} {free : Addr → Prop} {A0 A1 : Nat → Prop} {H0 : Heap} {a : Array Value} {ls : Array Slot} {st0 rest : List Value}
variable {Qc : Array Value → State → Outcome → State → Prop} {XC : String → State → State → Prop}
/-- what a body that may throw owes at its end -/
def vx_MQ (below : List Frame) (Qc : Array Value → State → Outcome → State → Prop) (XC : String → State → State → Prop) (a : Array Value) (s : State) (mc ms : Nat) (free : Addr → Prop) : State → Prop := fun t =>
  ∃ o, t.status = .running ∧ Ended t below o ∧ vx_Q Qc XC mc ms free a s o t
theorem vx_out {pc : Nat} {E : String} {ce : Cell} {q : Addr} {mc ms : Nat} (hout : ∀ x ∈ c.exceptionTable.toList, covers x pc = false) (hlocks : meth.locks = false) (hcell : H[q]? = some ce) (hv : ce.vm = .none) (hcl : s.vm.findClass E = some ce.cls)
    (hx : ∀ t : State, t.heap = H → s.vm.Alike t.vm → XC E s t) (hf : ∀ z ∈ locs, free z.base) (hc : cells ≤ mc) (hs : slots ≤ ms) :
    vx_W p l e R s m args below meth c H locs cells slots (vx_MQ below Qc XC args s mc ms free) (F0 m pc ls rest) q := by
  intro T hT X
  obtain ⟨st1, hrun, hend, hW, hsm⟩ := X.leaveThrown q (g := F0 m pc ls rest) rfl rfl rfl hout hlocks
  have hcell9 : (T.setFrames (.throwing q :: below)).heap[q]? = some ce := by
    show T.heap[q]? = some ce
    rw [hT]; exact hcell
  exact ⟨_, st1, .threw q, hrun, hend, Or.inr ⟨q, rfl, E, ce, locs, hx _ hT hW.alike, hcell9, hv, hcl, hW, hsm.mono hc hs, hf⟩⟩
theorem vx_frame {U : State} {k n : Nat} (h : s.sameButNew ({ U with vm := s.vm } : State) locs k n) : s.heap.size ≤ U.heap.size ∧ ∀ q : Nat, q < s.heap.size → (∀ z ∈ locs, z.base ≠ q) → U.heap[q]? = s.heap[q]? := by
  obtain ⟨-, h2, -, -, -, h6⟩ := h
  refine ⟨h2, fun q hq hz => ?_⟩
  obtain ⟨c9, e1, e2, e3, e4⟩ := h6 q _ (Array.getElem?_eq_getElem hq)
  have hs : c9.slots = (s.heap[q]).slots := Array.ext_getElem? fun i => e4 i fun hm => hz _ hm rfl
  have h9 : c9 = s.heap[q] := by
    rw [hs] at e2
    exact e2
  have e5 : U.heap[q]? = some c9 := e1
  rw [e5, h9, Array.getElem?_eq_getElem hq]
/-- the words of a throw but the four that speak of the heap -/
def vx_no (w : Cond) : Bool := decide (w ≠ .isRef (.static Bundle.tN "UNASSIGNED_STACK" Bundle.steD)) && decide (w ≠ .isRef (.static Bundle.tN "SUPPRESSED_SENTINEL" Bundle.listD)) && decide (w ≠ .laysStatic Bundle.tN "UNASSIGNED_STACK" Bundle.steD) && decide (w ≠ .laysStatic Bundle.tN "SUPPRESSED_SENTINEL" Bundle.listD)
def vx_at0 (own : String) (ic : Nat) (X : String) (names : List String) : List Cond := (Bundle.ownAtoms0 own ic X names).filter vx_no
def vx_atS (own : String) (ic : Nat) (X : String) (names : List String) : List Cond := (Bundle.ownAtoms own ic X names).filter vx_no
/-- a word that the tables alone decide, or a good one -/
def vx_ot (w : Cond) : Bool := w.onTables || goodWord w
theorem vx_ot_at {args a' : Array Value} {s U : State} {w : Cond} (hW : s.WarmedH U.vm) (hvm : s.vm = U.vm) (hg : vx_ot w = true) (h : w.before args s = true) : w.before a' U = true := by
  simp only [vx_ot, Bool.or_eq_true] at hg
  rcases hg with hg | hg
  · exact va_tabs hg hvm h
  · exact word_at hW (good_of_word hg) h
/-- a list's words: the good ones out of the method's own list, the others by premises of their own -/
theorem vx_hat {args : Array Value} {s : State} {L B : List Cond} (h1 : ∀ w ∈ L.filter goodWord, w.before args s = true) (h2 : ∀ w ∈ L.filter (fun w => !goodWord w), w ∈ B) (h3 : ∀ w ∈ B, w.before args s = true) : ∀ w ∈ L, w.before args s = true := by
  intro w hw
  by_cases g : goodWord w = true
  · exact h1 w (List.mem_filter.mpr ⟨hw, g⟩)
  · refine h3 w (h2 w (List.mem_filter.mpr ⟨hw, ?_⟩))
    show (!goodWord w) = true
    cases hgw : goodWord w
    · rfl
    · exact absurd hgw g
theorem vx_own {args : Array Value} {s : State} {L : List Cond} (h1 : ∀ w ∈ L.filter vx_no, w.before args s = true)
    (hU : (Cond.isRef (.static Bundle.tN "UNASSIGNED_STACK" Bundle.steD)).before args s = true) (hN : (Cond.isRef (.static Bundle.tN "SUPPRESSED_SENTINEL" Bundle.listD)).before args s = true)
    (lU : (Cond.laysStatic Bundle.tN "UNASSIGNED_STACK" Bundle.steD).before args s = true) (lN : (Cond.laysStatic Bundle.tN "SUPPRESSED_SENTINEL" Bundle.listD).before args s = true) : ∀ w ∈ L, w.before args s = true := by
  intro w hw
  by_cases e1 : w = .isRef (.static Bundle.tN "UNASSIGNED_STACK" Bundle.steD)
  · rw [e1]; exact hU
  · by_cases e2 : w = .isRef (.static Bundle.tN "SUPPRESSED_SENTINEL" Bundle.listD)
    · rw [e2]; exact hN
    · by_cases e3 : w = .laysStatic Bundle.tN "UNASSIGNED_STACK" Bundle.steD
      · rw [e3]; exact lU
      · by_cases e4 : w = .laysStatic Bundle.tN "SUPPRESSED_SENTINEL" Bundle.listD
        · rw [e4]; exact lN
        · exact h1 w (List.mem_filter.mpr ⟨hw, by unfold vx_no; rw [decide_eq_true e1, decide_eq_true e2, decide_eq_true e3, decide_eq_true e4]; rfl⟩)
/-- where a static field lies, its class's statics cell in H -/
def vx_L (C n d : String) (A : Nat → Prop) (U : State) (H : Heap) : Prop := ∃ (c : ClassId) (k : Class) (i : Nat) (f : Field) (a : Nat) (cell : Cell), U.vm.findClass C = some c ∧ U.fieldFound? C n d = some (c, k, i, f) ∧ f.isStatic = true ∧ k.statics = some a ∧ H[a]? = some cell ∧ cell.vm.isStatics = true ∧ cell.cls = c ∧ f.slot < cell.slots.size ∧ k.staticTypes[f.slot]? = some f.type ∧ ¬ A a
theorem vx_L.moved {C n d : String} {A : Nat → Prop} {u U : State} {H : Heap} (hvm : u.vm.Alike U.vm) (h : vx_L C n d A u H) : vx_L C n d A U H := by
  obtain ⟨c, k, i, f, a, cell, h1, h2, h3, h4, h5, h6, h7, h8, h9, h10⟩ := h
  obtain ⟨k', hi', he⟩ := State.fieldFound?_setVm hvm h2
  exact ⟨c, k', i, f, a, cell, by rw [hvm.findClass]; exact h1, hi', h3, by rw [he]; exact h4, h5, h6, h7, h8, by rw [he]; exact h9, h10⟩
theorem vx_L.kept {C n d : String} {A : Nat → Prop} {U : State} {H H1 : Heap} (h : vx_L C n d A U H) (hq : ∀ a : Nat, a < H.size → ¬ A a → H1[a]? = H[a]?) : vx_L C n d A U H1 := by
  obtain ⟨c, k, i, f, a, cell, h1, h2, h3, h4, h5, h6, h7, h8, h9, h10⟩ := h
  exact ⟨c, k, i, f, a, cell, h1, h2, h3, h4, by rw [hq a (Array.getElem?_eq_some_iff.mp h5).1 h10]; exact h5, h6, h7, h8, h9, h10⟩
theorem vx_L.narrow {C n d : String} {A B : Nat → Prop} {U : State} {H : Heap} (h : vx_L C n d A U H) (hAB : ∀ q, B q → A q) : vx_L C n d B U H := by
  obtain ⟨c, k, i, f, a, cell, h1, h2, h3, h4, h5, h6, h7, h8, h9, h10⟩ := h
  exact ⟨c, k, i, f, a, cell, h1, h2, h3, h4, h5, h6, h7, h8, h9, fun z => h10 (hAB _ z)⟩
theorem vx_L.word {C n d : String} {A : Nat → Prop} {s : State} {args : Array Value} (h : vx_L C n d A s s.heap) : (Cond.laysStatic C n d).before args s = true := by
  obtain ⟨c, k, i, f, a, cell, h1, h2, h3, h4, h5, h6, h7, h8, h9, -⟩ := h
  show (Cond.laysStatic C n d).holds args s none s [] = true
  exact Cond.laysStatic_of h1 h2 h3 h4 h5 h6 h7 h8 h9
/-- .. and what it holds: null or some reference -/
def vx_Zq (C n d : String) (A : Nat → Prop) (U : State) (H : Heap) : Prop := va_Zq C n d A U H ∧ vx_L C n d A U H
theorem vx_Zq.moved {C n d : String} {A : Nat → Prop} {u U : State} {H : Heap} (hvm : u.vm.Alike U.vm) (h : vx_Zq C n d A u H) : vx_Zq C n d A U H := ⟨va_Zq.moved hvm h.1, vx_L.moved hvm h.2⟩
theorem vx_Zq.kept {C n d : String} {A : Nat → Prop} {U : State} {H H1 : Heap} (h : vx_Zq C n d A U H) (hq : ∀ a : Nat, a < H.size → ¬ A a → H1[a]? = H[a]?) : vx_Zq C n d A U H1 := ⟨va_Zq.kept h.1 hq, vx_L.kept h.2 hq⟩
theorem vx_Zq.narrow {C n d : String} {A B : Nat → Prop} {U : State} {H : Heap} (h : vx_Zq C n d A U H) (hAB : ∀ q, B q → A q) : vx_Zq C n d B U H := ⟨va_Zq.narrow h.1 hAB, vx_L.narrow h.2 hAB⟩
theorem vx_Zqof {args : Array Value} {s : State} {C n d : String} {A : Nat → Prop} (hl : (Cond.laysStatic C n d).before args s = true) (hini : (Cond.initialized C).before args s = true) (h : (Cond.isRef (.static C n d)).before args s = true) (hA : ∀ a : Nat, a < s.heap.size → ¬ A a) : vx_Zq C n d A s s.heap := by
  refine ⟨va_Zqof hl hini h hA, ?_⟩
  obtain ⟨c, k, i, f, a, cell, h1, h2, h3, h4, h5, h6, h7, h8, h9⟩ := Cond.laysStatic_spec hl
  exact ⟨c, k, i, f, a, cell, h1, h2, h3, h4, h5, h6, h7, h8, h9, hA a (Array.getElem?_eq_some_iff.mp h5).1⟩
theorem vx_isRef {C n d : String} {v : Value} {A : Nat → Prop} {s : State} {args : Array Value} (h : va_Z C n d v A s s.heap) (hv : v.isRef = true) : (Cond.isRef (.static C n d)).before args s = true := by
  obtain ⟨cf, kf, fi, f, a, cell, h1, h2, h3, h4, h5, h6, h7, -⟩ := h
  have he : (Term.static C n d).eval args s none [] s = some v := by
    simp [Term.eval, State.fieldNamed?, h1, h2, h4, h5, h6, h7]
  simp only [Cond.before, Cond.holds, Cond.value, he]
  cases v <;> simp_all [Value.isRef]
theorem vx_isRefq {C n d : String} {A : Nat → Prop} {s : State} {args : Array Value} (h : va_Zq C n d A s s.heap) : (Cond.isRef (.static C n d)).before args s = true := by
  rcases h with h | ⟨t, h⟩
  · exact vx_isRef h rfl
  · exact vx_isRef h rfl
/-- the same frame, seen from here: as if the method were called anew in this heap -/
theorem vx_rebase {T : State} (X : Stand p l e R s m args below meth c T locs cells slots) {R' : Room} (hf : R'.frames ≤ R.frames) (hl : R'.locals ≤ R.locals) (hc : cells + R'.cells ≤ R.cells) (hs : slots + R'.slots ≤ R.slots) :
    Stand p l e R' ((T.setVm s.vm).setFrames (.invoking m args :: below)) m args below meth c T [] 0 0 := by
  have htop : (T.setVm s.vm).topJava?.isSome := X.here.top
  have hF : ((T.setVm s.vm).setFrames (.invoking m args :: below)).frames = .invoking m args :: below := State.frames_setFrames _ (State.cur_lt_of_top htop)
  obtain ⟨g₀, hg0⟩ := Option.isSome_iff_exists.mp htop
  obtain ⟨r, hr⟩ := State.topJava?_eq_some.mp hg0
  have hl9 : e.platform.stackLimits (T.setVm s.vm).me = e.platform.stackLimits s.me := X.limits
  have hb9 : (T.setVm s.vm).me.stackBytes = s.me.stackBytes := X.bytes
  refine ⟨X.admits, X.cas, X.clock, hF, ?_, X.hears, X.method, X.code, X.here, X.tail, X.warmed, ?_, ?_, ?_⟩
  · have h := X.room
    have hU : ((T.setVm s.vm).setFrames (.invoking m args :: below)).localsInUse = s.localsInUse := by
      rw [State.localsInUse_invoking hF (meth := meth) (c := c) X.method X.code, State.localsInUse_invoking X.frames X.method X.code]
    simp only [State.hasRoom, Bool.and_eq_true, decide_eq_true_eq] at h ⊢
    obtain ⟨⟨⟨⟨h1, h2, h3, h4, h5, h6⟩, h7⟩, h8⟩, h9⟩ := h
    rw [X.frames, List.length_cons] at h2 h3
    have q1 := X.heapSize
    have q2 := X.used
    simp only [hF, hU, List.length_cons, State.stackLimits_setFrames, State.stackBytes_setFrames, hl9, hb9]
    refine ⟨⟨⟨⟨by omega, by omega, by omega, by omega, by omega, h6⟩, ?_⟩, ?_⟩, X.book⟩
    · show T.heap.size + R'.cells ≤ e.platform.maxCells
      omega
    · show T.slotsUsed + R'.slots ≤ e.platform.maxSlots
      omega
  · rw [State.stackLimits_setFrames]; rfl
  · rw [State.stackBytes_setFrames]; rfl
  · refine ⟨?_, Nat.le_refl _, Nat.le_refl _, ?_, ?_, fun a c9 h9 => ⟨c9, h9, rfl, rfl, fun _ _ => rfl⟩⟩
    · obtain ⟨t, ht, -⟩ := State.frames_cons hr
      show T.setVm s.vm = { ((T.setVm s.vm).setFrames (.invoking m args :: below)).setFrames (T.setVm s.vm).frames with heap := T.heap, slotsUsed := T.slotsUsed }
      rw [State.setFrames_setFrames, State.setFrames_self ht]
      rfl
    · show T.slotsUsed = T.slotsUsed + ((T.heap.toList.drop T.heap.size).map (·.slots.size)).sum
      rw [List.drop_eq_nil_of_le (Nat.le_of_eq Array.length_toList)]
      rfl
    · show ((T.heap.toList.drop T.heap.size).map (·.slots.size)).sum ≤ 0
      rw [List.drop_eq_nil_of_le (Nat.le_of_eq Array.length_toList)]
      exact Nat.le_refl _
/-- 'throw new E()': new; dup; invokespecial; athrow -/
theorem vx_throw0 {cc : ByteArray} {pc : Nat} (hexec : p.tables.exec = Jvm.exec) (hb : c.code = cc) (hl : l.stackTraces = false) {own cls : String} {names : List String} {ik ic mc ms : Nat} {A : Nat → Prop}
    (hown : s.vm.findClass own = some m.cls) (hcls : Bundle.fit cls = true) (hnames : ∀ n ∈ names, Bundle.fit n = true)
    (hk : (Cond.classLink own ik cls).before args s = true) (hini : (Cond.initialized cls).before args s = true) (hat : ∀ w ∈ vx_at0 own ic cls names, w.before args s = true)
    (hgood : ∀ w ∈ Cond.classLink own ik cls :: Cond.initialized cls :: vx_at0 own ic cls names, vx_ot w = true)
    (hU : vx_Zq Bundle.tN "UNASSIGNED_STACK" Bundle.steD A s s.heap) (hN : vx_Zq Bundle.tN "SUPPRESSED_SENTINEL" Bundle.listD A s s.heap) (hS : va_S A s.heap H locs) (hsize : ls.size = c.maxLocals)
    (d0 : decode cc pc = .ok (.new ik, 3)) (d3 : decode cc (pc + 3) = .ok (.dup, 1)) (d4 : decode cc (pc + 4) = .ok (.invokespecial ic, 3)) (d7 : decode cc (pc + 7) = .ok (.athrow, 1))
    (hout : ∀ x ∈ c.exceptionTable.toList, covers x (pc + 7) = false)
    (hRframes : names.length + 3 < R.frames) (hRlocals : (rest.map fun v => v.category).sum + (13 * (names.length + 1) + 42) ≤ R.locals) (hRcells : cells + 1 ≤ R.cells) (hRslots : slots + 6 ≤ R.slots) (hlocks : meth.locks = false)
    (hx : ∀ t : State, s.vm.Alike t.vm → H.size ≤ t.heap.size → (∀ q : Nat, q < H.size → t.heap[q]? = H[q]?) → XC cls s t)
    (hf : ∀ z ∈ locs, free z.base) (hc : cells + 1 ≤ mc) (hs : slots + 6 ≤ ms) :
    W p l e R s m args below meth c H locs cells slots (vx_MQ below Qc XC args s mc ms free) (F0 m pc ls rest) := by
  intro T hT X
  have htr : e.platform.stackTraces = false := (show e.platform.stackTraces = l.stackTraces by rw [X.admits.platform]).trans hl
  have Y := vx_rebase X (R' := { frames := R.frames, locals := R.locals, cells := 1, slots := 6 }) (Nat.le_refl _) (Nat.le_refl _) hRcells hRslots
  obtain ⟨s', hA⟩ : ∃ z, z = (T.setVm s.vm).setFrames (.invoking m args :: below) := ⟨_, rfl⟩
  rw [← hA] at Y
  have hvm : s'.vm = s.vm := by rw [hA]; rfl
  have hhp : s'.heap = H := by rw [hA]; exact hT
  have hW0 : s.WarmedH s'.vm := by rw [hvm]; exact State.WarmedH.refl s
  have hat' : ∀ w ∈ vx_at0 own ic cls names, w.before args s' = true := fun w hw => vx_ot_at hW0 hvm.symm (hgood w (List.mem_cons_of_mem _ (List.mem_cons_of_mem _ hw))) (hat w hw)
  have hk' : (Cond.classLink own ik cls).before args s' = true := vx_ot_at hW0 hvm.symm (hgood _ List.mem_cons_self) hk
  have hini' : (Cond.initialized cls).before args s' = true := vx_ot_at hW0 hvm.symm (hgood _ (List.mem_cons_of_mem _ List.mem_cons_self)) hini
  have hU' : vx_Zq Bundle.tN "UNASSIGNED_STACK" Bundle.steD A s' s'.heap := by rw [hhp]; exact vx_Zq.moved hW0.alike (hU.kept hS.2.1)
  have hN' : vx_Zq Bundle.tN "SUPPRESSED_SENTINEL" Bundle.listD A s' s'.heap := by rw [hhp]; exact vx_Zq.moved hW0.alike (hN.kept hS.2.1)
  have h : ∀ w ∈ Bundle.ownAtoms0 own ic cls names, w.before args s' = true := vx_own hat' (vx_isRefq hU'.1) (vx_isRefq hN'.1) hU'.2.word hN'.2.word
  have hown' : s'.vm.findClass own = some m.cls := by rw [hvm]; exact hown
  have hins : (Cond.instantiable cls 6).before args s' = true := h _ (by simp [Bundle.ownAtoms0])
  obtain ⟨vm₁, cX, kX, hfX, hkX, -, -, X₁, st1⟩ := Y.newCold hexec (own := own) (C := cls) (index := ik) (n := 6) hown' hk' hins hini'
    (g := F0 m pc ls rest) rfl (by rw [hb]; exact d0) (Nat.le_refl _) (Nat.le_refl _)
  generalize hT1 : (T.setVm vm₁).pushCell { cls := cX, slots := kX.instanceTypes.map defaultValue, vm := .none } = T1 at X₁ st1
  have hcat : (Value.ref T.heap.size).category = 1 := rfl
  have hcellA : T1.heap[T.heap.size]? = some (freshCell cX kX) := by rw [← hT1]; exact State.heap_pushCell_size _ _
  have d3' : decode c.code (pc + 3) = .ok (.dup, 1) := by rw [hb]; exact d3
  obtain ⟨U, hsteps, hrun, hend, hW, hsame, ce, hce, hO⟩ := X₁.ctorThrow0 hexec htr (own := own) (cls := cls) (names := names) (ic := ic) hown' hcls hnames h (fun x hx => nomatch hx) hfX hkX hcellA (by rw [hhp, hT]; exact Nat.le_refl _)
    (g := { method := m, pc := pc + 4, locals := ls, stack := .ref T.heap.size :: .ref T.heap.size :: rest, locked := none }) rfl hsize rfl rfl (rest := rest) rfl
    (by rw [hb]; exact d4) (by rw [hb]; exact d7) hout hRframes (by simp only [List.map_cons, List.sum_cons, hcat]; omega) hlocks
  obtain ⟨f1, f2⟩ := vx_frame hsame
  rw [hhp] at f1 f2
  have hWs : s.WarmedH U.vm := State.WarmedH.trans hW0 hW
  have hcl : s.vm.findClass cls = some ce.cls := by
    have h9 := hO.cls
    rw [hvm] at h9
    exact h9
  have hall : s.sameButNew ({ U with vm := s.vm } : State) locs mc ms := by
    subst hA
    obtain ⟨e1, e2⟩ := hsame
    rw [State.setFrames_setFrames] at e1
    have h2 : (T.setVm s.vm).sameButNew ({ U with vm := s.vm } : State) [] (0 + 1) (0 + 6) := ⟨e1, e2⟩
    have h3 := X.same.trans h2
    rw [List.append_nil] at h3
    exact h3.mono hc hs
  refine ⟨U, ?_, .threw T.heap.size, hrun, hend, Or.inr ⟨T.heap.size, rfl, cls, ce, locs, hx U hWs.alike f1 (fun q hq => f2 q hq (fun z hz => nomatch hz)), hce, hO.vm, hcl, hWs, hall, hf⟩⟩
  refine st1 _ ?_
  show Steps p.tables e below (T1.setTop { method := m, pc := pc + 3, locals := ls, stack := .ref T.heap.size :: rest, locked := none }) _
  jvm_step X₁.here [X₁.here.top, hexec, d3', Value.category]
  exact hsteps
/-- 'throw new E("text")': new; dup; ldc; invokespecial; athrow -/
theorem vx_throwS {cc : ByteArray} {pc : Nat} (hexec : p.tables.exec = Jvm.exec) (hb : c.code = cc) (hl : l.stackTraces = false) {own cls text : String} {names : List String} {ik is ic mc ms sa : Nat} {A : Nat → Prop}
    (hown : s.vm.findClass own = some m.cls) (hcls : Bundle.fit cls = true) (hnames : ∀ n ∈ names, Bundle.fit n = true)
    (hk : (Cond.classLink own ik cls).before args s = true) (hini : (Cond.initialized cls).before args s = true) (hstr : vk_R own is text sa s) (hat : ∀ w ∈ vx_atS own ic cls names, w.before args s = true)
    (hgood : ∀ w ∈ Cond.classLink own ik cls :: Cond.initialized cls :: vx_atS own ic cls names, vx_ot w = true)
    (hU : vx_Zq Bundle.tN "UNASSIGNED_STACK" Bundle.steD A s s.heap) (hN : vx_Zq Bundle.tN "SUPPRESSED_SENTINEL" Bundle.listD A s s.heap) (hS : va_S A s.heap H locs) (hsize : ls.size = c.maxLocals)
    (d0 : decode cc pc = .ok (.new ik, 3)) (d3 : decode cc (pc + 3) = .ok (.dup, 1)) (d4 : decode cc (pc + 4) = .ok (.ldc is, 2)) (d6 : decode cc (pc + 6) = .ok (.invokespecial ic, 3)) (d9 : decode cc (pc + 9) = .ok (.athrow, 1))
    (hout : ∀ x ∈ c.exceptionTable.toList, covers x (pc + 9) = false)
    (hRframes : names.length + 3 < R.frames) (hRlocals : (rest.map fun v => v.category).sum + (13 * (names.length + 1) + 43) ≤ R.locals) (hRcells : cells + 1 ≤ R.cells) (hRslots : slots + 6 ≤ R.slots) (hlocks : meth.locks = false)
    (hx : ∀ t : State, s.vm.Alike t.vm → H.size ≤ t.heap.size → (∀ q : Nat, q < H.size → t.heap[q]? = H[q]?) → XC cls s t)
    (hf : ∀ z ∈ locs, free z.base) (hc : cells + 1 ≤ mc) (hs : slots + 6 ≤ ms) :
    W p l e R s m args below meth c H locs cells slots (vx_MQ below Qc XC args s mc ms free) (F0 m pc ls rest) := by
  intro T hT X
  have htr : e.platform.stackTraces = false := (show e.platform.stackTraces = l.stackTraces by rw [X.admits.platform]).trans hl
  have Y := vx_rebase X (R' := { frames := R.frames, locals := R.locals, cells := 1, slots := 6 }) (Nat.le_refl _) (Nat.le_refl _) hRcells hRslots
  obtain ⟨s', hA⟩ : ∃ z, z = (T.setVm s.vm).setFrames (.invoking m args :: below) := ⟨_, rfl⟩
  rw [← hA] at Y
  have hvm : s'.vm = s.vm := by rw [hA]; rfl
  have hhp : s'.heap = H := by rw [hA]; exact hT
  have hW0 : s.WarmedH s'.vm := by rw [hvm]; exact State.WarmedH.refl s
  have hat' : ∀ w ∈ vx_atS own ic cls names, w.before args s' = true := fun w hw => vx_ot_at hW0 hvm.symm (hgood w (List.mem_cons_of_mem _ (List.mem_cons_of_mem _ hw))) (hat w hw)
  have hk' : (Cond.classLink own ik cls).before args s' = true := vx_ot_at hW0 hvm.symm (hgood _ List.mem_cons_self) hk
  have hini' : (Cond.initialized cls).before args s' = true := vx_ot_at hW0 hvm.symm (hgood _ (List.mem_cons_of_mem _ List.mem_cons_self)) hini
  have hU' : vx_Zq Bundle.tN "UNASSIGNED_STACK" Bundle.steD A s' s'.heap := by rw [hhp]; exact vx_Zq.moved hW0.alike (hU.kept hS.2.1)
  have hN' : vx_Zq Bundle.tN "SUPPRESSED_SENTINEL" Bundle.listD A s' s'.heap := by rw [hhp]; exact vx_Zq.moved hW0.alike (hN.kept hS.2.1)
  have h : ∀ w ∈ Bundle.ownAtoms own ic cls names, w.before args s' = true := vx_own hat' (vx_isRefq hU'.1) (vx_isRefq hN'.1) hU'.2.word hN'.2.word
  have hown' : s'.vm.findClass own = some m.cls := by rw [hvm]; exact hown
  have hins : (Cond.instantiable cls 6).before args s' = true := h _ (by simp [Bundle.ownAtoms])
  obtain ⟨vm₁, cX, kX, hfX, hkX, -, -, X₁, st1⟩ := Y.newCold hexec (own := own) (C := cls) (index := ik) (n := 6) hown' hk' hins hini'
    (g := F0 m pc ls rest) rfl (by rw [hb]; exact d0) (Nat.le_refl _) (Nat.le_refl _)
  generalize hT1 : (T.setVm vm₁).pushCell { cls := cX, slots := kX.instanceTypes.map defaultValue, vm := .none } = T1 at X₁ st1
  have hcat : (Value.ref T.heap.size).category = 1 := rfl
  have hcellA : T1.heap[T.heap.size]? = some (freshCell cX kX) := by rw [← hT1]; exact State.heap_pushCell_size _ _
  have d3' : decode c.code (pc + 3) = .ok (.dup, 1) := by rw [hb]; exact d3
  have d4' : decode c.code (pc + 4) = .ok (.ldc is, 2) := by rw [hb]; exact d4
  have hstr' : vk_R own is text sa s' := vk_R.warm hW0 hstr
  obtain ⟨U, hsteps, hrun, hend, hW, hsame, ce, hce, hO⟩ := X₁.ctorThrowS hexec htr (own := own) (cls := cls) (names := names) (ic := ic) hown' hcls hnames h (fun x hx => nomatch hx) hfX hkX hcellA (by rw [hhp, hT]; exact Nat.le_refl _) (msg := .ref sa) rfl
    (g := { method := m, pc := pc + 6, locals := ls, stack := .ref sa :: .ref T.heap.size :: .ref T.heap.size :: rest, locked := none }) rfl hsize rfl rfl (rest := rest) rfl
    (by rw [hb]; exact d6) (by rw [hb]; exact d9) hout hRframes (by simp only [List.map_cons, List.sum_cons, hcat]; omega) hlocks
  obtain ⟨f1, f2⟩ := vx_frame hsame
  rw [hhp] at f1 f2
  have hWs : s.WarmedH U.vm := State.WarmedH.trans hW0 hW
  have hcl : s.vm.findClass cls = some ce.cls := by
    have h9 := hO.cls
    rw [hvm] at h9
    exact h9
  have hall : s.sameButNew ({ U with vm := s.vm } : State) locs mc ms := by
    subst hA
    obtain ⟨e1, e2⟩ := hsame
    rw [State.setFrames_setFrames] at e1
    have h2 : (T.setVm s.vm).sameButNew ({ U with vm := s.vm } : State) [] (0 + 1) (0 + 6) := ⟨e1, e2⟩
    have h3 := X.same.trans h2
    rw [List.append_nil] at h3
    exact h3.mono hc hs
  refine ⟨U, ?_, .threw T.heap.size, hrun, hend, Or.inr ⟨T.heap.size, rfl, cls, ce, locs, hx U hWs.alike f1 (fun q hq => f2 q hq (fun z hz => nomatch hz)), hce, hO.vm, hcl, hWs, hall, hf⟩⟩
  refine st1 _ ?_
  show Steps p.tables e below (T1.setTop { method := m, pc := pc + 3, locals := ls, stack := .ref T.heap.size :: rest, locked := none }) _
  jvm_step X₁.here [X₁.here.top, hexec, d3', Value.category]
  exact X₁.ldcString hexec (own := own) (text := text) (index := is) (a := sa) hown' hstr'.1 hstr'.2
    (g := { method := m, pc := pc + 4, locals := ls, stack := .ref T.heap.size :: .ref T.heap.size :: rest, locked := none }) rfl d4' _ hsteps
/-- 'throw new E("text")', the text by a wide index -/
theorem vx_throwSW {cc : ByteArray} {pc : Nat} (hexec : p.tables.exec = Jvm.exec) (hb : c.code = cc) (hl : l.stackTraces = false) {own cls text : String} {names : List String} {ik is ic mc ms sa : Nat} {A : Nat → Prop}
    (hown : s.vm.findClass own = some m.cls) (hcls : Bundle.fit cls = true) (hnames : ∀ n ∈ names, Bundle.fit n = true)
    (hk : (Cond.classLink own ik cls).before args s = true) (hini : (Cond.initialized cls).before args s = true) (hstr : vk_R own is text sa s) (hat : ∀ w ∈ vx_atS own ic cls names, w.before args s = true)
    (hgood : ∀ w ∈ Cond.classLink own ik cls :: Cond.initialized cls :: vx_atS own ic cls names, vx_ot w = true)
    (hU : vx_Zq Bundle.tN "UNASSIGNED_STACK" Bundle.steD A s s.heap) (hN : vx_Zq Bundle.tN "SUPPRESSED_SENTINEL" Bundle.listD A s s.heap) (hS : va_S A s.heap H locs) (hsize : ls.size = c.maxLocals)
    (d0 : decode cc pc = .ok (.new ik, 3)) (d3 : decode cc (pc + 3) = .ok (.dup, 1)) (d4 : decode cc (pc + 4) = .ok (.ldc_w is, 3)) (d7 : decode cc (pc + 7) = .ok (.invokespecial ic, 3)) (d10 : decode cc (pc + 10) = .ok (.athrow, 1))
    (hout : ∀ x ∈ c.exceptionTable.toList, covers x (pc + 10) = false)
    (hRframes : names.length + 3 < R.frames) (hRlocals : (rest.map fun v => v.category).sum + (13 * (names.length + 1) + 43) ≤ R.locals) (hRcells : cells + 1 ≤ R.cells) (hRslots : slots + 6 ≤ R.slots) (hlocks : meth.locks = false)
    (hx : ∀ t : State, s.vm.Alike t.vm → H.size ≤ t.heap.size → (∀ q : Nat, q < H.size → t.heap[q]? = H[q]?) → XC cls s t)
    (hf : ∀ z ∈ locs, free z.base) (hc : cells + 1 ≤ mc) (hs : slots + 6 ≤ ms) :
    W p l e R s m args below meth c H locs cells slots (vx_MQ below Qc XC args s mc ms free) (F0 m pc ls rest) := by
  intro T hT X
  have htr : e.platform.stackTraces = false := (show e.platform.stackTraces = l.stackTraces by rw [X.admits.platform]).trans hl
  have Y := vx_rebase X (R' := { frames := R.frames, locals := R.locals, cells := 1, slots := 6 }) (Nat.le_refl _) (Nat.le_refl _) hRcells hRslots
  obtain ⟨s', hA⟩ : ∃ z, z = (T.setVm s.vm).setFrames (.invoking m args :: below) := ⟨_, rfl⟩
  rw [← hA] at Y
  have hvm : s'.vm = s.vm := by rw [hA]; rfl
  have hhp : s'.heap = H := by rw [hA]; exact hT
  have hW0 : s.WarmedH s'.vm := by rw [hvm]; exact State.WarmedH.refl s
  have hat' : ∀ w ∈ vx_atS own ic cls names, w.before args s' = true := fun w hw => vx_ot_at hW0 hvm.symm (hgood w (List.mem_cons_of_mem _ (List.mem_cons_of_mem _ hw))) (hat w hw)
  have hk' : (Cond.classLink own ik cls).before args s' = true := vx_ot_at hW0 hvm.symm (hgood _ List.mem_cons_self) hk
  have hini' : (Cond.initialized cls).before args s' = true := vx_ot_at hW0 hvm.symm (hgood _ (List.mem_cons_of_mem _ List.mem_cons_self)) hini
  have hU' : vx_Zq Bundle.tN "UNASSIGNED_STACK" Bundle.steD A s' s'.heap := by rw [hhp]; exact vx_Zq.moved hW0.alike (hU.kept hS.2.1)
  have hN' : vx_Zq Bundle.tN "SUPPRESSED_SENTINEL" Bundle.listD A s' s'.heap := by rw [hhp]; exact vx_Zq.moved hW0.alike (hN.kept hS.2.1)
  have h : ∀ w ∈ Bundle.ownAtoms own ic cls names, w.before args s' = true := vx_own hat' (vx_isRefq hU'.1) (vx_isRefq hN'.1) hU'.2.word hN'.2.word
  have hown' : s'.vm.findClass own = some m.cls := by rw [hvm]; exact hown
  have hins : (Cond.instantiable cls 6).before args s' = true := h _ (by simp [Bundle.ownAtoms])
  obtain ⟨vm₁, cX, kX, hfX, hkX, -, -, X₁, st1⟩ := Y.newCold hexec (own := own) (C := cls) (index := ik) (n := 6) hown' hk' hins hini'
    (g := F0 m pc ls rest) rfl (by rw [hb]; exact d0) (Nat.le_refl _) (Nat.le_refl _)
  generalize hT1 : (T.setVm vm₁).pushCell { cls := cX, slots := kX.instanceTypes.map defaultValue, vm := .none } = T1 at X₁ st1
  have hcat : (Value.ref T.heap.size).category = 1 := rfl
  have hcellA : T1.heap[T.heap.size]? = some (freshCell cX kX) := by rw [← hT1]; exact State.heap_pushCell_size _ _
  have d3' : decode c.code (pc + 3) = .ok (.dup, 1) := by rw [hb]; exact d3
  have d4' : decode c.code (pc + 4) = .ok (.ldc_w is, 3) := by rw [hb]; exact d4
  have hstr' : vk_R own is text sa s' := vk_R.warm hW0 hstr
  obtain ⟨U, hsteps, hrun, hend, hW, hsame, ce, hce, hO⟩ := X₁.ctorThrowS hexec htr (own := own) (cls := cls) (names := names) (ic := ic) hown' hcls hnames h (fun x hx => nomatch hx) hfX hkX hcellA (by rw [hhp, hT]; exact Nat.le_refl _) (msg := .ref sa) rfl
    (g := { method := m, pc := pc + 7, locals := ls, stack := .ref sa :: .ref T.heap.size :: .ref T.heap.size :: rest, locked := none }) rfl hsize rfl rfl (rest := rest) rfl
    (by rw [hb]; exact d7) (by rw [hb]; exact d10) hout hRframes (by simp only [List.map_cons, List.sum_cons, hcat]; omega) hlocks
  obtain ⟨f1, f2⟩ := vx_frame hsame
  rw [hhp] at f1 f2
  have hWs : s.WarmedH U.vm := State.WarmedH.trans hW0 hW
  have hcl : s.vm.findClass cls = some ce.cls := by
    have h9 := hO.cls
    rw [hvm] at h9
    exact h9
  have hall : s.sameButNew ({ U with vm := s.vm } : State) locs mc ms := by
    subst hA
    obtain ⟨e1, e2⟩ := hsame
    rw [State.setFrames_setFrames] at e1
    have h2 : (T.setVm s.vm).sameButNew ({ U with vm := s.vm } : State) [] (0 + 1) (0 + 6) := ⟨e1, e2⟩
    have h3 := X.same.trans h2
    rw [List.append_nil] at h3
    exact h3.mono hc hs
  refine ⟨U, ?_, .threw T.heap.size, hrun, hend, Or.inr ⟨T.heap.size, rfl, cls, ce, locs, hx U hWs.alike f1 (fun q hq => f2 q hq (fun z hz => nomatch hz)), hce, hO.vm, hcl, hWs, hall, hf⟩⟩
  refine st1 _ ?_
  show Steps p.tables e below (T1.setTop { method := m, pc := pc + 3, locals := ls, stack := .ref T.heap.size :: rest, locked := none }) _
  jvm_step X₁.here [X₁.here.top, hexec, d3', Value.category]
  exact X₁.ldcStringW hexec (own := own) (text := text) (index := is) (a := sa) hown' hstr'.1 hstr'.2
    (g := { method := m, pc := pc + 4, locals := ls, stack := .ref T.heap.size :: .ref T.heap.size :: rest, locked := none }) rfl d4' _ hsteps
end Ends
section Bodies
variable {l : Launch}
theorem vx_ofW {y : MethodName} {ws ws' : List Cond} {rm : Room} {Pc : Array Value → State → Prop} {Qc : Array Value → State → Outcome → State → Prop} {XC : String → State → State → Prop} {mc ms : Nat} {free : Addr → Prop} {cc : ByteArray} {maxL : Nat} {ret : Option FieldType}
    (hy : plainName y.cls = true) (hw : ws = Cond.code y cc maxL ret :: ws')
    (body : ∀ p e s m args below meth c s₁, BodyLoose p l y (headSpec ws rm) cc maxL ret e s m args below meth c s₁ → c.maxLocals = maxL → (∀ x ∈ c.exceptionTable.toList, False) → Pc args s →
      W p l e (headSpec ws rm).room s m args below meth c s.heap [] 0 0 (vx_MQ below Qc XC args s mc ms free) (entryFrame m args maxL)) : vx_Met l y ws rm Pc Qc XC mc ms free := by
  refine MetFree.of_bodyS (code := cc) (maxLocals := maxL) (ret := ret) hy ?_ ?_
  · intro args s m h hn
    obtain ⟨meth, c, h1, h2, h3, h4, h5, h6, -, -⟩ := Cond.code_spec hn (atoms_spec (ws := ws) h _ (by rw [hw]; exact List.mem_cons_self))
    exact ⟨meth, c, h1, h2, h3, h4, h5, h6⟩
  · intro p e s m args below meth c s₁ B hml hP _
    have hh0 : s₁.heap = s.heap := by rw [B.state]; rfl
    have ht : ∀ x ∈ c.exceptionTable.toList, False := by
      obtain ⟨meth9, c9, h1, h2, -, -, -, -, h7, -⟩ := Cond.code_spec B.named (atoms_spec (ws := ws) B.pre _ (by rw [hw]; exact List.mem_cons_self))
      cases Option.some.inj (h1.symm.trans B.method)
      cases Option.some.inj (h2.symm.trans (Stand.of_body B).code)
      intro x hx
      rw [Array.isEmpty_iff.mp h7] at hx
      cases hx
    obtain ⟨t, a1, o, b1, b2, b3⟩ := body p e s m args below meth c s₁ B hml ht hP s₁ hh0 (Stand.of_body B)
    exact ⟨t, o, a1, b1, b2, b3⟩
/-- the table of a body with handlers -/
theorem vx_table {p : Program} {x y : MethodName} {S : Spec} {cc bytes : ByteArray} {maxL maxL' : Nat} {ret ret' : Option FieldType} {e : Env} {s s₁ : State} {m : MethodId} {args : Array Value} {below : List Frame} {meth : Method} {c : Code} {hh : List (Nat × Nat × Nat × Nat)}
    (B : BodyLoose p l y S cc maxL ret e s m args below meth c s₁) (h : (Cond.codeWith y bytes maxL' ret' hh).before args s = true) : c.exceptionTable.toList = tableOf hh := by
  obtain ⟨m9, meth9, c9, hn9, h1, h2, -, -, h6, -⟩ := Cond.codeWith_spec h
  cases Option.some.inj (hn9.symm.trans B.named)
  cases Option.some.inj (h1.symm.trans B.method)
  cases Option.some.inj (h2.symm.trans (Stand.of_body B).code)
  rw [← h6, table_eq]
end Bodies
end VXA
/-! ===== END ===== -/
/-! ===== BEGIN a static call of a method with an exception table ===== -/
section VXS
variable {p : Program} {l : Launch} {e : Env} {R : Room} {s : State} {m : MethodId} {args : Array Value} {below : List Frame} {meth : Method} {c : Code} {T : State} {H : Heap} {locs : List Loc} {cells slots : Nat}
abbrev vx_CSW (R : Room) (s : State) (args : Array Value) (own : String) (index : Nat) (y : MethodName) (bytes : ByteArray) (maxL : Nat) (ret : Option FieldType) (hh : List (Nat × Nat × Nat × Nat)) (ws : List Cond) (rm : Room) (mc ms n : Nat) : Prop :=
  (rm.cells = mc ∧ rm.slots = ms ∧ rm.frames + 1 ≤ R.frames ∧ 8 + (maxL + 11) + rm.locals ≤ R.locals ∧ (∀ w ∈ ws, ∀ (a' : Array Value) (U : State), s.WarmedH U.vm → w.before a' U = true) ∧ Cond.codeWith y bytes maxL ret hh ∈ ws) ∧
  (Cond.codeWith y bytes maxL ret hh).before args s = true ∧ (Cond.initialized y.cls).before args s = true ∧ (y.cls ≠ "java/lang/invoke/MethodHandle" ∧ y.cls ≠ "java/lang/invoke/VarHandle") ∧
  (∀ sig, parseMethodDescriptor y.desc = some sig → n = sig.parameters.length) ∧ (Cond.methodLink own index y).before args s = true ∧ (Cond.static y).before args s = true
theorem vx_cwSW {own : String} {index maxL mc ms : Nat} {y : MethodName} {bytes : ByteArray} {ret : Option FieldType} {hh : List (Nat × Nat × Nat × Nat)} {Ts ws ws' : List Cond} {rm : Room} (n : Nat) (ht : ∀ w ∈ Ts, w.before args s = true) (hT : GoodIn Ts (va_wsS own index y ws)) (hw : ws = Cond.codeWith y bytes maxL ret hh :: ws') (hrc : rm.cells = mc) (hrs : rm.slots = ms)
    (hd : y.cls ≠ "java/lang/invoke/MethodHandle" ∧ y.cls ≠ "java/lang/invoke/VarHandle" ∧ (parseMethodDescriptor y.desc).map (fun d => d.parameters.length) = some n) (hR : rm.frames + 1 ≤ R.frames ∧ 8 + (maxL + 11) + rm.locals ≤ R.locals) :
    vx_CSW R s args own index y bytes maxL ret hh ws rm mc ms n := by
  have ok : ∀ w ∈ va_wsS own index y ws, w.before args s = true := fun w h => ht w (hT w h).1
  have hG : GoodIn Ts ws := fun w h => hT w (by unfold va_wsS; exact List.mem_append_right _ h)
  have hc : Cond.codeWith y bytes maxL ret hh ∈ ws := by rw [hw]; exact List.mem_cons_self
  refine ⟨⟨hrc, hrs, hR.1, hR.2, pay_in ht hG, hc⟩, ht _ (hG _ hc).1, ok _ (by simp [va_wsS]), ⟨hd.1, hd.2.1⟩, fun sig h => ?_, ok _ (by simp [va_wsS]), ok _ (by simp [va_wsS])⟩
  have h2 := hd.2.2
  rw [h] at h2
  exact (Option.some.inj h2).symm
theorem vx_callSW (X : Stand p l e R s m args below meth c T locs cells slots) (hexec : p.tables.exec = Jvm.exec) {own : String} {index : Nat} {y : MethodName} {bytes : ByteArray} {maxL : Nat} {ret : Option FieldType} {hh : List (Nat × Nat × Nat × Nat)}
    (hown : s.vm.findClass own = some m.cls) (hlink : (Cond.methodLink own index y).before args s = true) (hstat : (Cond.static y).before args s = true) (hinit : (Cond.initialized y.cls).before args s = true)
    (hcode : (Cond.codeWith y bytes maxL ret hh).before args s = true) (hy : y.cls ≠ "java/lang/invoke/MethodHandle" ∧ y.cls ≠ "java/lang/invoke/VarHandle")
    {W9 : Nat} {Pre : Pt → Array Value → Prop} {Post : Pt → Array Value → Option Value → Pt → Prop} (hK : Back l R p e below s args y 3 W9 Pre Post)
    {g : JFrame} (hg : g.method = m) (hsize : g.locals.size = c.maxLocals) {argsL rest : List Value} (hlen : ∀ sig, parseMethodDescriptor y.desc = some sig → argsL.length = sig.parameters.length)
    (hstack : g.stack = argsL.reverse ++ rest) (hW : 2 * g.monitorRoom + (rest.map fun v => v.category).sum ≤ W9) (hdg : decode c.code g.pc = .ok (.invokestatic index, 3))
    (hpre : ∀ vm₁, s.WarmedH vm₁ → Pre ⟨T.setVm vm₁, locs, cells, slots⟩ argsL.toArray) :
    ∃ (v : Option Value) (vm₁ : Vm) (B : Pt), s.WarmedH vm₁ ∧ Stand p l e R s m args below meth c B.U B.locs B.cells B.slots ∧ Post ⟨T.setVm vm₁, locs, cells, slots⟩ argsL.toArray v B ∧
      ∀ target, Steps p.tables e below (B.U.setTop { g with pc := g.pc + 3, stack := v.toList ++ rest }) target → Steps p.tables e below (T.setTop g) target := by
  obtain ⟨mk, methM, cM, hnamed, hmethM, -, -, -, -, -, -, hsigM⟩ := Cond.codeWith_spec hcode
  have hstatic : methM.isStatic = true := Cond.static_spec hnamed hmethM hstat
  obtain ⟨kP, hkP, -⟩ := className_of_methodNamed hnamed
  have hinitP : kP.init = .initialized := Cond.initialized_spec (findClass_of_methodNamed hnamed) hkP hinit
  obtain ⟨vm₁, X₁, hstep₁⟩ := X.invokestatic hexec hown hlink hnamed hmethM hstatic hkP hinitP hy (g := g) hg (argsL := argsL) (rest := rest) (hlen _ hsigM) hstack hdg
  obtain ⟨v, B, X', hpost, hsteps⟩ := hK m meth c ⟨T.setVm vm₁, locs, cells, slots⟩ { g with stack := rest } (.invokestatic index) mk argsL.toArray X₁ hg hsize hdg hW (X₁.named hnamed) (hpre vm₁ X₁.warmed)
  exact ⟨v, vm₁, B, X₁.warmed, X', hpost, fun target h => hstep₁ _ fun acts => by rw [doInvoke_state]; exact hsteps.trans h⟩
end VXS
/-! ===== END ===== -/
/-! ===== BEGIN methods with a table of their own: called by a name, returning or throwing ===== -/
section VXH
/-! vx_backW, vx_callVX, vx_callSX, vx_callVW, vx_runVW, vx_runVX, vx_runSX, vx_ofWH follow the same proofs as their sisters above (Free/Laws.lean, Shelf42/LK1.lean); vx_outP calls Shelf42/NT130.lean (outThrough). -/
section
variable {l : Launch} {R : Room} {p : Program} {e : Env} {below : List Frame} {s : State} {sargs : Array Value} {y : MethodName} {len W9 : Nat}
theorem vx_backW {ws : List Cond} {rm : Room} {Pc : Array Value → State → Prop} {Qc : Array Value → State → Outcome → State → Prop} {XC : String → State → State → Prop} {mc ms : Nat} {free : Addr → Prop} {bytes : ByteArray} {maxL : Nat} {ret : Option FieldType} {hh : List (Nat × Nat × Nat × Nat)}
    (hM : vx_Met l y ws rm Pc Qc XC mc ms free) (hblind : FrameBlind Pc) (hrc : rm.cells = mc) (hrs : rm.slots = ms)
    (hframes : rm.frames + 1 ≤ R.frames) (hlocals : W9 + (maxL + 11) + rm.locals ≤ R.locals)
    (hws : ∀ w ∈ ws, ∀ a' U, s.WarmedH U.vm → w.before a' U = true) (hcode : Cond.codeWith y bytes maxL ret hh ∈ ws) (hinit : ∀ a' U, s.WarmedH U.vm → (Cond.initialized y.cls).before a' U = true) :
    vx_Back l R p e below s sargs y len W9 (PreOf R mc ms Pc) (PostOf Qc mc ms free) (vx_Post XC mc ms free) := by
  intro m meth c A g ig mk a X hg hsize hdg hW hn hp
  have h1 : (headSpec ws rm).pre.before a A.U = true := atoms_intro fun w hw => hws w hw _ _ X.warmed
  have h2 : (Cond.codeWith y bytes maxL ret hh).before a A.U = true := hws _ hcode _ _ X.warmed
  have h3 : (Cond.initialized y.cls).before a A.U = true := hinit _ _ X.warmed
  have h4 : A.cells + (headSpec ws rm).room.cells ≤ R.cells := by rw [show (headSpec ws rm).room.cells = mc from hrc]; exact hp.1
  have h5 : A.slots + (headSpec ws rm).room.slots ≤ R.slots := by rw [show (headSpec ws rm).room.slots = ms from hrs]; exact hp.2.1
  have hPc : Pc a (A.U.calling g mk a) := hblind _ _ _ _ hp.2.2
  obtain ⟨U, Ls, c0, s0⟩ := A
  dsimp only [Pt.U, Pt.locs, Pt.cells, Pt.slots] at h1 h2 h3 h4 h5 X hn hPc ⊢
  obtain ⟨m9, methY, cY, hn9, hmY, hcY, -, hlY, -⟩ := Cond.codeWith_spec h2
  cases Option.some.inj (hn9.symm.trans hn)
  obtain ⟨kY, hkY, -⟩ := className_of_methodNamed hn
  have hinitY : kY.init = .initialized := Cond.initialized_spec (findClass_of_methodNamed hn) hkY h3
  have h : At U g.method c below := by rw [hg]; exact X.here
  have hlocals9 : W9 + (maxL + 11) + (headSpec ws rm).room.locals ≤ R.locals := hlocals
  have happ : (headSpec ws rm).appliesLoose y e.platform (U.calling g mk a) = true :=
    Spec.appliesLoose_calling (g := g) h hdg hn hkY hinitY
      (X.room_calling (g := g) (R' := (headSpec ws rm).room) hsize hmY hcY hframes (by rw [hlY]; omega) h4 h5) h1
  obtain ⟨mid, hmid⟩ := h.above
  have hfr : (U.setTop g).frames = (.java g :: mid) ++ below := by rw [State.frames_setTop' g h.top, hmid]; rfl
  obtain ⟨o, s₂, hsteps, -, hend, hq⟩ := Steps.callFree hM p X.admits X.cas X.clock (acts := []) hfr happ hPc trivial
  have hq' : vx_Q Qc XC mc ms free a (U.calling g mk a) o s₂ := hq
  rw [State.frames_setTop' g h.top] at hend
  obtain ⟨g₀, hg0⟩ := Option.isSome_iff_exists.mp h.top
  obtain ⟨r, hr⟩ := State.topJava?_eq_some.mp hg0
  have hr' : (({ U with heap := s₂.heap, slotsUsed := s₂.slotsUsed } : State).setVm s₂.vm).frames = .java g₀ :: r := hr
  rcases hq' with ⟨hqc, L, hfe, hL⟩ | ⟨q, rfl, E, ce, L, hx, hce, hcv, hcl, hW₂, hsm, hL⟩
  · obtain ⟨⟨v, rfl⟩, hW₂, e2, q2, q3, q4, q5, q6⟩ := id hfe
    have e3 : s₂ = ({ (U.calling g mk a).setFrames s₂.frames with heap := s₂.heap, slotsUsed := s₂.slotsUsed } : State).setVm s₂.vm := by
      have : s₂ = ({ s₂ with vm := (U.calling g mk a).vm } : State).setVm s₂.vm := rfl
      rw [e2] at this
      exact this
    obtain ⟨c₂, i₂, len₂, hc₂, hd₂, hf₂⟩ := hend
    have hW' : U.WarmedH s₂.vm := hW₂
    have hcc : c₂ = c := by
      have h1 : s₂.code? g.method = U.code? g.method := by
        rw [State.code?_eq, State.code?_eq, hW'.alike.method?]
      exact Option.some.inj (hc₂.symm.trans (h1.trans h.code))
    subst hcc
    have hlen : len₂ = len := by rw [hdg] at hd₂; cases hd₂; rfl
    subst hlen
    have hs₂ : s₂ = (({ U with heap := s₂.heap, slotsUsed := s₂.slotsUsed } : State).setVm s₂.vm).setTop { g with pc := g.pc + len₂, stack := v.toList ++ g.stack } := by
      refine e3.trans ?_
      rw [hf₂, State.calling_eq h.top, State.setFrames_setFrames, State.setTop_of_frames _ hr', hr]
      rfl
    have hsame : U.sameButNew ({ U with heap := s₂.heap, slotsUsed := s₂.slotsUsed } : State) L mc ms := by
      refine ⟨?_, q2, q3, q4, q5, q6⟩
      obtain ⟨t, ht, -⟩ := State.frames_cons hr
      show ({ U with heap := s₂.heap, slotsUsed := s₂.slotsUsed } : State) = { U.setFrames U.frames with heap := s₂.heap, slotsUsed := s₂.slotsUsed }
      rw [State.setFrames_self ht]
    subst hg
    refine Or.inl ⟨v, ⟨(({ U with heap := s₂.heap, slotsUsed := s₂.slotsUsed } : State).setVm s₂.vm), Ls ++ L, c0 + mc, s0 + ms⟩,
      ⟨X.admits, X.cas, X.clock, X.frames, X.room, X.hears, X.method, X.code, (X.here.setHeapUsed s₂.heap s₂.slotsUsed).setVm hW'.alike, X.tail, State.WarmedH.trans X.warmed hW', X.limits, X.bytes, X.same.trans (hsame.setVm s.vm)⟩,
      ⟨g, mk, s₂, L, rfl, rfl, hqc, rfl, hL, rfl, rfl⟩, ?_⟩
    show Steps p.tables e below _ ((({ U with heap := s₂.heap, slotsUsed := s₂.slotsUsed } : State).setVm s₂.vm).setTop { g with pc := g.pc + len₂, stack := v.toList ++ g.stack })
    rw [← hs₂]
    exact hsteps
  · obtain ⟨e2, q2, q3, q4, q5, q6⟩ := id hsm
    have e3 : s₂ = ({ (U.calling g mk a).setFrames s₂.frames with heap := s₂.heap, slotsUsed := s₂.slotsUsed } : State).setVm s₂.vm := by
      have : s₂ = ({ s₂ with vm := (U.calling g mk a).vm } : State).setVm s₂.vm := rfl
      rw [e2] at this
      exact this
    have hf₂ : s₂.frames = .throwing q :: .java g :: U.frames.tail := hend
    have hW' : U.WarmedH s₂.vm := hW₂
    have hs₂ : s₂ = ((({ U with heap := s₂.heap, slotsUsed := s₂.slotsUsed } : State).setVm s₂.vm).setTop g).pushFrame (.throwing q) := by
      refine e3.trans ?_
      rw [hf₂, State.calling_eq h.top, State.setFrames_setFrames, State.pushFrame, State.frames_setTop _ hr', State.setTop_of_frames _ hr', State.setFrames_setFrames, hr]
      rfl
    have hsame : U.sameButNew ({ U with heap := s₂.heap, slotsUsed := s₂.slotsUsed } : State) L mc ms := by
      refine ⟨?_, q2, q3, q4, q5, q6⟩
      obtain ⟨t, ht, -⟩ := State.frames_cons hr
      show ({ U with heap := s₂.heap, slotsUsed := s₂.slotsUsed } : State) = { U.setFrames U.frames with heap := s₂.heap, slotsUsed := s₂.slotsUsed }
      rw [State.setFrames_self ht]
    subst hg
    refine Or.inr ⟨q, ⟨(({ U with heap := s₂.heap, slotsUsed := s₂.slotsUsed } : State).setVm s₂.vm), Ls ++ L, c0 + mc, s0 + ms⟩,
      ⟨X.admits, X.cas, X.clock, X.frames, X.room, X.hears, X.method, X.code, (X.here.setHeapUsed s₂.heap s₂.slotsUsed).setVm hW'.alike, X.tail, State.WarmedH.trans X.warmed hW', X.limits, X.bytes, X.same.trans (hsame.setVm s.vm)⟩,
      ⟨g, mk, s₂, L, E, ce, rfl, rfl, hx, hce, hcv, hcl, rfl, hL, rfl, rfl⟩, ?_⟩
    show Steps p.tables e below _ (((({ U with heap := s₂.heap, slotsUsed := s₂.slotsUsed } : State).setVm s₂.vm).setTop g).pushFrame (.throwing q))
    rw [← hs₂]
    exact hsteps
end
variable {p : Program} {l : Launch} {e : Env} {R : Room} {s : State} {m : MethodId} {args : Array Value} {below : List Frame} {meth : Method} {c : Code} {T : State} {H : Heap} {locs : List Loc} {cells slots : Nat}
theorem vx_callSX (X : Stand p l e R s m args below meth c T locs cells slots) (hexec : p.tables.exec = Jvm.exec) {own : String} {index : Nat} {y : MethodName} {bytes : ByteArray} {maxL : Nat} {ret : Option FieldType} {hh : List (Nat × Nat × Nat × Nat)}
    (hown : s.vm.findClass own = some m.cls) (hlink : (Cond.methodLink own index y).before args s = true) (hstat : (Cond.static y).before args s = true) (hinit : (Cond.initialized y.cls).before args s = true)
    (hcode : (Cond.codeWith y bytes maxL ret hh).before args s = true) (hy : y.cls ≠ "java/lang/invoke/MethodHandle" ∧ y.cls ≠ "java/lang/invoke/VarHandle")
    {W9 : Nat} {Pre : Pt → Array Value → Prop} {Post : Pt → Array Value → Option Value → Pt → Prop} {PostX : Pt → Array Value → Addr → Pt → Prop} (hK : vx_Back l R p e below s args y 3 W9 Pre Post PostX)
    {g : JFrame} (hg : g.method = m) (hsize : g.locals.size = c.maxLocals) {argsL rest : List Value} (hlen : ∀ sig, parseMethodDescriptor y.desc = some sig → argsL.length = sig.parameters.length)
    (hstack : g.stack = argsL.reverse ++ rest) (hW : 2 * g.monitorRoom + (rest.map fun v => v.category).sum ≤ W9) (hdg : decode c.code g.pc = .ok (.invokestatic index, 3))
    (hpre : ∀ vm₁, s.WarmedH vm₁ → Pre ⟨T.setVm vm₁, locs, cells, slots⟩ argsL.toArray) :
    (∃ (v : Option Value) (vm₁ : Vm) (B : Pt), s.WarmedH vm₁ ∧ Stand p l e R s m args below meth c B.U B.locs B.cells B.slots ∧ Post ⟨T.setVm vm₁, locs, cells, slots⟩ argsL.toArray v B ∧
      ∀ target, Steps p.tables e below (B.U.setTop { g with pc := g.pc + 3, stack := v.toList ++ rest }) target → Steps p.tables e below (T.setTop g) target) ∨
    (∃ (q : Addr) (vm₁ : Vm) (B : Pt), s.WarmedH vm₁ ∧ Stand p l e R s m args below meth c B.U B.locs B.cells B.slots ∧ PostX ⟨T.setVm vm₁, locs, cells, slots⟩ argsL.toArray q B ∧
      Steps p.tables e below (T.setTop g) ((B.U.setTop { g with stack := rest }).pushFrame (.throwing q))) := by
  obtain ⟨mk, methM, cM, hnamed, hmethM, -, -, -, -, -, -, hsigM⟩ := Cond.codeWith_spec hcode
  have hstatic : methM.isStatic = true := Cond.static_spec hnamed hmethM hstat
  obtain ⟨kP, hkP, -⟩ := className_of_methodNamed hnamed
  have hinitP : kP.init = .initialized := Cond.initialized_spec (findClass_of_methodNamed hnamed) hkP hinit
  obtain ⟨vm₁, X₁, hstep₁⟩ := X.invokestatic hexec hown hlink hnamed hmethM hstatic hkP hinitP hy (g := g) hg (argsL := argsL) (rest := rest) (hlen _ hsigM) hstack hdg
  rcases hK m meth c ⟨T.setVm vm₁, locs, cells, slots⟩ { g with stack := rest } (.invokestatic index) mk argsL.toArray X₁ hg hsize hdg hW (X₁.named hnamed) (hpre vm₁ X₁.warmed) with ⟨v, B, X', hpost, hsteps⟩ | ⟨q, B, X', hpost, hsteps⟩
  · exact Or.inl ⟨v, vm₁, B, X₁.warmed, X', hpost, fun target h => hstep₁ _ fun acts => by rw [doInvoke_state]; exact hsteps.trans h⟩
  · exact Or.inr ⟨q, vm₁, B, X₁.warmed, X', hpost, hstep₁ _ fun acts => by rw [doInvoke_state]; exact hsteps⟩
section
variable {y : MethodName} {bytes cc : ByteArray} {maxL nL mc ms n index : Nat} {ret : Option FieldType} {ws : List Cond} {rm : Room} {Pc : Array Value → State → Prop} {Qc : Array Value → State → Outcome → State → Prop} {XC : String → State → State → Prop} {free : Addr → Prop} {Ts : List Cond} {own C : String} {b : Addr} {As rest : List Value} {g : JFrame}
theorem vx_runSX {hh : List (Nat × Nat × Nat × Nat)} (S : CallFix p m c cc nL s args Ts own) (hM : vx_Met l y ws rm Pc Qc XC mc ms free) (cw : vx_CSW R s args own index y bytes maxL ret hh ws rm mc ms n) (hp : PreS s H Pc As)
    (hg : g.method = m) (hn : As.length = n) (hsize : g.locals.size = nL) (hstack : g.stack = As.reverse ++ rest) (hW : 2 * g.monitorRoom + (rest.map fun v => v.category).sum ≤ 8) (hdg : decode cc g.pc = .ok (.invokestatic index, 3)) (hf : cells + mc ≤ R.cells ∧ slots + ms ≤ R.slots) :
    vx_Run p l e R s m args below meth c H locs cells slots mc ms g rest (Qc As.toArray) XC free := by
  obtain ⟨⟨hrc, hrs, hfr, hlo, hws, hcw⟩, hcode, hini, hy, hlen, hl, hstt⟩ := cw
  have hK : vx_Back l R p e below s args y 3 8 (PreOf R mc ms Pc) (PostOf Qc mc ms free) (vx_Post XC mc ms free) := vx_backW (hh := hh) (bytes := bytes) (maxL := maxL) (ret := ret) hM hp.1 hrc hrs hfr hlo hws hcw (fun a' U hW => word_at hW (Or.inl (by first | rfl | simp [Cond.onTables, Cond.keeps, Cond.steady])) hini)
  obtain ⟨hx, hb, hml, ho, -⟩ := S
  intro T hT X
  rcases vx_callSX X hx (hh := hh) (bytes := bytes) (maxL := maxL) (ret := ret) ho hl hstt hini hcode hy hK hg (hsize.trans hml.symm) (argsL := As) (rest := rest) (fun sig h => hn.trans (hlen sig h)) hstack hW (by rw [hb]; exact hdg)
    (fun vm₁ hW₁ => ⟨hf.1, hf.2, hp.2 (T.setVm vm₁) hT hW₁⟩) with ⟨v, vm₁, ⟨U', l2, c2, s2⟩, hW₁, X', ⟨g', mk, t, L, e1, e2, hq, h1, hL, h2, h3⟩, st⟩ | ⟨q, vm₁, ⟨U', l2, c2, s2⟩, hW₁, X', ⟨g', mk, t, L, E, ce, e1, e2, hq, hce, hcv, hcl, h1, hL, h2, h3⟩, st⟩
  · dsimp only [Pt.U, Pt.locs, Pt.cells, Pt.slots] at X' e1 e2 h1 h2 h3 st
    subst h1; subst h2; subst h3
    exact Or.inl ⟨v, (T.setVm vm₁).calling g' mk As.toArray, t, U', L, hT, X', hL, e1, e2, hq, st⟩
  · dsimp only [Pt.U, Pt.locs, Pt.cells, Pt.slots] at X' e1 e2 h1 h2 h3 st hcl
    subst h1; subst h2; subst h3
    exact Or.inr ⟨q, (T.setVm vm₁).calling g' mk As.toArray, t, U', L, E, ce, hT, X', hL, e1, e2, hq, hce, hcv, vx_cls hW₁ hcl, st⟩
end
end VXH
theorem vx_ofWH {l : Launch} {y : MethodName} {ws ws' : List Cond} {rm : Room} {Pc : Array Value → State → Prop} {Qc : Array Value → State → Outcome → State → Prop} {XC : String → State → State → Prop} {mc ms : Nat} {free : Addr → Prop} {cc : ByteArray} {maxL : Nat} {ret : Option FieldType} {hh : List (Nat × Nat × Nat × Nat)}
    (hy : plainName y.cls = true) (hw : ws = Cond.codeWith y cc maxL ret hh :: ws')
    (body : ∀ p e s m args below meth c s₁, BodyLoose p l y (headSpec ws rm) cc maxL ret e s m args below meth c s₁ → c.maxLocals = maxL → Pc args s →
      W p l e (headSpec ws rm).room s m args below meth c s.heap [] 0 0 (vx_MQ below Qc XC args s mc ms free) (entryFrame m args maxL)) : vx_Met l y ws rm Pc Qc XC mc ms free := by
  refine MetFree.of_bodyS (code := cc) (maxLocals := maxL) (ret := ret) hy ?_ ?_
  · intro args s m h hn
    obtain ⟨m9, meth, c, hn9, h1, h2, h3, h4, -, h5, h6, -⟩ := Cond.codeWith_spec (atoms_spec (ws := ws) h _ (by rw [hw]; exact List.mem_cons_self))
    cases hn.symm.trans hn9
    exact ⟨meth, c, h1, h2, h3, h4, h5, h6⟩
  · intro p e s m args below meth c s₁ B hml hP _
    have hh0 : s₁.heap = s.heap := by rw [B.state]; rfl
    obtain ⟨t, a1, o, b1, b2, b3⟩ := body p e s m args below meth c s₁ B hml hP s₁ hh0 (Stand.of_body B)
    exact ⟨t, o, a1, b1, b2, b3⟩
/-! ===== END ===== -/
end
/-! part 02.names -/
section
def RX0 : String := "SheetFolder$History"
def TX0 : u_T := fun k => match k with
  | 0 => ("SheetFolder$History", "before", "[LSheetFolder$Part;", true)
  | 1 => ("SheetFolder$History", "oldest", "I", false)
  | _ => ("SheetFolder$History", "count", "I", false)
def tyX0 : Nat → FieldType := fun k => match k with
  | 0 => .array (.object "SheetFolder$Part")
  | 1 => .int
  | _ => .int
theorem nmX0 : ∀ a, a < 3 → ∀ b, b < 3 → a ≠ b → (TX0 a).2.1 ≠ (TX0 b).2.1 := by decide +kernel
theorem tyX0_ok : ∀ k, k < 3 → parseFieldDescriptor (TX0 k).2.2.1 = some (tyX0 k) := by decide +kernel
abbrev cX0_init : ByteArray := prog_2_method_1_code
def yX0_init : MethodName := ⟨RX0, "<init>", "()V"⟩
abbrev cX0_forgetAll : ByteArray := prog_2_method_2_code
def yX0_forgetAll : MethodName := ⟨RX0, "forgetAll", "()V"⟩
abbrev cX0_remember : ByteArray := prog_2_method_3_code
def yX0_remember : MethodName := ⟨RX0, "remember", "(LSheetFolder$Part;)V"⟩
abbrev cX0_takeBack : ByteArray := prog_2_method_4_code
def yX0_takeBack : MethodName := ⟨RX0, "takeBack", "(LSheetFolder$Part;)Z"⟩
def RX1 : String := "SheetFolder$Part"
def TX1 : u_T := fun k => match k with
  | 0 => ("SheetFolder$Part", "legCount", "I", false)
  | 1 => ("SheetFolder$Part", "legLengths", "[I", true)
  | 2 => ("SheetFolder$Part", "upBits", "I", false)
  | 3 => ("SheetFolder$Part", "thickness", "I", false)
  | 4 => ("SheetFolder$Part", "radius", "I", false)
  | 5 => ("SheetFolder$Part", "neutral", "I", false)
  | 6 => ("SheetFolder$Part", "toolNumbers", "[I", true)
  | 7 => ("SheetFolder$Part", "flipCost", "I", false)
  | 8 => ("SheetFolder$Part", "turnCost", "I", false)
  | 9 => ("SheetFolder$Part", "moveCost", "I", false)
  | 10 => ("SheetFolder$Part", "backCount", "I", false)
  | 11 => ("SheetFolder$Part", "backRatios", "[I", true)
  | 12 => ("SheetFolder$Part", "backAngles", "[I", true)
  | 13 => ("SheetFolder$Part", "madeBits", "I", false)
  | 14 => ("SheetFolder$Part", "stepCount", "I", false)
  | 15 => ("SheetFolder$Part", "stepCodes", "[I", true)
  | 16 => ("SheetFolder$Part", "stepGauges", "[I", true)
  | _ => ("SheetFolder$Part", "stepCosts", "[I", true)
def tyX1 : Nat → FieldType := fun k => match k with
  | 0 => .int
  | 1 => .array .int
  | 2 => .int
  | 3 => .int
  | 4 => .int
  | 5 => .int
  | 6 => .array .int
  | 7 => .int
  | 8 => .int
  | 9 => .int
  | 10 => .int
  | 11 => .array .int
  | 12 => .array .int
  | 13 => .int
  | 14 => .int
  | 15 => .array .int
  | 16 => .array .int
  | _ => .array .int
theorem nmX1 : ∀ a, a < 18 → ∀ b, b < 18 → a ≠ b → (TX1 a).2.1 ≠ (TX1 b).2.1 := by decide +kernel
theorem tyX1_ok : ∀ k, k < 18 → parseFieldDescriptor (TX1 k).2.2.1 = some (tyX1 k) := by decide +kernel
abbrev cX1_init : ByteArray := prog_3_method_1_code
def yX1_init : MethodName := ⟨RX1, "<init>", "()V"⟩
abbrev cX1_clear : ByteArray := prog_3_method_2_code
def yX1_clear : MethodName := ⟨RX1, "clear", "()V"⟩
abbrev cX1_copyFrom : ByteArray := prog_3_method_3_code
def yX1_copyFrom : MethodName := ⟨RX1, "copyFrom", "(LSheetFolder$Part;)V"⟩
abbrev cX1_putSheet : ByteArray := prog_3_method_4_code
def yX1_putSheet : MethodName := ⟨RX1, "putSheet", "(III)V"⟩
abbrev cX1_putTool : ByteArray := prog_3_method_5_code
def yX1_putTool : MethodName := ⟨RX1, "putTool", "(III)V"⟩
abbrev cX1_putCosts : ByteArray := prog_3_method_6_code
def yX1_putCosts : MethodName := ⟨RX1, "putCosts", "(III)V"⟩
abbrev cX1_addBack : ByteArray := prog_3_method_7_code
def yX1_addBack : MethodName := ⟨RX1, "addBack", "(II)V"⟩
abbrev cX1_lastBackRatio : ByteArray := prog_3_method_8_code
def yX1_lastBackRatio : MethodName := ⟨RX1, "lastBackRatio", "()I"⟩
abbrev cX1_addLeg : ByteArray := prog_3_method_9_code
def yX1_addLeg : MethodName := ⟨RX1, "addLeg", "(IZ)V"⟩
abbrev cX1_bendCount : ByteArray := prog_3_method_10_code
def yX1_bendCount : MethodName := ⟨RX1, "bendCount", "()I"⟩
abbrev cX1_allBends : ByteArray := prog_3_method_11_code
def yX1_allBends : MethodName := ⟨RX1, "allBends", "()I"⟩
abbrev cX1_goesUp : ByteArray := prog_3_method_12_code
def yX1_goesUp : MethodName := ⟨RX1, "goesUp", "(I)Z"⟩
abbrev cX1_sumOfLegs : ByteArray := prog_3_method_13_code
def yX1_sumOfLegs : MethodName := ⟨RX1, "sumOfLegs", "(I)I"⟩
abbrev cX1_isSameFromOtherEnd : ByteArray := prog_3_method_14_code
def yX1_isSameFromOtherEnd : MethodName := ⟨RX1, "isSameFromOtherEnd", "()Z"⟩
abbrev cX1_deductionOfBend : ByteArray := prog_3_method_15_code
def yX1_deductionOfBend : MethodName := ⟨RX1, "deductionOfBend", "()D"⟩
abbrev cX1_ratioOfSheet : ByteArray := prog_3_method_16_code
def yX1_ratioOfSheet : MethodName := ⟨RX1, "ratioOfSheet", "()D"⟩
abbrev cX1_springBackAt : ByteArray := prog_3_method_17_code
def yX1_springBackAt : MethodName := ⟨RX1, "springBackAt", "(D)D"⟩
abbrev cX1_springBackBetween : ByteArray := prog_3_method_18_code
def yX1_springBackBetween : MethodName := ⟨RX1, "springBackBetween", "(IID)D"⟩
abbrev cX1_dropSteps : ByteArray := prog_3_method_19_code
def yX1_dropSteps : MethodName := ⟨RX1, "dropSteps", "()V"⟩
abbrev cX1_addStep : ByteArray := prog_3_method_20_code
def yX1_addStep : MethodName := ⟨RX1, "addStep", "(III)V"⟩
abbrev cX1_lastCode : ByteArray := prog_3_method_21_code
def yX1_lastCode : MethodName := ⟨RX1, "lastCode", "()I"⟩
abbrev cX1_lastGauge : ByteArray := prog_3_method_22_code
def yX1_lastGauge : MethodName := ⟨RX1, "lastGauge", "()I"⟩
abbrev cX1_sumOfCosts : ByteArray := prog_3_method_23_code
def yX1_sumOfCosts : MethodName := ⟨RX1, "sumOfCosts", "()I"⟩
abbrev cX1_priceBetween : ByteArray := prog_3_method_24_code
def yX1_priceBetween : MethodName := ⟨RX1, "priceBetween", "(IIII)I"⟩
abbrev cX1_bendsLike : ByteArray := prog_3_method_25_code
def yX1_bendsLike : MethodName := ⟨RX1, "bendsLike", "(LSheetFolder$Part;)Z"⟩
abbrev cX1_goesOnLike : ByteArray := prog_3_method_26_code
def yX1_goesOnLike : MethodName := ⟨RX1, "goesOnLike", "(LSheetFolder$Part;)Z"⟩
def RX2 : String := "SheetFolder$Places"
def TX2 : u_T := fun k => match k with
  | 0 => ("SheetFolder$Places", "farX", "[I", true)
  | 1 => ("SheetFolder$Places", "farY", "[I", true)
  | 2 => ("SheetFolder$Places", "leastX", "[I", true)
  | 3 => ("SheetFolder$Places", "mostX", "[I", true)
  | 4 => ("SheetFolder$Places", "leastY", "[I", true)
  | 5 => ("SheetFolder$Places", "mostY", "[I", true)
  | 6 => ("SheetFolder$Places", "legCount", "I", false)
  | 7 => ("SheetFolder$Places", "clampedFrom", "I", false)
  | _ => ("SheetFolder$Places", "clampedTo", "I", false)
def tyX2 : Nat → FieldType := fun k => match k with
  | 0 => .array .int
  | 1 => .array .int
  | 2 => .array .int
  | 3 => .array .int
  | 4 => .array .int
  | 5 => .array .int
  | 6 => .int
  | 7 => .int
  | _ => .int
theorem nmX2 : ∀ a, a < 9 → ∀ b, b < 9 → a ≠ b → (TX2 a).2.1 ≠ (TX2 b).2.1 := by decide +kernel
theorem tyX2_ok : ∀ k, k < 9 → parseFieldDescriptor (TX2 k).2.2.1 = some (tyX2 k) := by decide +kernel
abbrev cX2_init : ByteArray := prog_4_method_1_code
def yX2_init : MethodName := ⟨RX2, "<init>", "()V"⟩
abbrev cX2_layFinished : ByteArray := prog_4_method_2_code
def yX2_layFinished : MethodName := ⟨RX2, "layFinished", "(LSheetFolder$Part;)V"⟩
abbrev cX2_layStep : ByteArray := prog_4_method_3_code
def yX2_layStep : MethodName := ⟨RX2, "layStep", "(LSheetFolder$Part;II)V"⟩
abbrev cX2_walk : ByteArray := prog_4_method_4_code
def yX2_walk : MethodName := ⟨RX2, "walk", "(LSheetFolder$Part;IIIIII)V"⟩
abbrev cX2_isClamped : ByteArray := prog_4_method_5_code
def yX2_isClamped : MethodName := ⟨RX2, "isClamped", "(I)Z"⟩
abbrev cX2_reachToBack : ByteArray := prog_4_method_6_code
def yX2_reachToBack : MethodName := ⟨RX2, "reachToBack", "()I"⟩
abbrev cX2_topOfFreeSide : ByteArray := prog_4_method_7_code
def yX2_topOfFreeSide : MethodName := ⟨RX2, "topOfFreeSide", "()I"⟩
abbrev cX2_extent : ByteArray := prog_4_method_8_code
def yX2_extent : MethodName := ⟨RX2, "extent", "([II)I"⟩
abbrev cX2_legsHitting : ByteArray := prog_4_method_9_code
def yX2_legsHitting : MethodName := ⟨RX2, "legsHitting", "(LSheetFolder$Part;)I"⟩
abbrev cX2_enters : ByteArray := prog_4_method_10_code
def yX2_enters : MethodName := ⟨RX2, "enters", "(IIIII)Z"⟩
abbrev cX2_crossesItself : ByteArray := prog_4_method_11_code
def yX2_crossesItself : MethodName := ⟨RX2, "crossesItself", "()Z"⟩
abbrev cX2_touch : ByteArray := prog_4_method_12_code
def yX2_touch : MethodName := ⟨RX2, "touch", "(II)Z"⟩
abbrev cX2_reasonFor : ByteArray := prog_4_method_13_code
def yX2_reasonFor : MethodName := ⟨RX2, "reasonFor", "(LSheetFolder$Part;II)I"⟩
abbrev cX2_possibleSteps : ByteArray := prog_4_method_14_code
def yX2_possibleSteps : MethodName := ⟨RX2, "possibleSteps", "(LSheetFolder$Part;I)I"⟩
def RX3 : String := "SheetFolder$Planner"
def TX3 : u_T := fun k => match k with
  | 0 => ("SheetFolder$Planner", "leastTotal", "I", false)
  | 1 => ("SheetFolder$Planner", "greatestTotal", "I", false)
  | 2 => ("SheetFolder$Planner", "plan", "[I", true)
  | 3 => ("SheetFolder$Planner", "planLength", "I", false)
  | 4 => ("SheetFolder$Planner", "places", "LSheetFolder$Places;", true)
  | 5 => ("SheetFolder$Planner", "known", "LSheetFolder$Part;", true)
  | 6 => ("SheetFolder$Planner", "isPlanKnown", "Z", false)
  | 7 => ("SheetFolder$Planner", "openSteps", "[I", true)
  | 8 => ("SheetFolder$Planner", "isReached", "[Z", true)
  | 9 => ("SheetFolder$Planner", "orderCounts", "[J", true)
  | 10 => ("SheetFolder$Planner", "gauges", "[I", true)
  | 11 => ("SheetFolder$Planner", "leastCosts", "[I", true)
  | _ => ("SheetFolder$Planner", "greatestCosts", "[I", true)
def tyX3 : Nat → FieldType := fun k => match k with
  | 0 => .int
  | 1 => .int
  | 2 => .array .int
  | 3 => .int
  | 4 => .object "SheetFolder$Places"
  | 5 => .object "SheetFolder$Part"
  | 6 => .boolean
  | 7 => .array .int
  | 8 => .array .boolean
  | 9 => .array .long
  | 10 => .array .int
  | 11 => .array .int
  | _ => .array .int
theorem nmX3 : ∀ a, a < 13 → ∀ b, b < 13 → a ≠ b → (TX3 a).2.1 ≠ (TX3 b).2.1 := by decide +kernel
theorem tyX3_ok : ∀ k, k < 13 → parseFieldDescriptor (TX3 k).2.2.1 = some (tyX3 k) := by decide +kernel
abbrev cX3_init : ByteArray := prog_5_method_1_code
def yX3_init : MethodName := ⟨RX3, "<init>", "()V"⟩
abbrev cX3_prepare : ByteArray := prog_5_method_2_code
def yX3_prepare : MethodName := ⟨RX3, "prepare", "(LSheetFolder$Part;)V"⟩
abbrev cX3_reachesAll : ByteArray := prog_5_method_3_code
def yX3_reachesAll : MethodName := ⟨RX3, "reachesAll", "(LSheetFolder$Part;)Z"⟩
abbrev cX3_ordersFrom : ByteArray := prog_5_method_4_code
def yX3_ordersFrom : MethodName := ⟨RX3, "ordersFrom", "(I)J"⟩
abbrev cX3_stepsAtTheEnd : ByteArray := prog_5_method_5_code
def yX3_stepsAtTheEnd : MethodName := ⟨RX3, "stepsAtTheEnd", "(LSheetFolder$Part;)I"⟩
abbrev cX3_mostBendsFrom : ByteArray := prog_5_method_6_code
def yX3_mostBendsFrom : MethodName := ⟨RX3, "mostBendsFrom", "(LSheetFolder$Part;)I"⟩
abbrev cX3_forgetSteps : ByteArray := prog_5_method_7_code
def yX3_forgetSteps : MethodName := ⟨RX3, "forgetSteps", "()V"⟩
abbrev cX3_reachSets : ByteArray := prog_5_method_8_code
def yX3_reachSets : MethodName := ⟨RX3, "reachSets", "(LSheetFolder$Part;)V"⟩
abbrev cX3_findSteps : ByteArray := prog_5_method_9_code
def yX3_findSteps : MethodName := ⟨RX3, "findSteps", "(LSheetFolder$Part;I)I"⟩
abbrev cX3_isOpen : ByteArray := prog_5_method_10_code
def yX3_isOpen : MethodName := ⟨RX3, "isOpen", "(II)Z"⟩
abbrev cX3_setBehind : ByteArray := prog_5_method_11_code
def yX3_setBehind : MethodName := ⟨RX3, "setBehind", "(II)I"⟩
abbrev cX3_countOrders : ByteArray := prog_5_method_12_code
def yX3_countOrders : MethodName := ⟨RX3, "countOrders", "(LSheetFolder$Part;)V"⟩
abbrev cX3_reckonCosts : ByteArray := prog_5_method_13_code
def yX3_reckonCosts : MethodName := ⟨RX3, "reckonCosts", "(LSheetFolder$Part;)V"⟩
abbrev cX3_reckonCostsBehind : ByteArray := prog_5_method_14_code
def yX3_reckonCostsBehind : MethodName := ⟨RX3, "reckonCostsBehind", "(LSheetFolder$Part;I)V"⟩
abbrev cX3_costOnward : ByteArray := prog_5_method_15_code
def yX3_costOnward : MethodName := ⟨RX3, "costOnward", "(LSheetFolder$Part;IIIZ)I"⟩
abbrev cX3_costThrough : ByteArray := prog_5_method_16_code
def yX3_costThrough : MethodName := ⟨RX3, "costThrough", "(LSheetFolder$Part;IIIIZ)I"⟩
abbrev cX3_choosePlan : ByteArray := prog_5_method_17_code
def yX3_choosePlan : MethodName := ⟨RX3, "choosePlan", "(LSheetFolder$Part;)V"⟩
abbrev cX3_smallestStep : ByteArray := prog_5_method_18_code
def yX3_smallestStep : MethodName := ⟨RX3, "smallestStep", "(LSheetFolder$Part;IIII)I"⟩
def RX4 : String := "SheetFolder$TextReader"
def TX4 : u_T := fun k => match k with
  | 0 => ("SheetFolder$TextReader", "kindOfError", "I", false)
  | 1 => ("SheetFolder$TextReader", "placeOfError", "I", false)
  | 2 => ("SheetFolder$TextReader", "bytes", "[B", false)
  | 3 => ("SheetFolder$TextReader", "length", "I", false)
  | 4 => ("SheetFolder$TextReader", "tokenFrom", "I", false)
  | 5 => ("SheetFolder$TextReader", "tokenTo", "I", false)
  | 6 => ("SheetFolder$TextReader", "token", "I", false)
  | 7 => ("SheetFolder$TextReader", "tokenNumber", "I", false)
  | _ => ("SheetFolder$TextReader", "numbers", "[I", true)
def tyX4 : Nat → FieldType := fun k => match k with
  | 0 => .int
  | 1 => .int
  | 2 => .array .byte
  | 3 => .int
  | 4 => .int
  | 5 => .int
  | 6 => .int
  | 7 => .int
  | _ => .array .int
theorem nmX4 : ∀ a, a < 9 → ∀ b, b < 9 → a ≠ b → (TX4 a).2.1 ≠ (TX4 b).2.1 := by decide +kernel
theorem tyX4_ok : ∀ k, k < 9 → parseFieldDescriptor (TX4 k).2.2.1 = some (tyX4 k) := by decide +kernel
abbrev cX4_init : ByteArray := prog_6_method_1_code
def yX4_init : MethodName := ⟨RX4, "<init>", "()V"⟩
abbrev cX4_readText : ByteArray := prog_6_method_2_code
def yX4_readText : MethodName := ⟨RX4, "readText", "([BILSheetFolder$Part;)Z"⟩
abbrev cX4_readStatement : ByteArray := prog_6_method_3_code
def yX4_readStatement : MethodName := ⟨RX4, "readStatement", "(LSheetFolder$Part;)V"⟩
abbrev cX4_errorIfNot : ByteArray := prog_6_method_4_code
def yX4_errorIfNot : MethodName := ⟨RX4, "errorIfNot", "(II)I"⟩
abbrev cX4_errorOfWord : ByteArray := prog_6_method_5_code
def yX4_errorOfWord : MethodName := ⟨RX4, "errorOfWord", "(LSheetFolder$Word;LSheetFolder$Part;)I"⟩
abbrev cX4_errorOfNumber : ByteArray := prog_6_method_6_code
def yX4_errorOfNumber : MethodName := ⟨RX4, "errorOfNumber", "(LSheetFolder$Word;ILSheetFolder$Part;)I"⟩
abbrev cX4_accept : ByteArray := prog_6_method_7_code
def yX4_accept : MethodName := ⟨RX4, "accept", "(LSheetFolder$Word;LSheetFolder$Part;)V"⟩
abbrev cX4_nextToken : ByteArray := prog_6_method_8_code
def yX4_nextToken : MethodName := ⟨RX4, "nextToken", "()V"⟩
abbrev cX4_takeWord : ByteArray := prog_6_method_9_code
def yX4_takeWord : MethodName := ⟨RX4, "takeWord", "()V"⟩
abbrev cX4_takeNumber : ByteArray := prog_6_method_10_code
def yX4_takeNumber : MethodName := ⟨RX4, "takeNumber", "()V"⟩
abbrev cX4_isSpace : ByteArray := prog_6_method_11_code
def yX4_isSpace : MethodName := ⟨RX4, "isSpace", "(B)Z"⟩
abbrev cX4_isLetter : ByteArray := prog_6_method_12_code
def yX4_isLetter : MethodName := ⟨RX4, "isLetter", "(B)Z"⟩
abbrev cX4_isDigit : ByteArray := prog_6_method_13_code
def yX4_isDigit : MethodName := ⟨RX4, "isDigit", "(B)Z"⟩
def RX5 : String := "SheetFolder$Word"
def TX5 : u_T := fun k => match k with
  | _ => ("", "", "", false)
abbrev cX5_find : ByteArray := prog_7_method_4_code
def yX5_find : MethodName := ⟨RX5, "find", "([BII)LSheetFolder$Word;"⟩
abbrev cX5_isSpelled : ByteArray := prog_7_method_5_code
def yX5_isSpelled : MethodName := ⟨RX5, "isSpelled", "([BII)Z"⟩
abbrev cX5_ofTool : ByteArray := prog_7_method_6_code
def yX5_ofTool : MethodName := ⟨RX5, "ofTool", "(I)LSheetFolder$Word;"⟩
abbrev cX5_toolNumber : ByteArray := prog_7_method_7_code
def yX5_toolNumber : MethodName := ⟨RX5, "toolNumber", "()I"⟩
abbrev cX5_numberCount : ByteArray := prog_7_method_8_code
def yX5_numberCount : MethodName := ⟨RX5, "numberCount", "()I"⟩
abbrev cX5_allows : ByteArray := prog_7_method_9_code
def yX5_allows : MethodName := ⟨RX5, "allows", "(II)Z"⟩
abbrev cX5_allowsBehind : ByteArray := prog_7_method_10_code
def yX5_allowsBehind : MethodName := ⟨RX5, "allowsBehind", "(III)Z"⟩
abbrev cX5_isBend : ByteArray := prog_7_method_11_code
def yX5_isBend : MethodName := ⟨RX5, "isBend", "()Z"⟩
def RX6 : String := "SheetFolder"
def TX6 : u_T := fun k => match k with
  | 0 => ("SheetFolder", "buffer", "[B", true)
  | 1 => ("SheetFolder", "buffered", "I", false)
  | 2 => ("SheetFolder", "reader", "LSheetFolder$TextReader;", true)
  | 3 => ("SheetFolder", "part", "LSheetFolder$Part;", true)
  | 4 => ("SheetFolder", "scratch", "LSheetFolder$Part;", true)
  | 5 => ("SheetFolder", "history", "LSheetFolder$History;", true)
  | 6 => ("SheetFolder", "places", "LSheetFolder$Places;", true)
  | 7 => ("SheetFolder", "planner", "LSheetFolder$Planner;", true)
  | _ => ("SheetFolder", "output", "Ljava/lang/StringBuilder;", true)
def tyX6 : Nat → FieldType := fun k => match k with
  | 0 => .array .byte
  | 1 => .int
  | 2 => .object "SheetFolder$TextReader"
  | 3 => .object "SheetFolder$Part"
  | 4 => .object "SheetFolder$Part"
  | 5 => .object "SheetFolder$History"
  | 6 => .object "SheetFolder$Places"
  | 7 => .object "SheetFolder$Planner"
  | _ => .object "java/lang/StringBuilder"
theorem nmX6 : ∀ a, a < 9 → ∀ b, b < 9 → a ≠ b → (TX6 a).2.1 ≠ (TX6 b).2.1 := by decide +kernel
theorem tyX6_ok : ∀ k, k < 9 → parseFieldDescriptor (TX6 k).2.2.1 = some (tyX6 k) := by decide +kernel
abbrev cX6_init : ByteArray := prog_1_method_1_code
def yX6_init : MethodName := ⟨RX6, "<init>", "()V"⟩
abbrev cX6_feed : ByteArray := prog_1_method_2_code
def yX6_feed : MethodName := ⟨RX6, "feed", "(IIIII)I"⟩
abbrev cX6_append : ByteArray := prog_1_method_3_code
def yX6_append : MethodName := ⟨RX6, "append", "(I)V"⟩
abbrev cX6_load : ByteArray := prog_1_method_4_code
def yX6_load : MethodName := ⟨RX6, "load", "(I)I"⟩
abbrev cX6_errorKind : ByteArray := prog_1_method_5_code
def yX6_errorKind : MethodName := ⟨RX6, "errorKind", "()I"⟩
abbrev cX6_errorPosition : ByteArray := prog_1_method_6_code
def yX6_errorPosition : MethodName := ⟨RX6, "errorPosition", "()I"⟩
abbrev cX6_bends : ByteArray := prog_1_method_7_code
def yX6_bends : MethodName := ⟨RX6, "bends", "()I"⟩
abbrev cX6_legs : ByteArray := prog_1_method_8_code
def yX6_legs : MethodName := ⟨RX6, "legs", "()I"⟩
abbrev cX6_leg : ByteArray := prog_1_method_9_code
def yX6_leg : MethodName := ⟨RX6, "leg", "(I)I"⟩
abbrev cX6_isUp : ByteArray := prog_1_method_10_code
def yX6_isUp : MethodName := ⟨RX6, "isUp", "(I)Z"⟩
abbrev cX6_deduction : ByteArray := prog_1_method_11_code
def yX6_deduction : MethodName := ⟨RX6, "deduction", "()D"⟩
abbrev cX6_flatLength : ByteArray := prog_1_method_12_code
def yX6_flatLength : MethodName := ⟨RX6, "flatLength", "()D"⟩
abbrev cX6_linePlace : ByteArray := prog_1_method_13_code
def yX6_linePlace : MethodName := ⟨RX6, "linePlace", "(I)D"⟩
abbrev cX6_ratio : ByteArray := prog_1_method_14_code
def yX6_ratio : MethodName := ⟨RX6, "ratio", "()D"⟩
abbrev cX6_springBack : ByteArray := prog_1_method_15_code
def yX6_springBack : MethodName := ⟨RX6, "springBack", "()D"⟩
abbrev cX6_springBackFor : ByteArray := prog_1_method_16_code
def yX6_springBackFor : MethodName := ⟨RX6, "springBackFor", "(D)D"⟩
abbrev cX6_swingAngle : ByteArray := prog_1_method_17_code
def yX6_swingAngle : MethodName := ⟨RX6, "swingAngle", "()I"⟩
abbrev cX6_tool : ByteArray := prog_1_method_18_code
def yX6_tool : MethodName := ⟨RX6, "tool", "(II)I"⟩
abbrev cX6_finishedWidth : ByteArray := prog_1_method_19_code
def yX6_finishedWidth : MethodName := ⟨RX6, "finishedWidth", "()I"⟩
abbrev cX6_finishedHeight : ByteArray := prog_1_method_20_code
def yX6_finishedHeight : MethodName := ⟨RX6, "finishedHeight", "()I"⟩
abbrev cX6_isFinishedCrossed : ByteArray := prog_1_method_21_code
def yX6_isFinishedCrossed : MethodName := ⟨RX6, "isFinishedCrossed", "()Z"⟩
abbrev cX6_finishedCorner : ByteArray := prog_1_method_22_code
def yX6_finishedCorner : MethodName := ⟨RX6, "finishedCorner", "(II)I"⟩
abbrev cX6_isSymmetric : ByteArray := prog_1_method_23_code
def yX6_isSymmetric : MethodName := ⟨RX6, "isSymmetric", "()Z"⟩
abbrev cX6_longestLeg : ByteArray := prog_1_method_24_code
def yX6_longestLeg : MethodName := ⟨RX6, "longestLeg", "()I"⟩
abbrev cX6_made : ByteArray := prog_1_method_25_code
def yX6_made : MethodName := ⟨RX6, "made", "()I"⟩
abbrev cX6_steps : ByteArray := prog_1_method_26_code
def yX6_steps : MethodName := ⟨RX6, "steps", "()I"⟩
abbrev cX6_step : ByteArray := prog_1_method_27_code
def yX6_step : MethodName := ⟨RX6, "step", "(II)I"⟩
abbrev cX6_costSoFar : ByteArray := prog_1_method_28_code
def yX6_costSoFar : MethodName := ⟨RX6, "costSoFar", "()I"⟩
abbrev cX6_reason : ByteArray := prog_1_method_29_code
def yX6_reason : MethodName := ⟨RX6, "reason", "(II)I"⟩
abbrev cX6_gauge : ByteArray := prog_1_method_30_code
def yX6_gauge : MethodName := ⟨RX6, "gauge", "(II)I"⟩
abbrev cX6_corner : ByteArray := prog_1_method_31_code
def yX6_corner : MethodName := ⟨RX6, "corner", "(IIII)I"⟩
abbrev cX6_top : ByteArray := prog_1_method_32_code
def yX6_top : MethodName := ⟨RX6, "top", "(II)I"⟩
abbrev cX6_hitting : ByteArray := prog_1_method_33_code
def yX6_hitting : MethodName := ⟨RX6, "hitting", "(II)I"⟩
abbrev cX6_refused : ByteArray := prog_1_method_34_code
def yX6_refused : MethodName := ⟨RX6, "refused", "(I)I"⟩
abbrev cX6_possible : ByteArray := prog_1_method_35_code
def yX6_possible : MethodName := ⟨RX6, "possible", "()I"⟩
abbrev cX6_stuck : ByteArray := prog_1_method_36_code
def yX6_stuck : MethodName := ⟨RX6, "stuck", "()I"⟩
abbrev cX6_costOf : ByteArray := prog_1_method_37_code
def yX6_costOf : MethodName := ⟨RX6, "costOf", "(II)I"⟩
abbrev cX6_reasonNow : ByteArray := prog_1_method_38_code
def yX6_reasonNow : MethodName := ⟨RX6, "reasonNow", "(I)I"⟩
abbrev cX6_gaugeNow : ByteArray := prog_1_method_39_code
def yX6_gaugeNow : MethodName := ⟨RX6, "gaugeNow", "(I)I"⟩
abbrev cX6_costNow : ByteArray := prog_1_method_40_code
def yX6_costNow : MethodName := ⟨RX6, "costNow", "(I)I"⟩
abbrev cX6_orders : ByteArray := prog_1_method_41_code
def yX6_orders : MethodName := ⟨RX6, "orders", "()J"⟩
abbrev cX6_leastCost : ByteArray := prog_1_method_42_code
def yX6_leastCost : MethodName := ⟨RX6, "leastCost", "()I"⟩
abbrev cX6_plannedSteps : ByteArray := prog_1_method_43_code
def yX6_plannedSteps : MethodName := ⟨RX6, "plannedSteps", "()I"⟩
abbrev cX6_planned : ByteArray := prog_1_method_44_code
def yX6_planned : MethodName := ⟨RX6, "planned", "(I)I"⟩
abbrev cX6_greatestCost : ByteArray := prog_1_method_45_code
def yX6_greatestCost : MethodName := ⟨RX6, "greatestCost", "()I"⟩
abbrev cX6_ordersWith : ByteArray := prog_1_method_46_code
def yX6_ordersWith : MethodName := ⟨RX6, "ordersWith", "(II)J"⟩
abbrev cX6_lastSteps : ByteArray := prog_1_method_47_code
def yX6_lastSteps : MethodName := ⟨RX6, "lastSteps", "()I"⟩
abbrev cX6_mostBends : ByteArray := prog_1_method_48_code
def yX6_mostBends : MethodName := ⟨RX6, "mostBends", "()I"⟩
abbrev cX6_greatestBeam : ByteArray := prog_1_method_49_code
def yX6_greatestBeam : MethodName := ⟨RX6, "greatestBeam", "()I"⟩
abbrev cX6_costIfTurned : ByteArray := prog_1_method_50_code
def yX6_costIfTurned : MethodName := ⟨RX6, "costIfTurned", "(I)I"⟩
abbrev cX6_fold : ByteArray := prog_1_method_51_code
def yX6_fold : MethodName := ⟨RX6, "fold", "(II)I"⟩
abbrev cX6_foldNext : ByteArray := prog_1_method_52_code
def yX6_foldNext : MethodName := ⟨RX6, "foldNext", "()I"⟩
abbrev cX6_makeStep : ByteArray := prog_1_method_53_code
def yX6_makeStep : MethodName := ⟨RX6, "makeStep", "(I)I"⟩
abbrev cX6_unfold : ByteArray := prog_1_method_54_code
def yX6_unfold : MethodName := ⟨RX6, "unfold", "()I"⟩
abbrev cX6_setLeg : ByteArray := prog_1_method_55_code
def yX6_setLeg : MethodName := ⟨RX6, "setLeg", "(II)I"⟩
abbrev cX6_setDirection : ByteArray := prog_1_method_56_code
def yX6_setDirection : MethodName := ⟨RX6, "setDirection", "(IZ)Z"⟩
abbrev cX6_setTool : ByteArray := prog_1_method_57_code
def yX6_setTool : MethodName := ⟨RX6, "setTool", "(III)I"⟩
abbrev cX6_setSheet : ByteArray := prog_1_method_58_code
def yX6_setSheet : MethodName := ⟨RX6, "setSheet", "(III)I"⟩
abbrev cX6_setCost : ByteArray := prog_1_method_59_code
def yX6_setCost : MethodName := ⟨RX6, "setCost", "(III)I"⟩
abbrev cX6_undo : ByteArray := prog_1_method_60_code
def yX6_undo : MethodName := ⟨RX6, "undo", "()I"⟩
abbrev cX6_write : ByteArray := prog_1_method_61_code
def yX6_write : MethodName := ⟨RX6, "write", "()I"⟩
abbrev cX6_writeBend : ByteArray := prog_1_method_62_code
def yX6_writeBend : MethodName := ⟨RX6, "writeBend", "(I)V"⟩
abbrev cX6_written : ByteArray := prog_1_method_63_code
def yX6_written : MethodName := ⟨RX6, "written", "(I)C"⟩
abbrev cX6_requireBend : ByteArray := prog_1_method_64_code
def yX6_requireBend : MethodName := ⟨RX6, "requireBend", "(I)V"⟩
abbrev cX6_requireLeg : ByteArray := prog_1_method_65_code
def yX6_requireLeg : MethodName := ⟨RX6, "requireLeg", "(I)V"⟩
abbrev cX6_requireChoice : ByteArray := prog_1_method_66_code
def yX6_requireChoice : MethodName := ⟨RX6, "requireChoice", "(II)V"⟩
abbrev cX6_requireStep : ByteArray := prog_1_method_67_code
def yX6_requireStep : MethodName := ⟨RX6, "requireStep", "(II)V"⟩
abbrev cX6_requireFlat : ByteArray := prog_1_method_68_code
def yX6_requireFlat : MethodName := ⟨RX6, "requireFlat", "()V"⟩
def RX7 : String := "SheetFolderModel"
def TX7 : u_T := fun k => match k with
  | 0 => ("SheetFolderModel", "s", "[I", true)
  | 1 => ("SheetFolderModel", "parsed", "[I", true)
  | 2 => ("SheetFolderModel", "aside", "[I", true)
  | 3 => ("SheetFolderModel", "history", "[I", true)
  | 4 => ("SheetFolderModel", "edits", "I", false)
  | 5 => ("SheetFolderModel", "thrown", "I", false)
  | 6 => ("SheetFolderModel", "buffer", "[I", true)
  | 7 => ("SheetFolderModel", "buffered", "I", false)
  | 8 => ("SheetFolderModel", "errorKind", "I", false)
  | 9 => ("SheetFolderModel", "errorPosition", "I", false)
  | 10 => ("SheetFolderModel", "length", "I", false)
  | 11 => ("SheetFolderModel", "start", "I", false)
  | 12 => ("SheetFolderModel", "next", "I", false)
  | 13 => ("SheetFolderModel", "token", "I", false)
  | 14 => ("SheetFolderModel", "value", "I", false)
  | 15 => ("SheetFolderModel", "kind", "I", false)
  | 16 => ("SheetFolderModel", "position", "I", false)
  | 17 => ("SheetFolderModel", "fromX", "[I", true)
  | 18 => ("SheetFolderModel", "fromY", "[I", true)
  | 19 => ("SheetFolderModel", "toX", "[I", true)
  | 20 => ("SheetFolderModel", "toY", "[I", true)
  | 21 => ("SheetFolderModel", "x", "I", false)
  | 22 => ("SheetFolderModel", "y", "I", false)
  | 23 => ("SheetFolderModel", "can", "[Z", true)
  | 24 => ("SheetFolderModel", "gauges", "[I", true)
  | 25 => ("SheetFolderModel", "many", "[J", true)
  | 26 => ("SheetFolderModel", "least", "[I", true)
  | 27 => ("SheetFolderModel", "most", "[I", true)
  | 28 => ("SheetFolderModel", "isReached", "[Z", true)
  | 29 => ("SheetFolderModel", "output", "[I", true)
  | _ => ("SheetFolderModel", "outputLength", "I", false)
def tyX7 : Nat → FieldType := fun k => match k with
  | 0 => .array .int
  | 1 => .array .int
  | 2 => .array .int
  | 3 => .array .int
  | 4 => .int
  | 5 => .int
  | 6 => .array .int
  | 7 => .int
  | 8 => .int
  | 9 => .int
  | 10 => .int
  | 11 => .int
  | 12 => .int
  | 13 => .int
  | 14 => .int
  | 15 => .int
  | 16 => .int
  | 17 => .array .int
  | 18 => .array .int
  | 19 => .array .int
  | 20 => .array .int
  | 21 => .int
  | 22 => .int
  | 23 => .array .boolean
  | 24 => .array .int
  | 25 => .array .long
  | 26 => .array .int
  | 27 => .array .int
  | 28 => .array .boolean
  | 29 => .array .int
  | _ => .int
theorem nmX7 : ∀ a, a < 31 → ∀ b, b < 31 → a ≠ b → (TX7 a).2.1 ≠ (TX7 b).2.1 := by decide +kernel
theorem tyX7_ok : ∀ k, k < 31 → parseFieldDescriptor (TX7 k).2.2.1 = some (tyX7 k) := by decide +kernel
abbrev cX7_init : ByteArray := prog_9_method_1_code
def yX7_init : MethodName := ⟨RX7, "<init>", "()V"⟩
abbrev cX7_thrown : ByteArray := prog_9_method_2_code
def yX7_thrown : MethodName := ⟨RX7, "thrown", "()I"⟩
abbrev cX7_between : ByteArray := prog_9_method_3_code
def yX7_between : MethodName := ⟨RX7, "between", "(JJJ)Z"⟩
abbrev cX7_good : ByteArray := prog_9_method_4_code
def yX7_good : MethodName := ⟨RX7, "good", "(Z)Z"⟩
abbrev cX7_good_ : ByteArray := prog_9_method_5_code
def yX7_good_ : MethodName := ⟨RX7, "good", "(ZZ)Z"⟩
abbrev cX7_good__ : ByteArray := prog_9_method_6_code
def yX7_good__ : MethodName := ⟨RX7, "good", "(ZZZ)Z"⟩
abbrev cX7_copy : ByteArray := prog_9_method_7_code
def yX7_copy : MethodName := ⟨RX7, "copy", "([I[I)V"⟩
abbrev cX7_has : ByteArray := prog_9_method_8_code
def yX7_has : MethodName := ⟨RX7, "has", "(II)Z"⟩
abbrev cX7_remember : ByteArray := prog_9_method_9_code
def yX7_remember : MethodName := ⟨RX7, "remember", "()V"⟩
abbrev cX7_undo : ByteArray := prog_9_method_10_code
def yX7_undo : MethodName := ⟨RX7, "undo", "()I"⟩
abbrev cX7_append : ByteArray := prog_9_method_11_code
def yX7_append : MethodName := ⟨RX7, "append", "(I)V"⟩
abbrev cX7_feed : ByteArray := prog_9_method_12_code
def yX7_feed : MethodName := ⟨RX7, "feed", "(IIIII)I"⟩
abbrev cX7_byteAt : ByteArray := prog_9_method_13_code
def yX7_byteAt : MethodName := ⟨RX7, "byteAt", "(I)I"⟩
abbrev cX7_isLetter : ByteArray := prog_9_method_14_code
def yX7_isLetter : MethodName := ⟨RX7, "isLetter", "(I)Z"⟩
abbrev cX7_isDigit : ByteArray := prog_9_method_15_code
def yX7_isDigit : MethodName := ⟨RX7, "isDigit", "(I)Z"⟩
abbrev cX7_advance : ByteArray := prog_9_method_16_code
def yX7_advance : MethodName := ⟨RX7, "advance", "()Z"⟩
abbrev cX7_isWord : ByteArray := prog_9_method_17_code
def yX7_isWord : MethodName := ⟨RX7, "isWord", "(Ljava/lang/String;)Z"⟩
abbrev cX7_fail : ByteArray := prog_9_method_18_code
def yX7_fail : MethodName := ⟨RX7, "fail", "(I)Z"⟩
abbrev cX7_number : ByteArray := prog_9_method_19_code
def yX7_number : MethodName := ⟨RX7, "number", "(III)Z"⟩
abbrev cX7_closed : ByteArray := prog_9_method_20_code
def yX7_closed : MethodName := ⟨RX7, "closed", "()Z"⟩
abbrev cX7_lay : ByteArray := prog_9_method_21_code
def yX7_lay : MethodName := ⟨RX7, "lay", "(IIII)V"⟩
abbrev cX7_reset : ByteArray := prog_9_method_22_code
def yX7_reset : MethodName := ⟨RX7, "reset", "()V"⟩
abbrev cX7_sheetStatement : ByteArray := prog_9_method_23_code
def yX7_sheetStatement : MethodName := ⟨RX7, "sheetStatement", "()Z"⟩
abbrev cX7_legStatement : ByteArray := prog_9_method_24_code
def yX7_legStatement : MethodName := ⟨RX7, "legStatement", "()Z"⟩
abbrev cX7_bendStatement : ByteArray := prog_9_method_25_code
def yX7_bendStatement : MethodName := ⟨RX7, "bendStatement", "(Z)Z"⟩
abbrev cX7_backStatement : ByteArray := prog_9_method_26_code
def yX7_backStatement : MethodName := ⟨RX7, "backStatement", "()Z"⟩
abbrev cX7_toolStatement : ByteArray := prog_9_method_27_code
def yX7_toolStatement : MethodName := ⟨RX7, "toolStatement", "(I)Z"⟩
abbrev cX7_costStatement : ByteArray := prog_9_method_28_code
def yX7_costStatement : MethodName := ⟨RX7, "costStatement", "()Z"⟩
abbrev cX7_toolHere : ByteArray := prog_9_method_29_code
def yX7_toolHere : MethodName := ⟨RX7, "toolHere", "()I"⟩
abbrev cX7_statement : ByteArray := prog_9_method_30_code
def yX7_statement : MethodName := ⟨RX7, "statement", "()Z"⟩
abbrev cX7_load : ByteArray := prog_9_method_31_code
def yX7_load : MethodName := ⟨RX7, "load", "(I)I"⟩
abbrev cX7_errorKind : ByteArray := prog_9_method_32_code
def yX7_errorKind : MethodName := ⟨RX7, "errorKind", "()I"⟩
abbrev cX7_errorPosition : ByteArray := prog_9_method_33_code
def yX7_errorPosition : MethodName := ⟨RX7, "errorPosition", "()I"⟩
abbrev cX7_isBend : ByteArray := prog_9_method_34_code
def yX7_isBend : MethodName := ⟨RX7, "isBend", "(I)Z"⟩
abbrev cX7_isLeg : ByteArray := prog_9_method_35_code
def yX7_isLeg : MethodName := ⟨RX7, "isLeg", "(I)Z"⟩
abbrev cX7_isSide : ByteArray := prog_9_method_36_code
def yX7_isSide : MethodName := ⟨RX7, "isSide", "(I)Z"⟩
abbrev cX7_tellNow : ByteArray := prog_9_method_37_code
def yX7_tellNow : MethodName := ⟨RX7, "tellNow", "(I)I"⟩
abbrev cX7_bends : ByteArray := prog_9_method_38_code
def yX7_bends : MethodName := ⟨RX7, "bends", "()I"⟩
abbrev cX7_legs : ByteArray := prog_9_method_39_code
def yX7_legs : MethodName := ⟨RX7, "legs", "()I"⟩
abbrev cX7_leg : ByteArray := prog_9_method_40_code
def yX7_leg : MethodName := ⟨RX7, "leg", "(I)I"⟩
abbrev cX7_isUp : ByteArray := prog_9_method_41_code
def yX7_isUp : MethodName := ⟨RX7, "isUp", "(I)Z"⟩
abbrev cX7_sumOfLegs : ByteArray := prog_9_method_42_code
def yX7_sumOfLegs : MethodName := ⟨RX7, "sumOfLegs", "(I)I"⟩
abbrev cX7_deductionNow : ByteArray := prog_9_method_43_code
def yX7_deductionNow : MethodName := ⟨RX7, "deductionNow", "()D"⟩
abbrev cX7_deduction : ByteArray := prog_9_method_44_code
def yX7_deduction : MethodName := ⟨RX7, "deduction", "()D"⟩
abbrev cX7_flatLength : ByteArray := prog_9_method_45_code
def yX7_flatLength : MethodName := ⟨RX7, "flatLength", "()D"⟩
abbrev cX7_linePlace : ByteArray := prog_9_method_46_code
def yX7_linePlace : MethodName := ⟨RX7, "linePlace", "(I)D"⟩
abbrev cX7_ratioNow : ByteArray := prog_9_method_47_code
def yX7_ratioNow : MethodName := ⟨RX7, "ratioNow", "()D"⟩
abbrev cX7_ratio : ByteArray := prog_9_method_48_code
def yX7_ratio : MethodName := ⟨RX7, "ratio", "()D"⟩
abbrev cX7_ratioOf : ByteArray := prog_9_method_49_code
def yX7_ratioOf : MethodName := ⟨RX7, "ratioOf", "(I)D"⟩
abbrev cX7_angleOf : ByteArray := prog_9_method_50_code
def yX7_angleOf : MethodName := ⟨RX7, "angleOf", "(I)D"⟩
abbrev cX7_springBy : ByteArray := prog_9_method_51_code
def yX7_springBy : MethodName := ⟨RX7, "springBy", "(D)D"⟩
abbrev cX7_springBack : ByteArray := prog_9_method_52_code
def yX7_springBack : MethodName := ⟨RX7, "springBack", "()D"⟩
abbrev cX7_springBackFor : ByteArray := prog_9_method_53_code
def yX7_springBackFor : MethodName := ⟨RX7, "springBackFor", "(D)D"⟩
abbrev cX7_swingAngle : ByteArray := prog_9_method_54_code
def yX7_swingAngle : MethodName := ⟨RX7, "swingAngle", "()I"⟩
abbrev cX7_isTool : ByteArray := prog_9_method_55_code
def yX7_isTool : MethodName := ⟨RX7, "isTool", "(II)Z"⟩
abbrev cX7_tool : ByteArray := prog_9_method_56_code
def yX7_tool : MethodName := ⟨RX7, "tool", "(II)I"⟩
abbrev cX7_isMirrored : ByteArray := prog_9_method_57_code
def yX7_isMirrored : MethodName := ⟨RX7, "isMirrored", "(II)Z"⟩
abbrev cX7_isSymmetric : ByteArray := prog_9_method_58_code
def yX7_isSymmetric : MethodName := ⟨RX7, "isSymmetric", "()Z"⟩
abbrev cX7_longestLeg : ByteArray := prog_9_method_59_code
def yX7_longestLeg : MethodName := ⟨RX7, "longestLeg", "()I"⟩
abbrev cX7_acrossOf : ByteArray := prog_9_method_60_code
def yX7_acrossOf : MethodName := ⟨RX7, "acrossOf", "(I)I"⟩
abbrev cX7_upOf : ByteArray := prog_9_method_61_code
def yX7_upOf : MethodName := ⟨RX7, "upOf", "(I)I"⟩
abbrev cX7_layLeg : ByteArray := prog_9_method_62_code
def yX7_layLeg : MethodName := ⟨RX7, "layLeg", "(II)V"⟩
abbrev cX7_isClamped : ByteArray := prog_9_method_63_code
def yX7_isClamped : MethodName := ⟨RX7, "isClamped", "(III)Z"⟩
abbrev cX7_laySide : ByteArray := prog_9_method_64_code
def yX7_laySide : MethodName := ⟨RX7, "laySide", "(IIIIZI)V"⟩
abbrev cX7_laySheet : ByteArray := prog_9_method_65_code
def yX7_laySheet : MethodName := ⟨RX7, "laySheet", "(III)V"⟩
abbrev cX7_isCrossing : ByteArray := prog_9_method_66_code
def yX7_isCrossing : MethodName := ⟨RX7, "isCrossing", "(IIII)Z"⟩
abbrev cX7_isInside : ByteArray := prog_9_method_67_code
def yX7_isInside : MethodName := ⟨RX7, "isInside", "(IIIII)Z"⟩
abbrev cX7_toolOf : ByteArray := prog_9_method_68_code
def yX7_toolOf : MethodName := ⟨RX7, "toolOf", "(II)I"⟩
abbrev cX7_hitsBeam : ByteArray := prog_9_method_69_code
def yX7_hitsBeam : MethodName := ⟨RX7, "hitsBeam", "(I)Z"⟩
abbrev cX7_hitsTable : ByteArray := prog_9_method_70_code
def yX7_hitsTable : MethodName := ⟨RX7, "hitsTable", "(I)Z"⟩
abbrev cX7_hitsWing : ByteArray := prog_9_method_71_code
def yX7_hitsWing : MethodName := ⟨RX7, "hitsWing", "(I)Z"⟩
abbrev cX7_hits : ByteArray := prog_9_method_72_code
def yX7_hits : MethodName := ⟨RX7, "hits", "(IZ)Z"⟩
abbrev cX7_overlap : ByteArray := prog_9_method_73_code
def yX7_overlap : MethodName := ⟨RX7, "overlap", "(IIII)Z"⟩
abbrev cX7_isCrossed : ByteArray := prog_9_method_74_code
def yX7_isCrossed : MethodName := ⟨RX7, "isCrossed", "()Z"⟩
abbrev cX7_gaugeLaid : ByteArray := prog_9_method_75_code
def yX7_gaugeLaid : MethodName := ⟨RX7, "gaugeLaid", "(II)I"⟩
abbrev cX7_hittingLaid : ByteArray := prog_9_method_76_code
def yX7_hittingLaid : MethodName := ⟨RX7, "hittingLaid", "(IIZZ)I"⟩
abbrev cX7_isShort : ByteArray := prog_9_method_77_code
def yX7_isShort : MethodName := ⟨RX7, "isShort", "(II)Z"⟩
abbrev cX7_isGaugeLaid : ByteArray := prog_9_method_78_code
def yX7_isGaugeLaid : MethodName := ⟨RX7, "isGaugeLaid", "(II)Z"⟩
abbrev cX7_reasonOf : ByteArray := prog_9_method_79_code
def yX7_reasonOf : MethodName := ⟨RX7, "reasonOf", "(III)I"⟩
abbrev cX7_layFinished : ByteArray := prog_9_method_80_code
def yX7_layFinished : MethodName := ⟨RX7, "layFinished", "()V"⟩
abbrev cX7_finishedWidth : ByteArray := prog_9_method_81_code
def yX7_finishedWidth : MethodName := ⟨RX7, "finishedWidth", "()I"⟩
abbrev cX7_finishedHeight : ByteArray := prog_9_method_82_code
def yX7_finishedHeight : MethodName := ⟨RX7, "finishedHeight", "()I"⟩
abbrev cX7_isFinishedCrossed : ByteArray := prog_9_method_83_code
def yX7_isFinishedCrossed : MethodName := ⟨RX7, "isFinishedCrossed", "()Z"⟩
abbrev cX7_finishedCorner : ByteArray := prog_9_method_84_code
def yX7_finishedCorner : MethodName := ⟨RX7, "finishedCorner", "(II)I"⟩
abbrev cX7_stepOf : ByteArray := prog_9_method_85_code
def yX7_stepOf : MethodName := ⟨RX7, "stepOf", "(II)I"⟩
abbrev cX7_sumOfCosts : ByteArray := prog_9_method_86_code
def yX7_sumOfCosts : MethodName := ⟨RX7, "sumOfCosts", "()I"⟩
abbrev cX7_made : ByteArray := prog_9_method_87_code
def yX7_made : MethodName := ⟨RX7, "made", "()I"⟩
abbrev cX7_steps : ByteArray := prog_9_method_88_code
def yX7_steps : MethodName := ⟨RX7, "steps", "()I"⟩
abbrev cX7_step : ByteArray := prog_9_method_89_code
def yX7_step : MethodName := ⟨RX7, "step", "(II)I"⟩
abbrev cX7_costSoFar : ByteArray := prog_9_method_90_code
def yX7_costSoFar : MethodName := ⟨RX7, "costSoFar", "()I"⟩
abbrev cX7_reason : ByteArray := prog_9_method_91_code
def yX7_reason : MethodName := ⟨RX7, "reason", "(II)I"⟩
abbrev cX7_gaugeOf : ByteArray := prog_9_method_92_code
def yX7_gaugeOf : MethodName := ⟨RX7, "gaugeOf", "(III)I"⟩
abbrev cX7_gauge : ByteArray := prog_9_method_93_code
def yX7_gauge : MethodName := ⟨RX7, "gauge", "(II)I"⟩
abbrev cX7_corner : ByteArray := prog_9_method_94_code
def yX7_corner : MethodName := ⟨RX7, "corner", "(IIII)I"⟩
abbrev cX7_top : ByteArray := prog_9_method_95_code
def yX7_top : MethodName := ⟨RX7, "top", "(II)I"⟩
abbrev cX7_hitting : ByteArray := prog_9_method_96_code
def yX7_hitting : MethodName := ⟨RX7, "hitting", "(II)I"⟩
abbrev cX7_refused : ByteArray := prog_9_method_97_code
def yX7_refused : MethodName := ⟨RX7, "refused", "(I)I"⟩
abbrev cX7_possible : ByteArray := prog_9_method_98_code
def yX7_possible : MethodName := ⟨RX7, "possible", "()I"⟩
abbrev cX7_stuck : ByteArray := prog_9_method_99_code
def yX7_stuck : MethodName := ⟨RX7, "stuck", "()I"⟩
abbrev cX7_costBehind : ByteArray := prog_9_method_100_code
def yX7_costBehind : MethodName := ⟨RX7, "costBehind", "(IIIIII)I"⟩
abbrev cX7_costNow : ByteArray := prog_9_method_101_code
def yX7_costNow : MethodName := ⟨RX7, "costNow", "(II)I"⟩
abbrev cX7_costOf : ByteArray := prog_9_method_102_code
def yX7_costOf : MethodName := ⟨RX7, "costOf", "(II)I"⟩
abbrev cX7_full : ByteArray := prog_9_method_103_code
def yX7_full : MethodName := ⟨RX7, "full", "()I"⟩
abbrev cX7_isBehind : ByteArray := prog_9_method_104_code
def yX7_isBehind : MethodName := ⟨RX7, "isBehind", "(I)Z"⟩
abbrev cX7_layOrders : ByteArray := prog_9_method_105_code
def yX7_layOrders : MethodName := ⟨RX7, "layOrders", "()V"⟩
abbrev cX7_gaugeLast : ByteArray := prog_9_method_106_code
def yX7_gaugeLast : MethodName := ⟨RX7, "gaugeLast", "(II)I"⟩
abbrev cX7_layCost : ByteArray := prog_9_method_107_code
def yX7_layCost : MethodName := ⟨RX7, "layCost", "(II)V"⟩
abbrev cX7_layCosts : ByteArray := prog_9_method_108_code
def yX7_layCosts : MethodName := ⟨RX7, "layCosts", "()V"⟩
abbrev cX7_lastNow : ByteArray := prog_9_method_109_code
def yX7_lastNow : MethodName := ⟨RX7, "lastNow", "()I"⟩
abbrev cX7_isOrder : ByteArray := prog_9_method_110_code
def yX7_isOrder : MethodName := ⟨RX7, "isOrder", "()Z"⟩
abbrev cX7_orders : ByteArray := prog_9_method_111_code
def yX7_orders : MethodName := ⟨RX7, "orders", "()J"⟩
abbrev cX7_leastNow : ByteArray := prog_9_method_112_code
def yX7_leastNow : MethodName := ⟨RX7, "leastNow", "()I"⟩
abbrev cX7_leastCost : ByteArray := prog_9_method_113_code
def yX7_leastCost : MethodName := ⟨RX7, "leastCost", "()I"⟩
abbrev cX7_unmade : ByteArray := prog_9_method_114_code
def yX7_unmade : MethodName := ⟨RX7, "unmade", "()I"⟩
abbrev cX7_plannedSteps : ByteArray := prog_9_method_115_code
def yX7_plannedSteps : MethodName := ⟨RX7, "plannedSteps", "()I"⟩
abbrev cX7_bestStep : ByteArray := prog_9_method_116_code
def yX7_bestStep : MethodName := ⟨RX7, "bestStep", "(II)I"⟩
abbrev cX7_planned : ByteArray := prog_9_method_117_code
def yX7_planned : MethodName := ⟨RX7, "planned", "(I)I"⟩
abbrev cX7_greatestCost : ByteArray := prog_9_method_118_code
def yX7_greatestCost : MethodName := ⟨RX7, "greatestCost", "()I"⟩
abbrev cX7_ordersWith : ByteArray := prog_9_method_119_code
def yX7_ordersWith : MethodName := ⟨RX7, "ordersWith", "(II)J"⟩
abbrev cX7_layReached : ByteArray := prog_9_method_120_code
def yX7_layReached : MethodName := ⟨RX7, "layReached", "()V"⟩
abbrev cX7_lastSteps : ByteArray := prog_9_method_121_code
def yX7_lastSteps : MethodName := ⟨RX7, "lastSteps", "()I"⟩
abbrev cX7_mostBends : ByteArray := prog_9_method_122_code
def yX7_mostBends : MethodName := ⟨RX7, "mostBends", "()I"⟩
abbrev cX7_greatestBeam : ByteArray := prog_9_method_123_code
def yX7_greatestBeam : MethodName := ⟨RX7, "greatestBeam", "()I"⟩
abbrev cX7_costIfTurned : ByteArray := prog_9_method_124_code
def yX7_costIfTurned : MethodName := ⟨RX7, "costIfTurned", "(I)I"⟩
abbrev cX7_foldNow : ByteArray := prog_9_method_125_code
def yX7_foldNow : MethodName := ⟨RX7, "foldNow", "(II)I"⟩
abbrev cX7_fold : ByteArray := prog_9_method_126_code
def yX7_fold : MethodName := ⟨RX7, "fold", "(II)I"⟩
abbrev cX7_foldNext : ByteArray := prog_9_method_127_code
def yX7_foldNext : MethodName := ⟨RX7, "foldNext", "()I"⟩
abbrev cX7_unfold : ByteArray := prog_9_method_128_code
def yX7_unfold : MethodName := ⟨RX7, "unfold", "()I"⟩
abbrev cX7_set : ByteArray := prog_9_method_129_code
def yX7_set : MethodName := ⟨RX7, "set", "(II)I"⟩
abbrev cX7_setLeg : ByteArray := prog_9_method_130_code
def yX7_setLeg : MethodName := ⟨RX7, "setLeg", "(II)I"⟩
abbrev cX7_setDirection : ByteArray := prog_9_method_131_code
def yX7_setDirection : MethodName := ⟨RX7, "setDirection", "(IZ)Z"⟩
abbrev cX7_areTold : ByteArray := prog_9_method_132_code
def yX7_areTold : MethodName := ⟨RX7, "areTold", "(III)Z"⟩
abbrev cX7_setTool : ByteArray := prog_9_method_133_code
def yX7_setTool : MethodName := ⟨RX7, "setTool", "(III)I"⟩
abbrev cX7_setSheet : ByteArray := prog_9_method_134_code
def yX7_setSheet : MethodName := ⟨RX7, "setSheet", "(III)I"⟩
abbrev cX7_setCost : ByteArray := prog_9_method_135_code
def yX7_setCost : MethodName := ⟨RX7, "setCost", "(III)I"⟩
abbrev cX7_put : ByteArray := prog_9_method_136_code
def yX7_put : MethodName := ⟨RX7, "put", "(I)V"⟩
abbrev cX7_putNumber : ByteArray := prog_9_method_137_code
def yX7_putNumber : MethodName := ⟨RX7, "putNumber", "(I)V"⟩
abbrev cX7_putBend : ByteArray := prog_9_method_138_code
def yX7_putBend : MethodName := ⟨RX7, "putBend", "(I)V"⟩
abbrev cX7_putCost : ByteArray := prog_9_method_139_code
def yX7_putCost : MethodName := ⟨RX7, "putCost", "()V"⟩
abbrev cX7_write : ByteArray := prog_9_method_140_code
def yX7_write : MethodName := ⟨RX7, "write", "()I"⟩
abbrev cX7_written : ByteArray := prog_9_method_141_code
def yX7_written : MethodName := ⟨RX7, "written", "(I)C"⟩
def RJ5 : String := "java/lang/AbstractStringBuilder"
abbrev cJ5_init_d00df : ByteArray := prog_10_method_2_code
def yJ5_init_d00df : MethodName := ⟨RJ5, "<init>", "(I)V"⟩
abbrev cJ5_length_8abf5 : ByteArray := prog_10_method_6_code
def yJ5_length_8abf5 : MethodName := ⟨RJ5, "length", "()I"⟩
abbrev cJ5_ensureCapacityInternal_d00df : ByteArray := prog_10_method_9_code
def yJ5_ensureCapacityInternal_d00df : MethodName := ⟨RJ5, "ensureCapacityInternal", "(I)V"⟩
abbrev cJ5_newCapacity_0f7a4 : ByteArray := prog_10_method_10_code
def yJ5_newCapacity_0f7a4 : MethodName := ⟨RJ5, "newCapacity", "(I)I"⟩
abbrev cJ5_setLength_d00df : ByteArray := prog_10_method_13_code
def yJ5_setLength_d00df : MethodName := ⟨RJ5, "setLength", "(I)V"⟩
abbrev cJ5_charAt_5068e : ByteArray := prog_10_method_14_code
def yJ5_charAt_5068e : MethodName := ⟨RJ5, "charAt", "(I)C"⟩
abbrev cJ5_append_cf1ce : ByteArray := prog_10_method_22_code
def yJ5_append_cf1ce : MethodName := ⟨RJ5, "append", "(Ljava/lang/String;)Ljava/lang/AbstractStringBuilder;"⟩
abbrev cJ5_append_3fe6f : ByteArray := prog_10_method_31_code
def yJ5_append_3fe6f : MethodName := ⟨RJ5, "append", "(C)Ljava/lang/AbstractStringBuilder;"⟩
abbrev cJ5_append_c97b9 : ByteArray := prog_10_method_32_code
def yJ5_append_c97b9 : MethodName := ⟨RJ5, "append", "(I)Ljava/lang/AbstractStringBuilder;"⟩
abbrev cJ5_isLatin1_aae02 : ByteArray := prog_10_method_68_code
def yJ5_isLatin1_aae02 : MethodName := ⟨RJ5, "isLatin1", "()Z"⟩
abbrev cJ5_inflateIfNeededFor_a7421 : ByteArray := prog_10_method_71_code
def yJ5_inflateIfNeededFor_a7421 : MethodName := ⟨RJ5, "inflateIfNeededFor", "(Ljava/lang/String;)V"⟩
abbrev cJ5_putStringAt_47b60 : ByteArray := prog_10_method_73_code
def yJ5_putStringAt_47b60 : MethodName := ⟨RJ5, "putStringAt", "(ILjava/lang/String;)V"⟩
def RJx00060 : String := "java/lang/ArrayIndexOutOfBoundsException"
def TJx00060 : u_T := fun k => match k with
  | 0 => ("java/lang/Throwable", "cause", "Ljava/lang/Throwable;", false)
  | 1 => ("java/lang/Throwable", "stackTrace", "[Ljava/lang/StackTraceElement;", false)
  | 2 => ("java/lang/Throwable", "suppressedExceptions", "Ljava/util/List;", false)
  | 3 => ("java/lang/Throwable", "detailMessage", "Ljava/lang/String;", false)
  | 4 => ("java/lang/Throwable", "backtrace", "Ljava/lang/Object;", false)
  | _ => ("java/lang/Throwable", "depth", "I", false)
def RJ6 : String := "java/lang/Integer"
abbrev cJ6_getChars_ba4f3 : ByteArray := prog_18_method_12_code
def yJ6_getChars_ba4f3 : MethodName := ⟨RJ6, "getChars", "(II[B)I"⟩
abbrev cJ6_stringSize_0f7a4 : ByteArray := prog_18_method_13_code
def yJ6_stringSize_0f7a4 : MethodName := ⟨RJ6, "stringSize", "(I)I"⟩
abbrev cJ6_bitCount_0f7a4 : ByteArray := prog_18_method_49_code
def yJ6_bitCount_0f7a4 : MethodName := ⟨RJ6, "bitCount", "(I)I"⟩
def RJ0 : String := "java/lang/String"
def TJ0 : u_T := fun k => match k with
  | 0 => ("java/lang/String", "value", "[B", true)
  | 1 => ("java/lang/String", "coder", "B", true)
  | 2 => ("java/lang/String", "hash", "I", false)
  | _ => ("java/lang/String", "hashIsZero", "Z", false)
abbrev cJ0_length_8abf5 : ByteArray := prog_21_method_54_code
def yJ0_length_8abf5 : MethodName := ⟨RJ0, "length", "()I"⟩
abbrev cJ0_charAt_5068e : ByteArray := prog_21_method_56_code
def yJ0_charAt_5068e : MethodName := ⟨RJ0, "charAt", "(I)C"⟩
abbrev cJ0_getBytes_840e7 : ByteArray := prog_21_method_147_code
def yJ0_getBytes_840e7 : MethodName := ⟨RJ0, "getBytes", "([BIB)V"⟩
abbrev cJ0_coder_7d493 : ByteArray := prog_21_method_152_code
def yJ0_coder_7d493 : MethodName := ⟨RJ0, "coder", "()B"⟩
abbrev cJ0_isLatin1_aae02 : ByteArray := prog_21_method_154_code
def yJ0_isLatin1_aae02 : MethodName := ⟨RJ0, "isLatin1", "()Z"⟩
abbrev cJ0_checkIndex_df160 : ByteArray := prog_21_method_155_code
def yJ0_checkIndex_df160 : MethodName := ⟨RJ0, "checkIndex", "(II)V"⟩
def RJ4 : String := "java/lang/StringBuilder"
def TJ4 : u_T := fun k => match k with
  | 0 => ("java/lang/AbstractStringBuilder", "value", "[B", false)
  | 1 => ("java/lang/AbstractStringBuilder", "coder", "B", false)
  | 2 => ("java/lang/AbstractStringBuilder", "maybeLatin1", "Z", false)
  | _ => ("java/lang/AbstractStringBuilder", "count", "I", false)
def tyJ4 : Nat → FieldType := fun k => match k with
  | 0 => .array .byte
  | 1 => .byte
  | 2 => .boolean
  | _ => .int
theorem nmJ4 : ∀ a, a < 4 → ∀ b, b < 4 → a ≠ b → (TJ4 a).2.1 ≠ (TJ4 b).2.1 := by decide +kernel
theorem tyJ4_ok : ∀ k, k < 4 → parseFieldDescriptor (TJ4 k).2.2.1 = some (tyJ4 k) := by decide +kernel
abbrev cJ4_init_da8c8 : ByteArray := prog_22_method_1_code
def yJ4_init_da8c8 : MethodName := ⟨RJ4, "<init>", "()V"⟩
abbrev cJ4_append_15ec4 : ByteArray := prog_22_method_7_code
def yJ4_append_15ec4 : MethodName := ⟨RJ4, "append", "(Ljava/lang/String;)Ljava/lang/StringBuilder;"⟩
abbrev cJ4_append_cf468 : ByteArray := prog_22_method_14_code
def yJ4_append_cf468 : MethodName := ⟨RJ4, "append", "(C)Ljava/lang/StringBuilder;"⟩
abbrev cJ4_append_bf812 : ByteArray := prog_22_method_15_code
def yJ4_append_bf812 : MethodName := ⟨RJ4, "append", "(I)Ljava/lang/StringBuilder;"⟩
abbrev cJ4_charAt_5068e : ByteArray := prog_22_method_88_code
def yJ4_charAt_5068e : MethodName := ⟨RJ4, "charAt", "(I)C"⟩
abbrev cJ4_setLength_d00df : ByteArray := prog_22_method_89_code
def yJ4_setLength_d00df : MethodName := ⟨RJ4, "setLength", "(I)V"⟩
abbrev cJ4_length_8abf5 : ByteArray := prog_22_method_93_code
def yJ4_length_8abf5 : MethodName := ⟨RJ4, "length", "()I"⟩
def RJx7c733 : String := "java/lang/StringIndexOutOfBoundsException"
def TJx7c733 : u_T := fun k => match k with
  | 0 => ("java/lang/Throwable", "backtrace", "Ljava/lang/Object;", false)
  | 1 => ("java/lang/Throwable", "detailMessage", "Ljava/lang/String;", false)
  | 2 => ("java/lang/Throwable", "cause", "Ljava/lang/Throwable;", false)
  | 3 => ("java/lang/Throwable", "stackTrace", "[Ljava/lang/StackTraceElement;", false)
  | 4 => ("java/lang/Throwable", "depth", "I", false)
  | _ => ("java/lang/Throwable", "suppressedExceptions", "Ljava/util/List;", false)
def RJ1 : String := "java/lang/StringLatin1"
abbrev cJ1_charAt_3b067 : ByteArray := prog_24_method_2_code
def yJ1_charAt_3b067 : MethodName := ⟨RJ1, "charAt", "([BI)C"⟩
abbrev cJ1_canEncode_fc78d : ByteArray := prog_24_method_3_code
def yJ1_canEncode_fc78d : MethodName := ⟨RJ1, "canEncode", "(C)Z"⟩
def RJ7 : String := "java/util/Arrays"
abbrev cJ7_copyOf_9075b : ByteArray := prog_28_method_121_code
def yJ7_copyOf_9075b : MethodName := ⟨RJ7, "copyOf", "([BI)[B"⟩
def RJ8 : String := "jdk/internal/util/ArraysSupport"
abbrev cJ8_newLength_cabcc : ByteArray := prog_29_method_27_code
def yJ8_newLength_cabcc : MethodName := ⟨RJ8, "newLength", "(III)I"⟩
def RJ3 : String := "jdk/internal/util/Preconditions"
abbrev cJ3_checkIndex_8e157 : ByteArray := prog_30_method_11_code
def yJ3_checkIndex_8e157 : MethodName := ⟨RJ3, "checkIndex", "(IILjava/util/function/BiFunction;)I"⟩
def RL : String := "SheetFolderLaw"
abbrev cL_load : ByteArray := method_3_code
def yL_load : MethodName := ⟨RL, "load", "(LSheetFolder;I[J)I"⟩
abbrev cL_leg : ByteArray := method_4_code
def yL_leg : MethodName := ⟨RL, "leg", "(LSheetFolder;I[J)I"⟩
abbrev cL_isUp : ByteArray := method_5_code
def yL_isUp : MethodName := ⟨RL, "isUp", "(LSheetFolder;I[J)I"⟩
abbrev cL_linePlace : ByteArray := method_6_code
def yL_linePlace : MethodName := ⟨RL, "linePlace", "(LSheetFolder;I[D)I"⟩
abbrev cL_springBackFor : ByteArray := method_7_code
def yL_springBackFor : MethodName := ⟨RL, "springBackFor", "(LSheetFolder;D[D)I"⟩
abbrev cL_tool : ByteArray := method_8_code
def yL_tool : MethodName := ⟨RL, "tool", "(LSheetFolder;II[J)I"⟩
abbrev cL_finishedCorner : ByteArray := method_9_code
def yL_finishedCorner : MethodName := ⟨RL, "finishedCorner", "(LSheetFolder;II[J)I"⟩
abbrev cL_step : ByteArray := method_10_code
def yL_step : MethodName := ⟨RL, "step", "(LSheetFolder;II[J)I"⟩
abbrev cL_reason : ByteArray := method_11_code
def yL_reason : MethodName := ⟨RL, "reason", "(LSheetFolder;II[J)I"⟩
abbrev cL_gauge : ByteArray := method_12_code
def yL_gauge : MethodName := ⟨RL, "gauge", "(LSheetFolder;II[J)I"⟩
abbrev cL_corner : ByteArray := method_13_code
def yL_corner : MethodName := ⟨RL, "corner", "(LSheetFolder;IIII[J)I"⟩
abbrev cL_top : ByteArray := method_14_code
def yL_top : MethodName := ⟨RL, "top", "(LSheetFolder;II[J)I"⟩
abbrev cL_hitting : ByteArray := method_15_code
def yL_hitting : MethodName := ⟨RL, "hitting", "(LSheetFolder;II[J)I"⟩
abbrev cL_refused : ByteArray := method_16_code
def yL_refused : MethodName := ⟨RL, "refused", "(LSheetFolder;I[J)I"⟩
abbrev cL_costOf : ByteArray := method_17_code
def yL_costOf : MethodName := ⟨RL, "costOf", "(LSheetFolder;II[J)I"⟩
abbrev cL_planned : ByteArray := method_18_code
def yL_planned : MethodName := ⟨RL, "planned", "(LSheetFolder;I[J)I"⟩
abbrev cL_ordersWith : ByteArray := method_19_code
def yL_ordersWith : MethodName := ⟨RL, "ordersWith", "(LSheetFolder;II[J)I"⟩
abbrev cL_costIfTurned : ByteArray := method_20_code
def yL_costIfTurned : MethodName := ⟨RL, "costIfTurned", "(LSheetFolder;I[J)I"⟩
abbrev cL_fold : ByteArray := method_21_code
def yL_fold : MethodName := ⟨RL, "fold", "(LSheetFolder;II[J)I"⟩
abbrev cL_foldNext : ByteArray := method_22_code
def yL_foldNext : MethodName := ⟨RL, "foldNext", "(LSheetFolder;[J)I"⟩
abbrev cL_setLeg : ByteArray := method_23_code
def yL_setLeg : MethodName := ⟨RL, "setLeg", "(LSheetFolder;II[J)I"⟩
abbrev cL_setDirection : ByteArray := method_24_code
def yL_setDirection : MethodName := ⟨RL, "setDirection", "(LSheetFolder;IZ[J)I"⟩
abbrev cL_setTool : ByteArray := method_25_code
def yL_setTool : MethodName := ⟨RL, "setTool", "(LSheetFolder;III[J)I"⟩
abbrev cL_setSheet : ByteArray := method_26_code
def yL_setSheet : MethodName := ⟨RL, "setSheet", "(LSheetFolder;III[J)I"⟩
abbrev cL_setCost : ByteArray := method_27_code
def yL_setCost : MethodName := ⟨RL, "setCost", "(LSheetFolder;III[J)I"⟩
abbrev cL_written : ByteArray := method_28_code
def yL_written : MethodName := ⟨RL, "written", "(LSheetFolder;I[J)I"⟩
abbrev cL_law : ByteArray := code
abbrev vwCl : List vw_C := [(RJ0, TJ0, 4), (RJ4, TJ4, 4), (RJx00060, TJx00060, 6), (RJx7c733, TJx7c733, 6), (RX0, TX0, 3), (RX1, TX1, 18), (RX2, TX2, 9), (RX3, TX3, 13), (RX4, TX4, 9), (RX5, TX5, 0), (RX6, TX6, 9), (RX7, TX7, 31)]
end
/-! part 04.dec -/
section
/-! a quick check of decoded instructions, and the tables of all methods -/
theorem dk_u1 {c : ByteArray} {p : Nat} {b : UInt8} (h : c.data.toList[p]? = some b) : (Reader.u1 : Decoder Nat) c p = .ok (b.toNat, p + 1) := by
  have h1 : p < c.data.size := by
    rw [← Array.length_toList]; exact (List.getElem?_eq_some_iff.mp h).1
  have h2 : c.data[p] = b := by
    have := (List.getElem?_eq_some_iff.mp h).2
    rw [← this]; simp
  have h3 : p < c.size := h1
  have h4 : c[p] = b := h2
  have h5 : (Reader.u1 : Decoder Nat) c p = (dite (p < c.size) (fun h => ((do set (p+1); Pure.pure c[p].toNat) : Decoder Nat)) (fun _ => throw (HasTruncated.truncated p))) c p := rfl
  rw [h5, dif_pos h3, h4]; rfl
theorem dk_u2 {c : ByteArray} {p : Nat} {b0 b1 : UInt8} (h0 : c.data.toList[p]? = some b0) (h1 : c.data.toList[p + 1]? = some b1) : (Reader.u2 : Decoder Nat) c p = .ok (b0.toNat * 256 + b1.toNat, p + 2) := by
  show Except.bind ((Reader.u1 : Decoder Nat) c p) _ = _
  rw [dk_u1 h0]
  show Except.bind ((Reader.u1 : Decoder Nat) c (p + 1)) _ = _
  rw [dk_u1 h1]
  rfl
theorem dk_s1 {c : ByteArray} {p : Nat} {b : UInt8} (h : c.data.toList[p]? = some b) : (Reader.s1 : Decoder Int) c p = .ok (Reader.signed 8 b.toNat, p + 1) := by
  show Except.bind ((Reader.u1 : Decoder Nat) c p) _ = _
  rw [dk_u1 h]
  rfl
theorem dk_s2 {c : ByteArray} {p : Nat} {b0 b1 : UInt8} (h0 : c.data.toList[p]? = some b0) (h1 : c.data.toList[p + 1]? = some b1) : (Reader.s2 : Decoder Int) c p = .ok (Reader.signed 16 (b0.toNat * 256 + b1.toNat), p + 2) := by
  show Except.bind ((Reader.u2 : Decoder Nat) c p) _ = _
  rw [dk_u2 h0 h1]
  rfl
theorem dk_dec {c : ByteArray} {p n : Nat} {i : Instr} (h : (Decoder.instr p) c p = .ok (i, p + n)) : decode c p = .ok (i, n) := by
  show (Except.bind ((Decoder.instr p) c p) (fun q => Except.ok (q.1, q.2 - p)) : Except DecodeError (Instr × Nat)) = _
  rw [h]
  show (Except.ok (i, p + n - p) : Except DecodeError (Instr × Nat)) = _
  rw [Nat.add_sub_cancel_left]
theorem dk_aaload {c : ByteArray} {p : Nat} {b0 : UInt8} (h0 : c.data.toList[p]? = some b0) (e : b0.toNat = 50) : (Decoder.instr p) c p = .ok (.aaload, p + 1) := by
  have u0 := dk_u1 h0
  rw [e] at u0
  unfold Decoder.instr
  show Except.bind ((Reader.u1 : Decoder Nat) c p) _ = _
  rw [u0]
  rfl
theorem dk_aastore {c : ByteArray} {p : Nat} {b0 : UInt8} (h0 : c.data.toList[p]? = some b0) (e : b0.toNat = 83) : (Decoder.instr p) c p = .ok (.aastore, p + 1) := by
  have u0 := dk_u1 h0
  rw [e] at u0
  unfold Decoder.instr
  show Except.bind ((Reader.u1 : Decoder Nat) c p) _ = _
  rw [u0]
  rfl
theorem dk_aconst_null {c : ByteArray} {p : Nat} {b0 : UInt8} (h0 : c.data.toList[p]? = some b0) (e : b0.toNat = 1) : (Decoder.instr p) c p = .ok (.aconst_null, p + 1) := by
  have u0 := dk_u1 h0
  rw [e] at u0
  unfold Decoder.instr
  show Except.bind ((Reader.u1 : Decoder Nat) c p) _ = _
  rw [u0]
  rfl
theorem dk_areturn {c : ByteArray} {p : Nat} {b0 : UInt8} (h0 : c.data.toList[p]? = some b0) (e : b0.toNat = 176) : (Decoder.instr p) c p = .ok (.areturn, p + 1) := by
  have u0 := dk_u1 h0
  rw [e] at u0
  unfold Decoder.instr
  show Except.bind ((Reader.u1 : Decoder Nat) c p) _ = _
  rw [u0]
  rfl
theorem dk_arraylength {c : ByteArray} {p : Nat} {b0 : UInt8} (h0 : c.data.toList[p]? = some b0) (e : b0.toNat = 190) : (Decoder.instr p) c p = .ok (.arraylength, p + 1) := by
  have u0 := dk_u1 h0
  rw [e] at u0
  unfold Decoder.instr
  show Except.bind ((Reader.u1 : Decoder Nat) c p) _ = _
  rw [u0]
  rfl
theorem dk_athrow {c : ByteArray} {p : Nat} {b0 : UInt8} (h0 : c.data.toList[p]? = some b0) (e : b0.toNat = 191) : (Decoder.instr p) c p = .ok (.athrow, p + 1) := by
  have u0 := dk_u1 h0
  rw [e] at u0
  unfold Decoder.instr
  show Except.bind ((Reader.u1 : Decoder Nat) c p) _ = _
  rw [u0]
  rfl
theorem dk_baload {c : ByteArray} {p : Nat} {b0 : UInt8} (h0 : c.data.toList[p]? = some b0) (e : b0.toNat = 51) : (Decoder.instr p) c p = .ok (.baload, p + 1) := by
  have u0 := dk_u1 h0
  rw [e] at u0
  unfold Decoder.instr
  show Except.bind ((Reader.u1 : Decoder Nat) c p) _ = _
  rw [u0]
  rfl
theorem dk_bastore {c : ByteArray} {p : Nat} {b0 : UInt8} (h0 : c.data.toList[p]? = some b0) (e : b0.toNat = 84) : (Decoder.instr p) c p = .ok (.bastore, p + 1) := by
  have u0 := dk_u1 h0
  rw [e] at u0
  unfold Decoder.instr
  show Except.bind ((Reader.u1 : Decoder Nat) c p) _ = _
  rw [u0]
  rfl
theorem dk_d2i {c : ByteArray} {p : Nat} {b0 : UInt8} (h0 : c.data.toList[p]? = some b0) (e : b0.toNat = 142) : (Decoder.instr p) c p = .ok (.d2i, p + 1) := by
  have u0 := dk_u1 h0
  rw [e] at u0
  unfold Decoder.instr
  show Except.bind ((Reader.u1 : Decoder Nat) c p) _ = _
  rw [u0]
  rfl
theorem dk_dadd {c : ByteArray} {p : Nat} {b0 : UInt8} (h0 : c.data.toList[p]? = some b0) (e : b0.toNat = 99) : (Decoder.instr p) c p = .ok (.dadd, p + 1) := by
  have u0 := dk_u1 h0
  rw [e] at u0
  unfold Decoder.instr
  show Except.bind ((Reader.u1 : Decoder Nat) c p) _ = _
  rw [u0]
  rfl
theorem dk_dastore {c : ByteArray} {p : Nat} {b0 : UInt8} (h0 : c.data.toList[p]? = some b0) (e : b0.toNat = 82) : (Decoder.instr p) c p = .ok (.dastore, p + 1) := by
  have u0 := dk_u1 h0
  rw [e] at u0
  unfold Decoder.instr
  show Except.bind ((Reader.u1 : Decoder Nat) c p) _ = _
  rw [u0]
  rfl
theorem dk_ddiv {c : ByteArray} {p : Nat} {b0 : UInt8} (h0 : c.data.toList[p]? = some b0) (e : b0.toNat = 111) : (Decoder.instr p) c p = .ok (.ddiv, p + 1) := by
  have u0 := dk_u1 h0
  rw [e] at u0
  unfold Decoder.instr
  show Except.bind ((Reader.u1 : Decoder Nat) c p) _ = _
  rw [u0]
  rfl
theorem dk_dmul {c : ByteArray} {p : Nat} {b0 : UInt8} (h0 : c.data.toList[p]? = some b0) (e : b0.toNat = 107) : (Decoder.instr p) c p = .ok (.dmul, p + 1) := by
  have u0 := dk_u1 h0
  rw [e] at u0
  unfold Decoder.instr
  show Except.bind ((Reader.u1 : Decoder Nat) c p) _ = _
  rw [u0]
  rfl
theorem dk_dreturn {c : ByteArray} {p : Nat} {b0 : UInt8} (h0 : c.data.toList[p]? = some b0) (e : b0.toNat = 175) : (Decoder.instr p) c p = .ok (.dreturn, p + 1) := by
  have u0 := dk_u1 h0
  rw [e] at u0
  unfold Decoder.instr
  show Except.bind ((Reader.u1 : Decoder Nat) c p) _ = _
  rw [u0]
  rfl
theorem dk_dsub {c : ByteArray} {p : Nat} {b0 : UInt8} (h0 : c.data.toList[p]? = some b0) (e : b0.toNat = 103) : (Decoder.instr p) c p = .ok (.dsub, p + 1) := by
  have u0 := dk_u1 h0
  rw [e] at u0
  unfold Decoder.instr
  show Except.bind ((Reader.u1 : Decoder Nat) c p) _ = _
  rw [u0]
  rfl
theorem dk_dup {c : ByteArray} {p : Nat} {b0 : UInt8} (h0 : c.data.toList[p]? = some b0) (e : b0.toNat = 89) : (Decoder.instr p) c p = .ok (.dup, p + 1) := by
  have u0 := dk_u1 h0
  rw [e] at u0
  unfold Decoder.instr
  show Except.bind ((Reader.u1 : Decoder Nat) c p) _ = _
  rw [u0]
  rfl
theorem dk_dup2 {c : ByteArray} {p : Nat} {b0 : UInt8} (h0 : c.data.toList[p]? = some b0) (e : b0.toNat = 92) : (Decoder.instr p) c p = .ok (.dup2, p + 1) := by
  have u0 := dk_u1 h0
  rw [e] at u0
  unfold Decoder.instr
  show Except.bind ((Reader.u1 : Decoder Nat) c p) _ = _
  rw [u0]
  rfl
theorem dk_dup_x1 {c : ByteArray} {p : Nat} {b0 : UInt8} (h0 : c.data.toList[p]? = some b0) (e : b0.toNat = 90) : (Decoder.instr p) c p = .ok (.dup_x1, p + 1) := by
  have u0 := dk_u1 h0
  rw [e] at u0
  unfold Decoder.instr
  show Except.bind ((Reader.u1 : Decoder Nat) c p) _ = _
  rw [u0]
  rfl
theorem dk_i2b {c : ByteArray} {p : Nat} {b0 : UInt8} (h0 : c.data.toList[p]? = some b0) (e : b0.toNat = 145) : (Decoder.instr p) c p = .ok (.i2b, p + 1) := by
  have u0 := dk_u1 h0
  rw [e] at u0
  unfold Decoder.instr
  show Except.bind ((Reader.u1 : Decoder Nat) c p) _ = _
  rw [u0]
  rfl
theorem dk_i2c {c : ByteArray} {p : Nat} {b0 : UInt8} (h0 : c.data.toList[p]? = some b0) (e : b0.toNat = 146) : (Decoder.instr p) c p = .ok (.i2c, p + 1) := by
  have u0 := dk_u1 h0
  rw [e] at u0
  unfold Decoder.instr
  show Except.bind ((Reader.u1 : Decoder Nat) c p) _ = _
  rw [u0]
  rfl
theorem dk_i2d {c : ByteArray} {p : Nat} {b0 : UInt8} (h0 : c.data.toList[p]? = some b0) (e : b0.toNat = 135) : (Decoder.instr p) c p = .ok (.i2d, p + 1) := by
  have u0 := dk_u1 h0
  rw [e] at u0
  unfold Decoder.instr
  show Except.bind ((Reader.u1 : Decoder Nat) c p) _ = _
  rw [u0]
  rfl
theorem dk_i2l {c : ByteArray} {p : Nat} {b0 : UInt8} (h0 : c.data.toList[p]? = some b0) (e : b0.toNat = 133) : (Decoder.instr p) c p = .ok (.i2l, p + 1) := by
  have u0 := dk_u1 h0
  rw [e] at u0
  unfold Decoder.instr
  show Except.bind ((Reader.u1 : Decoder Nat) c p) _ = _
  rw [u0]
  rfl
theorem dk_iadd {c : ByteArray} {p : Nat} {b0 : UInt8} (h0 : c.data.toList[p]? = some b0) (e : b0.toNat = 96) : (Decoder.instr p) c p = .ok (.iadd, p + 1) := by
  have u0 := dk_u1 h0
  rw [e] at u0
  unfold Decoder.instr
  show Except.bind ((Reader.u1 : Decoder Nat) c p) _ = _
  rw [u0]
  rfl
theorem dk_iaload {c : ByteArray} {p : Nat} {b0 : UInt8} (h0 : c.data.toList[p]? = some b0) (e : b0.toNat = 46) : (Decoder.instr p) c p = .ok (.iaload, p + 1) := by
  have u0 := dk_u1 h0
  rw [e] at u0
  unfold Decoder.instr
  show Except.bind ((Reader.u1 : Decoder Nat) c p) _ = _
  rw [u0]
  rfl
theorem dk_iand {c : ByteArray} {p : Nat} {b0 : UInt8} (h0 : c.data.toList[p]? = some b0) (e : b0.toNat = 126) : (Decoder.instr p) c p = .ok (.iand, p + 1) := by
  have u0 := dk_u1 h0
  rw [e] at u0
  unfold Decoder.instr
  show Except.bind ((Reader.u1 : Decoder Nat) c p) _ = _
  rw [u0]
  rfl
theorem dk_iastore {c : ByteArray} {p : Nat} {b0 : UInt8} (h0 : c.data.toList[p]? = some b0) (e : b0.toNat = 79) : (Decoder.instr p) c p = .ok (.iastore, p + 1) := by
  have u0 := dk_u1 h0
  rw [e] at u0
  unfold Decoder.instr
  show Except.bind ((Reader.u1 : Decoder Nat) c p) _ = _
  rw [u0]
  rfl
theorem dk_idiv {c : ByteArray} {p : Nat} {b0 : UInt8} (h0 : c.data.toList[p]? = some b0) (e : b0.toNat = 108) : (Decoder.instr p) c p = .ok (.idiv, p + 1) := by
  have u0 := dk_u1 h0
  rw [e] at u0
  unfold Decoder.instr
  show Except.bind ((Reader.u1 : Decoder Nat) c p) _ = _
  rw [u0]
  rfl
theorem dk_imul {c : ByteArray} {p : Nat} {b0 : UInt8} (h0 : c.data.toList[p]? = some b0) (e : b0.toNat = 104) : (Decoder.instr p) c p = .ok (.imul, p + 1) := by
  have u0 := dk_u1 h0
  rw [e] at u0
  unfold Decoder.instr
  show Except.bind ((Reader.u1 : Decoder Nat) c p) _ = _
  rw [u0]
  rfl
theorem dk_ineg {c : ByteArray} {p : Nat} {b0 : UInt8} (h0 : c.data.toList[p]? = some b0) (e : b0.toNat = 116) : (Decoder.instr p) c p = .ok (.ineg, p + 1) := by
  have u0 := dk_u1 h0
  rw [e] at u0
  unfold Decoder.instr
  show Except.bind ((Reader.u1 : Decoder Nat) c p) _ = _
  rw [u0]
  rfl
theorem dk_ior {c : ByteArray} {p : Nat} {b0 : UInt8} (h0 : c.data.toList[p]? = some b0) (e : b0.toNat = 128) : (Decoder.instr p) c p = .ok (.ior, p + 1) := by
  have u0 := dk_u1 h0
  rw [e] at u0
  unfold Decoder.instr
  show Except.bind ((Reader.u1 : Decoder Nat) c p) _ = _
  rw [u0]
  rfl
theorem dk_irem {c : ByteArray} {p : Nat} {b0 : UInt8} (h0 : c.data.toList[p]? = some b0) (e : b0.toNat = 112) : (Decoder.instr p) c p = .ok (.irem, p + 1) := by
  have u0 := dk_u1 h0
  rw [e] at u0
  unfold Decoder.instr
  show Except.bind ((Reader.u1 : Decoder Nat) c p) _ = _
  rw [u0]
  rfl
theorem dk_ireturn {c : ByteArray} {p : Nat} {b0 : UInt8} (h0 : c.data.toList[p]? = some b0) (e : b0.toNat = 172) : (Decoder.instr p) c p = .ok (.ireturn, p + 1) := by
  have u0 := dk_u1 h0
  rw [e] at u0
  unfold Decoder.instr
  show Except.bind ((Reader.u1 : Decoder Nat) c p) _ = _
  rw [u0]
  rfl
theorem dk_ishl {c : ByteArray} {p : Nat} {b0 : UInt8} (h0 : c.data.toList[p]? = some b0) (e : b0.toNat = 120) : (Decoder.instr p) c p = .ok (.ishl, p + 1) := by
  have u0 := dk_u1 h0
  rw [e] at u0
  unfold Decoder.instr
  show Except.bind ((Reader.u1 : Decoder Nat) c p) _ = _
  rw [u0]
  rfl
theorem dk_ishr {c : ByteArray} {p : Nat} {b0 : UInt8} (h0 : c.data.toList[p]? = some b0) (e : b0.toNat = 122) : (Decoder.instr p) c p = .ok (.ishr, p + 1) := by
  have u0 := dk_u1 h0
  rw [e] at u0
  unfold Decoder.instr
  show Except.bind ((Reader.u1 : Decoder Nat) c p) _ = _
  rw [u0]
  rfl
theorem dk_isub {c : ByteArray} {p : Nat} {b0 : UInt8} (h0 : c.data.toList[p]? = some b0) (e : b0.toNat = 100) : (Decoder.instr p) c p = .ok (.isub, p + 1) := by
  have u0 := dk_u1 h0
  rw [e] at u0
  unfold Decoder.instr
  show Except.bind ((Reader.u1 : Decoder Nat) c p) _ = _
  rw [u0]
  rfl
theorem dk_iushr {c : ByteArray} {p : Nat} {b0 : UInt8} (h0 : c.data.toList[p]? = some b0) (e : b0.toNat = 124) : (Decoder.instr p) c p = .ok (.iushr, p + 1) := by
  have u0 := dk_u1 h0
  rw [e] at u0
  unfold Decoder.instr
  show Except.bind ((Reader.u1 : Decoder Nat) c p) _ = _
  rw [u0]
  rfl
theorem dk_ixor {c : ByteArray} {p : Nat} {b0 : UInt8} (h0 : c.data.toList[p]? = some b0) (e : b0.toNat = 130) : (Decoder.instr p) c p = .ok (.ixor, p + 1) := by
  have u0 := dk_u1 h0
  rw [e] at u0
  unfold Decoder.instr
  show Except.bind ((Reader.u1 : Decoder Nat) c p) _ = _
  rw [u0]
  rfl
theorem dk_ladd {c : ByteArray} {p : Nat} {b0 : UInt8} (h0 : c.data.toList[p]? = some b0) (e : b0.toNat = 97) : (Decoder.instr p) c p = .ok (.ladd, p + 1) := by
  have u0 := dk_u1 h0
  rw [e] at u0
  unfold Decoder.instr
  show Except.bind ((Reader.u1 : Decoder Nat) c p) _ = _
  rw [u0]
  rfl
theorem dk_laload {c : ByteArray} {p : Nat} {b0 : UInt8} (h0 : c.data.toList[p]? = some b0) (e : b0.toNat = 47) : (Decoder.instr p) c p = .ok (.laload, p + 1) := by
  have u0 := dk_u1 h0
  rw [e] at u0
  unfold Decoder.instr
  show Except.bind ((Reader.u1 : Decoder Nat) c p) _ = _
  rw [u0]
  rfl
theorem dk_lastore {c : ByteArray} {p : Nat} {b0 : UInt8} (h0 : c.data.toList[p]? = some b0) (e : b0.toNat = 80) : (Decoder.instr p) c p = .ok (.lastore, p + 1) := by
  have u0 := dk_u1 h0
  rw [e] at u0
  unfold Decoder.instr
  show Except.bind ((Reader.u1 : Decoder Nat) c p) _ = _
  rw [u0]
  rfl
theorem dk_lcmp {c : ByteArray} {p : Nat} {b0 : UInt8} (h0 : c.data.toList[p]? = some b0) (e : b0.toNat = 148) : (Decoder.instr p) c p = .ok (.lcmp, p + 1) := by
  have u0 := dk_u1 h0
  rw [e] at u0
  unfold Decoder.instr
  show Except.bind ((Reader.u1 : Decoder Nat) c p) _ = _
  rw [u0]
  rfl
theorem dk_lreturn {c : ByteArray} {p : Nat} {b0 : UInt8} (h0 : c.data.toList[p]? = some b0) (e : b0.toNat = 173) : (Decoder.instr p) c p = .ok (.lreturn, p + 1) := by
  have u0 := dk_u1 h0
  rw [e] at u0
  unfold Decoder.instr
  show Except.bind ((Reader.u1 : Decoder Nat) c p) _ = _
  rw [u0]
  rfl
theorem dk_pop {c : ByteArray} {p : Nat} {b0 : UInt8} (h0 : c.data.toList[p]? = some b0) (e : b0.toNat = 87) : (Decoder.instr p) c p = .ok (.pop, p + 1) := by
  have u0 := dk_u1 h0
  rw [e] at u0
  unfold Decoder.instr
  show Except.bind ((Reader.u1 : Decoder Nat) c p) _ = _
  rw [u0]
  rfl
theorem dk_pop2 {c : ByteArray} {p : Nat} {b0 : UInt8} (h0 : c.data.toList[p]? = some b0) (e : b0.toNat = 88) : (Decoder.instr p) c p = .ok (.pop2, p + 1) := by
  have u0 := dk_u1 h0
  rw [e] at u0
  unfold Decoder.instr
  show Except.bind ((Reader.u1 : Decoder Nat) c p) _ = _
  rw [u0]
  rfl
theorem dk_return_ {c : ByteArray} {p : Nat} {b0 : UInt8} (h0 : c.data.toList[p]? = some b0) (e : b0.toNat = 177) : (Decoder.instr p) c p = .ok (.return_, p + 1) := by
  have u0 := dk_u1 h0
  rw [e] at u0
  unfold Decoder.instr
  show Except.bind ((Reader.u1 : Decoder Nat) c p) _ = _
  rw [u0]
  rfl
theorem dk_aload_n0 {c : ByteArray} {p : Nat} {b0 : UInt8} (h0 : c.data.toList[p]? = some b0) (e : b0.toNat = 42) : (Decoder.instr p) c p = .ok (.aload_n 0, p + 1) := by
  have u0 := dk_u1 h0
  rw [e] at u0
  unfold Decoder.instr
  show Except.bind ((Reader.u1 : Decoder Nat) c p) _ = _
  rw [u0]
  rfl
theorem dk_aload_n1 {c : ByteArray} {p : Nat} {b0 : UInt8} (h0 : c.data.toList[p]? = some b0) (e : b0.toNat = 43) : (Decoder.instr p) c p = .ok (.aload_n 1, p + 1) := by
  have u0 := dk_u1 h0
  rw [e] at u0
  unfold Decoder.instr
  show Except.bind ((Reader.u1 : Decoder Nat) c p) _ = _
  rw [u0]
  rfl
theorem dk_aload_n2 {c : ByteArray} {p : Nat} {b0 : UInt8} (h0 : c.data.toList[p]? = some b0) (e : b0.toNat = 44) : (Decoder.instr p) c p = .ok (.aload_n 2, p + 1) := by
  have u0 := dk_u1 h0
  rw [e] at u0
  unfold Decoder.instr
  show Except.bind ((Reader.u1 : Decoder Nat) c p) _ = _
  rw [u0]
  rfl
theorem dk_aload_n3 {c : ByteArray} {p : Nat} {b0 : UInt8} (h0 : c.data.toList[p]? = some b0) (e : b0.toNat = 45) : (Decoder.instr p) c p = .ok (.aload_n 3, p + 1) := by
  have u0 := dk_u1 h0
  rw [e] at u0
  unfold Decoder.instr
  show Except.bind ((Reader.u1 : Decoder Nat) c p) _ = _
  rw [u0]
  rfl
theorem dk_astore_n0 {c : ByteArray} {p : Nat} {b0 : UInt8} (h0 : c.data.toList[p]? = some b0) (e : b0.toNat = 75) : (Decoder.instr p) c p = .ok (.astore_n 0, p + 1) := by
  have u0 := dk_u1 h0
  rw [e] at u0
  unfold Decoder.instr
  show Except.bind ((Reader.u1 : Decoder Nat) c p) _ = _
  rw [u0]
  rfl
theorem dk_astore_n1 {c : ByteArray} {p : Nat} {b0 : UInt8} (h0 : c.data.toList[p]? = some b0) (e : b0.toNat = 76) : (Decoder.instr p) c p = .ok (.astore_n 1, p + 1) := by
  have u0 := dk_u1 h0
  rw [e] at u0
  unfold Decoder.instr
  show Except.bind ((Reader.u1 : Decoder Nat) c p) _ = _
  rw [u0]
  rfl
theorem dk_astore_n2 {c : ByteArray} {p : Nat} {b0 : UInt8} (h0 : c.data.toList[p]? = some b0) (e : b0.toNat = 77) : (Decoder.instr p) c p = .ok (.astore_n 2, p + 1) := by
  have u0 := dk_u1 h0
  rw [e] at u0
  unfold Decoder.instr
  show Except.bind ((Reader.u1 : Decoder Nat) c p) _ = _
  rw [u0]
  rfl
theorem dk_astore_n3 {c : ByteArray} {p : Nat} {b0 : UInt8} (h0 : c.data.toList[p]? = some b0) (e : b0.toNat = 78) : (Decoder.instr p) c p = .ok (.astore_n 3, p + 1) := by
  have u0 := dk_u1 h0
  rw [e] at u0
  unfold Decoder.instr
  show Except.bind ((Reader.u1 : Decoder Nat) c p) _ = _
  rw [u0]
  rfl
theorem dk_dconst0 {c : ByteArray} {p : Nat} {b0 : UInt8} (h0 : c.data.toList[p]? = some b0) (e : b0.toNat = 14) : (Decoder.instr p) c p = .ok (.dconst 0, p + 1) := by
  have u0 := dk_u1 h0
  rw [e] at u0
  unfold Decoder.instr
  show Except.bind ((Reader.u1 : Decoder Nat) c p) _ = _
  rw [u0]
  rfl
theorem dk_dconst1 {c : ByteArray} {p : Nat} {b0 : UInt8} (h0 : c.data.toList[p]? = some b0) (e : b0.toNat = 15) : (Decoder.instr p) c p = .ok (.dconst 1, p + 1) := by
  have u0 := dk_u1 h0
  rw [e] at u0
  unfold Decoder.instr
  show Except.bind ((Reader.u1 : Decoder Nat) c p) _ = _
  rw [u0]
  rfl
theorem dk_dload_n0 {c : ByteArray} {p : Nat} {b0 : UInt8} (h0 : c.data.toList[p]? = some b0) (e : b0.toNat = 38) : (Decoder.instr p) c p = .ok (.dload_n 0, p + 1) := by
  have u0 := dk_u1 h0
  rw [e] at u0
  unfold Decoder.instr
  show Except.bind ((Reader.u1 : Decoder Nat) c p) _ = _
  rw [u0]
  rfl
theorem dk_dload_n1 {c : ByteArray} {p : Nat} {b0 : UInt8} (h0 : c.data.toList[p]? = some b0) (e : b0.toNat = 39) : (Decoder.instr p) c p = .ok (.dload_n 1, p + 1) := by
  have u0 := dk_u1 h0
  rw [e] at u0
  unfold Decoder.instr
  show Except.bind ((Reader.u1 : Decoder Nat) c p) _ = _
  rw [u0]
  rfl
theorem dk_dload_n2 {c : ByteArray} {p : Nat} {b0 : UInt8} (h0 : c.data.toList[p]? = some b0) (e : b0.toNat = 40) : (Decoder.instr p) c p = .ok (.dload_n 2, p + 1) := by
  have u0 := dk_u1 h0
  rw [e] at u0
  unfold Decoder.instr
  show Except.bind ((Reader.u1 : Decoder Nat) c p) _ = _
  rw [u0]
  rfl
theorem dk_dload_n3 {c : ByteArray} {p : Nat} {b0 : UInt8} (h0 : c.data.toList[p]? = some b0) (e : b0.toNat = 41) : (Decoder.instr p) c p = .ok (.dload_n 3, p + 1) := by
  have u0 := dk_u1 h0
  rw [e] at u0
  unfold Decoder.instr
  show Except.bind ((Reader.u1 : Decoder Nat) c p) _ = _
  rw [u0]
  rfl
theorem dk_dstore_n0 {c : ByteArray} {p : Nat} {b0 : UInt8} (h0 : c.data.toList[p]? = some b0) (e : b0.toNat = 71) : (Decoder.instr p) c p = .ok (.dstore_n 0, p + 1) := by
  have u0 := dk_u1 h0
  rw [e] at u0
  unfold Decoder.instr
  show Except.bind ((Reader.u1 : Decoder Nat) c p) _ = _
  rw [u0]
  rfl
theorem dk_dstore_n1 {c : ByteArray} {p : Nat} {b0 : UInt8} (h0 : c.data.toList[p]? = some b0) (e : b0.toNat = 72) : (Decoder.instr p) c p = .ok (.dstore_n 1, p + 1) := by
  have u0 := dk_u1 h0
  rw [e] at u0
  unfold Decoder.instr
  show Except.bind ((Reader.u1 : Decoder Nat) c p) _ = _
  rw [u0]
  rfl
theorem dk_dstore_n2 {c : ByteArray} {p : Nat} {b0 : UInt8} (h0 : c.data.toList[p]? = some b0) (e : b0.toNat = 73) : (Decoder.instr p) c p = .ok (.dstore_n 2, p + 1) := by
  have u0 := dk_u1 h0
  rw [e] at u0
  unfold Decoder.instr
  show Except.bind ((Reader.u1 : Decoder Nat) c p) _ = _
  rw [u0]
  rfl
theorem dk_dstore_n3 {c : ByteArray} {p : Nat} {b0 : UInt8} (h0 : c.data.toList[p]? = some b0) (e : b0.toNat = 74) : (Decoder.instr p) c p = .ok (.dstore_n 3, p + 1) := by
  have u0 := dk_u1 h0
  rw [e] at u0
  unfold Decoder.instr
  show Except.bind ((Reader.u1 : Decoder Nat) c p) _ = _
  rw [u0]
  rfl
theorem dk_iload_n0 {c : ByteArray} {p : Nat} {b0 : UInt8} (h0 : c.data.toList[p]? = some b0) (e : b0.toNat = 26) : (Decoder.instr p) c p = .ok (.iload_n 0, p + 1) := by
  have u0 := dk_u1 h0
  rw [e] at u0
  unfold Decoder.instr
  show Except.bind ((Reader.u1 : Decoder Nat) c p) _ = _
  rw [u0]
  rfl
theorem dk_iload_n1 {c : ByteArray} {p : Nat} {b0 : UInt8} (h0 : c.data.toList[p]? = some b0) (e : b0.toNat = 27) : (Decoder.instr p) c p = .ok (.iload_n 1, p + 1) := by
  have u0 := dk_u1 h0
  rw [e] at u0
  unfold Decoder.instr
  show Except.bind ((Reader.u1 : Decoder Nat) c p) _ = _
  rw [u0]
  rfl
theorem dk_iload_n2 {c : ByteArray} {p : Nat} {b0 : UInt8} (h0 : c.data.toList[p]? = some b0) (e : b0.toNat = 28) : (Decoder.instr p) c p = .ok (.iload_n 2, p + 1) := by
  have u0 := dk_u1 h0
  rw [e] at u0
  unfold Decoder.instr
  show Except.bind ((Reader.u1 : Decoder Nat) c p) _ = _
  rw [u0]
  rfl
theorem dk_iload_n3 {c : ByteArray} {p : Nat} {b0 : UInt8} (h0 : c.data.toList[p]? = some b0) (e : b0.toNat = 29) : (Decoder.instr p) c p = .ok (.iload_n 3, p + 1) := by
  have u0 := dk_u1 h0
  rw [e] at u0
  unfold Decoder.instr
  show Except.bind ((Reader.u1 : Decoder Nat) c p) _ = _
  rw [u0]
  rfl
theorem dk_istore_n0 {c : ByteArray} {p : Nat} {b0 : UInt8} (h0 : c.data.toList[p]? = some b0) (e : b0.toNat = 59) : (Decoder.instr p) c p = .ok (.istore_n 0, p + 1) := by
  have u0 := dk_u1 h0
  rw [e] at u0
  unfold Decoder.instr
  show Except.bind ((Reader.u1 : Decoder Nat) c p) _ = _
  rw [u0]
  rfl
theorem dk_istore_n1 {c : ByteArray} {p : Nat} {b0 : UInt8} (h0 : c.data.toList[p]? = some b0) (e : b0.toNat = 60) : (Decoder.instr p) c p = .ok (.istore_n 1, p + 1) := by
  have u0 := dk_u1 h0
  rw [e] at u0
  unfold Decoder.instr
  show Except.bind ((Reader.u1 : Decoder Nat) c p) _ = _
  rw [u0]
  rfl
theorem dk_istore_n2 {c : ByteArray} {p : Nat} {b0 : UInt8} (h0 : c.data.toList[p]? = some b0) (e : b0.toNat = 61) : (Decoder.instr p) c p = .ok (.istore_n 2, p + 1) := by
  have u0 := dk_u1 h0
  rw [e] at u0
  unfold Decoder.instr
  show Except.bind ((Reader.u1 : Decoder Nat) c p) _ = _
  rw [u0]
  rfl
theorem dk_istore_n3 {c : ByteArray} {p : Nat} {b0 : UInt8} (h0 : c.data.toList[p]? = some b0) (e : b0.toNat = 62) : (Decoder.instr p) c p = .ok (.istore_n 3, p + 1) := by
  have u0 := dk_u1 h0
  rw [e] at u0
  unfold Decoder.instr
  show Except.bind ((Reader.u1 : Decoder Nat) c p) _ = _
  rw [u0]
  rfl
theorem dk_lconst0 {c : ByteArray} {p : Nat} {b0 : UInt8} (h0 : c.data.toList[p]? = some b0) (e : b0.toNat = 9) : (Decoder.instr p) c p = .ok (.lconst 0, p + 1) := by
  have u0 := dk_u1 h0
  rw [e] at u0
  unfold Decoder.instr
  show Except.bind ((Reader.u1 : Decoder Nat) c p) _ = _
  rw [u0]
  rfl
theorem dk_lconst1 {c : ByteArray} {p : Nat} {b0 : UInt8} (h0 : c.data.toList[p]? = some b0) (e : b0.toNat = 10) : (Decoder.instr p) c p = .ok (.lconst 1, p + 1) := by
  have u0 := dk_u1 h0
  rw [e] at u0
  unfold Decoder.instr
  show Except.bind ((Reader.u1 : Decoder Nat) c p) _ = _
  rw [u0]
  rfl
theorem dk_lload_n0 {c : ByteArray} {p : Nat} {b0 : UInt8} (h0 : c.data.toList[p]? = some b0) (e : b0.toNat = 30) : (Decoder.instr p) c p = .ok (.lload_n 0, p + 1) := by
  have u0 := dk_u1 h0
  rw [e] at u0
  unfold Decoder.instr
  show Except.bind ((Reader.u1 : Decoder Nat) c p) _ = _
  rw [u0]
  rfl
theorem dk_lload_n1 {c : ByteArray} {p : Nat} {b0 : UInt8} (h0 : c.data.toList[p]? = some b0) (e : b0.toNat = 31) : (Decoder.instr p) c p = .ok (.lload_n 1, p + 1) := by
  have u0 := dk_u1 h0
  rw [e] at u0
  unfold Decoder.instr
  show Except.bind ((Reader.u1 : Decoder Nat) c p) _ = _
  rw [u0]
  rfl
theorem dk_lload_n2 {c : ByteArray} {p : Nat} {b0 : UInt8} (h0 : c.data.toList[p]? = some b0) (e : b0.toNat = 32) : (Decoder.instr p) c p = .ok (.lload_n 2, p + 1) := by
  have u0 := dk_u1 h0
  rw [e] at u0
  unfold Decoder.instr
  show Except.bind ((Reader.u1 : Decoder Nat) c p) _ = _
  rw [u0]
  rfl
theorem dk_lload_n3 {c : ByteArray} {p : Nat} {b0 : UInt8} (h0 : c.data.toList[p]? = some b0) (e : b0.toNat = 33) : (Decoder.instr p) c p = .ok (.lload_n 3, p + 1) := by
  have u0 := dk_u1 h0
  rw [e] at u0
  unfold Decoder.instr
  show Except.bind ((Reader.u1 : Decoder Nat) c p) _ = _
  rw [u0]
  rfl
theorem dk_aload {c : ByteArray} {p : Nat} {b0 b1 : UInt8} (h0 : c.data.toList[p]? = some b0) (h1 : c.data.toList[p + 1]? = some b1) (e : b0.toNat = 25) : (Decoder.instr p) c p = .ok (.aload b1.toNat, p + 2) := by
  have u0 := dk_u1 h0
  rw [e] at u0
  unfold Decoder.instr
  show Except.bind ((Reader.u1 : Decoder Nat) c p) _ = _
  rw [u0]
  show Except.bind ((Reader.u1 : Decoder Nat) c (p + 1)) _ = _
  rw [dk_u1 h1]
  rfl
theorem dk_astore {c : ByteArray} {p : Nat} {b0 b1 : UInt8} (h0 : c.data.toList[p]? = some b0) (h1 : c.data.toList[p + 1]? = some b1) (e : b0.toNat = 58) : (Decoder.instr p) c p = .ok (.astore b1.toNat, p + 2) := by
  have u0 := dk_u1 h0
  rw [e] at u0
  unfold Decoder.instr
  show Except.bind ((Reader.u1 : Decoder Nat) c p) _ = _
  rw [u0]
  show Except.bind ((Reader.u1 : Decoder Nat) c (p + 1)) _ = _
  rw [dk_u1 h1]
  rfl
theorem dk_dload {c : ByteArray} {p : Nat} {b0 b1 : UInt8} (h0 : c.data.toList[p]? = some b0) (h1 : c.data.toList[p + 1]? = some b1) (e : b0.toNat = 24) : (Decoder.instr p) c p = .ok (.dload b1.toNat, p + 2) := by
  have u0 := dk_u1 h0
  rw [e] at u0
  unfold Decoder.instr
  show Except.bind ((Reader.u1 : Decoder Nat) c p) _ = _
  rw [u0]
  show Except.bind ((Reader.u1 : Decoder Nat) c (p + 1)) _ = _
  rw [dk_u1 h1]
  rfl
theorem dk_dstore {c : ByteArray} {p : Nat} {b0 b1 : UInt8} (h0 : c.data.toList[p]? = some b0) (h1 : c.data.toList[p + 1]? = some b1) (e : b0.toNat = 57) : (Decoder.instr p) c p = .ok (.dstore b1.toNat, p + 2) := by
  have u0 := dk_u1 h0
  rw [e] at u0
  unfold Decoder.instr
  show Except.bind ((Reader.u1 : Decoder Nat) c p) _ = _
  rw [u0]
  show Except.bind ((Reader.u1 : Decoder Nat) c (p + 1)) _ = _
  rw [dk_u1 h1]
  rfl
theorem dk_iload {c : ByteArray} {p : Nat} {b0 b1 : UInt8} (h0 : c.data.toList[p]? = some b0) (h1 : c.data.toList[p + 1]? = some b1) (e : b0.toNat = 21) : (Decoder.instr p) c p = .ok (.iload b1.toNat, p + 2) := by
  have u0 := dk_u1 h0
  rw [e] at u0
  unfold Decoder.instr
  show Except.bind ((Reader.u1 : Decoder Nat) c p) _ = _
  rw [u0]
  show Except.bind ((Reader.u1 : Decoder Nat) c (p + 1)) _ = _
  rw [dk_u1 h1]
  rfl
theorem dk_istore {c : ByteArray} {p : Nat} {b0 b1 : UInt8} (h0 : c.data.toList[p]? = some b0) (h1 : c.data.toList[p + 1]? = some b1) (e : b0.toNat = 54) : (Decoder.instr p) c p = .ok (.istore b1.toNat, p + 2) := by
  have u0 := dk_u1 h0
  rw [e] at u0
  unfold Decoder.instr
  show Except.bind ((Reader.u1 : Decoder Nat) c p) _ = _
  rw [u0]
  show Except.bind ((Reader.u1 : Decoder Nat) c (p + 1)) _ = _
  rw [dk_u1 h1]
  rfl
theorem dk_ldc {c : ByteArray} {p : Nat} {b0 b1 : UInt8} (h0 : c.data.toList[p]? = some b0) (h1 : c.data.toList[p + 1]? = some b1) (e : b0.toNat = 18) : (Decoder.instr p) c p = .ok (.ldc b1.toNat, p + 2) := by
  have u0 := dk_u1 h0
  rw [e] at u0
  unfold Decoder.instr
  show Except.bind ((Reader.u1 : Decoder Nat) c p) _ = _
  rw [u0]
  show Except.bind ((Reader.u1 : Decoder Nat) c (p + 1)) _ = _
  rw [dk_u1 h1]
  rfl
theorem dk_lload {c : ByteArray} {p : Nat} {b0 b1 : UInt8} (h0 : c.data.toList[p]? = some b0) (h1 : c.data.toList[p + 1]? = some b1) (e : b0.toNat = 22) : (Decoder.instr p) c p = .ok (.lload b1.toNat, p + 2) := by
  have u0 := dk_u1 h0
  rw [e] at u0
  unfold Decoder.instr
  show Except.bind ((Reader.u1 : Decoder Nat) c p) _ = _
  rw [u0]
  show Except.bind ((Reader.u1 : Decoder Nat) c (p + 1)) _ = _
  rw [dk_u1 h1]
  rfl
theorem dk_lstore {c : ByteArray} {p : Nat} {b0 b1 : UInt8} (h0 : c.data.toList[p]? = some b0) (h1 : c.data.toList[p + 1]? = some b1) (e : b0.toNat = 55) : (Decoder.instr p) c p = .ok (.lstore b1.toNat, p + 2) := by
  have u0 := dk_u1 h0
  rw [e] at u0
  unfold Decoder.instr
  show Except.bind ((Reader.u1 : Decoder Nat) c p) _ = _
  rw [u0]
  show Except.bind ((Reader.u1 : Decoder Nat) c (p + 1)) _ = _
  rw [dk_u1 h1]
  rfl
theorem dk_bipush {c : ByteArray} {p : Nat} {b0 b1 : UInt8} (h0 : c.data.toList[p]? = some b0) (h1 : c.data.toList[p + 1]? = some b1) (e : b0.toNat = 16) : (Decoder.instr p) c p = .ok (.bipush (Reader.signed 8 b1.toNat), p + 2) := by
  have u0 := dk_u1 h0
  rw [e] at u0
  unfold Decoder.instr
  show Except.bind ((Reader.u1 : Decoder Nat) c p) _ = _
  rw [u0]
  show Except.bind ((Reader.s1 : Decoder Int) c (p + 1)) _ = _
  rw [dk_s1 h1]
  rfl
theorem dk_anewarray {c : ByteArray} {p : Nat} {b0 b1 b2 : UInt8} (h0 : c.data.toList[p]? = some b0) (h1 : c.data.toList[p + 1]? = some b1) (h2 : c.data.toList[p + 2]? = some b2) (e : b0.toNat = 189) : (Decoder.instr p) c p = .ok (.anewarray (b1.toNat * 256 + b2.toNat), p + 3) := by
  have u0 := dk_u1 h0
  rw [e] at u0
  unfold Decoder.instr
  show Except.bind ((Reader.u1 : Decoder Nat) c p) _ = _
  rw [u0]
  show Except.bind ((Reader.u2 : Decoder Nat) c (p + 1)) _ = _
  rw [dk_u2 h1 h2]
  rfl
theorem dk_checkcast {c : ByteArray} {p : Nat} {b0 b1 b2 : UInt8} (h0 : c.data.toList[p]? = some b0) (h1 : c.data.toList[p + 1]? = some b1) (h2 : c.data.toList[p + 2]? = some b2) (e : b0.toNat = 192) : (Decoder.instr p) c p = .ok (.checkcast (b1.toNat * 256 + b2.toNat), p + 3) := by
  have u0 := dk_u1 h0
  rw [e] at u0
  unfold Decoder.instr
  show Except.bind ((Reader.u1 : Decoder Nat) c p) _ = _
  rw [u0]
  show Except.bind ((Reader.u2 : Decoder Nat) c (p + 1)) _ = _
  rw [dk_u2 h1 h2]
  rfl
theorem dk_getfield {c : ByteArray} {p : Nat} {b0 b1 b2 : UInt8} (h0 : c.data.toList[p]? = some b0) (h1 : c.data.toList[p + 1]? = some b1) (h2 : c.data.toList[p + 2]? = some b2) (e : b0.toNat = 180) : (Decoder.instr p) c p = .ok (.getfield (b1.toNat * 256 + b2.toNat), p + 3) := by
  have u0 := dk_u1 h0
  rw [e] at u0
  unfold Decoder.instr
  show Except.bind ((Reader.u1 : Decoder Nat) c p) _ = _
  rw [u0]
  show Except.bind ((Reader.u2 : Decoder Nat) c (p + 1)) _ = _
  rw [dk_u2 h1 h2]
  rfl
theorem dk_getstatic {c : ByteArray} {p : Nat} {b0 b1 b2 : UInt8} (h0 : c.data.toList[p]? = some b0) (h1 : c.data.toList[p + 1]? = some b1) (h2 : c.data.toList[p + 2]? = some b2) (e : b0.toNat = 178) : (Decoder.instr p) c p = .ok (.getstatic (b1.toNat * 256 + b2.toNat), p + 3) := by
  have u0 := dk_u1 h0
  rw [e] at u0
  unfold Decoder.instr
  show Except.bind ((Reader.u1 : Decoder Nat) c p) _ = _
  rw [u0]
  show Except.bind ((Reader.u2 : Decoder Nat) c (p + 1)) _ = _
  rw [dk_u2 h1 h2]
  rfl
theorem dk_invokespecial {c : ByteArray} {p : Nat} {b0 b1 b2 : UInt8} (h0 : c.data.toList[p]? = some b0) (h1 : c.data.toList[p + 1]? = some b1) (h2 : c.data.toList[p + 2]? = some b2) (e : b0.toNat = 183) : (Decoder.instr p) c p = .ok (.invokespecial (b1.toNat * 256 + b2.toNat), p + 3) := by
  have u0 := dk_u1 h0
  rw [e] at u0
  unfold Decoder.instr
  show Except.bind ((Reader.u1 : Decoder Nat) c p) _ = _
  rw [u0]
  show Except.bind ((Reader.u2 : Decoder Nat) c (p + 1)) _ = _
  rw [dk_u2 h1 h2]
  rfl
theorem dk_invokestatic {c : ByteArray} {p : Nat} {b0 b1 b2 : UInt8} (h0 : c.data.toList[p]? = some b0) (h1 : c.data.toList[p + 1]? = some b1) (h2 : c.data.toList[p + 2]? = some b2) (e : b0.toNat = 184) : (Decoder.instr p) c p = .ok (.invokestatic (b1.toNat * 256 + b2.toNat), p + 3) := by
  have u0 := dk_u1 h0
  rw [e] at u0
  unfold Decoder.instr
  show Except.bind ((Reader.u1 : Decoder Nat) c p) _ = _
  rw [u0]
  show Except.bind ((Reader.u2 : Decoder Nat) c (p + 1)) _ = _
  rw [dk_u2 h1 h2]
  rfl
theorem dk_invokevirtual {c : ByteArray} {p : Nat} {b0 b1 b2 : UInt8} (h0 : c.data.toList[p]? = some b0) (h1 : c.data.toList[p + 1]? = some b1) (h2 : c.data.toList[p + 2]? = some b2) (e : b0.toNat = 182) : (Decoder.instr p) c p = .ok (.invokevirtual (b1.toNat * 256 + b2.toNat), p + 3) := by
  have u0 := dk_u1 h0
  rw [e] at u0
  unfold Decoder.instr
  show Except.bind ((Reader.u1 : Decoder Nat) c p) _ = _
  rw [u0]
  show Except.bind ((Reader.u2 : Decoder Nat) c (p + 1)) _ = _
  rw [dk_u2 h1 h2]
  rfl
theorem dk_ldc2_w {c : ByteArray} {p : Nat} {b0 b1 b2 : UInt8} (h0 : c.data.toList[p]? = some b0) (h1 : c.data.toList[p + 1]? = some b1) (h2 : c.data.toList[p + 2]? = some b2) (e : b0.toNat = 20) : (Decoder.instr p) c p = .ok (.ldc2_w (b1.toNat * 256 + b2.toNat), p + 3) := by
  have u0 := dk_u1 h0
  rw [e] at u0
  unfold Decoder.instr
  show Except.bind ((Reader.u1 : Decoder Nat) c p) _ = _
  rw [u0]
  show Except.bind ((Reader.u2 : Decoder Nat) c (p + 1)) _ = _
  rw [dk_u2 h1 h2]
  rfl
theorem dk_ldc_w {c : ByteArray} {p : Nat} {b0 b1 b2 : UInt8} (h0 : c.data.toList[p]? = some b0) (h1 : c.data.toList[p + 1]? = some b1) (h2 : c.data.toList[p + 2]? = some b2) (e : b0.toNat = 19) : (Decoder.instr p) c p = .ok (.ldc_w (b1.toNat * 256 + b2.toNat), p + 3) := by
  have u0 := dk_u1 h0
  rw [e] at u0
  unfold Decoder.instr
  show Except.bind ((Reader.u1 : Decoder Nat) c p) _ = _
  rw [u0]
  show Except.bind ((Reader.u2 : Decoder Nat) c (p + 1)) _ = _
  rw [dk_u2 h1 h2]
  rfl
theorem dk_new {c : ByteArray} {p : Nat} {b0 b1 b2 : UInt8} (h0 : c.data.toList[p]? = some b0) (h1 : c.data.toList[p + 1]? = some b1) (h2 : c.data.toList[p + 2]? = some b2) (e : b0.toNat = 187) : (Decoder.instr p) c p = .ok (.new (b1.toNat * 256 + b2.toNat), p + 3) := by
  have u0 := dk_u1 h0
  rw [e] at u0
  unfold Decoder.instr
  show Except.bind ((Reader.u1 : Decoder Nat) c p) _ = _
  rw [u0]
  show Except.bind ((Reader.u2 : Decoder Nat) c (p + 1)) _ = _
  rw [dk_u2 h1 h2]
  rfl
theorem dk_putfield {c : ByteArray} {p : Nat} {b0 b1 b2 : UInt8} (h0 : c.data.toList[p]? = some b0) (h1 : c.data.toList[p + 1]? = some b1) (h2 : c.data.toList[p + 2]? = some b2) (e : b0.toNat = 181) : (Decoder.instr p) c p = .ok (.putfield (b1.toNat * 256 + b2.toNat), p + 3) := by
  have u0 := dk_u1 h0
  rw [e] at u0
  unfold Decoder.instr
  show Except.bind ((Reader.u1 : Decoder Nat) c p) _ = _
  rw [u0]
  show Except.bind ((Reader.u2 : Decoder Nat) c (p + 1)) _ = _
  rw [dk_u2 h1 h2]
  rfl
theorem dk_goto {c : ByteArray} {p : Nat} {b0 b1 b2 : UInt8} (h0 : c.data.toList[p]? = some b0) (h1 : c.data.toList[p + 1]? = some b1) (h2 : c.data.toList[p + 2]? = some b2) (e : b0.toNat = 167) : (Decoder.instr p) c p = .ok (.goto (Reader.signed 16 (b1.toNat * 256 + b2.toNat)), p + 3) := by
  have u0 := dk_u1 h0
  rw [e] at u0
  unfold Decoder.instr
  show Except.bind ((Reader.u1 : Decoder Nat) c p) _ = _
  rw [u0]
  show Except.bind ((Reader.s2 : Decoder Int) c (p + 1)) _ = _
  rw [dk_s2 h1 h2]
  rfl
theorem dk_ifnonnull {c : ByteArray} {p : Nat} {b0 b1 b2 : UInt8} (h0 : c.data.toList[p]? = some b0) (h1 : c.data.toList[p + 1]? = some b1) (h2 : c.data.toList[p + 2]? = some b2) (e : b0.toNat = 199) : (Decoder.instr p) c p = .ok (.ifnonnull (Reader.signed 16 (b1.toNat * 256 + b2.toNat)), p + 3) := by
  have u0 := dk_u1 h0
  rw [e] at u0
  unfold Decoder.instr
  show Except.bind ((Reader.u1 : Decoder Nat) c p) _ = _
  rw [u0]
  show Except.bind ((Reader.s2 : Decoder Int) c (p + 1)) _ = _
  rw [dk_s2 h1 h2]
  rfl
theorem dk_ifnull {c : ByteArray} {p : Nat} {b0 b1 b2 : UInt8} (h0 : c.data.toList[p]? = some b0) (h1 : c.data.toList[p + 1]? = some b1) (h2 : c.data.toList[p + 2]? = some b2) (e : b0.toNat = 198) : (Decoder.instr p) c p = .ok (.ifnull (Reader.signed 16 (b1.toNat * 256 + b2.toNat)), p + 3) := by
  have u0 := dk_u1 h0
  rw [e] at u0
  unfold Decoder.instr
  show Except.bind ((Reader.u1 : Decoder Nat) c p) _ = _
  rw [u0]
  show Except.bind ((Reader.s2 : Decoder Int) c (p + 1)) _ = _
  rw [dk_s2 h1 h2]
  rfl
theorem dk_sipush {c : ByteArray} {p : Nat} {b0 b1 b2 : UInt8} (h0 : c.data.toList[p]? = some b0) (h1 : c.data.toList[p + 1]? = some b1) (h2 : c.data.toList[p + 2]? = some b2) (e : b0.toNat = 17) : (Decoder.instr p) c p = .ok (.sipush (Reader.signed 16 (b1.toNat * 256 + b2.toNat)), p + 3) := by
  have u0 := dk_u1 h0
  rw [e] at u0
  unfold Decoder.instr
  show Except.bind ((Reader.u1 : Decoder Nat) c p) _ = _
  rw [u0]
  show Except.bind ((Reader.s2 : Decoder Int) c (p + 1)) _ = _
  rw [dk_s2 h1 h2]
  rfl
theorem dk_iconst0 {c : ByteArray} {p : Nat} {b0 : UInt8} (h0 : c.data.toList[p]? = some b0) (e : b0.toNat = 2) : (Decoder.instr p) c p = .ok (.iconst (-1), p + 1) := by
  have u0 := dk_u1 h0
  rw [e] at u0
  unfold Decoder.instr
  show Except.bind ((Reader.u1 : Decoder Nat) c p) _ = _
  rw [u0]
  rfl
theorem dk_iconst1 {c : ByteArray} {p : Nat} {b0 : UInt8} (h0 : c.data.toList[p]? = some b0) (e : b0.toNat = 3) : (Decoder.instr p) c p = .ok (.iconst (0), p + 1) := by
  have u0 := dk_u1 h0
  rw [e] at u0
  unfold Decoder.instr
  show Except.bind ((Reader.u1 : Decoder Nat) c p) _ = _
  rw [u0]
  rfl
theorem dk_iconst2 {c : ByteArray} {p : Nat} {b0 : UInt8} (h0 : c.data.toList[p]? = some b0) (e : b0.toNat = 4) : (Decoder.instr p) c p = .ok (.iconst (1), p + 1) := by
  have u0 := dk_u1 h0
  rw [e] at u0
  unfold Decoder.instr
  show Except.bind ((Reader.u1 : Decoder Nat) c p) _ = _
  rw [u0]
  rfl
theorem dk_iconst3 {c : ByteArray} {p : Nat} {b0 : UInt8} (h0 : c.data.toList[p]? = some b0) (e : b0.toNat = 5) : (Decoder.instr p) c p = .ok (.iconst (2), p + 1) := by
  have u0 := dk_u1 h0
  rw [e] at u0
  unfold Decoder.instr
  show Except.bind ((Reader.u1 : Decoder Nat) c p) _ = _
  rw [u0]
  rfl
theorem dk_iconst4 {c : ByteArray} {p : Nat} {b0 : UInt8} (h0 : c.data.toList[p]? = some b0) (e : b0.toNat = 6) : (Decoder.instr p) c p = .ok (.iconst (3), p + 1) := by
  have u0 := dk_u1 h0
  rw [e] at u0
  unfold Decoder.instr
  show Except.bind ((Reader.u1 : Decoder Nat) c p) _ = _
  rw [u0]
  rfl
theorem dk_iconst5 {c : ByteArray} {p : Nat} {b0 : UInt8} (h0 : c.data.toList[p]? = some b0) (e : b0.toNat = 7) : (Decoder.instr p) c p = .ok (.iconst (4), p + 1) := by
  have u0 := dk_u1 h0
  rw [e] at u0
  unfold Decoder.instr
  show Except.bind ((Reader.u1 : Decoder Nat) c p) _ = _
  rw [u0]
  rfl
theorem dk_iconst6 {c : ByteArray} {p : Nat} {b0 : UInt8} (h0 : c.data.toList[p]? = some b0) (e : b0.toNat = 8) : (Decoder.instr p) c p = .ok (.iconst (5), p + 1) := by
  have u0 := dk_u1 h0
  rw [e] at u0
  unfold Decoder.instr
  show Except.bind ((Reader.u1 : Decoder Nat) c p) _ = _
  rw [u0]
  rfl
theorem dk_iinc {c : ByteArray} {p : Nat} {b0 b1 b2 : UInt8} (h0 : c.data.toList[p]? = some b0) (h1 : c.data.toList[p + 1]? = some b1) (h2 : c.data.toList[p + 2]? = some b2) (e : b0.toNat = 132) : (Decoder.instr p) c p = .ok (.iinc b1.toNat (Reader.signed 8 b2.toNat), p + 3) := by
  have u0 := dk_u1 h0
  rw [e] at u0
  unfold Decoder.instr
  show Except.bind ((Reader.u1 : Decoder Nat) c p) _ = _
  rw [u0]
  show Except.bind ((Reader.u1 : Decoder Nat) c (p + 1)) _ = _
  rw [dk_u1 h1]
  show Except.bind ((Reader.s1 : Decoder Int) c (p + 2)) _ = _
  rw [dk_s1 h2]
  rfl
theorem dk_ifCond_eq {c : ByteArray} {p : Nat} {b0 b1 b2 : UInt8} (h0 : c.data.toList[p]? = some b0) (h1 : c.data.toList[p + 1]? = some b1) (h2 : c.data.toList[p + 2]? = some b2) (e : b0.toNat = 153) : (Decoder.instr p) c p = .ok (.ifCond .eq (Reader.signed 16 (b1.toNat * 256 + b2.toNat)), p + 3) := by
  have u0 := dk_u1 h0
  rw [e] at u0
  unfold Decoder.instr
  show Except.bind ((Reader.u1 : Decoder Nat) c p) _ = _
  rw [u0]
  show Except.bind ((Reader.s2 : Decoder Int) c (p + 1)) _ = _
  rw [dk_s2 h1 h2]
  rfl
theorem dk_ifCond_ne {c : ByteArray} {p : Nat} {b0 b1 b2 : UInt8} (h0 : c.data.toList[p]? = some b0) (h1 : c.data.toList[p + 1]? = some b1) (h2 : c.data.toList[p + 2]? = some b2) (e : b0.toNat = 154) : (Decoder.instr p) c p = .ok (.ifCond .ne (Reader.signed 16 (b1.toNat * 256 + b2.toNat)), p + 3) := by
  have u0 := dk_u1 h0
  rw [e] at u0
  unfold Decoder.instr
  show Except.bind ((Reader.u1 : Decoder Nat) c p) _ = _
  rw [u0]
  show Except.bind ((Reader.s2 : Decoder Int) c (p + 1)) _ = _
  rw [dk_s2 h1 h2]
  rfl
theorem dk_ifCond_lt {c : ByteArray} {p : Nat} {b0 b1 b2 : UInt8} (h0 : c.data.toList[p]? = some b0) (h1 : c.data.toList[p + 1]? = some b1) (h2 : c.data.toList[p + 2]? = some b2) (e : b0.toNat = 155) : (Decoder.instr p) c p = .ok (.ifCond .lt (Reader.signed 16 (b1.toNat * 256 + b2.toNat)), p + 3) := by
  have u0 := dk_u1 h0
  rw [e] at u0
  unfold Decoder.instr
  show Except.bind ((Reader.u1 : Decoder Nat) c p) _ = _
  rw [u0]
  show Except.bind ((Reader.s2 : Decoder Int) c (p + 1)) _ = _
  rw [dk_s2 h1 h2]
  rfl
theorem dk_ifCond_ge {c : ByteArray} {p : Nat} {b0 b1 b2 : UInt8} (h0 : c.data.toList[p]? = some b0) (h1 : c.data.toList[p + 1]? = some b1) (h2 : c.data.toList[p + 2]? = some b2) (e : b0.toNat = 156) : (Decoder.instr p) c p = .ok (.ifCond .ge (Reader.signed 16 (b1.toNat * 256 + b2.toNat)), p + 3) := by
  have u0 := dk_u1 h0
  rw [e] at u0
  unfold Decoder.instr
  show Except.bind ((Reader.u1 : Decoder Nat) c p) _ = _
  rw [u0]
  show Except.bind ((Reader.s2 : Decoder Int) c (p + 1)) _ = _
  rw [dk_s2 h1 h2]
  rfl
theorem dk_ifCond_gt {c : ByteArray} {p : Nat} {b0 b1 b2 : UInt8} (h0 : c.data.toList[p]? = some b0) (h1 : c.data.toList[p + 1]? = some b1) (h2 : c.data.toList[p + 2]? = some b2) (e : b0.toNat = 157) : (Decoder.instr p) c p = .ok (.ifCond .gt (Reader.signed 16 (b1.toNat * 256 + b2.toNat)), p + 3) := by
  have u0 := dk_u1 h0
  rw [e] at u0
  unfold Decoder.instr
  show Except.bind ((Reader.u1 : Decoder Nat) c p) _ = _
  rw [u0]
  show Except.bind ((Reader.s2 : Decoder Int) c (p + 1)) _ = _
  rw [dk_s2 h1 h2]
  rfl
theorem dk_ifCond_le {c : ByteArray} {p : Nat} {b0 b1 b2 : UInt8} (h0 : c.data.toList[p]? = some b0) (h1 : c.data.toList[p + 1]? = some b1) (h2 : c.data.toList[p + 2]? = some b2) (e : b0.toNat = 158) : (Decoder.instr p) c p = .ok (.ifCond .le (Reader.signed 16 (b1.toNat * 256 + b2.toNat)), p + 3) := by
  have u0 := dk_u1 h0
  rw [e] at u0
  unfold Decoder.instr
  show Except.bind ((Reader.u1 : Decoder Nat) c p) _ = _
  rw [u0]
  show Except.bind ((Reader.s2 : Decoder Int) c (p + 1)) _ = _
  rw [dk_s2 h1 h2]
  rfl
theorem dk_if_icmp_eq {c : ByteArray} {p : Nat} {b0 b1 b2 : UInt8} (h0 : c.data.toList[p]? = some b0) (h1 : c.data.toList[p + 1]? = some b1) (h2 : c.data.toList[p + 2]? = some b2) (e : b0.toNat = 159) : (Decoder.instr p) c p = .ok (.if_icmp .eq (Reader.signed 16 (b1.toNat * 256 + b2.toNat)), p + 3) := by
  have u0 := dk_u1 h0
  rw [e] at u0
  unfold Decoder.instr
  show Except.bind ((Reader.u1 : Decoder Nat) c p) _ = _
  rw [u0]
  show Except.bind ((Reader.s2 : Decoder Int) c (p + 1)) _ = _
  rw [dk_s2 h1 h2]
  rfl
theorem dk_if_icmp_ne {c : ByteArray} {p : Nat} {b0 b1 b2 : UInt8} (h0 : c.data.toList[p]? = some b0) (h1 : c.data.toList[p + 1]? = some b1) (h2 : c.data.toList[p + 2]? = some b2) (e : b0.toNat = 160) : (Decoder.instr p) c p = .ok (.if_icmp .ne (Reader.signed 16 (b1.toNat * 256 + b2.toNat)), p + 3) := by
  have u0 := dk_u1 h0
  rw [e] at u0
  unfold Decoder.instr
  show Except.bind ((Reader.u1 : Decoder Nat) c p) _ = _
  rw [u0]
  show Except.bind ((Reader.s2 : Decoder Int) c (p + 1)) _ = _
  rw [dk_s2 h1 h2]
  rfl
theorem dk_if_icmp_lt {c : ByteArray} {p : Nat} {b0 b1 b2 : UInt8} (h0 : c.data.toList[p]? = some b0) (h1 : c.data.toList[p + 1]? = some b1) (h2 : c.data.toList[p + 2]? = some b2) (e : b0.toNat = 161) : (Decoder.instr p) c p = .ok (.if_icmp .lt (Reader.signed 16 (b1.toNat * 256 + b2.toNat)), p + 3) := by
  have u0 := dk_u1 h0
  rw [e] at u0
  unfold Decoder.instr
  show Except.bind ((Reader.u1 : Decoder Nat) c p) _ = _
  rw [u0]
  show Except.bind ((Reader.s2 : Decoder Int) c (p + 1)) _ = _
  rw [dk_s2 h1 h2]
  rfl
theorem dk_if_icmp_ge {c : ByteArray} {p : Nat} {b0 b1 b2 : UInt8} (h0 : c.data.toList[p]? = some b0) (h1 : c.data.toList[p + 1]? = some b1) (h2 : c.data.toList[p + 2]? = some b2) (e : b0.toNat = 162) : (Decoder.instr p) c p = .ok (.if_icmp .ge (Reader.signed 16 (b1.toNat * 256 + b2.toNat)), p + 3) := by
  have u0 := dk_u1 h0
  rw [e] at u0
  unfold Decoder.instr
  show Except.bind ((Reader.u1 : Decoder Nat) c p) _ = _
  rw [u0]
  show Except.bind ((Reader.s2 : Decoder Int) c (p + 1)) _ = _
  rw [dk_s2 h1 h2]
  rfl
theorem dk_if_icmp_gt {c : ByteArray} {p : Nat} {b0 b1 b2 : UInt8} (h0 : c.data.toList[p]? = some b0) (h1 : c.data.toList[p + 1]? = some b1) (h2 : c.data.toList[p + 2]? = some b2) (e : b0.toNat = 163) : (Decoder.instr p) c p = .ok (.if_icmp .gt (Reader.signed 16 (b1.toNat * 256 + b2.toNat)), p + 3) := by
  have u0 := dk_u1 h0
  rw [e] at u0
  unfold Decoder.instr
  show Except.bind ((Reader.u1 : Decoder Nat) c p) _ = _
  rw [u0]
  show Except.bind ((Reader.s2 : Decoder Int) c (p + 1)) _ = _
  rw [dk_s2 h1 h2]
  rfl
theorem dk_if_icmp_le {c : ByteArray} {p : Nat} {b0 b1 b2 : UInt8} (h0 : c.data.toList[p]? = some b0) (h1 : c.data.toList[p + 1]? = some b1) (h2 : c.data.toList[p + 2]? = some b2) (e : b0.toNat = 164) : (Decoder.instr p) c p = .ok (.if_icmp .le (Reader.signed 16 (b1.toNat * 256 + b2.toNat)), p + 3) := by
  have u0 := dk_u1 h0
  rw [e] at u0
  unfold Decoder.instr
  show Except.bind ((Reader.u1 : Decoder Nat) c p) _ = _
  rw [u0]
  show Except.bind ((Reader.s2 : Decoder Int) c (p + 1)) _ = _
  rw [dk_s2 h1 h2]
  rfl
theorem dk_if_acmp_eq {c : ByteArray} {p : Nat} {b0 b1 b2 : UInt8} (h0 : c.data.toList[p]? = some b0) (h1 : c.data.toList[p + 1]? = some b1) (h2 : c.data.toList[p + 2]? = some b2) (e : b0.toNat = 165) : (Decoder.instr p) c p = .ok (.if_acmp .eq (Reader.signed 16 (b1.toNat * 256 + b2.toNat)), p + 3) := by
  have u0 := dk_u1 h0
  rw [e] at u0
  unfold Decoder.instr
  show Except.bind ((Reader.u1 : Decoder Nat) c p) _ = _
  rw [u0]
  show Except.bind ((Reader.s2 : Decoder Int) c (p + 1)) _ = _
  rw [dk_s2 h1 h2]
  rfl
theorem dk_if_acmp_ne {c : ByteArray} {p : Nat} {b0 b1 b2 : UInt8} (h0 : c.data.toList[p]? = some b0) (h1 : c.data.toList[p + 1]? = some b1) (h2 : c.data.toList[p + 2]? = some b2) (e : b0.toNat = 166) : (Decoder.instr p) c p = .ok (.if_acmp .ne (Reader.signed 16 (b1.toNat * 256 + b2.toNat)), p + 3) := by
  have u0 := dk_u1 h0
  rw [e] at u0
  unfold Decoder.instr
  show Except.bind ((Reader.u1 : Decoder Nat) c p) _ = _
  rw [u0]
  show Except.bind ((Reader.s2 : Decoder Int) c (p + 1)) _ = _
  rw [dk_s2 h1 h2]
  rfl
theorem dk_dcmp_l {c : ByteArray} {p : Nat} {b0 : UInt8} (h0 : c.data.toList[p]? = some b0) (e : b0.toNat = 151) : (Decoder.instr p) c p = .ok (.dcmp .l, p + 1) := by
  have u0 := dk_u1 h0
  rw [e] at u0
  unfold Decoder.instr
  show Except.bind ((Reader.u1 : Decoder Nat) c p) _ = _
  rw [u0]
  rfl
theorem dk_dcmp_g {c : ByteArray} {p : Nat} {b0 : UInt8} (h0 : c.data.toList[p]? = some b0) (e : b0.toNat = 152) : (Decoder.instr p) c p = .ok (.dcmp .g, p + 1) := by
  have u0 := dk_u1 h0
  rw [e] at u0
  unfold Decoder.instr
  show Except.bind ((Reader.u1 : Decoder Nat) c p) _ = _
  rw [u0]
  rfl
def ck (i : Instr) (n : Nat) (l : List UInt8) : Bool := match i, l with
  | .aaload, b0 :: _ => b0.toNat == 50 && n == 1
  | .aastore, b0 :: _ => b0.toNat == 83 && n == 1
  | .aconst_null, b0 :: _ => b0.toNat == 1 && n == 1
  | .areturn, b0 :: _ => b0.toNat == 176 && n == 1
  | .arraylength, b0 :: _ => b0.toNat == 190 && n == 1
  | .athrow, b0 :: _ => b0.toNat == 191 && n == 1
  | .baload, b0 :: _ => b0.toNat == 51 && n == 1
  | .bastore, b0 :: _ => b0.toNat == 84 && n == 1
  | .d2i, b0 :: _ => b0.toNat == 142 && n == 1
  | .dadd, b0 :: _ => b0.toNat == 99 && n == 1
  | .dastore, b0 :: _ => b0.toNat == 82 && n == 1
  | .ddiv, b0 :: _ => b0.toNat == 111 && n == 1
  | .dmul, b0 :: _ => b0.toNat == 107 && n == 1
  | .dreturn, b0 :: _ => b0.toNat == 175 && n == 1
  | .dsub, b0 :: _ => b0.toNat == 103 && n == 1
  | .dup, b0 :: _ => b0.toNat == 89 && n == 1
  | .dup2, b0 :: _ => b0.toNat == 92 && n == 1
  | .dup_x1, b0 :: _ => b0.toNat == 90 && n == 1
  | .i2b, b0 :: _ => b0.toNat == 145 && n == 1
  | .i2c, b0 :: _ => b0.toNat == 146 && n == 1
  | .i2d, b0 :: _ => b0.toNat == 135 && n == 1
  | .i2l, b0 :: _ => b0.toNat == 133 && n == 1
  | .iadd, b0 :: _ => b0.toNat == 96 && n == 1
  | .iaload, b0 :: _ => b0.toNat == 46 && n == 1
  | .iand, b0 :: _ => b0.toNat == 126 && n == 1
  | .iastore, b0 :: _ => b0.toNat == 79 && n == 1
  | .idiv, b0 :: _ => b0.toNat == 108 && n == 1
  | .imul, b0 :: _ => b0.toNat == 104 && n == 1
  | .ineg, b0 :: _ => b0.toNat == 116 && n == 1
  | .ior, b0 :: _ => b0.toNat == 128 && n == 1
  | .irem, b0 :: _ => b0.toNat == 112 && n == 1
  | .ireturn, b0 :: _ => b0.toNat == 172 && n == 1
  | .ishl, b0 :: _ => b0.toNat == 120 && n == 1
  | .ishr, b0 :: _ => b0.toNat == 122 && n == 1
  | .isub, b0 :: _ => b0.toNat == 100 && n == 1
  | .iushr, b0 :: _ => b0.toNat == 124 && n == 1
  | .ixor, b0 :: _ => b0.toNat == 130 && n == 1
  | .ladd, b0 :: _ => b0.toNat == 97 && n == 1
  | .laload, b0 :: _ => b0.toNat == 47 && n == 1
  | .lastore, b0 :: _ => b0.toNat == 80 && n == 1
  | .lcmp, b0 :: _ => b0.toNat == 148 && n == 1
  | .lreturn, b0 :: _ => b0.toNat == 173 && n == 1
  | .pop, b0 :: _ => b0.toNat == 87 && n == 1
  | .pop2, b0 :: _ => b0.toNat == 88 && n == 1
  | .return_, b0 :: _ => b0.toNat == 177 && n == 1
  | .aload_n k, b0 :: _ => b0.toNat == 42 + k.val && n == 1
  | .astore_n k, b0 :: _ => b0.toNat == 75 + k.val && n == 1
  | .dconst k, b0 :: _ => b0.toNat == 14 + k.val && n == 1
  | .dload_n k, b0 :: _ => b0.toNat == 38 + k.val && n == 1
  | .dstore_n k, b0 :: _ => b0.toNat == 71 + k.val && n == 1
  | .iload_n k, b0 :: _ => b0.toNat == 26 + k.val && n == 1
  | .istore_n k, b0 :: _ => b0.toNat == 59 + k.val && n == 1
  | .lconst k, b0 :: _ => b0.toNat == 9 + k.val && n == 1
  | .lload_n k, b0 :: _ => b0.toNat == 30 + k.val && n == 1
  | .aload k, b0 :: b1 :: _ => b0.toNat == 25 && b1.toNat == k && n == 2
  | .astore k, b0 :: b1 :: _ => b0.toNat == 58 && b1.toNat == k && n == 2
  | .dload k, b0 :: b1 :: _ => b0.toNat == 24 && b1.toNat == k && n == 2
  | .dstore k, b0 :: b1 :: _ => b0.toNat == 57 && b1.toNat == k && n == 2
  | .iload k, b0 :: b1 :: _ => b0.toNat == 21 && b1.toNat == k && n == 2
  | .istore k, b0 :: b1 :: _ => b0.toNat == 54 && b1.toNat == k && n == 2
  | .ldc k, b0 :: b1 :: _ => b0.toNat == 18 && b1.toNat == k && n == 2
  | .lload k, b0 :: b1 :: _ => b0.toNat == 22 && b1.toNat == k && n == 2
  | .lstore k, b0 :: b1 :: _ => b0.toNat == 55 && b1.toNat == k && n == 2
  | .bipush k, b0 :: b1 :: _ => b0.toNat == 16 && Reader.signed 8 b1.toNat == k && n == 2
  | .anewarray k, b0 :: b1 :: b2 :: _ => b0.toNat == 189 && b1.toNat * 256 + b2.toNat == k && n == 3
  | .checkcast k, b0 :: b1 :: b2 :: _ => b0.toNat == 192 && b1.toNat * 256 + b2.toNat == k && n == 3
  | .getfield k, b0 :: b1 :: b2 :: _ => b0.toNat == 180 && b1.toNat * 256 + b2.toNat == k && n == 3
  | .getstatic k, b0 :: b1 :: b2 :: _ => b0.toNat == 178 && b1.toNat * 256 + b2.toNat == k && n == 3
  | .invokespecial k, b0 :: b1 :: b2 :: _ => b0.toNat == 183 && b1.toNat * 256 + b2.toNat == k && n == 3
  | .invokestatic k, b0 :: b1 :: b2 :: _ => b0.toNat == 184 && b1.toNat * 256 + b2.toNat == k && n == 3
  | .invokevirtual k, b0 :: b1 :: b2 :: _ => b0.toNat == 182 && b1.toNat * 256 + b2.toNat == k && n == 3
  | .ldc2_w k, b0 :: b1 :: b2 :: _ => b0.toNat == 20 && b1.toNat * 256 + b2.toNat == k && n == 3
  | .ldc_w k, b0 :: b1 :: b2 :: _ => b0.toNat == 19 && b1.toNat * 256 + b2.toNat == k && n == 3
  | .new k, b0 :: b1 :: b2 :: _ => b0.toNat == 187 && b1.toNat * 256 + b2.toNat == k && n == 3
  | .putfield k, b0 :: b1 :: b2 :: _ => b0.toNat == 181 && b1.toNat * 256 + b2.toNat == k && n == 3
  | .goto k, b0 :: b1 :: b2 :: _ => b0.toNat == 167 && Reader.signed 16 (b1.toNat * 256 + b2.toNat) == k && n == 3
  | .ifnonnull k, b0 :: b1 :: b2 :: _ => b0.toNat == 199 && Reader.signed 16 (b1.toNat * 256 + b2.toNat) == k && n == 3
  | .ifnull k, b0 :: b1 :: b2 :: _ => b0.toNat == 198 && Reader.signed 16 (b1.toNat * 256 + b2.toNat) == k && n == 3
  | .sipush k, b0 :: b1 :: b2 :: _ => b0.toNat == 17 && Reader.signed 16 (b1.toNat * 256 + b2.toNat) == k && n == 3
  | .iconst k, b0 :: _ => (2 ≤ b0.toNat && b0.toNat ≤ 8) && (b0.toNat : Int) - 3 == k && n == 1
  | .iinc k z, b0 :: b1 :: b2 :: _ => b0.toNat == 132 && b1.toNat == k && Reader.signed 8 b2.toNat == z && n == 3
  | .ifCond .eq k, b0 :: b1 :: b2 :: _ => b0.toNat == 153 && Reader.signed 16 (b1.toNat * 256 + b2.toNat) == k && n == 3
  | .ifCond .ne k, b0 :: b1 :: b2 :: _ => b0.toNat == 154 && Reader.signed 16 (b1.toNat * 256 + b2.toNat) == k && n == 3
  | .ifCond .lt k, b0 :: b1 :: b2 :: _ => b0.toNat == 155 && Reader.signed 16 (b1.toNat * 256 + b2.toNat) == k && n == 3
  | .ifCond .ge k, b0 :: b1 :: b2 :: _ => b0.toNat == 156 && Reader.signed 16 (b1.toNat * 256 + b2.toNat) == k && n == 3
  | .ifCond .gt k, b0 :: b1 :: b2 :: _ => b0.toNat == 157 && Reader.signed 16 (b1.toNat * 256 + b2.toNat) == k && n == 3
  | .ifCond .le k, b0 :: b1 :: b2 :: _ => b0.toNat == 158 && Reader.signed 16 (b1.toNat * 256 + b2.toNat) == k && n == 3
  | .if_icmp .eq k, b0 :: b1 :: b2 :: _ => b0.toNat == 159 && Reader.signed 16 (b1.toNat * 256 + b2.toNat) == k && n == 3
  | .if_icmp .ne k, b0 :: b1 :: b2 :: _ => b0.toNat == 160 && Reader.signed 16 (b1.toNat * 256 + b2.toNat) == k && n == 3
  | .if_icmp .lt k, b0 :: b1 :: b2 :: _ => b0.toNat == 161 && Reader.signed 16 (b1.toNat * 256 + b2.toNat) == k && n == 3
  | .if_icmp .ge k, b0 :: b1 :: b2 :: _ => b0.toNat == 162 && Reader.signed 16 (b1.toNat * 256 + b2.toNat) == k && n == 3
  | .if_icmp .gt k, b0 :: b1 :: b2 :: _ => b0.toNat == 163 && Reader.signed 16 (b1.toNat * 256 + b2.toNat) == k && n == 3
  | .if_icmp .le k, b0 :: b1 :: b2 :: _ => b0.toNat == 164 && Reader.signed 16 (b1.toNat * 256 + b2.toNat) == k && n == 3
  | .if_acmp .eq k, b0 :: b1 :: b2 :: _ => b0.toNat == 165 && Reader.signed 16 (b1.toNat * 256 + b2.toNat) == k && n == 3
  | .if_acmp .ne k, b0 :: b1 :: b2 :: _ => b0.toNat == 166 && Reader.signed 16 (b1.toNat * 256 + b2.toNat) == k && n == 3
  | .dcmp .l, b0 :: _ => b0.toNat == 151 && n == 1
  | .dcmp .g, b0 :: _ => b0.toNat == 152 && n == 1
  | _, _ => false
theorem ck_g {c : ByteArray} {p : Nat} {l : List UInt8} (hl : c.data.toList.drop p = l) (j : Nat) : c.data.toList[p + j]? = l[j]? := by rw [← hl, List.getElem?_drop]
set_option maxHeartbeats 4000000 in
theorem ck_ok {c : ByteArray} {p n : Nat} {i : Instr} (h : ck i n (c.data.toList.drop p) = true) : decode c p = .ok (i, n) := by
  generalize hl : c.data.toList.drop p = l at h
  cases i with
  | aaload  =>
    match l, hl, h with
    | [], _, h => exact Bool.noConfusion (show false = true from h)
    | b0 :: _, hl, h =>
      have g0 := ck_g hl 0
      have h : (b0.toNat == 50 && n == 1) = true := h
      simp only [Bool.and_eq_true, beq_iff_eq, decide_eq_true_eq] at h
      obtain ⟨e, rfl⟩ := h
      exact dk_dec (dk_aaload g0 e)
  | aastore  =>
    match l, hl, h with
    | [], _, h => exact Bool.noConfusion (show false = true from h)
    | b0 :: _, hl, h =>
      have g0 := ck_g hl 0
      have h : (b0.toNat == 83 && n == 1) = true := h
      simp only [Bool.and_eq_true, beq_iff_eq, decide_eq_true_eq] at h
      obtain ⟨e, rfl⟩ := h
      exact dk_dec (dk_aastore g0 e)
  | aconst_null  =>
    match l, hl, h with
    | [], _, h => exact Bool.noConfusion (show false = true from h)
    | b0 :: _, hl, h =>
      have g0 := ck_g hl 0
      have h : (b0.toNat == 1 && n == 1) = true := h
      simp only [Bool.and_eq_true, beq_iff_eq, decide_eq_true_eq] at h
      obtain ⟨e, rfl⟩ := h
      exact dk_dec (dk_aconst_null g0 e)
  | areturn  =>
    match l, hl, h with
    | [], _, h => exact Bool.noConfusion (show false = true from h)
    | b0 :: _, hl, h =>
      have g0 := ck_g hl 0
      have h : (b0.toNat == 176 && n == 1) = true := h
      simp only [Bool.and_eq_true, beq_iff_eq, decide_eq_true_eq] at h
      obtain ⟨e, rfl⟩ := h
      exact dk_dec (dk_areturn g0 e)
  | arraylength  =>
    match l, hl, h with
    | [], _, h => exact Bool.noConfusion (show false = true from h)
    | b0 :: _, hl, h =>
      have g0 := ck_g hl 0
      have h : (b0.toNat == 190 && n == 1) = true := h
      simp only [Bool.and_eq_true, beq_iff_eq, decide_eq_true_eq] at h
      obtain ⟨e, rfl⟩ := h
      exact dk_dec (dk_arraylength g0 e)
  | athrow  =>
    match l, hl, h with
    | [], _, h => exact Bool.noConfusion (show false = true from h)
    | b0 :: _, hl, h =>
      have g0 := ck_g hl 0
      have h : (b0.toNat == 191 && n == 1) = true := h
      simp only [Bool.and_eq_true, beq_iff_eq, decide_eq_true_eq] at h
      obtain ⟨e, rfl⟩ := h
      exact dk_dec (dk_athrow g0 e)
  | baload  =>
    match l, hl, h with
    | [], _, h => exact Bool.noConfusion (show false = true from h)
    | b0 :: _, hl, h =>
      have g0 := ck_g hl 0
      have h : (b0.toNat == 51 && n == 1) = true := h
      simp only [Bool.and_eq_true, beq_iff_eq, decide_eq_true_eq] at h
      obtain ⟨e, rfl⟩ := h
      exact dk_dec (dk_baload g0 e)
  | bastore  =>
    match l, hl, h with
    | [], _, h => exact Bool.noConfusion (show false = true from h)
    | b0 :: _, hl, h =>
      have g0 := ck_g hl 0
      have h : (b0.toNat == 84 && n == 1) = true := h
      simp only [Bool.and_eq_true, beq_iff_eq, decide_eq_true_eq] at h
      obtain ⟨e, rfl⟩ := h
      exact dk_dec (dk_bastore g0 e)
  | d2i  =>
    match l, hl, h with
    | [], _, h => exact Bool.noConfusion (show false = true from h)
    | b0 :: _, hl, h =>
      have g0 := ck_g hl 0
      have h : (b0.toNat == 142 && n == 1) = true := h
      simp only [Bool.and_eq_true, beq_iff_eq, decide_eq_true_eq] at h
      obtain ⟨e, rfl⟩ := h
      exact dk_dec (dk_d2i g0 e)
  | dadd  =>
    match l, hl, h with
    | [], _, h => exact Bool.noConfusion (show false = true from h)
    | b0 :: _, hl, h =>
      have g0 := ck_g hl 0
      have h : (b0.toNat == 99 && n == 1) = true := h
      simp only [Bool.and_eq_true, beq_iff_eq, decide_eq_true_eq] at h
      obtain ⟨e, rfl⟩ := h
      exact dk_dec (dk_dadd g0 e)
  | dastore  =>
    match l, hl, h with
    | [], _, h => exact Bool.noConfusion (show false = true from h)
    | b0 :: _, hl, h =>
      have g0 := ck_g hl 0
      have h : (b0.toNat == 82 && n == 1) = true := h
      simp only [Bool.and_eq_true, beq_iff_eq, decide_eq_true_eq] at h
      obtain ⟨e, rfl⟩ := h
      exact dk_dec (dk_dastore g0 e)
  | ddiv  =>
    match l, hl, h with
    | [], _, h => exact Bool.noConfusion (show false = true from h)
    | b0 :: _, hl, h =>
      have g0 := ck_g hl 0
      have h : (b0.toNat == 111 && n == 1) = true := h
      simp only [Bool.and_eq_true, beq_iff_eq, decide_eq_true_eq] at h
      obtain ⟨e, rfl⟩ := h
      exact dk_dec (dk_ddiv g0 e)
  | dmul  =>
    match l, hl, h with
    | [], _, h => exact Bool.noConfusion (show false = true from h)
    | b0 :: _, hl, h =>
      have g0 := ck_g hl 0
      have h : (b0.toNat == 107 && n == 1) = true := h
      simp only [Bool.and_eq_true, beq_iff_eq, decide_eq_true_eq] at h
      obtain ⟨e, rfl⟩ := h
      exact dk_dec (dk_dmul g0 e)
  | dreturn  =>
    match l, hl, h with
    | [], _, h => exact Bool.noConfusion (show false = true from h)
    | b0 :: _, hl, h =>
      have g0 := ck_g hl 0
      have h : (b0.toNat == 175 && n == 1) = true := h
      simp only [Bool.and_eq_true, beq_iff_eq, decide_eq_true_eq] at h
      obtain ⟨e, rfl⟩ := h
      exact dk_dec (dk_dreturn g0 e)
  | dsub  =>
    match l, hl, h with
    | [], _, h => exact Bool.noConfusion (show false = true from h)
    | b0 :: _, hl, h =>
      have g0 := ck_g hl 0
      have h : (b0.toNat == 103 && n == 1) = true := h
      simp only [Bool.and_eq_true, beq_iff_eq, decide_eq_true_eq] at h
      obtain ⟨e, rfl⟩ := h
      exact dk_dec (dk_dsub g0 e)
  | dup  =>
    match l, hl, h with
    | [], _, h => exact Bool.noConfusion (show false = true from h)
    | b0 :: _, hl, h =>
      have g0 := ck_g hl 0
      have h : (b0.toNat == 89 && n == 1) = true := h
      simp only [Bool.and_eq_true, beq_iff_eq, decide_eq_true_eq] at h
      obtain ⟨e, rfl⟩ := h
      exact dk_dec (dk_dup g0 e)
  | dup2  =>
    match l, hl, h with
    | [], _, h => exact Bool.noConfusion (show false = true from h)
    | b0 :: _, hl, h =>
      have g0 := ck_g hl 0
      have h : (b0.toNat == 92 && n == 1) = true := h
      simp only [Bool.and_eq_true, beq_iff_eq, decide_eq_true_eq] at h
      obtain ⟨e, rfl⟩ := h
      exact dk_dec (dk_dup2 g0 e)
  | dup_x1  =>
    match l, hl, h with
    | [], _, h => exact Bool.noConfusion (show false = true from h)
    | b0 :: _, hl, h =>
      have g0 := ck_g hl 0
      have h : (b0.toNat == 90 && n == 1) = true := h
      simp only [Bool.and_eq_true, beq_iff_eq, decide_eq_true_eq] at h
      obtain ⟨e, rfl⟩ := h
      exact dk_dec (dk_dup_x1 g0 e)
  | i2b  =>
    match l, hl, h with
    | [], _, h => exact Bool.noConfusion (show false = true from h)
    | b0 :: _, hl, h =>
      have g0 := ck_g hl 0
      have h : (b0.toNat == 145 && n == 1) = true := h
      simp only [Bool.and_eq_true, beq_iff_eq, decide_eq_true_eq] at h
      obtain ⟨e, rfl⟩ := h
      exact dk_dec (dk_i2b g0 e)
  | i2c  =>
    match l, hl, h with
    | [], _, h => exact Bool.noConfusion (show false = true from h)
    | b0 :: _, hl, h =>
      have g0 := ck_g hl 0
      have h : (b0.toNat == 146 && n == 1) = true := h
      simp only [Bool.and_eq_true, beq_iff_eq, decide_eq_true_eq] at h
      obtain ⟨e, rfl⟩ := h
      exact dk_dec (dk_i2c g0 e)
  | i2d  =>
    match l, hl, h with
    | [], _, h => exact Bool.noConfusion (show false = true from h)
    | b0 :: _, hl, h =>
      have g0 := ck_g hl 0
      have h : (b0.toNat == 135 && n == 1) = true := h
      simp only [Bool.and_eq_true, beq_iff_eq, decide_eq_true_eq] at h
      obtain ⟨e, rfl⟩ := h
      exact dk_dec (dk_i2d g0 e)
  | i2l  =>
    match l, hl, h with
    | [], _, h => exact Bool.noConfusion (show false = true from h)
    | b0 :: _, hl, h =>
      have g0 := ck_g hl 0
      have h : (b0.toNat == 133 && n == 1) = true := h
      simp only [Bool.and_eq_true, beq_iff_eq, decide_eq_true_eq] at h
      obtain ⟨e, rfl⟩ := h
      exact dk_dec (dk_i2l g0 e)
  | iadd  =>
    match l, hl, h with
    | [], _, h => exact Bool.noConfusion (show false = true from h)
    | b0 :: _, hl, h =>
      have g0 := ck_g hl 0
      have h : (b0.toNat == 96 && n == 1) = true := h
      simp only [Bool.and_eq_true, beq_iff_eq, decide_eq_true_eq] at h
      obtain ⟨e, rfl⟩ := h
      exact dk_dec (dk_iadd g0 e)
  | iaload  =>
    match l, hl, h with
    | [], _, h => exact Bool.noConfusion (show false = true from h)
    | b0 :: _, hl, h =>
      have g0 := ck_g hl 0
      have h : (b0.toNat == 46 && n == 1) = true := h
      simp only [Bool.and_eq_true, beq_iff_eq, decide_eq_true_eq] at h
      obtain ⟨e, rfl⟩ := h
      exact dk_dec (dk_iaload g0 e)
  | iand  =>
    match l, hl, h with
    | [], _, h => exact Bool.noConfusion (show false = true from h)
    | b0 :: _, hl, h =>
      have g0 := ck_g hl 0
      have h : (b0.toNat == 126 && n == 1) = true := h
      simp only [Bool.and_eq_true, beq_iff_eq, decide_eq_true_eq] at h
      obtain ⟨e, rfl⟩ := h
      exact dk_dec (dk_iand g0 e)
  | iastore  =>
    match l, hl, h with
    | [], _, h => exact Bool.noConfusion (show false = true from h)
    | b0 :: _, hl, h =>
      have g0 := ck_g hl 0
      have h : (b0.toNat == 79 && n == 1) = true := h
      simp only [Bool.and_eq_true, beq_iff_eq, decide_eq_true_eq] at h
      obtain ⟨e, rfl⟩ := h
      exact dk_dec (dk_iastore g0 e)
  | idiv  =>
    match l, hl, h with
    | [], _, h => exact Bool.noConfusion (show false = true from h)
    | b0 :: _, hl, h =>
      have g0 := ck_g hl 0
      have h : (b0.toNat == 108 && n == 1) = true := h
      simp only [Bool.and_eq_true, beq_iff_eq, decide_eq_true_eq] at h
      obtain ⟨e, rfl⟩ := h
      exact dk_dec (dk_idiv g0 e)
  | imul  =>
    match l, hl, h with
    | [], _, h => exact Bool.noConfusion (show false = true from h)
    | b0 :: _, hl, h =>
      have g0 := ck_g hl 0
      have h : (b0.toNat == 104 && n == 1) = true := h
      simp only [Bool.and_eq_true, beq_iff_eq, decide_eq_true_eq] at h
      obtain ⟨e, rfl⟩ := h
      exact dk_dec (dk_imul g0 e)
  | ineg  =>
    match l, hl, h with
    | [], _, h => exact Bool.noConfusion (show false = true from h)
    | b0 :: _, hl, h =>
      have g0 := ck_g hl 0
      have h : (b0.toNat == 116 && n == 1) = true := h
      simp only [Bool.and_eq_true, beq_iff_eq, decide_eq_true_eq] at h
      obtain ⟨e, rfl⟩ := h
      exact dk_dec (dk_ineg g0 e)
  | ior  =>
    match l, hl, h with
    | [], _, h => exact Bool.noConfusion (show false = true from h)
    | b0 :: _, hl, h =>
      have g0 := ck_g hl 0
      have h : (b0.toNat == 128 && n == 1) = true := h
      simp only [Bool.and_eq_true, beq_iff_eq, decide_eq_true_eq] at h
      obtain ⟨e, rfl⟩ := h
      exact dk_dec (dk_ior g0 e)
  | irem  =>
    match l, hl, h with
    | [], _, h => exact Bool.noConfusion (show false = true from h)
    | b0 :: _, hl, h =>
      have g0 := ck_g hl 0
      have h : (b0.toNat == 112 && n == 1) = true := h
      simp only [Bool.and_eq_true, beq_iff_eq, decide_eq_true_eq] at h
      obtain ⟨e, rfl⟩ := h
      exact dk_dec (dk_irem g0 e)
  | ireturn  =>
    match l, hl, h with
    | [], _, h => exact Bool.noConfusion (show false = true from h)
    | b0 :: _, hl, h =>
      have g0 := ck_g hl 0
      have h : (b0.toNat == 172 && n == 1) = true := h
      simp only [Bool.and_eq_true, beq_iff_eq, decide_eq_true_eq] at h
      obtain ⟨e, rfl⟩ := h
      exact dk_dec (dk_ireturn g0 e)
  | ishl  =>
    match l, hl, h with
    | [], _, h => exact Bool.noConfusion (show false = true from h)
    | b0 :: _, hl, h =>
      have g0 := ck_g hl 0
      have h : (b0.toNat == 120 && n == 1) = true := h
      simp only [Bool.and_eq_true, beq_iff_eq, decide_eq_true_eq] at h
      obtain ⟨e, rfl⟩ := h
      exact dk_dec (dk_ishl g0 e)
  | ishr  =>
    match l, hl, h with
    | [], _, h => exact Bool.noConfusion (show false = true from h)
    | b0 :: _, hl, h =>
      have g0 := ck_g hl 0
      have h : (b0.toNat == 122 && n == 1) = true := h
      simp only [Bool.and_eq_true, beq_iff_eq, decide_eq_true_eq] at h
      obtain ⟨e, rfl⟩ := h
      exact dk_dec (dk_ishr g0 e)
  | isub  =>
    match l, hl, h with
    | [], _, h => exact Bool.noConfusion (show false = true from h)
    | b0 :: _, hl, h =>
      have g0 := ck_g hl 0
      have h : (b0.toNat == 100 && n == 1) = true := h
      simp only [Bool.and_eq_true, beq_iff_eq, decide_eq_true_eq] at h
      obtain ⟨e, rfl⟩ := h
      exact dk_dec (dk_isub g0 e)
  | iushr  =>
    match l, hl, h with
    | [], _, h => exact Bool.noConfusion (show false = true from h)
    | b0 :: _, hl, h =>
      have g0 := ck_g hl 0
      have h : (b0.toNat == 124 && n == 1) = true := h
      simp only [Bool.and_eq_true, beq_iff_eq, decide_eq_true_eq] at h
      obtain ⟨e, rfl⟩ := h
      exact dk_dec (dk_iushr g0 e)
  | ixor  =>
    match l, hl, h with
    | [], _, h => exact Bool.noConfusion (show false = true from h)
    | b0 :: _, hl, h =>
      have g0 := ck_g hl 0
      have h : (b0.toNat == 130 && n == 1) = true := h
      simp only [Bool.and_eq_true, beq_iff_eq, decide_eq_true_eq] at h
      obtain ⟨e, rfl⟩ := h
      exact dk_dec (dk_ixor g0 e)
  | ladd  =>
    match l, hl, h with
    | [], _, h => exact Bool.noConfusion (show false = true from h)
    | b0 :: _, hl, h =>
      have g0 := ck_g hl 0
      have h : (b0.toNat == 97 && n == 1) = true := h
      simp only [Bool.and_eq_true, beq_iff_eq, decide_eq_true_eq] at h
      obtain ⟨e, rfl⟩ := h
      exact dk_dec (dk_ladd g0 e)
  | laload  =>
    match l, hl, h with
    | [], _, h => exact Bool.noConfusion (show false = true from h)
    | b0 :: _, hl, h =>
      have g0 := ck_g hl 0
      have h : (b0.toNat == 47 && n == 1) = true := h
      simp only [Bool.and_eq_true, beq_iff_eq, decide_eq_true_eq] at h
      obtain ⟨e, rfl⟩ := h
      exact dk_dec (dk_laload g0 e)
  | lastore  =>
    match l, hl, h with
    | [], _, h => exact Bool.noConfusion (show false = true from h)
    | b0 :: _, hl, h =>
      have g0 := ck_g hl 0
      have h : (b0.toNat == 80 && n == 1) = true := h
      simp only [Bool.and_eq_true, beq_iff_eq, decide_eq_true_eq] at h
      obtain ⟨e, rfl⟩ := h
      exact dk_dec (dk_lastore g0 e)
  | lcmp  =>
    match l, hl, h with
    | [], _, h => exact Bool.noConfusion (show false = true from h)
    | b0 :: _, hl, h =>
      have g0 := ck_g hl 0
      have h : (b0.toNat == 148 && n == 1) = true := h
      simp only [Bool.and_eq_true, beq_iff_eq, decide_eq_true_eq] at h
      obtain ⟨e, rfl⟩ := h
      exact dk_dec (dk_lcmp g0 e)
  | lreturn  =>
    match l, hl, h with
    | [], _, h => exact Bool.noConfusion (show false = true from h)
    | b0 :: _, hl, h =>
      have g0 := ck_g hl 0
      have h : (b0.toNat == 173 && n == 1) = true := h
      simp only [Bool.and_eq_true, beq_iff_eq, decide_eq_true_eq] at h
      obtain ⟨e, rfl⟩ := h
      exact dk_dec (dk_lreturn g0 e)
  | pop  =>
    match l, hl, h with
    | [], _, h => exact Bool.noConfusion (show false = true from h)
    | b0 :: _, hl, h =>
      have g0 := ck_g hl 0
      have h : (b0.toNat == 87 && n == 1) = true := h
      simp only [Bool.and_eq_true, beq_iff_eq, decide_eq_true_eq] at h
      obtain ⟨e, rfl⟩ := h
      exact dk_dec (dk_pop g0 e)
  | pop2  =>
    match l, hl, h with
    | [], _, h => exact Bool.noConfusion (show false = true from h)
    | b0 :: _, hl, h =>
      have g0 := ck_g hl 0
      have h : (b0.toNat == 88 && n == 1) = true := h
      simp only [Bool.and_eq_true, beq_iff_eq, decide_eq_true_eq] at h
      obtain ⟨e, rfl⟩ := h
      exact dk_dec (dk_pop2 g0 e)
  | return_  =>
    match l, hl, h with
    | [], _, h => exact Bool.noConfusion (show false = true from h)
    | b0 :: _, hl, h =>
      have g0 := ck_g hl 0
      have h : (b0.toNat == 177 && n == 1) = true := h
      simp only [Bool.and_eq_true, beq_iff_eq, decide_eq_true_eq] at h
      obtain ⟨e, rfl⟩ := h
      exact dk_dec (dk_return_ g0 e)
  | aload_n k =>
    match l, hl, h with
    | [], _, h => exact Bool.noConfusion (show false = true from h)
    | b0 :: _, hl, h =>
      have g0 := ck_g hl 0
      have h : (b0.toNat == 42 + k.val && n == 1) = true := h
      simp only [Bool.and_eq_true, beq_iff_eq, decide_eq_true_eq] at h
      obtain ⟨e, rfl⟩ := h
      match k, e with
      | 0, e => exact dk_dec (dk_aload_n0 g0 e)
      | 1, e => exact dk_dec (dk_aload_n1 g0 e)
      | 2, e => exact dk_dec (dk_aload_n2 g0 e)
      | 3, e => exact dk_dec (dk_aload_n3 g0 e)
  | astore_n k =>
    match l, hl, h with
    | [], _, h => exact Bool.noConfusion (show false = true from h)
    | b0 :: _, hl, h =>
      have g0 := ck_g hl 0
      have h : (b0.toNat == 75 + k.val && n == 1) = true := h
      simp only [Bool.and_eq_true, beq_iff_eq, decide_eq_true_eq] at h
      obtain ⟨e, rfl⟩ := h
      match k, e with
      | 0, e => exact dk_dec (dk_astore_n0 g0 e)
      | 1, e => exact dk_dec (dk_astore_n1 g0 e)
      | 2, e => exact dk_dec (dk_astore_n2 g0 e)
      | 3, e => exact dk_dec (dk_astore_n3 g0 e)
  | dconst k =>
    match l, hl, h with
    | [], _, h => exact Bool.noConfusion (show false = true from h)
    | b0 :: _, hl, h =>
      have g0 := ck_g hl 0
      have h : (b0.toNat == 14 + k.val && n == 1) = true := h
      simp only [Bool.and_eq_true, beq_iff_eq, decide_eq_true_eq] at h
      obtain ⟨e, rfl⟩ := h
      match k, e with
      | 0, e => exact dk_dec (dk_dconst0 g0 e)
      | 1, e => exact dk_dec (dk_dconst1 g0 e)
  | dload_n k =>
    match l, hl, h with
    | [], _, h => exact Bool.noConfusion (show false = true from h)
    | b0 :: _, hl, h =>
      have g0 := ck_g hl 0
      have h : (b0.toNat == 38 + k.val && n == 1) = true := h
      simp only [Bool.and_eq_true, beq_iff_eq, decide_eq_true_eq] at h
      obtain ⟨e, rfl⟩ := h
      match k, e with
      | 0, e => exact dk_dec (dk_dload_n0 g0 e)
      | 1, e => exact dk_dec (dk_dload_n1 g0 e)
      | 2, e => exact dk_dec (dk_dload_n2 g0 e)
      | 3, e => exact dk_dec (dk_dload_n3 g0 e)
  | dstore_n k =>
    match l, hl, h with
    | [], _, h => exact Bool.noConfusion (show false = true from h)
    | b0 :: _, hl, h =>
      have g0 := ck_g hl 0
      have h : (b0.toNat == 71 + k.val && n == 1) = true := h
      simp only [Bool.and_eq_true, beq_iff_eq, decide_eq_true_eq] at h
      obtain ⟨e, rfl⟩ := h
      match k, e with
      | 0, e => exact dk_dec (dk_dstore_n0 g0 e)
      | 1, e => exact dk_dec (dk_dstore_n1 g0 e)
      | 2, e => exact dk_dec (dk_dstore_n2 g0 e)
      | 3, e => exact dk_dec (dk_dstore_n3 g0 e)
  | iload_n k =>
    match l, hl, h with
    | [], _, h => exact Bool.noConfusion (show false = true from h)
    | b0 :: _, hl, h =>
      have g0 := ck_g hl 0
      have h : (b0.toNat == 26 + k.val && n == 1) = true := h
      simp only [Bool.and_eq_true, beq_iff_eq, decide_eq_true_eq] at h
      obtain ⟨e, rfl⟩ := h
      match k, e with
      | 0, e => exact dk_dec (dk_iload_n0 g0 e)
      | 1, e => exact dk_dec (dk_iload_n1 g0 e)
      | 2, e => exact dk_dec (dk_iload_n2 g0 e)
      | 3, e => exact dk_dec (dk_iload_n3 g0 e)
  | istore_n k =>
    match l, hl, h with
    | [], _, h => exact Bool.noConfusion (show false = true from h)
    | b0 :: _, hl, h =>
      have g0 := ck_g hl 0
      have h : (b0.toNat == 59 + k.val && n == 1) = true := h
      simp only [Bool.and_eq_true, beq_iff_eq, decide_eq_true_eq] at h
      obtain ⟨e, rfl⟩ := h
      match k, e with
      | 0, e => exact dk_dec (dk_istore_n0 g0 e)
      | 1, e => exact dk_dec (dk_istore_n1 g0 e)
      | 2, e => exact dk_dec (dk_istore_n2 g0 e)
      | 3, e => exact dk_dec (dk_istore_n3 g0 e)
  | lconst k =>
    match l, hl, h with
    | [], _, h => exact Bool.noConfusion (show false = true from h)
    | b0 :: _, hl, h =>
      have g0 := ck_g hl 0
      have h : (b0.toNat == 9 + k.val && n == 1) = true := h
      simp only [Bool.and_eq_true, beq_iff_eq, decide_eq_true_eq] at h
      obtain ⟨e, rfl⟩ := h
      match k, e with
      | 0, e => exact dk_dec (dk_lconst0 g0 e)
      | 1, e => exact dk_dec (dk_lconst1 g0 e)
  | lload_n k =>
    match l, hl, h with
    | [], _, h => exact Bool.noConfusion (show false = true from h)
    | b0 :: _, hl, h =>
      have g0 := ck_g hl 0
      have h : (b0.toNat == 30 + k.val && n == 1) = true := h
      simp only [Bool.and_eq_true, beq_iff_eq, decide_eq_true_eq] at h
      obtain ⟨e, rfl⟩ := h
      match k, e with
      | 0, e => exact dk_dec (dk_lload_n0 g0 e)
      | 1, e => exact dk_dec (dk_lload_n1 g0 e)
      | 2, e => exact dk_dec (dk_lload_n2 g0 e)
      | 3, e => exact dk_dec (dk_lload_n3 g0 e)
  | aload k =>
    match l, hl, h with
    | [], _, h => exact Bool.noConfusion (show false = true from h)
    | [_], _, h => exact Bool.noConfusion (show false = true from h)
    | b0 :: b1 :: _, hl, h =>
      have g0 := ck_g hl 0
      have g1 := ck_g hl 1
      have h : (b0.toNat == 25 && b1.toNat == k && n == 2) = true := h
      simp only [Bool.and_eq_true, beq_iff_eq, decide_eq_true_eq] at h
      obtain ⟨⟨e, rfl⟩, rfl⟩ := h
      exact dk_dec (dk_aload g0 g1 e)
  | astore k =>
    match l, hl, h with
    | [], _, h => exact Bool.noConfusion (show false = true from h)
    | [_], _, h => exact Bool.noConfusion (show false = true from h)
    | b0 :: b1 :: _, hl, h =>
      have g0 := ck_g hl 0
      have g1 := ck_g hl 1
      have h : (b0.toNat == 58 && b1.toNat == k && n == 2) = true := h
      simp only [Bool.and_eq_true, beq_iff_eq, decide_eq_true_eq] at h
      obtain ⟨⟨e, rfl⟩, rfl⟩ := h
      exact dk_dec (dk_astore g0 g1 e)
  | dload k =>
    match l, hl, h with
    | [], _, h => exact Bool.noConfusion (show false = true from h)
    | [_], _, h => exact Bool.noConfusion (show false = true from h)
    | b0 :: b1 :: _, hl, h =>
      have g0 := ck_g hl 0
      have g1 := ck_g hl 1
      have h : (b0.toNat == 24 && b1.toNat == k && n == 2) = true := h
      simp only [Bool.and_eq_true, beq_iff_eq, decide_eq_true_eq] at h
      obtain ⟨⟨e, rfl⟩, rfl⟩ := h
      exact dk_dec (dk_dload g0 g1 e)
  | dstore k =>
    match l, hl, h with
    | [], _, h => exact Bool.noConfusion (show false = true from h)
    | [_], _, h => exact Bool.noConfusion (show false = true from h)
    | b0 :: b1 :: _, hl, h =>
      have g0 := ck_g hl 0
      have g1 := ck_g hl 1
      have h : (b0.toNat == 57 && b1.toNat == k && n == 2) = true := h
      simp only [Bool.and_eq_true, beq_iff_eq, decide_eq_true_eq] at h
      obtain ⟨⟨e, rfl⟩, rfl⟩ := h
      exact dk_dec (dk_dstore g0 g1 e)
  | iload k =>
    match l, hl, h with
    | [], _, h => exact Bool.noConfusion (show false = true from h)
    | [_], _, h => exact Bool.noConfusion (show false = true from h)
    | b0 :: b1 :: _, hl, h =>
      have g0 := ck_g hl 0
      have g1 := ck_g hl 1
      have h : (b0.toNat == 21 && b1.toNat == k && n == 2) = true := h
      simp only [Bool.and_eq_true, beq_iff_eq, decide_eq_true_eq] at h
      obtain ⟨⟨e, rfl⟩, rfl⟩ := h
      exact dk_dec (dk_iload g0 g1 e)
  | istore k =>
    match l, hl, h with
    | [], _, h => exact Bool.noConfusion (show false = true from h)
    | [_], _, h => exact Bool.noConfusion (show false = true from h)
    | b0 :: b1 :: _, hl, h =>
      have g0 := ck_g hl 0
      have g1 := ck_g hl 1
      have h : (b0.toNat == 54 && b1.toNat == k && n == 2) = true := h
      simp only [Bool.and_eq_true, beq_iff_eq, decide_eq_true_eq] at h
      obtain ⟨⟨e, rfl⟩, rfl⟩ := h
      exact dk_dec (dk_istore g0 g1 e)
  | ldc k =>
    match l, hl, h with
    | [], _, h => exact Bool.noConfusion (show false = true from h)
    | [_], _, h => exact Bool.noConfusion (show false = true from h)
    | b0 :: b1 :: _, hl, h =>
      have g0 := ck_g hl 0
      have g1 := ck_g hl 1
      have h : (b0.toNat == 18 && b1.toNat == k && n == 2) = true := h
      simp only [Bool.and_eq_true, beq_iff_eq, decide_eq_true_eq] at h
      obtain ⟨⟨e, rfl⟩, rfl⟩ := h
      exact dk_dec (dk_ldc g0 g1 e)
  | lload k =>
    match l, hl, h with
    | [], _, h => exact Bool.noConfusion (show false = true from h)
    | [_], _, h => exact Bool.noConfusion (show false = true from h)
    | b0 :: b1 :: _, hl, h =>
      have g0 := ck_g hl 0
      have g1 := ck_g hl 1
      have h : (b0.toNat == 22 && b1.toNat == k && n == 2) = true := h
      simp only [Bool.and_eq_true, beq_iff_eq, decide_eq_true_eq] at h
      obtain ⟨⟨e, rfl⟩, rfl⟩ := h
      exact dk_dec (dk_lload g0 g1 e)
  | lstore k =>
    match l, hl, h with
    | [], _, h => exact Bool.noConfusion (show false = true from h)
    | [_], _, h => exact Bool.noConfusion (show false = true from h)
    | b0 :: b1 :: _, hl, h =>
      have g0 := ck_g hl 0
      have g1 := ck_g hl 1
      have h : (b0.toNat == 55 && b1.toNat == k && n == 2) = true := h
      simp only [Bool.and_eq_true, beq_iff_eq, decide_eq_true_eq] at h
      obtain ⟨⟨e, rfl⟩, rfl⟩ := h
      exact dk_dec (dk_lstore g0 g1 e)
  | bipush k =>
    match l, hl, h with
    | [], _, h => exact Bool.noConfusion (show false = true from h)
    | [_], _, h => exact Bool.noConfusion (show false = true from h)
    | b0 :: b1 :: _, hl, h =>
      have g0 := ck_g hl 0
      have g1 := ck_g hl 1
      have h : (b0.toNat == 16 && Reader.signed 8 b1.toNat == k && n == 2) = true := h
      simp only [Bool.and_eq_true, beq_iff_eq, decide_eq_true_eq] at h
      obtain ⟨⟨e, rfl⟩, rfl⟩ := h
      exact dk_dec (dk_bipush g0 g1 e)
  | anewarray k =>
    match l, hl, h with
    | [], _, h => exact Bool.noConfusion (show false = true from h)
    | [_], _, h => exact Bool.noConfusion (show false = true from h)
    | [_, _], _, h => exact Bool.noConfusion (show false = true from h)
    | b0 :: b1 :: b2 :: _, hl, h =>
      have g0 := ck_g hl 0
      have g1 := ck_g hl 1
      have g2 := ck_g hl 2
      have h : (b0.toNat == 189 && b1.toNat * 256 + b2.toNat == k && n == 3) = true := h
      simp only [Bool.and_eq_true, beq_iff_eq, decide_eq_true_eq] at h
      obtain ⟨⟨e, rfl⟩, rfl⟩ := h
      exact dk_dec (dk_anewarray g0 g1 g2 e)
  | checkcast k =>
    match l, hl, h with
    | [], _, h => exact Bool.noConfusion (show false = true from h)
    | [_], _, h => exact Bool.noConfusion (show false = true from h)
    | [_, _], _, h => exact Bool.noConfusion (show false = true from h)
    | b0 :: b1 :: b2 :: _, hl, h =>
      have g0 := ck_g hl 0
      have g1 := ck_g hl 1
      have g2 := ck_g hl 2
      have h : (b0.toNat == 192 && b1.toNat * 256 + b2.toNat == k && n == 3) = true := h
      simp only [Bool.and_eq_true, beq_iff_eq, decide_eq_true_eq] at h
      obtain ⟨⟨e, rfl⟩, rfl⟩ := h
      exact dk_dec (dk_checkcast g0 g1 g2 e)
  | getfield k =>
    match l, hl, h with
    | [], _, h => exact Bool.noConfusion (show false = true from h)
    | [_], _, h => exact Bool.noConfusion (show false = true from h)
    | [_, _], _, h => exact Bool.noConfusion (show false = true from h)
    | b0 :: b1 :: b2 :: _, hl, h =>
      have g0 := ck_g hl 0
      have g1 := ck_g hl 1
      have g2 := ck_g hl 2
      have h : (b0.toNat == 180 && b1.toNat * 256 + b2.toNat == k && n == 3) = true := h
      simp only [Bool.and_eq_true, beq_iff_eq, decide_eq_true_eq] at h
      obtain ⟨⟨e, rfl⟩, rfl⟩ := h
      exact dk_dec (dk_getfield g0 g1 g2 e)
  | getstatic k =>
    match l, hl, h with
    | [], _, h => exact Bool.noConfusion (show false = true from h)
    | [_], _, h => exact Bool.noConfusion (show false = true from h)
    | [_, _], _, h => exact Bool.noConfusion (show false = true from h)
    | b0 :: b1 :: b2 :: _, hl, h =>
      have g0 := ck_g hl 0
      have g1 := ck_g hl 1
      have g2 := ck_g hl 2
      have h : (b0.toNat == 178 && b1.toNat * 256 + b2.toNat == k && n == 3) = true := h
      simp only [Bool.and_eq_true, beq_iff_eq, decide_eq_true_eq] at h
      obtain ⟨⟨e, rfl⟩, rfl⟩ := h
      exact dk_dec (dk_getstatic g0 g1 g2 e)
  | invokespecial k =>
    match l, hl, h with
    | [], _, h => exact Bool.noConfusion (show false = true from h)
    | [_], _, h => exact Bool.noConfusion (show false = true from h)
    | [_, _], _, h => exact Bool.noConfusion (show false = true from h)
    | b0 :: b1 :: b2 :: _, hl, h =>
      have g0 := ck_g hl 0
      have g1 := ck_g hl 1
      have g2 := ck_g hl 2
      have h : (b0.toNat == 183 && b1.toNat * 256 + b2.toNat == k && n == 3) = true := h
      simp only [Bool.and_eq_true, beq_iff_eq, decide_eq_true_eq] at h
      obtain ⟨⟨e, rfl⟩, rfl⟩ := h
      exact dk_dec (dk_invokespecial g0 g1 g2 e)
  | invokestatic k =>
    match l, hl, h with
    | [], _, h => exact Bool.noConfusion (show false = true from h)
    | [_], _, h => exact Bool.noConfusion (show false = true from h)
    | [_, _], _, h => exact Bool.noConfusion (show false = true from h)
    | b0 :: b1 :: b2 :: _, hl, h =>
      have g0 := ck_g hl 0
      have g1 := ck_g hl 1
      have g2 := ck_g hl 2
      have h : (b0.toNat == 184 && b1.toNat * 256 + b2.toNat == k && n == 3) = true := h
      simp only [Bool.and_eq_true, beq_iff_eq, decide_eq_true_eq] at h
      obtain ⟨⟨e, rfl⟩, rfl⟩ := h
      exact dk_dec (dk_invokestatic g0 g1 g2 e)
  | invokevirtual k =>
    match l, hl, h with
    | [], _, h => exact Bool.noConfusion (show false = true from h)
    | [_], _, h => exact Bool.noConfusion (show false = true from h)
    | [_, _], _, h => exact Bool.noConfusion (show false = true from h)
    | b0 :: b1 :: b2 :: _, hl, h =>
      have g0 := ck_g hl 0
      have g1 := ck_g hl 1
      have g2 := ck_g hl 2
      have h : (b0.toNat == 182 && b1.toNat * 256 + b2.toNat == k && n == 3) = true := h
      simp only [Bool.and_eq_true, beq_iff_eq, decide_eq_true_eq] at h
      obtain ⟨⟨e, rfl⟩, rfl⟩ := h
      exact dk_dec (dk_invokevirtual g0 g1 g2 e)
  | ldc2_w k =>
    match l, hl, h with
    | [], _, h => exact Bool.noConfusion (show false = true from h)
    | [_], _, h => exact Bool.noConfusion (show false = true from h)
    | [_, _], _, h => exact Bool.noConfusion (show false = true from h)
    | b0 :: b1 :: b2 :: _, hl, h =>
      have g0 := ck_g hl 0
      have g1 := ck_g hl 1
      have g2 := ck_g hl 2
      have h : (b0.toNat == 20 && b1.toNat * 256 + b2.toNat == k && n == 3) = true := h
      simp only [Bool.and_eq_true, beq_iff_eq, decide_eq_true_eq] at h
      obtain ⟨⟨e, rfl⟩, rfl⟩ := h
      exact dk_dec (dk_ldc2_w g0 g1 g2 e)
  | ldc_w k =>
    match l, hl, h with
    | [], _, h => exact Bool.noConfusion (show false = true from h)
    | [_], _, h => exact Bool.noConfusion (show false = true from h)
    | [_, _], _, h => exact Bool.noConfusion (show false = true from h)
    | b0 :: b1 :: b2 :: _, hl, h =>
      have g0 := ck_g hl 0
      have g1 := ck_g hl 1
      have g2 := ck_g hl 2
      have h : (b0.toNat == 19 && b1.toNat * 256 + b2.toNat == k && n == 3) = true := h
      simp only [Bool.and_eq_true, beq_iff_eq, decide_eq_true_eq] at h
      obtain ⟨⟨e, rfl⟩, rfl⟩ := h
      exact dk_dec (dk_ldc_w g0 g1 g2 e)
  | new k =>
    match l, hl, h with
    | [], _, h => exact Bool.noConfusion (show false = true from h)
    | [_], _, h => exact Bool.noConfusion (show false = true from h)
    | [_, _], _, h => exact Bool.noConfusion (show false = true from h)
    | b0 :: b1 :: b2 :: _, hl, h =>
      have g0 := ck_g hl 0
      have g1 := ck_g hl 1
      have g2 := ck_g hl 2
      have h : (b0.toNat == 187 && b1.toNat * 256 + b2.toNat == k && n == 3) = true := h
      simp only [Bool.and_eq_true, beq_iff_eq, decide_eq_true_eq] at h
      obtain ⟨⟨e, rfl⟩, rfl⟩ := h
      exact dk_dec (dk_new g0 g1 g2 e)
  | putfield k =>
    match l, hl, h with
    | [], _, h => exact Bool.noConfusion (show false = true from h)
    | [_], _, h => exact Bool.noConfusion (show false = true from h)
    | [_, _], _, h => exact Bool.noConfusion (show false = true from h)
    | b0 :: b1 :: b2 :: _, hl, h =>
      have g0 := ck_g hl 0
      have g1 := ck_g hl 1
      have g2 := ck_g hl 2
      have h : (b0.toNat == 181 && b1.toNat * 256 + b2.toNat == k && n == 3) = true := h
      simp only [Bool.and_eq_true, beq_iff_eq, decide_eq_true_eq] at h
      obtain ⟨⟨e, rfl⟩, rfl⟩ := h
      exact dk_dec (dk_putfield g0 g1 g2 e)
  | goto k =>
    match l, hl, h with
    | [], _, h => exact Bool.noConfusion (show false = true from h)
    | [_], _, h => exact Bool.noConfusion (show false = true from h)
    | [_, _], _, h => exact Bool.noConfusion (show false = true from h)
    | b0 :: b1 :: b2 :: _, hl, h =>
      have g0 := ck_g hl 0
      have g1 := ck_g hl 1
      have g2 := ck_g hl 2
      have h : (b0.toNat == 167 && Reader.signed 16 (b1.toNat * 256 + b2.toNat) == k && n == 3) = true := h
      simp only [Bool.and_eq_true, beq_iff_eq, decide_eq_true_eq] at h
      obtain ⟨⟨e, rfl⟩, rfl⟩ := h
      exact dk_dec (dk_goto g0 g1 g2 e)
  | ifnonnull k =>
    match l, hl, h with
    | [], _, h => exact Bool.noConfusion (show false = true from h)
    | [_], _, h => exact Bool.noConfusion (show false = true from h)
    | [_, _], _, h => exact Bool.noConfusion (show false = true from h)
    | b0 :: b1 :: b2 :: _, hl, h =>
      have g0 := ck_g hl 0
      have g1 := ck_g hl 1
      have g2 := ck_g hl 2
      have h : (b0.toNat == 199 && Reader.signed 16 (b1.toNat * 256 + b2.toNat) == k && n == 3) = true := h
      simp only [Bool.and_eq_true, beq_iff_eq, decide_eq_true_eq] at h
      obtain ⟨⟨e, rfl⟩, rfl⟩ := h
      exact dk_dec (dk_ifnonnull g0 g1 g2 e)
  | ifnull k =>
    match l, hl, h with
    | [], _, h => exact Bool.noConfusion (show false = true from h)
    | [_], _, h => exact Bool.noConfusion (show false = true from h)
    | [_, _], _, h => exact Bool.noConfusion (show false = true from h)
    | b0 :: b1 :: b2 :: _, hl, h =>
      have g0 := ck_g hl 0
      have g1 := ck_g hl 1
      have g2 := ck_g hl 2
      have h : (b0.toNat == 198 && Reader.signed 16 (b1.toNat * 256 + b2.toNat) == k && n == 3) = true := h
      simp only [Bool.and_eq_true, beq_iff_eq, decide_eq_true_eq] at h
      obtain ⟨⟨e, rfl⟩, rfl⟩ := h
      exact dk_dec (dk_ifnull g0 g1 g2 e)
  | sipush k =>
    match l, hl, h with
    | [], _, h => exact Bool.noConfusion (show false = true from h)
    | [_], _, h => exact Bool.noConfusion (show false = true from h)
    | [_, _], _, h => exact Bool.noConfusion (show false = true from h)
    | b0 :: b1 :: b2 :: _, hl, h =>
      have g0 := ck_g hl 0
      have g1 := ck_g hl 1
      have g2 := ck_g hl 2
      have h : (b0.toNat == 17 && Reader.signed 16 (b1.toNat * 256 + b2.toNat) == k && n == 3) = true := h
      simp only [Bool.and_eq_true, beq_iff_eq, decide_eq_true_eq] at h
      obtain ⟨⟨e, rfl⟩, rfl⟩ := h
      exact dk_dec (dk_sipush g0 g1 g2 e)
  | iconst k =>
    match l, hl, h with
    | [], _, h => exact Bool.noConfusion (show false = true from h)
    | b0 :: _, hl, h =>
      have g0 := ck_g hl 0
      have h : ((2 ≤ b0.toNat && b0.toNat ≤ 8) && (b0.toNat : Int) - 3 == k && n == 1) = true := h
      simp only [Bool.and_eq_true, beq_iff_eq, decide_eq_true_eq] at h
      obtain ⟨⟨⟨e1, e2⟩, e3⟩, rfl⟩ := h
      have e4 : b0.toNat = 2 ∨ b0.toNat = 3 ∨ b0.toNat = 4 ∨ b0.toNat = 5 ∨ b0.toNat = 6 ∨ b0.toNat = 7 ∨ b0.toNat = 8 := by omega
      rcases e4 with e | e | e | e | e | e | e <;> rw [e] at e3 <;> subst e3
      · exact dk_dec (dk_iconst0 g0 e)
      · exact dk_dec (dk_iconst1 g0 e)
      · exact dk_dec (dk_iconst2 g0 e)
      · exact dk_dec (dk_iconst3 g0 e)
      · exact dk_dec (dk_iconst4 g0 e)
      · exact dk_dec (dk_iconst5 g0 e)
      · exact dk_dec (dk_iconst6 g0 e)
  | iinc k z =>
    match l, hl, h with
    | [], _, h => exact Bool.noConfusion (show false = true from h)
    | [_], _, h => exact Bool.noConfusion (show false = true from h)
    | [_, _], _, h => exact Bool.noConfusion (show false = true from h)
    | b0 :: b1 :: b2 :: _, hl, h =>
      have g0 := ck_g hl 0
      have g1 := ck_g hl 1
      have g2 := ck_g hl 2
      have h : (b0.toNat == 132 && b1.toNat == k && Reader.signed 8 b2.toNat == z && n == 3) = true := h
      simp only [Bool.and_eq_true, beq_iff_eq, decide_eq_true_eq] at h
      obtain ⟨⟨⟨e, rfl⟩, rfl⟩, rfl⟩ := h
      exact dk_dec (dk_iinc g0 g1 g2 e)
  | ifCond q k =>
    cases q with
    | eq =>
      match l, hl, h with
      | [], _, h => exact Bool.noConfusion (show false = true from h)
      | [_], _, h => exact Bool.noConfusion (show false = true from h)
      | [_, _], _, h => exact Bool.noConfusion (show false = true from h)
      | b0 :: b1 :: b2 :: _, hl, h =>
        have g0 := ck_g hl 0
        have g1 := ck_g hl 1
        have g2 := ck_g hl 2
        have h : (b0.toNat == 153 && Reader.signed 16 (b1.toNat * 256 + b2.toNat) == k && n == 3) = true := h
        simp only [Bool.and_eq_true, beq_iff_eq, decide_eq_true_eq] at h
        obtain ⟨⟨e, rfl⟩, rfl⟩ := h
        exact dk_dec (dk_ifCond_eq g0 g1 g2 e)
    | ne =>
      match l, hl, h with
      | [], _, h => exact Bool.noConfusion (show false = true from h)
      | [_], _, h => exact Bool.noConfusion (show false = true from h)
      | [_, _], _, h => exact Bool.noConfusion (show false = true from h)
      | b0 :: b1 :: b2 :: _, hl, h =>
        have g0 := ck_g hl 0
        have g1 := ck_g hl 1
        have g2 := ck_g hl 2
        have h : (b0.toNat == 154 && Reader.signed 16 (b1.toNat * 256 + b2.toNat) == k && n == 3) = true := h
        simp only [Bool.and_eq_true, beq_iff_eq, decide_eq_true_eq] at h
        obtain ⟨⟨e, rfl⟩, rfl⟩ := h
        exact dk_dec (dk_ifCond_ne g0 g1 g2 e)
    | lt =>
      match l, hl, h with
      | [], _, h => exact Bool.noConfusion (show false = true from h)
      | [_], _, h => exact Bool.noConfusion (show false = true from h)
      | [_, _], _, h => exact Bool.noConfusion (show false = true from h)
      | b0 :: b1 :: b2 :: _, hl, h =>
        have g0 := ck_g hl 0
        have g1 := ck_g hl 1
        have g2 := ck_g hl 2
        have h : (b0.toNat == 155 && Reader.signed 16 (b1.toNat * 256 + b2.toNat) == k && n == 3) = true := h
        simp only [Bool.and_eq_true, beq_iff_eq, decide_eq_true_eq] at h
        obtain ⟨⟨e, rfl⟩, rfl⟩ := h
        exact dk_dec (dk_ifCond_lt g0 g1 g2 e)
    | ge =>
      match l, hl, h with
      | [], _, h => exact Bool.noConfusion (show false = true from h)
      | [_], _, h => exact Bool.noConfusion (show false = true from h)
      | [_, _], _, h => exact Bool.noConfusion (show false = true from h)
      | b0 :: b1 :: b2 :: _, hl, h =>
        have g0 := ck_g hl 0
        have g1 := ck_g hl 1
        have g2 := ck_g hl 2
        have h : (b0.toNat == 156 && Reader.signed 16 (b1.toNat * 256 + b2.toNat) == k && n == 3) = true := h
        simp only [Bool.and_eq_true, beq_iff_eq, decide_eq_true_eq] at h
        obtain ⟨⟨e, rfl⟩, rfl⟩ := h
        exact dk_dec (dk_ifCond_ge g0 g1 g2 e)
    | gt =>
      match l, hl, h with
      | [], _, h => exact Bool.noConfusion (show false = true from h)
      | [_], _, h => exact Bool.noConfusion (show false = true from h)
      | [_, _], _, h => exact Bool.noConfusion (show false = true from h)
      | b0 :: b1 :: b2 :: _, hl, h =>
        have g0 := ck_g hl 0
        have g1 := ck_g hl 1
        have g2 := ck_g hl 2
        have h : (b0.toNat == 157 && Reader.signed 16 (b1.toNat * 256 + b2.toNat) == k && n == 3) = true := h
        simp only [Bool.and_eq_true, beq_iff_eq, decide_eq_true_eq] at h
        obtain ⟨⟨e, rfl⟩, rfl⟩ := h
        exact dk_dec (dk_ifCond_gt g0 g1 g2 e)
    | le =>
      match l, hl, h with
      | [], _, h => exact Bool.noConfusion (show false = true from h)
      | [_], _, h => exact Bool.noConfusion (show false = true from h)
      | [_, _], _, h => exact Bool.noConfusion (show false = true from h)
      | b0 :: b1 :: b2 :: _, hl, h =>
        have g0 := ck_g hl 0
        have g1 := ck_g hl 1
        have g2 := ck_g hl 2
        have h : (b0.toNat == 158 && Reader.signed 16 (b1.toNat * 256 + b2.toNat) == k && n == 3) = true := h
        simp only [Bool.and_eq_true, beq_iff_eq, decide_eq_true_eq] at h
        obtain ⟨⟨e, rfl⟩, rfl⟩ := h
        exact dk_dec (dk_ifCond_le g0 g1 g2 e)
  | if_icmp q k =>
    cases q with
    | eq =>
      match l, hl, h with
      | [], _, h => exact Bool.noConfusion (show false = true from h)
      | [_], _, h => exact Bool.noConfusion (show false = true from h)
      | [_, _], _, h => exact Bool.noConfusion (show false = true from h)
      | b0 :: b1 :: b2 :: _, hl, h =>
        have g0 := ck_g hl 0
        have g1 := ck_g hl 1
        have g2 := ck_g hl 2
        have h : (b0.toNat == 159 && Reader.signed 16 (b1.toNat * 256 + b2.toNat) == k && n == 3) = true := h
        simp only [Bool.and_eq_true, beq_iff_eq, decide_eq_true_eq] at h
        obtain ⟨⟨e, rfl⟩, rfl⟩ := h
        exact dk_dec (dk_if_icmp_eq g0 g1 g2 e)
    | ne =>
      match l, hl, h with
      | [], _, h => exact Bool.noConfusion (show false = true from h)
      | [_], _, h => exact Bool.noConfusion (show false = true from h)
      | [_, _], _, h => exact Bool.noConfusion (show false = true from h)
      | b0 :: b1 :: b2 :: _, hl, h =>
        have g0 := ck_g hl 0
        have g1 := ck_g hl 1
        have g2 := ck_g hl 2
        have h : (b0.toNat == 160 && Reader.signed 16 (b1.toNat * 256 + b2.toNat) == k && n == 3) = true := h
        simp only [Bool.and_eq_true, beq_iff_eq, decide_eq_true_eq] at h
        obtain ⟨⟨e, rfl⟩, rfl⟩ := h
        exact dk_dec (dk_if_icmp_ne g0 g1 g2 e)
    | lt =>
      match l, hl, h with
      | [], _, h => exact Bool.noConfusion (show false = true from h)
      | [_], _, h => exact Bool.noConfusion (show false = true from h)
      | [_, _], _, h => exact Bool.noConfusion (show false = true from h)
      | b0 :: b1 :: b2 :: _, hl, h =>
        have g0 := ck_g hl 0
        have g1 := ck_g hl 1
        have g2 := ck_g hl 2
        have h : (b0.toNat == 161 && Reader.signed 16 (b1.toNat * 256 + b2.toNat) == k && n == 3) = true := h
        simp only [Bool.and_eq_true, beq_iff_eq, decide_eq_true_eq] at h
        obtain ⟨⟨e, rfl⟩, rfl⟩ := h
        exact dk_dec (dk_if_icmp_lt g0 g1 g2 e)
    | ge =>
      match l, hl, h with
      | [], _, h => exact Bool.noConfusion (show false = true from h)
      | [_], _, h => exact Bool.noConfusion (show false = true from h)
      | [_, _], _, h => exact Bool.noConfusion (show false = true from h)
      | b0 :: b1 :: b2 :: _, hl, h =>
        have g0 := ck_g hl 0
        have g1 := ck_g hl 1
        have g2 := ck_g hl 2
        have h : (b0.toNat == 162 && Reader.signed 16 (b1.toNat * 256 + b2.toNat) == k && n == 3) = true := h
        simp only [Bool.and_eq_true, beq_iff_eq, decide_eq_true_eq] at h
        obtain ⟨⟨e, rfl⟩, rfl⟩ := h
        exact dk_dec (dk_if_icmp_ge g0 g1 g2 e)
    | gt =>
      match l, hl, h with
      | [], _, h => exact Bool.noConfusion (show false = true from h)
      | [_], _, h => exact Bool.noConfusion (show false = true from h)
      | [_, _], _, h => exact Bool.noConfusion (show false = true from h)
      | b0 :: b1 :: b2 :: _, hl, h =>
        have g0 := ck_g hl 0
        have g1 := ck_g hl 1
        have g2 := ck_g hl 2
        have h : (b0.toNat == 163 && Reader.signed 16 (b1.toNat * 256 + b2.toNat) == k && n == 3) = true := h
        simp only [Bool.and_eq_true, beq_iff_eq, decide_eq_true_eq] at h
        obtain ⟨⟨e, rfl⟩, rfl⟩ := h
        exact dk_dec (dk_if_icmp_gt g0 g1 g2 e)
    | le =>
      match l, hl, h with
      | [], _, h => exact Bool.noConfusion (show false = true from h)
      | [_], _, h => exact Bool.noConfusion (show false = true from h)
      | [_, _], _, h => exact Bool.noConfusion (show false = true from h)
      | b0 :: b1 :: b2 :: _, hl, h =>
        have g0 := ck_g hl 0
        have g1 := ck_g hl 1
        have g2 := ck_g hl 2
        have h : (b0.toNat == 164 && Reader.signed 16 (b1.toNat * 256 + b2.toNat) == k && n == 3) = true := h
        simp only [Bool.and_eq_true, beq_iff_eq, decide_eq_true_eq] at h
        obtain ⟨⟨e, rfl⟩, rfl⟩ := h
        exact dk_dec (dk_if_icmp_le g0 g1 g2 e)
  | if_acmp q k =>
    cases q with
    | eq =>
      match l, hl, h with
      | [], _, h => exact Bool.noConfusion (show false = true from h)
      | [_], _, h => exact Bool.noConfusion (show false = true from h)
      | [_, _], _, h => exact Bool.noConfusion (show false = true from h)
      | b0 :: b1 :: b2 :: _, hl, h =>
        have g0 := ck_g hl 0
        have g1 := ck_g hl 1
        have g2 := ck_g hl 2
        have h : (b0.toNat == 165 && Reader.signed 16 (b1.toNat * 256 + b2.toNat) == k && n == 3) = true := h
        simp only [Bool.and_eq_true, beq_iff_eq, decide_eq_true_eq] at h
        obtain ⟨⟨e, rfl⟩, rfl⟩ := h
        exact dk_dec (dk_if_acmp_eq g0 g1 g2 e)
    | ne =>
      match l, hl, h with
      | [], _, h => exact Bool.noConfusion (show false = true from h)
      | [_], _, h => exact Bool.noConfusion (show false = true from h)
      | [_, _], _, h => exact Bool.noConfusion (show false = true from h)
      | b0 :: b1 :: b2 :: _, hl, h =>
        have g0 := ck_g hl 0
        have g1 := ck_g hl 1
        have g2 := ck_g hl 2
        have h : (b0.toNat == 166 && Reader.signed 16 (b1.toNat * 256 + b2.toNat) == k && n == 3) = true := h
        simp only [Bool.and_eq_true, beq_iff_eq, decide_eq_true_eq] at h
        obtain ⟨⟨e, rfl⟩, rfl⟩ := h
        exact dk_dec (dk_if_acmp_ne g0 g1 g2 e)
  | dcmp q =>
    cases q with
    | l =>
      match l, hl, h with
      | [], _, h => exact Bool.noConfusion (show false = true from h)
      | b0 :: _, hl, h =>
        have g0 := ck_g hl 0
        have h : (b0.toNat == 151 && n == 1) = true := h
        simp only [Bool.and_eq_true, beq_iff_eq, decide_eq_true_eq] at h
        obtain ⟨e, rfl⟩ := h
        exact dk_dec (dk_dcmp_l g0 e)
    | g =>
      match l, hl, h with
      | [], _, h => exact Bool.noConfusion (show false = true from h)
      | b0 :: _, hl, h =>
        have g0 := ck_g hl 0
        have h : (b0.toNat == 152 && n == 1) = true := h
        simp only [Bool.and_eq_true, beq_iff_eq, decide_eq_true_eq] at h
        obtain ⟨e, rfl⟩ := h
        exact dk_dec (dk_dcmp_g g0 e)
  | _ => exact Bool.noConfusion (show false = true from h)
def dcw : List UInt8 → Nat → List (Nat × Instr × Nat) → Bool
  | _, _, [] => true
  | l, p, q :: r => decide (p ≤ q.1) && (ck q.2.1 q.2.2 (l.drop (q.1 - p)) && dcw (l.drop (q.1 - p)) q.1 r)
def dc_T (c : ByteArray) (t : List (Nat × Instr × Nat)) : Bool := dcw c.data.toList 0 t
theorem dcw_ok {L : List UInt8} : ∀ (t : List (Nat × Instr × Nat)) (p : Nat), dcw (L.drop p) p t = true → ∀ q ∈ t, ck q.2.1 q.2.2 (L.drop q.1) = true
  | [], _, _, _, h => absurd h List.not_mem_nil
  | q0 :: r, p, h, q, hq => by
    have h' : (decide (p ≤ q0.1) && (ck q0.2.1 q0.2.2 ((L.drop p).drop (q0.1 - p)) && dcw ((L.drop p).drop (q0.1 - p)) q0.1 r)) = true := h
    rw [Bool.and_eq_true, Bool.and_eq_true] at h'
    obtain ⟨h1, h2, h3⟩ := h'
    have h1 := of_decide_eq_true h1
    have e : (L.drop p).drop (q0.1 - p) = L.drop q0.1 := by rw [List.drop_drop]; congr 1; omega
    rw [e] at h2 h3
    rcases List.mem_cons.mp hq with z | z
    · rw [z]; exact h2
    · exact dcw_ok r q0.1 h3 q z
theorem dc {c : ByteArray} {t : List (Nat × Instr × Nat)} (h : dc_T c t = true) (i : Nat) {pc len : Nat} {ins : Instr} (hi : t[i]? = some (pc, ins, len)) : decode c pc = .ok (ins, len) :=
  ck_ok (dcw_ok (L := c.data.toList) t 0 h _ (List.mem_of_getElem? hi))
end
