/-! the law's two worlds: the class with the law's two rows, the reference -/
def calh {ρ β : Type} (x : Option (Mem × (ρ ⊕ Nat))) (k : Mem → ρ → Option β) : Option β := match x with
  | none => none
  | some (M, .inl r) => k M r
  | some (_, .inr _) => none
theorem calh_s {ρ β : Type} {x : Option (Mem × (ρ ⊕ Nat))} {k : Mem → ρ → Option β} {y : β} (hf : calh x k = some y) : ∃ M r, x = some (M, .inl r) ∧ k M r = some y := by
  match x, hf with
  | some (M, .inl r), hf => exact ⟨M, r, rfl, hf⟩
def apart2 (kd kd' : Nat → Nat × Nat) (ad ad' : Nat → Nat) : Prop := ∀ k k', (kd k).1 ≠ 0 → (kd' k').1 ≠ 0 → ad k ≠ ad' k'
section LW
variable {p : Program} {l : Launch} {e : Env} {R : Room} {s : State} {m : MethodId} {args : Array Value} {below : List Frame} {meth : Method} {c : Code} {H : Heap} {locs : List Loc} {cells slots : Nat} {Q : State → Prop}
variable {cc : ByteArray} {pc : Nat} {ls : Array Slot} {rest : List Value} {G : GT} {kd kd' : Nat → Nat × Nat} {ad ad' : Nat → Nat} {M N : Mem} {H0 : Heap}
theorem Inv.other (hA : AS kd ad s.heap.size = AS kd' ad' s.heap.size) (hdis : apart2 kd kd' ad ad') (hI' : Inv G kd' ad' s.heap N H locs) {H1 : Heap} {locs1 : List Loc} (k2 : ∀ q : Nat, q < H.size → ¬ AS kd ad H.size q → H1[q]? = H[q]?) (k3 : va_S (AS kd ad s.heap.size) s.heap H1 locs1) : Inv G kd' ad' s.heap N H1 locs1 :=
  ⟨hI'.1.kept (fun k hk => k2 _ (hI'.1.lt hk) (fun h => h.elim (fun ⟨k', h1, h2⟩ => hdis k' k h1 hk h2.symm) (fun z => absurd (hI'.1.lt hk) (Nat.not_lt.mpr z)))), hA ▸ k3⟩
theorem l_call {st0 : List Value} {a : Array Value} {mc ms : Nat} {M' : Mem} {v : Option Value} (hr : va_Run p l e R s m args below meth c H locs cells slots mc ms (F0 m pc ls st0) rest (Qg G kd ad H.size M' v a) (AS kd ad H.size)) (hI : Inv G kd ad s.heap M H locs) (hJ : Inv G kd' ad' s.heap N H locs) (hA : AS kd ad s.heap.size = AS kd' ad' s.heap.size) (hdis : apart2 kd kd' ad ad')
    (kk : ∀ (H1 : Heap) (locs1 : List Loc), Inv G kd ad s.heap M' H1 locs1 → Inv G kd' ad' s.heap N H1 locs1 → W p l e R s m args below meth c H1 locs1 (cells + mc) (slots + ms) Q (F0 m (pc + 3) ls (v.toList ++ rest))) : W p l e R s m args below meth c H locs cells slots Q (F0 m pc ls st0) := by
  intro T hT X
  obtain ⟨v', st₀, t, T', L, h0, X', hL, e1, e2, ⟨hv, hw, hF⟩, st⟩ := hr T hT X
  cases hv
  obtain ⟨k1, k2, k3⟩ := vx_keep h0 e1 hI.2 (fun q hq h => AS.old hq h) (fun q h => AS.mono hI.2.1 h) hL hF
  obtain ⟨t2, a1, b1⟩ := kk T'.heap (locs ++ L) ⟨by rw [e1]; exact hw, k3⟩ (hJ.other hA hdis k2 k3) T' rfl X'
  exact ⟨t2, st t2 a1, b1⟩
theorem l_callH {st0 : List Value} {a : Array Value} {mc ms : Nat} {M' : Mem} {r : Int32} (hr : vx_Run p l e R s m args below meth c H locs cells slots mc ms (F0 m pc ls st0) rest (Qx G kd ad H.size M' (.inl (some (.int r))) a) (Xx G kd ad H.size M' (.inl (some (.int r)))) (AS kd ad H.size)) (hI : Inv G kd ad s.heap M H locs) (hJ : Inv G kd' ad' s.heap N H locs) (hA : AS kd ad s.heap.size = AS kd' ad' s.heap.size) (hdis : apart2 kd kd' ad ad')
    (kk : ∀ (H1 : Heap) (locs1 : List Loc), Inv G kd ad s.heap M' H1 locs1 → Inv G kd' ad' s.heap N H1 locs1 → W p l e R s m args below meth c H1 locs1 (cells + mc) (slots + ms) Q (F0 m (pc + 3) ls (.int r :: rest))) : W p l e R s m args below meth c H locs cells slots Q (F0 m pc ls st0) := by
  intro T hT X
  rcases hr T hT X with ⟨v', st₀, t, T', L, h0, X', hL, e1, e2, ⟨v2, hz, hv, hw, hF⟩, st⟩ | ⟨q, st₀, t, T', L, E, ce, h0, X', hL, e1, e2, ⟨e3, hz, -⟩, -⟩
  · cases hz
    cases hv
    obtain ⟨k1, k2, k3⟩ := vx_keep h0 e1 hI.2 (fun q hq h => AS.old hq h) (fun q h => AS.mono hI.2.1 h) hL hF
    obtain ⟨t2, a1, b1⟩ := kk T'.heap (locs ++ L) ⟨by rw [e1]; exact hw, k3⟩ (hJ.other hA hdis k2 k3) T' rfl X'
    exact ⟨t2, st t2 a1, b1⟩
  · cases hz
theorem g_runV {b : Nat} {y : MethodName} {bytes : ByteArray} {maxL nL mc ms n index : Nat} {ret : Option FieldType} {rm : Room} {own C : String} {As : List Value} {M' : Mem} {v : Option Value} (hx : p.tables.exec = Jvm.exec) (hb : c.code = cc) (hml : c.maxLocals = nL) (hown : s.vm.findClass own = some m.cls) (hts : ∀ w ∈ WA, w.before args s = true) (hK : va_K G.1 vwCl (tyL G) s) (hap : Apt kd ad) (hsx : Sx G (AS kd ad s.heap.size) s s.heap) (hI : Inv G kd ad s.heap M H locs)
    (hM : Met l y (Cond.code y bytes maxL ret :: WA) rm (Pg G kd ad H.size (.ref (ad b) :: As) M) (Qg G kd ad H.size M' v) mc ms (AS kd ad H.size)) (hcv : cvF C y bytes maxL ret n) (hl : Cond.methodLink own index y ∈ WA) (hrc : rm.cells = mc) (hrs : rm.slots = ms) (hR : rm.frames + 1 ≤ R.frames ∧ 8 + (maxL + 11) + rm.locals ≤ R.locals)
    {ci : Nat} {q : Nat × Nat} {fs : List Value} {T : u_T} {N9 : Nat} (hk : kd b = q) (hq : q.1 ≠ 0) (he : ent ad G.2.1 q b (M.1 b) (M.2.1 b) (M.2.2 b) = .inr (ci, fs)) (hc : vwCl[ci]? = some (C, T, N9))
    (hn : As.length = n) (hsize : ls.size = nL) {st : List Value} (hst : st = As.reverse ++ .ref (ad b) :: rest) (hW : (rest.map fun v => v.category).sum ≤ 8) (hdg : decode cc pc = .ok (.invokevirtual index, 3)) (hf : cells + mc ≤ R.cells ∧ slots + ms ≤ R.slots) :
    va_Run p l e R s m args below meth c H locs cells slots mc ms (F0 m pc ls st) rest (Qg G kd ad H.size M' v (Value.ref (ad b) :: As).toArray) (AS kd ad H.size) := by
  subst hst
  obtain ⟨c1, c2, c3, c4, c5⟩ := hcv
  have hG : GoodIn WA (wsV own index C y (Cond.code y bytes maxL ret :: WA)) := fun w h => by
    have : w ∈ WA := by
      rcases List.mem_append.mp h with h | h
      · simp only [List.mem_cons, List.not_mem_nil, or_false] at h
        rcases h with rfl | rfl | rfl | rfl
        · exact hl
        · exact c1
        · exact c2
        · exact c3
      · exact ws_good c4 w h
    exact ⟨this, wa_good w this⟩
  exact va_runV (C := C) (b := ad b) (As := As) (rest := rest) ⟨hx, hb, hml, hown, hts⟩ hM (cwV n hts hG rfl hrc hrs c5 hR) ⟨pg_blind, va_recv hK (va_P1 (hI.at hk hq he)) hc (q0 := 0) rfl, fun U hU hW => pg_of hap hK hsx hI hU hW⟩ rfl hn hsize rfl (lv_room hW) hdg hf
theorem g_runVR {b : Nat} {y : MethodName} {bytes : ByteArray} {maxL nL mc ms n index : Nat} {ret : Option FieldType} {rm : Room} {own C : String} {As : List Value} {M' : Mem} {v : Option Value} (hx : p.tables.exec = Jvm.exec) (hb : c.code = cc) (hml : c.maxLocals = nL) (hown : s.vm.findClass own = some m.cls) (hts : ∀ w ∈ WA, w.before args s = true) (hK : va_K G.1 vwCl (tyL G) s) (hap : Apt kd ad) (hsx : Sx G (AS kd ad s.heap.size) s s.heap) (hI : Inv G kd ad s.heap M H locs)
    (hM : Met l y (Cond.code y bytes maxL ret :: WA) rm (Pg G kd ad H.size (.ref (ad b) :: As) M) (Qr G kd ad H.size M' v) mc ms (AS kd ad H.size)) (hcv : cvF C y bytes maxL ret n) (hl : Cond.methodLink own index y ∈ WA) (hrc : rm.cells = mc) (hrs : rm.slots = ms) (hR : rm.frames + 1 ≤ R.frames ∧ 8 + (maxL + 11) + rm.locals ≤ R.locals)
    {ci : Nat} {q : Nat × Nat} {fs : List Value} {T : u_T} {N9 : Nat} (hk : kd b = q) (hq : q.1 ≠ 0) (he : ent ad G.2.1 q b (M.1 b) (M.2.1 b) (M.2.2 b) = .inr (ci, fs)) (hc : vwCl[ci]? = some (C, T, N9))
    (hn : As.length = n) (hsize : ls.size = nL) {st : List Value} (hst : st = As.reverse ++ .ref (ad b) :: rest) (hW : (rest.map fun v => v.category).sum ≤ 8) (hdg : decode cc pc = .ok (.invokevirtual index, 3)) (hf : cells + mc ≤ R.cells ∧ slots + ms ≤ R.slots) :
    va_Run p l e R s m args below meth c H locs cells slots mc ms (F0 m pc ls st) rest (Qr G kd ad H.size M' v (Value.ref (ad b) :: As).toArray) (AS kd ad H.size) := by
  subst hst
  obtain ⟨c1, c2, c3, c4, c5⟩ := hcv
  have hG : GoodIn WA (wsV own index C y (Cond.code y bytes maxL ret :: WA)) := fun w h => by
    have : w ∈ WA := by
      rcases List.mem_append.mp h with h | h
      · simp only [List.mem_cons, List.not_mem_nil, or_false] at h
        rcases h with rfl | rfl | rfl | rfl
        · exact hl
        · exact c1
        · exact c2
        · exact c3
      · exact ws_good c4 w h
    exact ⟨this, wa_good w this⟩
  exact va_runV (C := C) (b := ad b) (As := As) (rest := rest) ⟨hx, hb, hml, hown, hts⟩ hM (cwV n hts hG rfl hrc hrs c5 hR) ⟨pg_blind, va_recv hK (va_P1 (hI.at hk hq he)) hc (q0 := 0) rfl, fun U hU hW => pg_of hap hK hsx hI hU hW⟩ rfl hn hsize rfl (lv_room hW) hdg hf
theorem l_calli {st0 : List Value} {a : Array Value} {mc ms : Nat} {M' : Mem} {r : Int32} (hr : va_Run p l e R s m args below meth c H locs cells slots mc ms (F0 m pc ls st0) rest (Qg G kd ad H.size M' (some (.int r)) a) (AS kd ad H.size)) (hI : Inv G kd ad s.heap M H locs) (hJ : Inv G kd' ad' s.heap N H locs) (hA : AS kd ad s.heap.size = AS kd' ad' s.heap.size) (hdis : apart2 kd kd' ad ad')
    (kk : ∀ (H1 : Heap) (locs1 : List Loc), Inv G kd ad s.heap M' H1 locs1 → Inv G kd' ad' s.heap N H1 locs1 → W p l e R s m args below meth c H1 locs1 (cells + mc) (slots + ms) Q (F0 m (pc + 3) ls (.int r :: rest))) : W p l e R s m args below meth c H locs cells slots Q (F0 m pc ls st0) := l_call hr hI hJ hA hdis kk
theorem l_calll {st0 : List Value} {a : Array Value} {mc ms : Nat} {M' : Mem} {r : Int64} (hr : va_Run p l e R s m args below meth c H locs cells slots mc ms (F0 m pc ls st0) rest (Qg G kd ad H.size M' (some (.long r)) a) (AS kd ad H.size)) (hI : Inv G kd ad s.heap M H locs) (hJ : Inv G kd' ad' s.heap N H locs) (hA : AS kd ad s.heap.size = AS kd' ad' s.heap.size) (hdis : apart2 kd kd' ad ad')
    (kk : ∀ (H1 : Heap) (locs1 : List Loc), Inv G kd ad s.heap M' H1 locs1 → Inv G kd' ad' s.heap N H1 locs1 → W p l e R s m args below meth c H1 locs1 (cells + mc) (slots + ms) Q (F0 m (pc + 3) ls (.long r :: rest))) : W p l e R s m args below meth c H locs cells slots Q (F0 m pc ls st0) := l_call hr hI hJ hA hdis kk
theorem l_calld {st0 : List Value} {a : Array Value} {mc ms : Nat} {M' : Mem} {r : UInt64} (hr : va_Run p l e R s m args below meth c H locs cells slots mc ms (F0 m pc ls st0) rest (Qg G kd ad H.size M' (some (.double r)) a) (AS kd ad H.size)) (hI : Inv G kd ad s.heap M H locs) (hJ : Inv G kd' ad' s.heap N H locs) (hA : AS kd ad s.heap.size = AS kd' ad' s.heap.size) (hdis : apart2 kd kd' ad ad')
    (kk : ∀ (H1 : Heap) (locs1 : List Loc), Inv G kd ad s.heap M' H1 locs1 → Inv G kd' ad' s.heap N H1 locs1 → W p l e R s m args below meth c H1 locs1 (cells + mc) (slots + ms) Q (F0 m (pc + 3) ls (.double r :: rest))) : W p l e R s m args below meth c H locs cells slots Q (F0 m pc ls st0) := l_call hr hI hJ hA hdis kk
theorem l_callv {st0 : List Value} {a : Array Value} {mc ms : Nat} {M' : Mem} (hr : va_Run p l e R s m args below meth c H locs cells slots mc ms (F0 m pc ls st0) rest (Qg G kd ad H.size M' none a) (AS kd ad H.size)) (hI : Inv G kd ad s.heap M H locs) (hJ : Inv G kd' ad' s.heap N H locs) (hA : AS kd ad s.heap.size = AS kd' ad' s.heap.size) (hdis : apart2 kd kd' ad ad')
    (kk : ∀ (H1 : Heap) (locs1 : List Loc), Inv G kd ad s.heap M' H1 locs1 → Inv G kd' ad' s.heap N H1 locs1 → W p l e R s m args below meth c H1 locs1 (cells + mc) (slots + ms) Q (F0 m (pc + 3) ls rest)) : W p l e R s m args below meth c H locs cells slots Q (F0 m pc ls st0) := l_call hr hI hJ hA hdis kk
theorem l_callR {st0 : List Value} {a : Array Value} {mc ms : Nat} {M' : Mem} {v : Option Value} (hr : va_Run p l e R s m args below meth c H locs cells slots mc ms (F0 m pc ls st0) rest (Qr G kd ad H.size M' v a) (AS kd ad H.size)) (hI : Inv G kd ad s.heap M H locs) (hJ : Inv G kd' ad' s.heap N H locs) (hA : AS kd ad s.heap.size = AS kd' ad' s.heap.size) (hdis : apart2 kd kd' ad ad')
    (kk : ∀ (kd1 : Nat → Nat × Nat) (ad1 : Nat → Nat) (H1 : Heap) (locs1 : List Loc), Ext kd ad kd1 ad1 s.heap.size → Low kd1 → Sb kd1 (rd M' 133 0) → Apt kd1 ad1 → apart2 kd1 kd' ad1 ad' → Inv G kd1 ad1 s.heap M' H1 locs1 → Inv G kd' ad' s.heap N H1 locs1 → W p l e R s m args below meth c H1 locs1 (cells + mc) (slots + ms) Q (F0 m (pc + 3) ls (v.toList ++ rest))) : W p l e R s m args below meth c H locs cells slots Q (F0 m pc ls st0) := by
  intro T hT X
  obtain ⟨v', st₀, t, T', L, h0, X', hL, e1, e2, ⟨hv, ⟨kd1, ad1, hE, hLw, hSb, hAp, hw⟩, hF⟩, st⟩ := hr T hT X
  cases hv
  obtain ⟨k1, k2, k3⟩ := vx_keep h0 e1 hI.2 (fun q hq h => AS.old hq h) (fun q h => AS.mono hI.2.1 h) hL (by rw [← h0] at hF; rw [h0] at hF; exact hF)
  have hE' := hE.le hI.2.1
  have hd1 : apart2 kd1 kd' ad1 ad' := fun k k' h1 h2 he => by
    by_cases ho : (kd k).1 = 0
    · have := hE.2 k ho h1
      have := hJ.1.lt h2
      omega
    · rw [(hE.1 k ho).2] at he
      exact hdis k k' ho h2 he
  obtain ⟨t2, a1, b1⟩ := kk kd1 ad1 T'.heap (locs ++ L) hE' hLw hSb hAp hd1 ⟨by rw [e1]; exact hw, by rw [hE'.AS]; exact k3⟩ (hJ.other hA hdis k2 k3) T' rfl X'
  exact ⟨t2, st t2 a1, b1⟩
theorem l_sld {b L : Nat} {xs : Nat → Int32} (hx : p.tables.exec = Jvm.exec) (hb : c.code = cc) (hX : va_X b L xs s s.heap) (hbl : b < s.heap.size) (hbA : ¬ AS kd ad s.heap.size b) (hI : Inv G kd ad s.heap M H locs) {i a : Int32} (hin : vp_in i L) (hv : xs i.toNatClampNeg = a) (hdg : decode cc pc = .ok (.iaload, 1))
    (kk : W p l e R s m args below meth c H locs cells slots Q (F0 m (pc + 1) ls (.int a :: rest))) : W p l e R s m args below meth c H locs cells slots Q (F0 m pc ls (.int i :: .ref b :: rest)) := by
  subst hv
  exact va_sld hx hb hX hbl hbA hI.2 hin hdg kk
theorem g_dald (hx : p.tables.exec = Jvm.exec) (hb : c.code = cc) (hK : va_K G.1 vwCl (tyL G) s) (hI : Inv G kd ad H0 M H locs) {k n : Nat} (hk : kd k = (14, n)) {i : Int32} (hin : vp_in i n) (hdg : decode cc pc = .ok (.daload, 1))
    (kk : W p l e R s m args below meth c H locs cells slots Q (F0 m (pc + 1) ls (.double (M.2.2 k i.toNatClampNeg) :: rest))) : W p l e R s m args below meth c H locs cells slots Q (F0 m pc ls (.int i :: .ref (ad k) :: rest)) :=
  va_dald (D := G.1) (cl := vwCl) (ws := [(ad k, .inl (G.2.1 5, n, .inr (.inr (.inr (.inl (M.2.2 k))))))]) hx hb hK (va_P1 (hI.at hk (by simp) rfl)) 0 5 rfl rfl hin hdg kk
end LW
/-- the script's row of six at i -/
def Sc (xs : Nat → Int32) (L : Nat) (i a0 a1 a2 a3 a4 a5 : Int32) : Prop := (vp_in i L ∧ xs i.toNatClampNeg = a0) ∧ (vp_in (i + 1) L ∧ xs (i + 1).toNatClampNeg = a1) ∧ (vp_in (i + 2) L ∧ xs (i + 2).toNatClampNeg = a2) ∧ (vp_in (i + 3) L ∧ xs (i + 3).toNatClampNeg = a3) ∧ (vp_in (i + 4) L ∧ xs (i + 4).toNatClampNeg = a4) ∧ (vp_in (i + 5) L ∧ xs (i + 5).toNatClampNeg = a5)
/-- what holds all through the law's body: the class's world (kd, ad) grows, the reference's (kd', ad') stays -/
def Lx (p : Program) (l : Launch) (s : State) (m : MethodId) (args : Array Value) (meth : Method) (c : Code) (b L : Nat) (xs : Nat → Int32) (G : GT) (kd kd' : Nat → Nat × Nat) (ad ad' : Nat → Nat) : Prop :=
  p.tables.exec = Jvm.exec ∧ c.code = code ∧ c.maxLocals = 10 ∧ s.vm.findClass RL = some m.cls ∧ (∀ w ∈ WA, w.before args s = true) ∧ va_K G.1 vwCl (tyL G) s ∧ Apt kd ad ∧ Apt kd' ad' ∧ Sx G (AS kd ad s.heap.size) s s.heap ∧ Sx G (AS kd' ad' s.heap.size) s s.heap ∧ Nc s ∧ l.stackTraces = false ∧ AS kd ad s.heap.size = AS kd' ad' s.heap.size ∧ apart2 kd kd' ad ad' ∧ apart2 kd' kd ad' ad ∧ va_X b L xs s s.heap ∧ b < s.heap.size ∧ ¬ AS kd ad s.heap.size b ∧ kRoot kd 0 ∧ Low kd ∧ kd 152 = (13, 1) ∧ kd 153 = (14, 1) ∧ kModel kd' 135
theorem Lx.ext {p : Program} {l : Launch} {s : State} {m : MethodId} {args : Array Value} {meth : Method} {c : Code} {b L : Nat} {xs : Nat → Int32} {G : GT} {kd kd' kd1 : Nat → Nat × Nat} {ad ad' ad1 : Nat → Nat} (C : Lx p l s m args meth c b L xs G kd kd' ad ad') (hE : Ext kd ad kd1 ad1 s.heap.size) (hLo : Low kd1) (hap1 : Apt kd1 ad1) (hdn : apart2 kd1 kd' ad1 ad') : Lx p l s m args meth c b L xs G kd1 kd' ad1 ad' := by
  obtain ⟨hx, hb, hml, hown, hts, hK, hap, hap2, hsx, hsx2, hnc, hst, hA, hd1, hd2, hX, hbl, hbA, hk0, hLo0, hk1, hk3, hk2⟩ := C
  exact ⟨hx, hb, hml, hown, hts, hK, hap1, hap2, by rw [hE.AS]; exact hsx, hsx2, hnc, hst, by rw [hE.AS]; exact hA, hdn, fun k k' h1 h2 he => hdn k' k h2 h1 he.symm, hX, hbl, by rw [hE.AS]; exact hbA, kRoot_ext hk0 hE, hLo, (hE.1 152 (by rw [hk1]; simp)).1.trans hk1, (hE.1 153 (by rw [hk3]; simp)).1.trans hk3, hk2⟩
