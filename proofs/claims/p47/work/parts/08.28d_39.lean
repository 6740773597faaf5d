/-! part 28d.ctor -/
section
/-! constructors: kinds grow with the heap -/
def setk (K : Nat → Nat × Nat) (k : Nat) (q : Nat × Nat) : Nat → Nat × Nat := fun a => if a = k then q else K a
theorem setk_s {K : Nat → Nat × Nat} {k : Nat} {q : Nat × Nat} : setk K k q k = q := if_pos rfl
theorem setk_o {K : Nat → Nat × Nat} {k a : Nat} {q : Nat × Nat} (h : a ≠ k) : setk K k q a = K a := if_neg h
theorem setk_setk {K : Nat → Nat × Nat} {k : Nat} {q q' : Nat × Nat} : setk (setk K k q) k q' = setk K k q' := by
  funext a; unfold setk; by_cases h : a = k <;> simp [h]
theorem setk_id {K : Nat → Nat × Nat} {k : Nat} {q : Nat × Nat} (h : K k = q) : setk K k q = K := by
  funext a; unfold setk; by_cases e : a = k
  · rw [if_pos e, e, h]
  · rw [if_neg e]
def kdN (K : Nat → Nat × Nat) (ad : Nat → Nat) (N : Nat) : Nat → Nat × Nat := fun j => if ad j < N then K j else (0, 0)
theorem kdN_in {K : Nat → Nat × Nat} {ad : Nat → Nat} {N j : Nat} (h : ad j < N) : kdN K ad N j = K j := if_pos h
theorem kdN_lt {K : Nat → Nat × Nat} {ad : Nat → Nat} {N j : Nat} (h : (kdN K ad N j).1 ≠ 0) : ad j < N := by
  unfold kdN at h
  split at h
  · assumption
  · exact absurd rfl h
def zr (M : Mem) (j : Nat) : Mem := (fun a => if a = j then fun _ => 0 else M.1 a, fun a => if a = j then fun _ => 0 else M.2.1 a, fun a => if a = j then fun _ => 0 else M.2.2 a)
theorem zr_o {M : Mem} {j : Nat} (k' : Nat) (h : k' ≠ j) : (zr M j).1 k' = M.1 k' ∧ (zr M j).2.1 k' = M.2.1 k' ∧ (zr M j).2.2 k' = M.2.2 k' := ⟨if_neg h, if_neg h, if_neg h⟩
theorem zr_s {M : Mem} {j : Nat} : (zr M j).1 j = (fun _ => 0) ∧ (zr M j).2.1 j = (fun _ => 0) ∧ (zr M j).2.2 j = (fun _ => 0) := ⟨if_pos rfl, if_pos rfl, if_pos rfl⟩
def nzE (K K0 : Nat → Nat × Nat) : Prop := ∀ i, (K i).1 ≠ 0 ↔ (K0 i).1 ≠ 0
theorem nzE.set {K K0 : Nat → Nat × Nat} (h : nzE K K0) {k : Nat} {q : Nat × Nat} (hq : q.1 ≠ 0) (hk : (K k).1 ≠ 0) : nzE (setk K k q) K0 := fun i => by
  by_cases e : i = k
  · subst e; rw [setk_s]; exact ⟨fun _ => (h i).mp hk, fun _ => hq⟩
  · rw [setk_o e]; exact h i
theorem AS_kdN {K : Nat → Nat × Nat} {ad : Nat → Nat} {N sz : Nat} (h : sz ≤ N) : AS (kdN K ad N) ad sz = AS K ad sz := by
  funext q
  refine propext ⟨fun z => z.elim (fun ⟨k, h1, h2⟩ => Or.inl ⟨k, by rw [← kdN_in (K := K) (kdN_lt h1)]; exact h1, h2⟩) Or.inr, fun z => z.elim (fun ⟨k, h1, h2⟩ => ?_) Or.inr⟩
  by_cases e : ad k < N
  · exact Or.inl ⟨k, by rw [kdN_in e]; exact h1, h2⟩
  · exact Or.inr (by omega)
theorem AS_nz {K K0 : Nat → Nat × Nat} {ad : Nat → Nat} {sz : Nat} (h : nzE K K0) : AS K ad sz = AS K0 ad sz := by
  funext q
  exact propext ⟨fun z => z.elim (fun ⟨k, h1, h2⟩ => Or.inl ⟨k, (h k).mp h1, h2⟩) Or.inr, fun z => z.elim (fun ⟨k, h1, h2⟩ => Or.inl ⟨k, (h k).mpr h1, h2⟩) Or.inr⟩
abbrev nestW : List (String × Nat × MethodName) := [(RX6, 19, yX4_init), (RX6, 43, yX2_init), (RX3, 27, yX2_init)]
/-- what constructors ask beside -/
def Ex (A : Nat → Prop) (U : State) (H : Heap) : Prop := va_AO "SheetFolder$Part" U ∧ (∀ q ∈ nestW, va_Nw (.methodLinkNest q.1 q.2.1 q.2.2 "SheetFolder") U) ∧ va_Z "java/lang/String" "COMPACT_STRINGS" "Z" (.int 1) A U H
theorem Ex.at {s U : State} {A B : Nat → Prop} {H1 : Heap} (h : Ex A s s.heap) (hS : ∀ q : Nat, q < s.heap.size → ¬ A q → H1[q]? = s.heap[q]?) (hW : s.WarmedH U.vm) (hAB : ∀ q, B q → A q) : Ex B U H1 :=
  ⟨va_AO.moved hW.alike h.1, fun q hq => va_Nw.warmM hW (h.2.1 q hq), ((h.2.2.kept hS).narrow hAB).moved hW.alike⟩
def Pk (G : GT) (K : Nat → Nat × Nat) (ad : Nat → Nat) (sz : Nat) (av : List Value) (M : Mem) : Array Value → State → Prop := va_Pc av (fun U => U.heap.size = sz ∧ Wd G (kdN K ad sz) ad M U.heap ∧ va_K G.1 vwCl (tyL G) U ∧ Sx G (AS K ad sz) U U.heap ∧ Ex (AS K ad sz) U U.heap)
def Qk (G : GT) (K K' : Nat → Nat × Nat) (ad : Nat → Nat) (sz n : Nat) (M : Mem) : Array Value → State → Outcome → State → Prop := fun _ st oc t => oc = .returned none ∧ Wd G (kdN K' ad (sz + n)) ad M t.heap ∧ va_F (AS K ad sz) st t ∧ sz + n ≤ t.heap.size
theorem pk_blind {G : GT} {K : Nat → Nat × Nat} {ad : Nat → Nat} {sz : Nat} {av : List Value} {M : Mem} : FrameBlind (Pk G K ad sz av M) := by
  intro a U g mk ⟨q0, q1, q2, q4, q5, q6⟩
  exact ⟨q0, q1, q2, va_K.moved (u := U) (U := U.calling g mk a) (Vm.Alike.refl U.vm) q4, ⟨vx_Zq.moved (u := U) (U := U.calling g mk a) (Vm.Alike.refl U.vm) q5.1, vx_Zq.moved (u := U) (U := U.calling g mk a) (Vm.Alike.refl U.vm) q5.2.1, fun q hq => by obtain ⟨sa, h⟩ := q5.2.2.1 q hq; exact ⟨sa, vk_R.same rfl h⟩, ⟨sxW_moved (u := U) (U := U.calling g mk a) (Vm.Alike.refl U.vm) q5.2.2.2.1.1, q5.2.2.2.1.2.same (u := U) (U := U.calling g mk a) rfl⟩, va_En.moved (u := U) (U := U.calling g mk a) (Vm.Alike.refl U.vm) q5.2.2.2.2⟩,
    va_AO.moved (u := U) (U := U.calling g mk a) (Vm.Alike.refl U.vm) q6.1, fun q hq => va_Nw.same rfl rfl (q6.2.1 q hq), va_Z.moved (u := U) (U := U.calling g mk a) (Vm.Alike.refl U.vm) q6.2.2⟩
/-- the world while a constructor runs: c cells are new since its start -/
def Ci (G : GT) (K0 K : Nat → Nat × Nat) (ad : Nat → Nat) (s : State) (M : Mem) (H : Heap) (locs : List Loc) (c : Nat) : Prop := Wd G (kdN K ad (s.heap.size + c)) ad M H ∧ va_S (AS K0 ad s.heap.size) s.heap H locs ∧ H.size = s.heap.size + c ∧ nzE K K0
def Cc (p : Program) (s : State) (m : MethodId) (args : Array Value) (meth : Method) (c : Code) (cc : ByteArray) (nL : Nat) (own : String) (G : GT) (K0 : Nat → Nat × Nat) (ad : Nat → Nat) : Prop :=
  p.tables.exec = Jvm.exec ∧ c.code = cc ∧ c.maxLocals = nL ∧ meth.sig.returnType = none ∧ s.vm.findClass own = some m.cls ∧ (∀ w ∈ WA, w.before args s = true) ∧ meth.locks = false ∧ va_K G.1 vwCl (tyL G) s ∧ Sx G (AS K0 ad s.heap.size) s s.heap ∧ Ex (AS K0 ad s.heap.size) s s.heap ∧ meth.name = "<init>" ∧ ∀ i j, ad i = ad j → i = j
section CT
variable {p : Program} {l : Launch} {e : Env} {R : Room} {s : State} {m : MethodId} {args : Array Value} {below : List Frame} {meth : Method} {c : Code} {H : Heap} {locs : List Loc} {cells slots : Nat} {Q : State → Prop}
variable {cc : ByteArray} {pc : Nat} {ls : Array Slot} {rest : List Value} {G : GT} {K0 K : Nat → Nat × Nat} {ad : Nat → Nat} {M : Mem} {nL n0 : Nat} {own : String}
theorem Ci.as (hC : Ci G K0 K ad s M H locs n0) : AS (kdN K ad (s.heap.size + n0)) ad s.heap.size = AS K0 ad s.heap.size := (AS_kdN (by omega)).trans (AS_nz hC.2.2.2)
theorem Ci.inv (hC : Ci G K0 K ad s M H locs n0) : Inv G (kdN K ad (s.heap.size + n0)) ad s.heap M H locs := ⟨hC.1, by rw [hC.as]; exact hC.2.1⟩
/-- a new cell -/
theorem Ci.push (hC : Ci G K0 K ad s M H locs n0) (hinj : ∀ i j, ad i = ad j → i = j) {j : Nat} (haj : ad j = s.heap.size + n0) {H1 : Heap} (z1 : H1.size = H.size + 1) (o1 : ∀ q, q < H.size → H1[q]? = H[q]?)
    (hat : va_at G.1 vwCl (ad j, ent ad G.2.1 (K j) j (fun _ => 0) (fun _ => 0) (fun _ => 0)) H1) : Ci G K0 K ad s (zr M j) H1 locs (n0 + 1) := by
  obtain ⟨hw, hS, hz, hn⟩ := hC
  refine ⟨fun k hk => ?_, ⟨Nat.le_trans hS.1 (by omega), fun x h1 h2 => (o1 x (Nat.lt_of_lt_of_le h1 hS.1)).trans (hS.2.1 x h1 h2), hS.2.2⟩, by omega, hn⟩
  have hl := kdN_lt hk
  rw [kdN_in hl]
  by_cases e : k = j
  · subst e
    rw [zr_s.1, zr_s.2.1, zr_s.2.2]
    exact hat
  · have hl2 : ad k < s.heap.size + n0 := by
      have : ad k ≠ ad j := fun h => e (hinj _ _ h)
      omega
    obtain ⟨e1, e2, e3⟩ := zr_o (M := M) (j := j) k e
    rw [e1, e2, e3]
    rw [kdN_in hl] at hk
    have hk2 : (kdN K ad (s.heap.size + n0) k).1 ≠ 0 := by rw [kdN_in hl2]; exact hk
    have h2 := hw k hk2
    rw [kdN_in hl2] at h2
    exact h2.kept (o1 _ (by omega))
theorem c_newa {ty : FieldType} {atype : ArrayType} {j n : Nat} {z : vp_A} (hx : p.tables.exec = Jvm.exec) (hb : c.code = cc) (hty : newarray.typeOf atype = ty) (hw : Cond.arrayClass ty ∈ WA) (hts : ∀ w ∈ WA, w.before args s = true) (hC : Ci G K0 K ad s M H locs n0) (hinj : ∀ i j, ad i = ad j → i = j) (haj : ad j = s.heap.size + n0) {q : Nat × Nat} (hKj : K j = q)
    {cA : ClassId} (hnm : s.vm.findClass ("[" ++ ty.toString) = some cA) (hent : ent ad G.2.1 q j (fun _ => 0) (fun _ => 0) (fun _ => 0) = .inl (cA, z)) (hz : vp_cell cA z = arrV cA n (fun _ => defaultValue ty))
    {v : Int32} (hv : v.toNatClampNeg = n ∧ ¬ v < 0) (hbytes : n * componentBytes ty ≤ 536870912) (hR : cells + 1 ≤ R.cells ∧ slots + n ≤ R.slots) {M' : Mem} (hM : M' = zr M j) (hdg : decode cc pc = .ok (.newarray atype, 2))
    (kk : ∀ (H1 : Heap), Ci G K0 K ad s M' H1 locs (n0 + 1) → W p l e R s m args below meth c H1 locs (cells + 1) (slots + n) Q (F0 m (pc + 2) ls (.ref (ad j) :: rest))) : W p l e R s m args below meth c H locs cells slots Q (F0 m pc ls (.int v :: rest)) := by
  subst hty; subst hM
  refine va_newaK hx hb (hts _ hw) rfl hdg rfl hv.2 hv.1 hbytes hR.1 hR.2 (hC.2.2.1.trans haj.symm) fun H1 cA1 e1 z1 o1 hAr hNm => ?_
  have hcA : cA1 = cA := Option.some.inj (hNm.symm.trans hnm)
  subst hcA
  refine kk H1 (hC.push hinj haj (by rw [z1, hC.2.2.1, haj]) (fun q hq => o1 q (by rw [haj, ← hC.2.2.1]; exact hq)) ?_)
  rw [hKj, hent]
  show H1[ad j]? = some (vp_cell _ _)
  rw [hz]
  exact e1
theorem c_newq {j n index : Nat} (hx : p.tables.exec = Jvm.exec) (hb : c.code = cc) {own : String} (hown : s.vm.findClass own = some m.cls) (hcl : Cond.classLink own index "SheetFolder$Part" ∈ WA) (hts : ∀ w ∈ WA, w.before args s = true) (hK : va_K G.1 vwCl (tyL G) s) (hex : va_AO "SheetFolder$Part" s) (hC : Ci G K0 K ad s M H locs n0) (hinj : ∀ i j, ad i = ad j → i = j) (haj : ad j = s.heap.size + n0) (hKj : K j = (28, 0))
    {v : Int32} (hv : v.toNatClampNeg = 10 ∧ ¬ v < 0) (hR : cells + 1 ≤ R.cells ∧ slots + 10 ≤ R.slots) {M' : Mem} (hM : M' = zr M j) (hdg : decode cc pc = .ok (.anewarray index, 3))
    (kk : ∀ (H1 : Heap), Ci G K0 K ad s M' H1 locs (n0 + 1) → W p l e R s m args below meth c H1 locs (cells + 1) (slots + 10) Q (F0 m (pc + 3) ls (.ref (ad j) :: rest))) : W p l e R s m args below meth c H locs cells slots Q (F0 m pc ls (.int v :: rest)) := by
  subst hM
  obtain ⟨hv1, hv2⟩ := hv
  refine W.anew hx hb hown (hts _ hcl) (va_AO.use hex) rfl hdg rfl hv2 (by rw [hv1]; decide) hR.1 (by rw [hv1]; exact hR.2) fun cA kA comp f1 f2 f3 f4 => ?_
  rw [hv1]
  have hcA : cA = G.2.1 4 := by
    obtain ⟨_, _, _, _, _, h4⟩ := (hK.2 4 _ rfl).2
    exact Option.some.inj (f1.symm.trans h4)
  subst hcA
  generalize hH1 : H.push ({ cls := G.2.1 4, slots := Array.replicate 10 .null, vm := .none } : Cell) = H1
  have z1 : H1.size = H.size + 1 := by rw [← hH1, Array.size_push]
  have e1 : H1[H.size]? = some (arrV (G.2.1 4) 10 (fun _ => .null)) := by rw [← hH1, Array.getElem?_push_size, ← arrV_new]
  have o1 : ∀ q : Nat, q < H.size → H1[q]? = H[q]? := fun q hq => by rw [← hH1, Array.getElem?_push, if_neg (Nat.ne_of_lt hq)]
  have hHz : H.size = ad j := hC.2.2.1.trans haj.symm
  rw [hHz]
  refine kk H1 (hC.push hinj haj z1 o1 ?_)
  rw [hKj]
  show H1[ad j]? = some (vp_cell (G.2.1 4) (10, .inr (.inr (.inr (.inr (fun j_1 => if j_1 < 0 then some (ad (j + 1 + 8 * j_1)) else none))))))
  rw [vp_cell_q, ← hHz, e1]
  congr 2
theorem c_new {C : String} {T : u_T} {N ci index j : Nat} (hx : p.tables.exec = Jvm.exec) (hb : c.code = cc) (hts : ∀ w ∈ WA, w.before args s = true) (hin : ∀ w ∈ u_ws C T N, w ∈ WA) (ty : Nat → FieldType) (hty : ∀ k, k < N → parseFieldDescriptor (T k).2.2.1 = some (ty k)) {own : String} (hown : s.vm.findClass own = some m.cls) (hcl : Cond.classLink own index C ∈ WA) (hinst : Cond.instantiable C N ∈ WA) (hini : Cond.initialized C ∈ WA)
    (hK : va_K G.1 vwCl (tyL G) s) (hC : Ci G K0 K ad s M H locs n0) (hinj : ∀ i j, ad i = ad j → i = j) (haj : ad j = s.heap.size + n0) {q q' : Nat × Nat} (hKj : K j = q') (hq' : q'.1 ≠ 0) (hq : q.1 ≠ 0) (hc : vwCl[ci]? = some (C, T, N)) {fs : List Value} (hent : ent ad G.2.1 q j (fun _ => 0) (fun _ => 0) (fun _ => 0) = .inr (ci, fs)) (hfs : ∀ k, k < N → defaultValue (ty k) = vp_V fs k)
    (hR : cells + 1 ≤ R.cells ∧ slots + N ≤ R.slots) {M' : Mem} (hM : M' = zr M j) (hdg : decode cc pc = .ok (.new index, 3))
    (kk : ∀ (H1 : Heap), Ci G K0 (setk K j q) ad s M' H1 locs (n0 + 1) → W p l e R s m args below meth c H1 locs (cells + 1) (slots + N) Q (F0 m (pc + 3) ls (.ref (ad j) :: rest))) : W p l e R s m args below meth c H locs cells slots Q (F0 m pc ls rest) := by
  subst hM
  have hKn := hK.1 ci _ hc
  have hC2 : Ci G K0 (setk K j q) ad s M H locs n0 := by
    obtain ⟨hw, hS, hz, hn⟩ := hC
    refine ⟨fun k hk => ?_, hS, hz, hn.set hq (by rw [hKj]; exact hq')⟩
    have hl := kdN_lt hk
    have hkj : k ≠ j := fun h => by rw [h, haj] at hl; omega
    rw [kdN_in hl, setk_o hkj] at hk ⊢
    have h2 := hw k (by rw [kdN_in hl]; exact hk)
    rw [kdN_in hl] at h2
    exact h2
  refine W.newcK hx hb hown (hts _ hcl) (hts _ hinst) (hts _ hini) rfl hdg hR.1 hR.2 hKn.2.1 (hC.2.2.1.trans haj.symm) fun H1 kC hkC e1 z1 o1 => ?_
  refine kk H1 (hC2.push hinj haj (by rw [z1, hC.2.2.1, haj]) (fun q hq => o1 q (by rw [haj, ← hC.2.2.1]; exact hq)) ?_)
  rw [setk_s, hent]
  exact ⟨_, hc, (u_born ty hts hin hKn hkC e1 hty).to hfs⟩
end CT
section CU
variable {p : Program} {l : Launch} {e : Env} {R : Room} {s : State} {m : MethodId} {args : Array Value} {below : List Frame} {meth : Method} {c : Code} {H : Heap} {locs : List Loc} {cells slots : Nat} {Q : State → Prop}
variable {cc : ByteArray} {pc : Nat} {ls : Array Slot} {rest : List Value} {G : GT} {K0 K : Nat → Nat × Nat} {ad : Nat → Nat} {M : Mem} {n0 : Nat}
/-- one cell is another -/
theorem Ci.set (hC : Ci G K0 K ad s M H locs n0) (hinj : ∀ i j, ad i = ad j → i = j) {k i : Nat} {q q' : Nat × Nat} (hk : K k = q) (hq : q.1 ≠ 0) (hq' : q'.1 ≠ 0) (hlt : ad k < s.heap.size + n0) {M' : Mem} {H1 : Heap}
    (hat : va_at G.1 vwCl (ad k, ent ad G.2.1 q' k (M'.1 k) (M'.2.1 k) (M'.2.2 k)) H1) (z : H1.size = H.size) (oq : ∀ x, x ≠ ad k → H1[x]? = H[x]?) (hM : ∀ k', k' ≠ k → M'.1 k' = M.1 k' ∧ M'.2.1 k' = M.2.1 k' ∧ M'.2.2 k' = M.2.2 k') : Ci G K0 (setk K k q') ad s M' H1 (locs ++ [⟨ad k, i⟩]) n0 := by
  obtain ⟨hw, hS, hz, hn⟩ := hC
  refine ⟨fun k' hk' => ?_, hS.put z oq (Or.inl ⟨k, (hn k).mp (by rw [hk]; exact hq), rfl⟩), by omega, hn.set hq' (by rw [hk]; exact hq)⟩
  have hl := kdN_lt hk'
  rw [kdN_in hl] at hk' ⊢
  by_cases e : k' = k
  · subst e
    rw [setk_s]
    exact hat
  · obtain ⟨e1, e2, e3⟩ := hM k' e
    rw [setk_o e] at hk' ⊢
    rw [e1, e2, e3]
    have h2 := hw k' (by rw [kdN_in hl]; exact hk')
    rw [kdN_in hl] at h2
    exact h2.kept (oq _ (fun x => e (hinj _ _ x)))
theorem c_put (fin : Bool) (hx : p.tables.exec = Jvm.exec) (hb : c.code = cc) {own C : String} {T : u_T} {N ci index : Nat} (hts : ∀ w ∈ WA, w.before args s = true) (hin : ∀ w ∈ u_ws C T N, w ∈ WA) (ty0 : Nat → FieldType) (hty : ∀ k, k < N → parseFieldDescriptor (T k).2.2.1 = some (ty0 k)) (hnm : ∀ a, a < N → ∀ b, b < N → a ≠ b → (T a).2.1 ≠ (T b).2.1)
    (hown : s.vm.findClass own = some m.cls) (hK : va_K G.1 vwCl (tyL G) s) (hC : Ci G K0 K ad s M H locs n0) (hinj : ∀ i j, ad i = ad j → i = j) (hin2 : meth.name = "<init>")
    {k : Nat} {q q' : Nat × Nat} {fs : List Value} (hk : K k = q) (hq : q.1 ≠ 0) (hq' : q'.1 ≠ 0) (hlt : ad k < s.heap.size + n0) (he : ent ad G.2.1 q k (M.1 k) (M.2.1 k) (M.2.2 k) = .inr (ci, fs)) (hc : vwCl[ci]? = some (C, T, N)) (j : Nat) (hj : j < N) {f d o : String} (hT : (T j).1 = o ∧ (T j).2.1 = f ∧ (T j).2.2.1 = d) (hlink : Cond.fieldLink own index o f d ∈ WA)
    (hfin : (T j).2.2.2 = fin) (hdecl : fin = true → o = own) {ty : FieldType} {v : Value} (hd : parseFieldDescriptor d = some ty) (hn : narrow ty v = v) (hfit : fits ty v = true) (hl : j < fs.length) {M' : Mem} (hset : ent ad G.2.1 q' k (M'.1 k) (M'.2.1 k) (M'.2.2 k) = .inr (ci, fs.set j v)) (hM : ∀ k', k' ≠ k → M'.1 k' = M.1 k' ∧ M'.2.1 k' = M.2.1 k' ∧ M'.2.2 k' = M.2.2 k')
    (hdg : decode cc pc = .ok (.putfield index, 3)) (kk : ∀ (H1 : Heap) (locs1 : List Loc), Ci G K0 (setk K k q') ad s M' H1 locs1 n0 → W p l e R s m args below meth c H1 locs1 cells slots Q (F0 m (pc + 3) ls rest)) : W p l e R s m args below meth c H locs cells slots Q (F0 m pc ls (v :: .ref (ad k) :: rest)) := by
  obtain ⟨e1, e2, e3⟩ := hT
  subst e1; subst e2; subst e3
  have hlk := hts _ hlink
  have hapt := va_apart (own := own) hts hin ty0 hty hnm hK hc
  have hcell : va_at G.1 vwCl (ad k, .inr (ci, fs)) H := by
    have h := hC.1 k (by rw [kdN_in hlt, hk]; exact hq)
    rw [kdN_in hlt, hk, he] at h
    exact h
  obtain ⟨r, h1, cell, q1, q2, q3, q4⟩ := hcell
  have hr : r = (C, T, N) := Option.some.inj (h1.symm.trans hc)
  subst hr
  obtain ⟨hS, hfc, kC, hkC, hkind⟩ := hK.1 ci _ hc
  obtain ⟨cf, kf, fi, f, hi, hsl⟩ := hS j hj
  have hlay := hts _ (hin _ (u_in_lay hj))
  unfold u_lay at hlay
  have hst := (u_facts hfc hkC (u_lays hts hin hj) hi).1
  cases fin with
  | false =>
    rw [if_neg (by rw [hfin]; decide)] at hlay
    have h6 := u_store hfc hkC hkind hlay hi hd hn hfit
    refine W.putK hx hb (f := f) ⟨hown, hlk, ⟨_, _, _, hi⟩, hst⟩ (by rw [q2]; exact h6) q1 q3 (by rw [hsl]; exact k2_hasslot (q4 j hj)) rfl rfl hdg fun H' e1 e2 e3 => ?_
    rw [hsl] at e1 ⊢
    refine kk H' _ (hC.set hinj hk hq hq' hlt ?_ e2 e3 hM)
    rw [hset]
    exact ⟨_, hc, t_OB.to (V := updV (vp_V fs) j v) ⟨_, e1, q2, q3, t_set q4 hapt hj v⟩ (fun j _ => vp_updV_set hl v j)⟩
  | true =>
    rw [if_pos hfin] at hlay
    have hcf : m.cls = cf := by
      obtain ⟨_, _, c', _, _, _, -, -, hf', -, -, -, hown2, -⟩ := Cond.laysFinal_spec hlay
      have e1 : c' = cf := by have := hi.symm.trans hf'; simp at this; exact this.1.symm
      rw [hdecl rfl] at hown2
      rw [← e1]; exact Option.some.inj (hown.symm.trans hown2)
    have h6 := u_fits hfc hkC hkind (Or.inr hlay) hi hd hn hfit
    refine W.putFinK hx hb hown hlk hi hst hcf hin2 (by rw [q2]; exact h6) q1 q3 (by rw [hsl]; exact k2_hasslot (q4 j hj)) rfl rfl hdg fun H' e1 e2 e3 => ?_
    rw [hsl] at e1 ⊢
    refine kk H' _ (hC.set hinj hk hq hq' hlt ?_ e2 e3 hM)
    rw [hset]
    exact ⟨_, hc, t_OB.to (V := updV (vp_V fs) j v) ⟨_, e1, q2, q3, t_set q4 hapt hj v⟩ (fun j _ => vp_updV_set hl v j)⟩
/-- the same world, said by other kinds -/
theorem Ci.as_kind (hC : Ci G K0 K ad s M H locs n0) {k : Nat} {q q' : Nat × Nat} (hk : K k = q) (hq : q.1 ≠ 0) (hq' : q'.1 ≠ 0) (he : ent ad G.2.1 q' k (M.1 k) (M.2.1 k) (M.2.2 k) = ent ad G.2.1 q k (M.1 k) (M.2.1 k) (M.2.2 k)) : Ci G K0 (setk K k q') ad s M H locs n0 := by
  obtain ⟨hw, hS, hz, hn⟩ := hC
  refine ⟨fun k' hk' => ?_, hS, hz, hn.set hq' (by rw [hk]; exact hq)⟩
  have hl := kdN_lt hk'
  rw [kdN_in hl] at hk' ⊢
  by_cases e : k' = k
  · subst e
    rw [setk_s, he]
    have h2 := hw k' (by rw [kdN_in hl, hk]; exact hq)
    rw [kdN_in hl, hk] at h2
    exact h2
  · rw [setk_o e] at hk' ⊢
    have h2 := hw k' (by rw [kdN_in hl]; exact hk')
    rw [kdN_in hl] at h2
    exact h2
theorem Ci.eqK {K' : Nat → Nat × Nat} (hC : Ci G K0 K ad s M H locs n0) (h : K = K') : Ci G K0 K' ad s M H locs n0 := h ▸ hC
/-- a constructor's call comes back -/
theorem c_back {st0 : List Value} {a : Array Value} {n1 ms : Nat} {K1 : Nat → Nat × Nat} {M' : Mem} (hC : Ci G K0 K ad s M H locs n0) (hn1 : nzE K1 K)
    (hr : va_Run p l e R s m args below meth c H locs n0 slots n1 ms (F0 m pc ls st0) rest (Qk G K K1 ad H.size n1 M' a) (AS K ad H.size))
    (kk : ∀ (H1 : Heap) (locs1 : List Loc), Ci G K0 K1 ad s M' H1 locs1 (n0 + n1) → W p l e R s m args below meth c H1 locs1 (n0 + n1) (slots + ms) Q (F0 m (pc + 3) ls rest)) : W p l e R s m args below meth c H locs n0 slots Q (F0 m pc ls st0) := by
  obtain ⟨hw, hS, hz, hn⟩ := hC
  intro T hT X
  obtain ⟨v', st₀, t, T', L, h0, X', hL, e1, e2, ⟨hv, hw', hF, hsz⟩, st⟩ := hr T hT X
  cases hv
  have hA : AS K ad H.size = AS K0 ad H.size := AS_nz hn
  rw [hA] at hF hL
  obtain ⟨k1, k2, k3⟩ := vx_keep h0 e1 hS (fun q hq h => AS.old hq h) (fun q h => AS.mono hS.1 h) hL hF
  have hub := X'.heapSize
  have hsz2 : T'.heap.size = s.heap.size + (n0 + n1) := by rw [← e1] at hsz; omega
  obtain ⟨t2, a1, b1⟩ := kk T'.heap (locs ++ L) ⟨by rw [e1]; rw [hz, Nat.add_assoc] at hw'; exact hw', k3, hsz2, fun i => (hn1 i).trans (hn i)⟩ T' rfl X'
  exact ⟨t2, st t2 a1, b1⟩
/-- a method's call comes back: nothing is new -/
theorem c_backM {st0 : List Value} {a : Array Value} {M' : Mem} (hC : Ci G K0 K ad s M H locs n0)
    (hr : va_Run p l e R s m args below meth c H locs n0 slots 0 0 (F0 m pc ls st0) rest (Qg G (kdN K ad (s.heap.size + n0)) ad H.size M' none a) (AS (kdN K ad (s.heap.size + n0)) ad H.size))
    (kk : ∀ (H1 : Heap) (locs1 : List Loc), Ci G K0 K ad s M' H1 locs1 n0 → W p l e R s m args below meth c H1 locs1 n0 slots Q (F0 m (pc + 3) ls rest)) : W p l e R s m args below meth c H locs n0 slots Q (F0 m pc ls st0) := by
  obtain ⟨hw, hS, hz, hn⟩ := hC
  intro T hT X
  obtain ⟨v', st₀, t, T', L, h0, X', hL, e1, e2, ⟨hv, hw', hF⟩, st⟩ := hr T hT X
  cases hv
  have hA : AS (kdN K ad (s.heap.size + n0)) ad H.size = AS K0 ad H.size := (AS_kdN (by omega)).trans (AS_nz hn)
  rw [hA] at hF hL
  obtain ⟨k1, k2, k3⟩ := vx_keep h0 e1 hS (fun q hq h => AS.old hq h) (fun q h => AS.mono hS.1 h) hL hF
  have hub := X'.heapSize
  obtain ⟨t2, a1, b1⟩ := kk T'.heap (locs ++ L) ⟨by rw [e1]; exact hw', k3, by omega, hn⟩ T' rfl X'
  exact ⟨t2, st t2 a1, b1⟩
theorem Ci.pk {av : List Value} {U : State} (hK : va_K G.1 vwCl (tyL G) s) (hsx : Sx G (AS K0 ad s.heap.size) s s.heap) (hex : Ex (AS K0 ad s.heap.size) s s.heap) (hC : Ci G K0 K ad s M H locs n0) (hU : U.heap = H) (hW : s.WarmedH U.vm) : Pk G K ad H.size av M av.toArray U := by
  have hA : ∀ q, AS K ad H.size q → AS K0 ad s.heap.size q := fun q h => by
    rw [AS_nz hC.2.2.2] at h; exact AS.mono hC.2.1.1 h
  exact ⟨rfl, by rw [hU], by rw [hU, hC.2.2.1]; exact hC.1, va_K.moved hW.alike hK, by rw [hU]; exact hsx.at hC.2.1.2.1 hW hA, by rw [hU]; exact hex.at hC.2.1.2.1 hW hA⟩
theorem Ci.pg {av : List Value} {U : State} (hinj : ∀ i j, ad i = ad j → i = j) (hK : va_K G.1 vwCl (tyL G) s) (hsx : Sx G (AS K0 ad s.heap.size) s s.heap) (hC : Ci G K0 K ad s M H locs n0) (hU : U.heap = H) (hW : s.WarmedH U.vm) : Pg G (kdN K ad (s.heap.size + n0)) ad H.size av M av.toArray U := by
  have hA : ∀ q, AS (kdN K ad (s.heap.size + n0)) ad H.size q → AS K0 ad s.heap.size q := fun q h => by
    rw [AS_kdN (by rw [hC.2.2.1]; exact Nat.le_refl _), AS_nz hC.2.2.2] at h; exact AS.mono hC.2.1.1 h
  exact ⟨rfl, by rw [hU], by rw [hU]; exact hC.1, fun k k' _ _ h => hinj _ _ h, va_K.moved hW.alike hK, by rw [hU]; exact hsx.at hC.2.1.2.1 hW hA⟩
/-- a call of a constructor -/
theorem c_callI {b : Nat} {y : MethodName} {bytes : ByteArray} {maxL nL n1 ms index : Nat} {rm : Room} {own : String} {K1 : Nat → Nat × Nat} {M' : Mem} (hx : p.tables.exec = Jvm.exec) (hb : c.code = cc) (hml : c.maxLocals = nL) (hown : s.vm.findClass own = some m.cls) (hts : ∀ w ∈ WA, w.before args s = true) (hK : va_K G.1 vwCl (tyL G) s) (hsx : Sx G (AS K0 ad s.heap.size) s s.heap) (hex : Ex (AS K0 ad s.heap.size) s s.heap) (hC : Ci G K0 K ad s M H locs n0) (hn1 : nzE K1 K)
    {As : List Value} {nA : Nat} (hM : Met l y (Cond.code y bytes maxL none :: WA) rm (Pk G K ad H.size (.ref (ad b) :: As) M) (Qk G K K1 ad H.size n1 M') n1 ms (AS K ad H.size)) (hci : Cond.initialized y.cls ∈ WA ∧ Cond.instanceMethod y ∈ WA ∧ Cond.code y bytes maxL none ∈ WA) (hl : Cond.methodLink own index y ∈ WA) (hy : y.name = "<init>" ∧ (y.cls ≠ "java/lang/invoke/MethodHandle" ∧ y.cls ≠ "java/lang/invoke/VarHandle" ∧ (parseMethodDescriptor y.desc).map (fun d => d.parameters.length) = some nA)) (hnA : As.length = nA)
    (hrc : rm.cells = n1) (hrs : rm.slots = ms) (hR : rm.frames + 1 ≤ R.frames ∧ 8 + (maxL + 11) + rm.locals ≤ R.locals) (hsize : ls.size = nL) {st : List Value} (hst : st = As.reverse ++ .ref (ad b) :: rest) (hW : (rest.map fun v => v.category).sum ≤ 8) (hdg : decode cc pc = .ok (.invokespecial index, 3)) (hf : n0 + n1 ≤ R.cells ∧ slots + ms ≤ R.slots)
    (kk : ∀ (H1 : Heap) (locs1 : List Loc), Ci G K0 K1 ad s M' H1 locs1 (n0 + n1) → W p l e R s m args below meth c H1 locs1 (n0 + n1) (slots + ms) Q (F0 m (pc + 3) ls rest)) : W p l e R s m args below meth c H locs n0 slots Q (F0 m pc ls st) := by
  subst hst
  exact c_back hC hn1 (va_runI (As := As) (rest := rest) ⟨hx, hb, hml, hown, hts⟩ hM (cwI nA hts (fun w h => ⟨ws_good hci.2.2 w h, wa_good w (ws_good hci.2.2 w h)⟩) rfl hrc hrs (hts _ hci.1) (hts _ hl) (hts _ hci.2.1) hy.1 hy.2 hR) ⟨pk_blind, fun U hU hW => hC.pk hK hsx hex hU hW⟩ rfl hnA hsize rfl (lv_room hW) hdg hf) kk
theorem c_callIN {b : Nat} {y : MethodName} {bytes : ByteArray} {maxL nL n1 ms index : Nat} {rm : Room} {own : String} {K1 : Nat → Nat × Nat} {M' : Mem} (hx : p.tables.exec = Jvm.exec) (hb : c.code = cc) (hml : c.maxLocals = nL) (hown : s.vm.findClass own = some m.cls) (hts : ∀ w ∈ WA, w.before args s = true) (hK : va_K G.1 vwCl (tyL G) s) (hsx : Sx G (AS K0 ad s.heap.size) s s.heap) (hex : Ex (AS K0 ad s.heap.size) s s.heap) (hC : Ci G K0 K ad s M H locs n0) (hn1 : nzE K1 K)
    {As : List Value} {nA : Nat} (hM : Met l y (Cond.code y bytes maxL none :: WA) rm (Pk G K ad H.size (.ref (ad b) :: As) M) (Qk G K K1 ad H.size n1 M') n1 ms (AS K ad H.size)) (hci : Cond.initialized y.cls ∈ WA ∧ Cond.instanceMethod y ∈ WA ∧ Cond.code y bytes maxL none ∈ WA) (hl : (own, index, y) ∈ nestW) (hy : y.name = "<init>" ∧ (y.cls ≠ "java/lang/invoke/MethodHandle" ∧ y.cls ≠ "java/lang/invoke/VarHandle" ∧ (parseMethodDescriptor y.desc).map (fun d => d.parameters.length) = some nA)) (hnA : As.length = nA)
    (hrc : rm.cells = n1) (hrs : rm.slots = ms) (hR : rm.frames + 1 ≤ R.frames ∧ 8 + (maxL + 11) + rm.locals ≤ R.locals) (hsize : ls.size = nL) {st : List Value} (hst : st = As.reverse ++ .ref (ad b) :: rest) (hW : (rest.map fun v => v.category).sum ≤ 8) (hdg : decode cc pc = .ok (.invokespecial index, 3)) (hf : n0 + n1 ≤ R.cells ∧ slots + ms ≤ R.slots)
    (kk : ∀ (H1 : Heap) (locs1 : List Loc), Ci G K0 K1 ad s M' H1 locs1 (n0 + n1) → W p l e R s m args below meth c H1 locs1 (n0 + n1) (slots + ms) Q (F0 m (pc + 3) ls rest)) : W p l e R s m args below meth c H locs n0 slots Q (F0 m pc ls st) := by
  subst hst
  exact c_back hC hn1 (va_runIN (As := As) (rest := rest) ⟨hx, hb, hml, hown, hts⟩ hM ⟨va_cnB nA hts (fun w h => ⟨ws_good hci.2.2 w h, wa_good w (ws_good hci.2.2 w h)⟩) rfl hrc hrs (hex.2.1 _ hl) (hts _ hci.1) hy.2 hR, hy.1, hts _ hci.2.1⟩ ⟨pk_blind, fun U hU hW => hC.pk hK hsx hex hU hW⟩ rfl hnA hsize rfl (lv_room hW) hdg hf) kk
theorem c_callV {b : Nat} {C : String} {y : MethodName} {bytes : ByteArray} {maxL nL index : Nat} {rm : Room} {own : String} {M' : Mem} (hx : p.tables.exec = Jvm.exec) (hb : c.code = cc) (hml : c.maxLocals = nL) (hown : s.vm.findClass own = some m.cls) (hts : ∀ w ∈ WA, w.before args s = true) (hK : va_K G.1 vwCl (tyL G) s) (hsx : Sx G (AS K0 ad s.heap.size) s s.heap) (hC : Ci G K0 K ad s M H locs n0) (hinj : ∀ i j, ad i = ad j → i = j)
    (hM : Met l y (Cond.code y bytes maxL none :: WA) rm (Pg G (kdN K ad (s.heap.size + n0)) ad H.size [.ref (ad b)] M) (Qg G (kdN K ad (s.heap.size + n0)) ad H.size M' none) 0 0 (AS (kdN K ad (s.heap.size + n0)) ad H.size)) (hcv : cvF C y bytes maxL none 0) (hl : Cond.methodLink own index y ∈ WA) (hrc : rm.cells = 0) (hrs : rm.slots = 0) (hR : rm.frames + 1 ≤ R.frames ∧ 8 + (maxL + 11) + rm.locals ≤ R.locals)
    {ci : Nat} {q : Nat × Nat} {fs : List Value} {T : u_T} {N : Nat} (hk : kdN K ad (s.heap.size + n0) b = q) (hq : q.1 ≠ 0) (he : ent ad G.2.1 q b (M.1 b) (M.2.1 b) (M.2.2 b) = .inr (ci, fs)) (hc : vwCl[ci]? = some (C, T, N))
    (hsize : ls.size = nL) (hW : (rest.map fun v => v.category).sum ≤ 8) (hdg : decode cc pc = .ok (.invokevirtual index, 3)) (hf : n0 + 0 ≤ R.cells ∧ slots + 0 ≤ R.slots)
    (kk : ∀ (H1 : Heap) (locs1 : List Loc), Ci G K0 K ad s M' H1 locs1 n0 → W p l e R s m args below meth c H1 locs1 n0 slots Q (F0 m (pc + 3) ls rest)) : W p l e R s m args below meth c H locs n0 slots Q (F0 m pc ls (.ref (ad b) :: rest)) := by
  obtain ⟨c1, c2, c3, c4, c5⟩ := hcv
  have hG : GoodIn WA (wsV own index C y (Cond.code y bytes maxL none :: WA)) := fun w h => by
    have : w ∈ WA := by
      rcases List.mem_append.mp h with h | h
      · simp only [List.mem_cons, List.not_mem_nil, or_false] at h
        rcases h with rfl | rfl | rfl | rfl
        · exact hl
        · exact c1
        · exact c2
        · exact c3
      · exact ws_good c4 w h
    exact ⟨this, wa_good w this⟩
  exact c_backM hC (va_runV (C := C) (b := ad b) (As := []) (rest := rest) ⟨hx, hb, hml, hown, hts⟩ hM (cwV 0 hts hG rfl hrc hrs c5 hR) ⟨pg_blind, va_recv hK (va_P1 (hC.inv.at hk hq he)) hc (q0 := 0) rfl, fun U hU hW => hC.pg hinj hK hsx hU hW⟩ rfl rfl hsize rfl (lv_room hW) hdg hf) kk
theorem c_ret {n1 ms : Nat} (hx : p.tables.exec = Jvm.exec) (hb : c.code = cc) (hr : meth.sig.returnType = none) (hlk : meth.locks = false) (hC : Ci G K0 K ad s M H locs n1) (hdg : decode cc pc = .ok (.return_, 1)) : W p l e R s m args below meth c H locs n1 ms (MQ below (Qk G K0 K ad s.heap.size n1 M) args s n1 ms (AS K0 ad s.heap.size)) (F0 m pc ls []) :=
  W.vret hx hb hr (fun t ht _ => ⟨rfl, by rw [ht]; exact hC.1, by
    refine ⟨by rw [ht]; exact hC.2.1.1, fun q h1 h2 => by rw [ht]; exact hC.2.1.2.1 q h1 h2⟩, by rw [ht, hC.2.2.1]; exact Nat.le_refl _⟩) hC.2.1.2.2 hdg hlk
theorem c_body {y : MethodName} {bytes : ByteArray} {maxL n1 ms N d : Nat} {own : String} {As : List Value} {K1 : Nat → Nat × Nat} {M' : Mem} (hy : plainName y.cls = true) (hyo : y.cls = own) (hyi : y.name = "<init>") (hinj : ∀ i j, ad i = ad j → i = j)
    (body : ∀ p e s m args below meth c, Cc p s m args meth c bytes maxL own G K0 ad → s.heap.size = N → ∀ (H : Heap) (ls : Array Slot), Ci G K0 K0 ad s M H [] 0 → lv_has ls maxL (lv_args 0 As) → W p l e (rmO d n1 ms) s m args below meth c H [] 0 0 (MQ below (Qk G K0 K1 ad s.heap.size n1 M') args s n1 ms (AS K0 ad s.heap.size)) (F0 m 0 ls [])) (hlen : (lg_sl As).length ≤ maxL) :
    Met l y (Cond.code y bytes maxL none :: WA) (rmO d n1 ms) (Pk G K0 ad N As M) (Qk G K0 K1 ad N n1 M') n1 ms (AS K0 ad N) := by
  refine Met.ofW (cc := bytes) (maxL := maxL) (ret := none) hy rfl ?_
  intro p e s m args below meth c s₁ B hml hv
  obtain ⟨rfl, hsz, hw, hK, hsx, hex⟩ := hv
  have hts := atoms_spec (ws := Cond.code y bytes maxL none :: WA) B.pre
  have hown : s.vm.findClass own = some m.cls := hyo ▸ findClass_of_methodNamed B.named
  have hin : meth.name = "<init>" := hyi ▸ (name_of_methodNamed B.named B.method).1
  subst hsz
  have hl := lv_entry As (n := maxL) hlen
  rw [lg_entry_eq]
  generalize (lg_sl As ++ List.replicate (maxL - (lg_sl As).length) Slot.unset).toArray = ls at hl ⊢
  exact body p e s m _ below meth c ⟨B.exec, B.bytes, hml, B.returns, hown, fun w h => hts w (List.mem_cons_of_mem _ h), B.notSynchronized, hK, hsx, hex, hin, hinj⟩ rfl _ ls ⟨hw, va_S.rf, rfl, fun _ => Iff.rfl⟩ hl
end CU
end
/-! part 29.words2 -/
section
theorem q_t1_7 : (Cond.initialized "java/lang/AbstractStringBuilder") ∈ WA := wa_q tbl_1 7 rfl rfl
theorem q_t1_8 : (Cond.initialized "java/lang/StringBuilder") ∈ WA := wa_q tbl_1 8 rfl rfl
theorem q_t1_32 : (Cond.instanceMethod ⟨"SheetFolder", "<init>", "()V"⟩) ∈ WA := wa_q tbl_1 32 rfl rfl
theorem q_t1_33 : (Cond.code ⟨"SheetFolder", "<init>", "()V"⟩ prog_1_method_1_code 1 none) ∈ WA := wa_q tbl_1 33 rfl rfl
theorem q_t1_34 : (Cond.methodLink "SheetFolder" 3 ⟨"java/lang/Object", "<init>", "()V"⟩) ∈ WA := wa_q tbl_1 34 rfl rfl
theorem q_t1_35 : (Cond.instanceMethod ⟨"java/lang/Object", "<init>", "()V"⟩) ∈ WA := wa_q tbl_1 35 rfl rfl
theorem q_t1_36 : (Cond.code ⟨"java/lang/Object", "<init>", "()V"⟩ object_method_1_code 1 none) ∈ WA := wa_q tbl_1 36 rfl rfl
theorem q_t1_37 : (Cond.classLink "SheetFolder" 17 "SheetFolder$TextReader") ∈ WA := wa_q tbl_1 37 rfl rfl
theorem q_t1_38 : (Cond.instantiable "SheetFolder$TextReader" 9) ∈ WA := wa_q tbl_1 38 rfl rfl
theorem q_t1_40 : (Cond.instanceMethod ⟨"SheetFolder$TextReader", "<init>", "()V"⟩) ∈ WA := wa_q tbl_1 40 rfl rfl
theorem q_t1_41 : (Cond.code ⟨"SheetFolder$TextReader", "<init>", "()V"⟩ prog_6_method_1_code 1 none) ∈ WA := wa_q tbl_1 41 rfl rfl
theorem q_t1_42 : (Cond.methodLink "SheetFolder$TextReader" 3 ⟨"java/lang/Object", "<init>", "()V"⟩) ∈ WA := wa_q tbl_1 42 rfl rfl
theorem q_t1_73 : (Cond.arrayClass .byte) ∈ WA := wa_q tbl_1 73 rfl rfl
theorem q_t1_74 : (Cond.arrayClass .int) ∈ WA := wa_q tbl_1 74 rfl rfl
theorem q_t1_75 : (Cond.classLink "SheetFolder" 24 "SheetFolder$Part") ∈ WA := wa_q tbl_1 75 rfl rfl
theorem q_t1_76 : (Cond.instantiable "SheetFolder$Part" 18) ∈ WA := wa_q tbl_1 76 rfl rfl
theorem q_t1_77 : (Cond.methodLink "SheetFolder" 26 ⟨"SheetFolder$Part", "<init>", "()V"⟩) ∈ WA := wa_q tbl_1 77 rfl rfl
theorem q_t1_78 : (Cond.instanceMethod ⟨"SheetFolder$Part", "<init>", "()V"⟩) ∈ WA := wa_q tbl_1 78 rfl rfl
theorem q_t1_79 : (Cond.code ⟨"SheetFolder$Part", "<init>", "()V"⟩ prog_3_method_1_code 1 none) ∈ WA := wa_q tbl_1 79 rfl rfl
theorem q_t1_80 : (Cond.methodLink "SheetFolder$Part" 3 ⟨"java/lang/Object", "<init>", "()V"⟩) ∈ WA := wa_q tbl_1 80 rfl rfl
theorem q_t1_81 : (Cond.methodLink "SheetFolder$Part" 67 ⟨"SheetFolder$Part", "clear", "()V"⟩) ∈ WA := wa_q tbl_1 81 rfl rfl
theorem q_t1_174 : (Cond.classLink "SheetFolder" 34 "SheetFolder$History") ∈ WA := wa_q tbl_1 174 rfl rfl
theorem q_t1_175 : (Cond.instantiable "SheetFolder$History" 3) ∈ WA := wa_q tbl_1 175 rfl rfl
theorem q_t1_176 : (Cond.methodLink "SheetFolder" 36 ⟨"SheetFolder$History", "<init>", "()V"⟩) ∈ WA := wa_q tbl_1 176 rfl rfl
theorem q_t1_177 : (Cond.instanceMethod ⟨"SheetFolder$History", "<init>", "()V"⟩) ∈ WA := wa_q tbl_1 177 rfl rfl
theorem q_t1_178 : (Cond.code ⟨"SheetFolder$History", "<init>", "()V"⟩ prog_2_method_1_code 2 none) ∈ WA := wa_q tbl_1 178 rfl rfl
theorem q_t1_179 : (Cond.methodLink "SheetFolder$History" 3 ⟨"java/lang/Object", "<init>", "()V"⟩) ∈ WA := wa_q tbl_1 179 rfl rfl
theorem q_t1_180 : (Cond.classLink "SheetFolder$History" 9 "SheetFolder$Part") ∈ WA := wa_q tbl_1 180 rfl rfl
theorem q_t1_182 : (Cond.methodLink "SheetFolder$History" 24 ⟨"SheetFolder$Part", "<init>", "()V"⟩) ∈ WA := wa_q tbl_1 182 rfl rfl
theorem q_t1_194 : (Cond.classLink "SheetFolder" 41 "SheetFolder$Places") ∈ WA := wa_q tbl_1 194 rfl rfl
theorem q_t1_195 : (Cond.instantiable "SheetFolder$Places" 9) ∈ WA := wa_q tbl_1 195 rfl rfl
theorem q_t1_197 : (Cond.instanceMethod ⟨"SheetFolder$Places", "<init>", "()V"⟩) ∈ WA := wa_q tbl_1 197 rfl rfl
theorem q_t1_198 : (Cond.code ⟨"SheetFolder$Places", "<init>", "()V"⟩ prog_4_method_1_code 1 none) ∈ WA := wa_q tbl_1 198 rfl rfl
theorem q_t1_199 : (Cond.methodLink "SheetFolder$Places" 3 ⟨"java/lang/Object", "<init>", "()V"⟩) ∈ WA := wa_q tbl_1 199 rfl rfl
theorem q_t1_230 : (Cond.classLink "SheetFolder" 48 "SheetFolder$Planner") ∈ WA := wa_q tbl_1 230 rfl rfl
theorem q_t1_231 : (Cond.instantiable "SheetFolder$Planner" 13) ∈ WA := wa_q tbl_1 231 rfl rfl
theorem q_t1_232 : (Cond.methodLink "SheetFolder" 50 ⟨"SheetFolder$Planner", "<init>", "()V"⟩) ∈ WA := wa_q tbl_1 232 rfl rfl
theorem q_t1_233 : (Cond.instanceMethod ⟨"SheetFolder$Planner", "<init>", "()V"⟩) ∈ WA := wa_q tbl_1 233 rfl rfl
theorem q_t1_234 : (Cond.code ⟨"SheetFolder$Planner", "<init>", "()V"⟩ prog_5_method_1_code 1 none) ∈ WA := wa_q tbl_1 234 rfl rfl
theorem q_t1_235 : (Cond.methodLink "SheetFolder$Planner" 3 ⟨"java/lang/Object", "<init>", "()V"⟩) ∈ WA := wa_q tbl_1 235 rfl rfl
theorem q_t1_236 : (Cond.classLink "SheetFolder$Planner" 25 "SheetFolder$Places") ∈ WA := wa_q tbl_1 236 rfl rfl
theorem q_t1_238 : (Cond.classLink "SheetFolder$Planner" 32 "SheetFolder$Part") ∈ WA := wa_q tbl_1 238 rfl rfl
theorem q_t1_239 : (Cond.methodLink "SheetFolder$Planner" 34 ⟨"SheetFolder$Part", "<init>", "()V"⟩) ∈ WA := wa_q tbl_1 239 rfl rfl
theorem q_t2_48 : (Cond.arrayClass .boolean) ∈ WA := wa_q tbl_2 48 rfl rfl
theorem q_t2_49 : (Cond.arrayClass .long) ∈ WA := wa_q tbl_2 49 rfl rfl
theorem q_t2_50 : (Cond.classLink "SheetFolder" 55 "java/lang/StringBuilder") ∈ WA := wa_q tbl_2 50 rfl rfl
theorem q_t2_51 : (Cond.instantiable "java/lang/StringBuilder" 4) ∈ WA := wa_q tbl_2 51 rfl rfl
theorem q_t2_52 : (Cond.methodLink "SheetFolder" 57 ⟨"java/lang/StringBuilder", "<init>", "()V"⟩) ∈ WA := wa_q tbl_2 52 rfl rfl
theorem q_t2_53 : (Cond.instanceMethod ⟨"java/lang/StringBuilder", "<init>", "()V"⟩) ∈ WA := wa_q tbl_2 53 rfl rfl
theorem q_t2_54 : (Cond.code ⟨"java/lang/StringBuilder", "<init>", "()V"⟩ prog_22_method_1_code 1 none) ∈ WA := wa_q tbl_2 54 rfl rfl
theorem q_t2_55 : (Cond.methodLink "java/lang/StringBuilder" 1 ⟨"java/lang/AbstractStringBuilder", "<init>", "(I)V"⟩) ∈ WA := wa_q tbl_2 55 rfl rfl
theorem q_t2_56 : (Cond.instanceMethod ⟨"java/lang/AbstractStringBuilder", "<init>", "(I)V"⟩) ∈ WA := wa_q tbl_2 56 rfl rfl
theorem q_t2_57 : (Cond.code ⟨"java/lang/AbstractStringBuilder", "<init>", "(I)V"⟩ prog_10_method_2_code 2 none) ∈ WA := wa_q tbl_2 57 rfl rfl
theorem q_t2_58 : (Cond.methodLink "java/lang/AbstractStringBuilder" 3 ⟨"java/lang/Object", "<init>", "()V"⟩) ∈ WA := wa_q tbl_2 58 rfl rfl
theorem q_t2_59 : (Cond.fieldLink "java/lang/AbstractStringBuilder" 18 "java/lang/String" "COMPACT_STRINGS" "Z") ∈ WA := wa_q tbl_2 59 rfl rfl
theorem q_t2_68 : (Cond.fieldLink "java/lang/AbstractStringBuilder" 15 "java/lang/AbstractStringBuilder" "value" "[B") ∈ WA := wa_q tbl_2 68 rfl rfl
theorem q_t2_69 : (Cond.fieldLink "java/lang/AbstractStringBuilder" 22 "java/lang/AbstractStringBuilder" "coder" "B") ∈ WA := wa_q tbl_2 69 rfl rfl
theorem q_t2_73 : (Cond.lays "java/lang/StringBuilder" "java/lang/AbstractStringBuilder" "value" "[B") ∈ WA := wa_q tbl_2 73 rfl rfl
theorem q_t2_75 : (Cond.lays "java/lang/StringBuilder" "java/lang/AbstractStringBuilder" "coder" "B") ∈ WA := wa_q tbl_2 75 rfl rfl
theorem q_t2_77 : (Cond.lays "java/lang/StringBuilder" "java/lang/AbstractStringBuilder" "maybeLatin1" "Z") ∈ WA := wa_q tbl_2 77 rfl rfl
theorem q_t2_79 : (Cond.lays "java/lang/StringBuilder" "java/lang/AbstractStringBuilder" "count" "I") ∈ WA := wa_q tbl_2 79 rfl rfl
theorem q_t2_90 : (Cond.fieldLink "SheetFolder" 58 "SheetFolder" "output" "Ljava/lang/StringBuilder;") ∈ WA := wa_q tbl_2 90 rfl rfl
theorem q_t7_62 : (Cond.instanceMethod ⟨"SheetFolderModel", "<init>", "()V"⟩) ∈ WA := wa_q tbl_7 62 rfl rfl
theorem q_t7_63 : (Cond.code ⟨"SheetFolderModel", "<init>", "()V"⟩ prog_9_method_1_code 1 none) ∈ WA := wa_q tbl_7 63 rfl rfl
theorem q_t7_64 : (Cond.methodLink "SheetFolderModel" 1 ⟨"java/lang/Object", "<init>", "()V"⟩) ∈ WA := wa_q tbl_7 64 rfl rfl
theorem q_t7_78 : (Cond.fieldLink "SheetFolderModel" 16 "SheetFolderModel" "aside" "[I") ∈ WA := wa_q tbl_7 78 rfl rfl
end
/-! part 31.ctors -/
section
theorem kPart_congr {K K' : Nat → Nat × Nat} {k : Nat} (h : kPart K k) (he : ∀ j, j < 8 → K' (k + j) = K (k + j)) : kPart K' k := ⟨(he 0 (by omega)).trans h.1, (he 1 (by omega)).trans h.2.1, (he 2 (by omega)).trans h.2.2.1, (he 3 (by omega)).trans h.2.2.2.1, (he 4 (by omega)).trans h.2.2.2.2.1, (he 5 (by omega)).trans h.2.2.2.2.2.1, (he 6 (by omega)).trans h.2.2.2.2.2.2.1, (he 7 (by omega)).trans h.2.2.2.2.2.2.2⟩
theorem kPlaces_congr {K K' : Nat → Nat × Nat} {k : Nat} (h : kPlaces K k) (he : ∀ j, j < 7 → K' (k + j) = K (k + j)) : kPlaces K' k := ⟨(he 0 (by omega)).trans h.1, (he 1 (by omega)).trans h.2.1, (he 2 (by omega)).trans h.2.2.1, (he 3 (by omega)).trans h.2.2.2.1, (he 4 (by omega)).trans h.2.2.2.2.1, (he 5 (by omega)).trans h.2.2.2.2.2.1, (he 6 (by omega)).trans h.2.2.2.2.2.2⟩
theorem kPlanner_congr {K K' : Nat → Nat × Nat} {k : Nat} (h : kPlanner K k) (he : ∀ j, j < 23 → K' (k + j) = K (k + j)) : kPlanner K' k := ⟨(he 0 (by omega)).trans h.1, (he 1 (by omega)).trans h.2.1, kPlaces_congr h.2.2.1 (fun j hj => by rw [show k + 2 + j = k + (2 + j) by omega]; exact he _ (by omega)), kPart_congr h.2.2.2.1 (fun j hj => by rw [show k + 9 + j = k + (9 + j) by omega]; exact he _ (by omega)), (he 17 (by omega)).trans h.2.2.2.2.1, (he 18 (by omega)).trans h.2.2.2.2.2.1, (he 19 (by omega)).trans h.2.2.2.2.2.2.1, (he 20 (by omega)).trans h.2.2.2.2.2.2.2.1, (he 21 (by omega)).trans h.2.2.2.2.2.2.2.2.1, (he 22 (by omega)).trans h.2.2.2.2.2.2.2.2.2⟩
theorem kHist_congr {K K' : Nat → Nat × Nat} {k : Nat} (h : kHist K k) (he : ∀ j, j < 82 → K' (k + j) = K (k + j)) : kHist K' k := ⟨(he 0 (by omega)).trans h.1, (he 1 (by omega)).trans h.2.1, fun i hi => kPart_congr (h.2.2 i hi) (fun j hj => by rw [show k + 1 + 1 + 8 * i + j = k + (2 + 8 * i + j) by omega]; exact he _ (by omega))⟩
theorem kModel_congr {K K' : Nat → Nat × Nat} {k : Nat} (h : kModel K k) (he : ∀ j, j < 17 → K' (k + j) = K (k + j)) : kModel K' k := ⟨(he 0 (by omega)).trans h.1, (he 1 (by omega)).trans h.2.1, (he 2 (by omega)).trans h.2.2.1, (he 3 (by omega)).trans h.2.2.2.1, (he 4 (by omega)).trans h.2.2.2.2.1, (he 5 (by omega)).trans h.2.2.2.2.2.1, (he 6 (by omega)).trans h.2.2.2.2.2.2.1, (he 7 (by omega)).trans h.2.2.2.2.2.2.2.1, (he 8 (by omega)).trans h.2.2.2.2.2.2.2.2.1, (he 9 (by omega)).trans h.2.2.2.2.2.2.2.2.2.1, (he 10 (by omega)).trans h.2.2.2.2.2.2.2.2.2.2.1, (he 11 (by omega)).trans h.2.2.2.2.2.2.2.2.2.2.2.1, (he 12 (by omega)).trans h.2.2.2.2.2.2.2.2.2.2.2.2.1, (he 13 (by omega)).trans h.2.2.2.2.2.2.2.2.2.2.2.2.2.1, (he 14 (by omega)).trans h.2.2.2.2.2.2.2.2.2.2.2.2.2.2.1, (he 15 (by omega)).trans h.2.2.2.2.2.2.2.2.2.2.2.2.2.2.2.1, (he 16 (by omega)).trans h.2.2.2.2.2.2.2.2.2.2.2.2.2.2.2.2⟩
def kSB (kd : Nat → Nat × Nat) (k : Nat) : Prop := kd k = (9, 0) ∧ kd (k + 1) = (11, 16)
theorem kSB_congr {K K' : Nat → Nat × Nat} {k : Nat} (h : kSB K k) (he : ∀ j, j < 2 → K' (k + j) = K (k + j)) : kSB K' k := ⟨(he 0 (by omega)).trans h.1, (he 1 (by omega)).trans h.2⟩
theorem kReader_congr {K K' : Nat → Nat × Nat} (h : kReader K 2) (he : ∀ j, 1 ≤ j → j < 5 → K' j = K j) : kReader K' 2 := ⟨(he 2 (by omega) (by omega)).trans h.1, (he 3 (by omega) (by omega)).trans h.2.1, (he 1 (by omega) (by omega)).trans h.2.2⟩
theorem nzE_set {K : Nat → Nat × Nat} {k : Nat} {q : Nat × Nat} (h1 : (K k).1 ≠ 0) (hq : q.1 ≠ 0) : nzE K (setk K k q) := fun i => by
  by_cases e : i = k
  · subst e; rw [setk_s]; exact ⟨fun _ => hq, fun _ => h1⟩
  · rw [setk_o e]
theorem setk3 {K : Nat → Nat × Nat} {k k' : Nat} {a b c : Nat × Nat} (h : k' ≠ k) : setk (setk (setk K k a) k' b) k c = setk (setk K k c) k' b := by
  funext x; unfold setk
  by_cases e1 : x = k
  · have : x ≠ k' := fun q => h (q.symm.trans e1)
    rw [if_pos e1, if_neg this, if_pos e1]
  · rw [if_neg e1]
    by_cases e2 : x = k'
    · rw [if_pos e2, if_pos e2]
    · rw [if_neg e2, if_neg e2, if_neg e1, if_neg e1]
theorem Ci.absent {G : GT} {K0 K : Nat → Nat × Nat} {ad : Nat → Nat} {s : State} {M : Mem} {H : Heap} {locs : List Loc} {n0 j : Nat} {q q' : Nat × Nat} (hC : Ci G K0 K ad s M H locs n0) (haj : ad j = s.heap.size + n0) (hKj : K j = q') (hq' : q'.1 ≠ 0) (hq : q.1 ≠ 0) : Ci G K0 (setk K j q) ad s M H locs n0 := by
  obtain ⟨hw, hS, hz, hn⟩ := hC
  refine ⟨fun k hk => ?_, hS, hz, hn.set hq (by rw [hKj]; exact hq')⟩
  have hl := kdN_lt hk
  have hkj : k ≠ j := fun h => by rw [h, haj] at hl; omega
  rw [kdN_in hl, setk_o hkj] at hk ⊢
  have h2 := hw k (by rw [kdN_in hl]; exact hk)
  rw [kdN_in hl] at h2
  exact h2
theorem c_aast {p : Program} {l : Launch} {e : Env} {R : Room} {s : State} {m : MethodId} {args : Array Value} {below : List Frame} {meth : Method} {c : Code} {H : Heap} {locs : List Loc} {cells slots : Nat} {Q : State → Prop} {cc : ByteArray} {pc : Nat} {ls : Array Slot} {rest : List Value} {G : GT} {K0 K : Nat → Nat × Nat} {ad : Nat → Nat} {M : Mem} {n0 : Nat} {row kp i : Nat} {iv : Int32} (hx : p.tables.exec = Jvm.exec) (hb : c.code = cc) (hK : va_K G.1 vwCl (tyL G) s) (hC : Ci G K0 K ad s M H locs n0) (hinj : ∀ i j, ad i = ad j → i = j) (hrow : K row = (28, i)) (hlr : ad row < s.heap.size + n0) (hp : K kp = (1, 0)) (hlp : ad kp < s.heap.size + n0) (hkp : kp = row + 1 + 8 * i) (hi : i < 10) (hiv : iv.toNatClampNeg = i ∧ ¬ iv < 0) (hdg : decode cc pc = .ok (.aastore, 1))
    (kk : ∀ (H1 : Heap) (locs1 : List Loc), Ci G K0 (setk K row (28, i + 1)) ad s M H1 locs1 n0 → W p l e R s m args below meth c H1 locs1 cells slots Q (F0 m (pc + 1) ls rest)) : W p l e R s m args below meth c H locs cells slots Q (F0 m pc ls (.ref (ad kp) :: .int iv :: .ref (ad row) :: rest)) := by
  obtain ⟨hv1, hv2⟩ := hiv
  have ha : va_at G.1 vwCl (ad row, .inl (G.2.1 4, 10, .inr (.inr (.inr (.inr (fun j => if j < i then some (ad (row + 1 + 8 * j)) else none)))))) H := by
    have h := hC.1 row (by rw [kdN_in hlr, hrow]; simp)
    rw [kdN_in hlr, hrow] at h
    exact h
  have hv : va_at G.1 vwCl (ad kp, .inr (5, ePart ad kp (M.1 kp))) H := by
    have h := hC.1 kp (by rw [kdN_in hlp, hp]; simp)
    rw [kdN_in hlp, hp] at h
    exact h
  obtain ⟨r', hr', cellV, g1, g2, g3, -⟩ := hv
  have hcls := (hK.1 5 _ rfl).2
  obtain ⟨kA, comp, k1, k2, k3, -⟩ := (hK.2 4 _ rfl).2
  have hcomp : comp = G.1.1 5 := Option.some.inj (k3.symm.trans hcls.1)
  subst hcomp
  obtain ⟨kC, hkC, -⟩ := hcls.2
  refine W.aast hx hb ha (fun q h => by cases h) (fun h => by cases h) k1 k2 rfl hkC ⟨hv2, by show _ < (arrV _ _ _).slots.size; rw [arrV_size]; show iv.toNatClampNeg < 10; omega⟩ g1 (fun q h => by rw [g3] at h; cases h) (by rw [g2]; exact hkC) (by rw [g2]; exact va_assign hcls) rfl rfl hdg fun H1 e z oq => ?_
  refine kk H1 _ (hC.set hinj hrow (by simp) (by simp) hlr ?_ z oq (fun _ _ => ⟨rfl, rfl, rfl⟩))
  show H1[ad row]? = some (vp_cell (G.2.1 4) (10, .inr (.inr (.inr (.inr (fun j => if j < i + 1 then some (ad (row + 1 + 8 * j)) else none))))))
  rw [e]
  rw [vp_cell_q, vp_cell_q, arrV_store]
  congr 2
  funext q
  subst hkp
  by_cases hq : q = iv.toNatClampNeg
  · subst hq
    rw [hv1]
    simp [updV, va_rf, hv1]
  · have hqi : q ≠ i := fun h => hq (h.trans hv1.symm)
    simp only [updV, if_neg hq]
    by_cases h2 : q < i
    · rw [if_pos h2, if_pos (by omega)]
    · rw [if_neg h2, if_neg (by omega)]
theorem Ci.rowfull {G : GT} {K0 K : Nat → Nat × Nat} {ad : Nat → Nat} {s : State} {M : Mem} {H : Heap} {locs : List Loc} {n0 r : Nat} (hC : Ci G K0 K ad s M H locs n0) (hr : K r = (28, 10)) : Ci G K0 (setk K r (8, 10)) ad s M H locs n0 := by
  obtain ⟨hw, hS, hz, hn⟩ := hC
  refine ⟨fun k' hk' => ?_, hS, hz, hn.set (by simp) (by rw [hr]; simp)⟩
  have hl := kdN_lt hk'
  rw [kdN_in hl] at hk' ⊢
  by_cases e : k' = r
  · subst e
    rw [setk_s]
    have h2 := hw k' (by rw [kdN_in hl, hr]; simp)
    rw [kdN_in hl, hr] at h2
    have h3 : H[ad k']? = some (vp_cell (G.2.1 4) (10, .inr (.inr (.inr (.inr (fun j => if j < 10 then some (ad (k' + 1 + 8 * j)) else none)))))) := h2
    show H[ad k']? = some (vp_cell (G.2.1 4) (10, .inr (.inr (.inr (.inr (fun j => some (ad (k' + 1 + 8 * j))))))))
    rw [h3, vp_cell_q, vp_cell_q]
    unfold arrV
    congr 3
    funext j
    show va_rf (if j.val < 10 then _ else none) = _
    rw [if_pos j.isLt]
  · rw [setk_o e] at hk' ⊢
    have h2 := hw k' (by rw [kdN_in hl]; exact hk')
    rw [kdN_in hl] at h2
    exact h2
theorem c_callS {p : Program} {l : Launch} {e : Env} {R : Room} {s : State} {m : MethodId} {args : Array Value} {below : List Frame} {meth : Method} {c : Code} {H : Heap} {locs : List Loc} {slots : Nat} {Q : State → Prop} {cc : ByteArray} {pc : Nat} {ls : Array Slot} {rest : List Value} {G : GT} {K0 K : Nat → Nat × Nat} {ad : Nat → Nat} {M : Mem} {n0 : Nat} {y : MethodName} {bytes : ByteArray} {maxL nL index nA : Nat} {rm : Room} {own : String} {M' : Mem} {As : List Value} (hx : p.tables.exec = Jvm.exec) (hb : c.code = cc) (hml : c.maxLocals = nL) (hown : s.vm.findClass own = some m.cls) (hts : ∀ w ∈ WA, w.before args s = true) (hK : va_K G.1 vwCl (tyL G) s) (hsx : Sx G (AS K0 ad s.heap.size) s s.heap) (hC : Ci G K0 K ad s M H locs n0) (hinj : ∀ i j, ad i = ad j → i = j)
    (hM : Met l y (Cond.code y bytes maxL none :: WA) rm (Pg G (kdN K ad (s.heap.size + n0)) ad H.size As M) (Qg G (kdN K ad (s.heap.size + n0)) ad H.size M' none) 0 0 (AS (kdN K ad (s.heap.size + n0)) ad H.size)) (hcv : csF y bytes maxL none nA) (hl : Cond.methodLink own index y ∈ WA) (hrc : rm.cells = 0) (hrs : rm.slots = 0) (hR : rm.frames + 1 ≤ R.frames ∧ 8 + (maxL + 11) + rm.locals ≤ R.locals)
    (hnA : As.length = nA) (hsize : ls.size = nL) {st : List Value} (hst : st = As.reverse ++ rest) (hW : (rest.map fun v => v.category).sum ≤ 8) (hdg : decode cc pc = .ok (.invokestatic index, 3)) (hf : n0 + 0 ≤ R.cells ∧ slots + 0 ≤ R.slots)
    (kk : ∀ (H1 : Heap) (locs1 : List Loc), Ci G K0 K ad s M' H1 locs1 n0 → W p l e R s m args below meth c H1 locs1 n0 slots Q (F0 m (pc + 3) ls rest)) : W p l e R s m args below meth c H locs n0 slots Q (F0 m pc ls st) := by
  subst hst
  obtain ⟨c1, c3, c4, c5⟩ := hcv
  have hG : GoodIn WA (va_wsS own index y (Cond.code y bytes maxL none :: WA)) := fun w h => by
    have : w ∈ WA := by
      rcases List.mem_append.mp h with h | h
      · simp only [List.mem_cons, List.not_mem_nil, or_false] at h
        rcases h with rfl | rfl | rfl
        · exact hl
        · exact c1
        · exact c3
      · exact ws_good c4 w h
    exact ⟨this, wa_good w this⟩
  exact c_backM hC (va_runS (As := As) (rest := rest) ⟨hx, hb, hml, hown, hts⟩ hM (va_cwS nA hts hG rfl hrc hrs c5 hR) ⟨pg_blind, fun U hU hW => hC.pg hinj hK hsx hU hW⟩ rfl hnA hsize rfl (lv_room hW) hdg hf) kk
theorem ltB {ad : Nat → Nat} {k N n c : Nat} (hak : ad k < N) (had : ∀ j, j < n → ad (k + 1 + j) = N + j) (hn : n ≤ c) {j : Nat} (hj : j < n + 1) : ad (k + j) < N + c := by
  by_cases e : j = 0
  · subst e; exact Nat.lt_of_lt_of_le hak (Nat.le_add_right _ _)
  · have h9 := had (j - 1) (by omega)
    rw [show k + j = k + 1 + (j - 1) by omega]
    omega
section CS
def mX1_init (k0 : Nat) (M : Mem) : Option (Mem × Unit) := bnd (wr M k0 0 (0 : Int32)) (fun M1 => bnd (zr M1 (k0 + 1)) (fun M3 => bnd (wr M3 k0 2 (0 : Int32)) (fun M5 => bnd (wr M5 k0 3 (0 : Int32)) (fun M7 => bnd (wr M7 k0 4 (0 : Int32)) (fun M9 => bnd (wr M9 k0 5 (0 : Int32)) (fun M11 => bnd (zr M11 (k0 + 2)) (fun M13 => bnd (wr M13 k0 7 (0 : Int32)) (fun M15 => bnd (wr M15 k0 8 (0 : Int32)) (fun M17 => bnd (wr M17 k0 9 (0 : Int32)) (fun M19 => bnd (wr M19 k0 10 (0 : Int32)) (fun M21 => bnd (zr M21 (k0 + 3)) (fun M23 => bnd (zr M23 (k0 + 4)) (fun M25 => bnd (wr M25 k0 13 (0 : Int32)) (fun M27 => bnd (wr M27 k0 14 (0 : Int32)) (fun M29 => bnd (zr M29 (k0 + 5)) (fun M31 => bnd (zr M31 (k0 + 6)) (fun M33 => bnd (zr M33 (k0 + 7)) (fun M35 => cal (mX1_clear k0 M35) (fun M37 _ => some (M37, ()))))))))))))))))))))
set_option maxHeartbeats 4000000 in
set_option maxRecDepth 100000 in
theorem tX1_init (l : Launch) {G : GT} {KF : Nat → Nat × Nat} {ad : Nat → Nat} {N : Nat} {k0 : Nat} (hinj : ∀ i j, ad i = ad j → i = j) (hB : kPart KF k0) (had : ∀ j, j < 7 → ad (k0 + 1 + j) = N + j) (hak : ad k0 < N) {M MO : Mem} (hf : mX1_init k0 M = some (MO, ())) : Met l yX1_init (Cond.code yX1_init cX1_init 1 none :: WA) (rmO 2 7 59) (Pk G (setk KF k0 (21, 0)) ad N [.ref (ad k0)] M) (Qk G (setk KF k0 (21, 0)) KF ad N 7 MO) 7 59 (AS (setk KF k0 (21, 0)) ad N) := by
  refine c_body (own := RX1) (by decide) rfl rfl hinj ?_ (Nat.le_of_ble_eq_true rfl)
  intro p e s m args below meth c C hsz H ls hC hl
  subst hsz
  obtain ⟨hx, hb, hml, hr, hown, hts, hlk, hK, hsx, hex, hin, hinj⟩ := id C
  have hl : lv_has ls 1 [(0, .ref (ad k0))] := hl
  unfold mX1_init at hf
  refine lv_aload_n hx hb (dc tbX1_init_0_k 0 rfl) rfl (lv_at hl 0 rfl) ?_
  refine W.objInit hx hb hown (hts _ q_t1_80) (hts _ q_t1_35) (hts _ q_t1_36) rfl (by rw [hml]; exact hl.1) rfl (dc tbX1_init_0_k 1 rfl) (Nat.le_of_ble_eq_true rfl) (Nat.le_of_ble_eq_true rfl) ?_
  refine W.eq (g2 := F0 m 4 ls []) rfl ?_
  refine lv_aload_n hx hb (dc tbX1_init_0_k 2 rfl) rfl (lv_at hl 0 rfl) ?_
  refine lv_iconst (v := 0) hx hb (dc tbX1_init_0_k 3 rfl) (by decide) ?_
  obtain ⟨M1, e2, hf⟩ := bnd_s hf
  refine c_put false hx hb hts inW1 tyX1 tyX1_ok nmX1 hown hK hC hinj hin (q' := (21, 0)) (setk_s) (by simp) (by simp) (Nat.lt_of_lt_of_le hak (Nat.le_add_right _ _)) rfl rfl 0 (by decide) ⟨rfl, rfl, rfl⟩ q_t1_101 rfl (fun h => by first | rfl | cases h) (ty := .int) (by decide +kernel) rfl rfl (Nat.le_of_ble_eq_true rfl) (M' := M1) (by rw [e2, wr_s]; rfl) (by rw [e2]; exact wr_o) (dc tbX1_init_0_k 4 rfl) (fun H locs hC => ?_)
  have hC := hC.eqK setk_setk
  refine lv_aload_n hx hb (dc tbX1_init_0_k 5 rfl) rfl (lv_at hl 0 rfl) ?_
  refine lv_bipush (v := 9) hx hb (dc tbX1_init_0_k 6 rfl) (by decide) ?_
  obtain ⟨M3, e4, hf⟩ := bnd_s hf
  refine c_newa (ty := .int) (n := 9) hx hb rfl q_t1_74 hts hC hinj ((congrArg ad (by omega : (k0 + 1) = k0 + 1 + 0)).trans (had 0 (by omega))) ((setk_o (by omega)).trans (hB.2.1)) (hK.2 0 _ rfl).2 rfl rfl ⟨by decide, by decide⟩ (Nat.le_of_ble_eq_true rfl) ⟨Nat.le_of_ble_eq_true rfl, Nat.le_of_ble_eq_true rfl⟩ e4 dX1_init_12 (fun H hC => ?_)
  refine c_put true hx hb hts inW1 tyX1 tyX1_ok nmX1 hown hK hC hinj hin (q' := (21, 1)) (setk_s) (by simp) (by simp) (Nat.lt_of_lt_of_le hak (Nat.le_add_right _ _)) rfl rfl 1 (by decide) ⟨rfl, rfl, rfl⟩ q_t1_105 rfl (fun h => by first | rfl | cases h) (ty := (.array (.int))) (by decide +kernel) rfl rfl (Nat.le_of_ble_eq_true rfl) (M' := M3) rfl (fun _ _ => ⟨rfl, rfl, rfl⟩) (dc tbX1_init_0_k 7 rfl) (fun H locs hC => ?_)
  have hC := hC.eqK setk_setk
  refine lv_aload_n hx hb (dc tbX1_init_0_k 8 rfl) rfl (lv_at hl 0 rfl) ?_
  refine lv_iconst (v := 0) hx hb (dc tbX1_init_0_k 9 rfl) (by decide) ?_
  obtain ⟨M5, e6, hf⟩ := bnd_s hf
  refine c_put false hx hb hts inW1 tyX1 tyX1_ok nmX1 hown hK hC hinj hin (q' := (21, 1)) (setk_s) (by simp) (by simp) (Nat.lt_of_lt_of_le hak (Nat.le_add_right _ _)) rfl rfl 2 (by decide) ⟨rfl, rfl, rfl⟩ q_t1_108 rfl (fun h => by first | rfl | cases h) (ty := .int) (by decide +kernel) rfl rfl (Nat.le_of_ble_eq_true rfl) (M' := M5) (by rw [e6, wr_s]; rfl) (by rw [e6]; exact wr_o) (dc tbX1_init_0_k 10 rfl) (fun H locs hC => ?_)
  have hC := hC.eqK setk_setk
  refine lv_aload_n hx hb (dc tbX1_init_0_k 11 rfl) rfl (lv_at hl 0 rfl) ?_
  refine lv_iconst (v := 0) hx hb (dc tbX1_init_0_k 12 rfl) (by decide) ?_
  obtain ⟨M7, e8, hf⟩ := bnd_s hf
  refine c_put false hx hb hts inW1 tyX1 tyX1_ok nmX1 hown hK hC hinj hin (q' := (21, 1)) (setk_s) (by simp) (by simp) (Nat.lt_of_lt_of_le hak (Nat.le_add_right _ _)) rfl rfl 3 (by decide) ⟨rfl, rfl, rfl⟩ q_t1_111 rfl (fun h => by first | rfl | cases h) (ty := .int) (by decide +kernel) rfl rfl (Nat.le_of_ble_eq_true rfl) (M' := M7) (by rw [e8, wr_s]; rfl) (by rw [e8]; exact wr_o) (dc tbX1_init_0_k 13 rfl) (fun H locs hC => ?_)
  have hC := hC.eqK setk_setk
  refine lv_aload_n hx hb (dc tbX1_init_0_k 14 rfl) rfl (lv_at hl 0 rfl) ?_
  refine lv_iconst (v := 0) hx hb (dc tbX1_init_0_k 15 rfl) (by decide) ?_
  obtain ⟨M9, e10, hf⟩ := bnd_s hf
  refine c_put false hx hb hts inW1 tyX1 tyX1_ok nmX1 hown hK hC hinj hin (q' := (21, 1)) (setk_s) (by simp) (by simp) (Nat.lt_of_lt_of_le hak (Nat.le_add_right _ _)) rfl rfl 4 (by decide) ⟨rfl, rfl, rfl⟩ q_t1_113 rfl (fun h => by first | rfl | cases h) (ty := .int) (by decide +kernel) rfl rfl (Nat.le_of_ble_eq_true rfl) (M' := M9) (by rw [e10, wr_s]; rfl) (by rw [e10]; exact wr_o) (dc tbX1_init_0_k 16 rfl) (fun H locs hC => ?_)
  have hC := hC.eqK setk_setk
  refine lv_aload_n hx hb (dc tbX1_init_0_k 17 rfl) rfl (lv_at hl 0 rfl) ?_
  refine lv_iconst (v := 0) hx hb (dc tbX1_init_0_k 18 rfl) (by decide) ?_
  obtain ⟨M11, e12, hf⟩ := bnd_s hf
  refine c_put false hx hb hts inW1 tyX1 tyX1_ok nmX1 hown hK hC hinj hin (q' := (21, 1)) (setk_s) (by simp) (by simp) (Nat.lt_of_lt_of_le hak (Nat.le_add_right _ _)) rfl rfl 5 (by decide) ⟨rfl, rfl, rfl⟩ q_t1_114 rfl (fun h => by first | rfl | cases h) (ty := .int) (by decide +kernel) rfl rfl (Nat.le_of_ble_eq_true rfl) (M' := M11) (by rw [e12, wr_s]; rfl) (by rw [e12]; exact wr_o) (dc tbX1_init_0_k 19 rfl) (fun H locs hC => ?_)
  have hC := hC.eqK setk_setk
  refine lv_aload_n hx hb (dc tbX1_init_0_k 20 rfl) rfl (lv_at hl 0 rfl) ?_
  refine lv_bipush (v := 10) hx hb (dc tbX1_init_0_k 21 rfl) (by decide) ?_
  obtain ⟨M13, e14, hf⟩ := bnd_s hf
  refine c_newa (ty := .int) (n := 10) hx hb rfl q_t1_74 hts hC hinj ((congrArg ad (by omega : (k0 + 2) = k0 + 1 + 1)).trans (had 1 (by omega))) ((setk_o (by omega)).trans (hB.2.2.1)) (hK.2 0 _ rfl).2 rfl rfl ⟨by decide, by decide⟩ (Nat.le_of_ble_eq_true rfl) ⟨Nat.le_of_ble_eq_true rfl, Nat.le_of_ble_eq_true rfl⟩ e14 dX1_init_40 (fun H hC => ?_)
  refine c_put true hx hb hts inW1 tyX1 tyX1_ok nmX1 hown hK hC hinj hin (q' := (21, 2)) (setk_s) (by simp) (by simp) (Nat.lt_of_lt_of_le hak (Nat.le_add_right _ _)) rfl rfl 6 (by decide) ⟨rfl, rfl, rfl⟩ q_t1_115 rfl (fun h => by first | rfl | cases h) (ty := (.array (.int))) (by decide +kernel) rfl rfl (Nat.le_of_ble_eq_true rfl) (M' := M13) rfl (fun _ _ => ⟨rfl, rfl, rfl⟩) (dc tbX1_init_0_k 22 rfl) (fun H locs hC => ?_)
  have hC := hC.eqK setk_setk
  refine lv_aload_n hx hb (dc tbX1_init_0_k 23 rfl) rfl (lv_at hl 0 rfl) ?_
  refine lv_iconst (v := 0) hx hb (dc tbX1_init_0_k 24 rfl) (by decide) ?_
  obtain ⟨M15, e16, hf⟩ := bnd_s hf
  refine c_put false hx hb hts inW1 tyX1 tyX1_ok nmX1 hown hK hC hinj hin (q' := (21, 2)) (setk_s) (by simp) (by simp) (Nat.lt_of_lt_of_le hak (Nat.le_add_right _ _)) rfl rfl 7 (by decide) ⟨rfl, rfl, rfl⟩ q_t1_118 rfl (fun h => by first | rfl | cases h) (ty := .int) (by decide +kernel) rfl rfl (Nat.le_of_ble_eq_true rfl) (M' := M15) (by rw [e16, wr_s]; rfl) (by rw [e16]; exact wr_o) (dc tbX1_init_0_k 25 rfl) (fun H locs hC => ?_)
  have hC := hC.eqK setk_setk
  refine lv_aload_n hx hb (dc tbX1_init_0_k 26 rfl) rfl (lv_at hl 0 rfl) ?_
  refine lv_iconst (v := 0) hx hb (dc tbX1_init_0_k 27 rfl) (by decide) ?_
  obtain ⟨M17, e18, hf⟩ := bnd_s hf
  refine c_put false hx hb hts inW1 tyX1 tyX1_ok nmX1 hown hK hC hinj hin (q' := (21, 2)) (setk_s) (by simp) (by simp) (Nat.lt_of_lt_of_le hak (Nat.le_add_right _ _)) rfl rfl 8 (by decide) ⟨rfl, rfl, rfl⟩ q_t1_120 rfl (fun h => by first | rfl | cases h) (ty := .int) (by decide +kernel) rfl rfl (Nat.le_of_ble_eq_true rfl) (M' := M17) (by rw [e18, wr_s]; rfl) (by rw [e18]; exact wr_o) (dc tbX1_init_0_k 28 rfl) (fun H locs hC => ?_)
  have hC := hC.eqK setk_setk
  refine lv_aload_n hx hb (dc tbX1_init_0_k 29 rfl) rfl (lv_at hl 0 rfl) ?_
  refine lv_iconst (v := 0) hx hb (dc tbX1_init_0_k 30 rfl) (by decide) ?_
  obtain ⟨M19, e20, hf⟩ := bnd_s hf
  refine c_put false hx hb hts inW1 tyX1 tyX1_ok nmX1 hown hK hC hinj hin (q' := (21, 2)) (setk_s) (by simp) (by simp) (Nat.lt_of_lt_of_le hak (Nat.le_add_right _ _)) rfl rfl 9 (by decide) ⟨rfl, rfl, rfl⟩ q_t1_121 rfl (fun h => by first | rfl | cases h) (ty := .int) (by decide +kernel) rfl rfl (Nat.le_of_ble_eq_true rfl) (M' := M19) (by rw [e20, wr_s]; rfl) (by rw [e20]; exact wr_o) (dc tbX1_init_0_k 31 rfl) (fun H locs hC => ?_)
  have hC := hC.eqK setk_setk
  refine lv_aload_n hx hb (dc tbX1_init_0_k 32 rfl) rfl (lv_at hl 0 rfl) ?_
  refine lv_iconst (v := 0) hx hb (dc tbX1_init_0_k 33 rfl) (by decide) ?_
  obtain ⟨M21, e22, hf⟩ := bnd_s hf
  refine c_put false hx hb hts inW1 tyX1 tyX1_ok nmX1 hown hK hC hinj hin (q' := (21, 2)) (setk_s) (by simp) (by simp) (Nat.lt_of_lt_of_le hak (Nat.le_add_right _ _)) rfl rfl 10 (by decide) ⟨rfl, rfl, rfl⟩ q_t1_122 rfl (fun h => by first | rfl | cases h) (ty := .int) (by decide +kernel) rfl rfl (Nat.le_of_ble_eq_true rfl) (M' := M21) (by rw [e22, wr_s]; rfl) (by rw [e22]; exact wr_o) (dc tbX1_init_0_k 34 rfl) (fun H locs hC => ?_)
  have hC := hC.eqK setk_setk
  refine lv_aload_n hx hb (dc tbX1_init_0_k 35 rfl) rfl (lv_at hl 0 rfl) ?_
  refine lv_bipush (v := 8) hx hb (dc tbX1_init_0_k 36 rfl) (by decide) ?_
  obtain ⟨M23, e24, hf⟩ := bnd_s hf
  refine c_newa (ty := .int) (n := 8) hx hb rfl q_t1_74 hts hC hinj ((congrArg ad (by omega : (k0 + 3) = k0 + 1 + 2)).trans (had 2 (by omega))) ((setk_o (by omega)).trans (hB.2.2.2.1)) (hK.2 0 _ rfl).2 rfl rfl ⟨by decide, by decide⟩ (Nat.le_of_ble_eq_true rfl) ⟨Nat.le_of_ble_eq_true rfl, Nat.le_of_ble_eq_true rfl⟩ e24 dX1_init_68 (fun H hC => ?_)
  refine c_put true hx hb hts inW1 tyX1 tyX1_ok nmX1 hown hK hC hinj hin (q' := (21, 3)) (setk_s) (by simp) (by simp) (Nat.lt_of_lt_of_le hak (Nat.le_add_right _ _)) rfl rfl 11 (by decide) ⟨rfl, rfl, rfl⟩ q_t1_124 rfl (fun h => by first | rfl | cases h) (ty := (.array (.int))) (by decide +kernel) rfl rfl (Nat.le_of_ble_eq_true rfl) (M' := M23) rfl (fun _ _ => ⟨rfl, rfl, rfl⟩) (dc tbX1_init_0_k 37 rfl) (fun H locs hC => ?_)
  have hC := hC.eqK setk_setk
  refine lv_aload_n hx hb (dc tbX1_init_0_k 38 rfl) rfl (lv_at hl 0 rfl) ?_
  refine lv_bipush (v := 8) hx hb (dc tbX1_init_0_k 39 rfl) (by decide) ?_
  obtain ⟨M25, e26, hf⟩ := bnd_s hf
  refine c_newa (ty := .int) (n := 8) hx hb rfl q_t1_74 hts hC hinj ((congrArg ad (by omega : (k0 + 4) = k0 + 1 + 3)).trans (had 3 (by omega))) ((setk_o (by omega)).trans (hB.2.2.2.2.1)) (hK.2 0 _ rfl).2 rfl rfl ⟨by decide, by decide⟩ (Nat.le_of_ble_eq_true rfl) ⟨Nat.le_of_ble_eq_true rfl, Nat.le_of_ble_eq_true rfl⟩ e26 dX1_init_76 (fun H hC => ?_)
  refine c_put true hx hb hts inW1 tyX1 tyX1_ok nmX1 hown hK hC hinj hin (q' := (21, 4)) (setk_s) (by simp) (by simp) (Nat.lt_of_lt_of_le hak (Nat.le_add_right _ _)) rfl rfl 12 (by decide) ⟨rfl, rfl, rfl⟩ q_t1_125 rfl (fun h => by first | rfl | cases h) (ty := (.array (.int))) (by decide +kernel) rfl rfl (Nat.le_of_ble_eq_true rfl) (M' := M25) rfl (fun _ _ => ⟨rfl, rfl, rfl⟩) (dc tbX1_init_1_k 0 rfl) (fun H locs hC => ?_)
  have hC := hC.eqK setk_setk
  refine lv_aload_n hx hb (dc tbX1_init_1_k 1 rfl) rfl (lv_at hl 0 rfl) ?_
  refine lv_iconst (v := 0) hx hb (dc tbX1_init_1_k 2 rfl) (by decide) ?_
  obtain ⟨M27, e28, hf⟩ := bnd_s hf
  refine c_put false hx hb hts inW1 tyX1 tyX1_ok nmX1 hown hK hC hinj hin (q' := (21, 4)) (setk_s) (by simp) (by simp) (Nat.lt_of_lt_of_le hak (Nat.le_add_right _ _)) rfl rfl 13 (by decide) ⟨rfl, rfl, rfl⟩ q_t1_126 rfl (fun h => by first | rfl | cases h) (ty := .int) (by decide +kernel) rfl rfl (Nat.le_of_ble_eq_true rfl) (M' := M27) (by rw [e28, wr_s]; rfl) (by rw [e28]; exact wr_o) (dc tbX1_init_1_k 3 rfl) (fun H locs hC => ?_)
  have hC := hC.eqK setk_setk
  refine lv_aload_n hx hb (dc tbX1_init_1_k 4 rfl) rfl (lv_at hl 0 rfl) ?_
  refine lv_iconst (v := 0) hx hb (dc tbX1_init_1_k 5 rfl) (by decide) ?_
  obtain ⟨M29, e30, hf⟩ := bnd_s hf
  refine c_put false hx hb hts inW1 tyX1 tyX1_ok nmX1 hown hK hC hinj hin (q' := (21, 4)) (setk_s) (by simp) (by simp) (Nat.lt_of_lt_of_le hak (Nat.le_add_right _ _)) rfl rfl 14 (by decide) ⟨rfl, rfl, rfl⟩ q_t1_129 rfl (fun h => by first | rfl | cases h) (ty := .int) (by decide +kernel) rfl rfl (Nat.le_of_ble_eq_true rfl) (M' := M29) (by rw [e30, wr_s]; rfl) (by rw [e30]; exact wr_o) (dc tbX1_init_1_k 6 rfl) (fun H locs hC => ?_)
  have hC := hC.eqK setk_setk
  refine lv_aload_n hx hb (dc tbX1_init_1_k 7 rfl) rfl (lv_at hl 0 rfl) ?_
  refine lv_bipush (v := 8) hx hb (dc tbX1_init_1_k 8 rfl) (by decide) ?_
  obtain ⟨M31, e32, hf⟩ := bnd_s hf
  refine c_newa (ty := .int) (n := 8) hx hb rfl q_t1_74 hts hC hinj ((congrArg ad (by omega : (k0 + 5) = k0 + 1 + 4)).trans (had 4 (by omega))) ((setk_o (by omega)).trans (hB.2.2.2.2.2.1)) (hK.2 0 _ rfl).2 rfl rfl ⟨by decide, by decide⟩ (Nat.le_of_ble_eq_true rfl) ⟨Nat.le_of_ble_eq_true rfl, Nat.le_of_ble_eq_true rfl⟩ e32 dX1_init_94 (fun H hC => ?_)
  refine c_put true hx hb hts inW1 tyX1 tyX1_ok nmX1 hown hK hC hinj hin (q' := (21, 5)) (setk_s) (by simp) (by simp) (Nat.lt_of_lt_of_le hak (Nat.le_add_right _ _)) rfl rfl 15 (by decide) ⟨rfl, rfl, rfl⟩ q_t1_131 rfl (fun h => by first | rfl | cases h) (ty := (.array (.int))) (by decide +kernel) rfl rfl (Nat.le_of_ble_eq_true rfl) (M' := M31) rfl (fun _ _ => ⟨rfl, rfl, rfl⟩) (dc tbX1_init_1_k 9 rfl) (fun H locs hC => ?_)
  have hC := hC.eqK setk_setk
  refine lv_aload_n hx hb (dc tbX1_init_1_k 10 rfl) rfl (lv_at hl 0 rfl) ?_
  refine lv_bipush (v := 8) hx hb (dc tbX1_init_1_k 11 rfl) (by decide) ?_
  obtain ⟨M33, e34, hf⟩ := bnd_s hf
  refine c_newa (ty := .int) (n := 8) hx hb rfl q_t1_74 hts hC hinj ((congrArg ad (by omega : (k0 + 6) = k0 + 1 + 5)).trans (had 5 (by omega))) ((setk_o (by omega)).trans (hB.2.2.2.2.2.2.1)) (hK.2 0 _ rfl).2 rfl rfl ⟨by decide, by decide⟩ (Nat.le_of_ble_eq_true rfl) ⟨Nat.le_of_ble_eq_true rfl, Nat.le_of_ble_eq_true rfl⟩ e34 dX1_init_102 (fun H hC => ?_)
  refine c_put true hx hb hts inW1 tyX1 tyX1_ok nmX1 hown hK hC hinj hin (q' := (21, 6)) (setk_s) (by simp) (by simp) (Nat.lt_of_lt_of_le hak (Nat.le_add_right _ _)) rfl rfl 16 (by decide) ⟨rfl, rfl, rfl⟩ q_t1_133 rfl (fun h => by first | rfl | cases h) (ty := (.array (.int))) (by decide +kernel) rfl rfl (Nat.le_of_ble_eq_true rfl) (M' := M33) rfl (fun _ _ => ⟨rfl, rfl, rfl⟩) (dc tbX1_init_1_k 12 rfl) (fun H locs hC => ?_)
  have hC := hC.eqK setk_setk
  refine lv_aload_n hx hb (dc tbX1_init_1_k 13 rfl) rfl (lv_at hl 0 rfl) ?_
  refine lv_bipush (v := 8) hx hb (dc tbX1_init_1_k 14 rfl) (by decide) ?_
  obtain ⟨M35, e36, hf⟩ := bnd_s hf
  refine c_newa (ty := .int) (n := 8) hx hb rfl q_t1_74 hts hC hinj ((congrArg ad (by omega : (k0 + 7) = k0 + 1 + 6)).trans (had 6 (by omega))) ((setk_o (by omega)).trans (hB.2.2.2.2.2.2.2)) (hK.2 0 _ rfl).2 rfl rfl ⟨by decide, by decide⟩ (Nat.le_of_ble_eq_true rfl) ⟨Nat.le_of_ble_eq_true rfl, Nat.le_of_ble_eq_true rfl⟩ e36 dX1_init_110 (fun H hC => ?_)
  refine c_put true hx hb hts inW1 tyX1 tyX1_ok nmX1 hown hK hC hinj hin (q' := (21, 7)) (setk_s) (by simp) (by simp) (Nat.lt_of_lt_of_le hak (Nat.le_add_right _ _)) rfl rfl 17 (by decide) ⟨rfl, rfl, rfl⟩ q_t1_135 rfl (fun h => by first | rfl | cases h) (ty := (.array (.int))) (by decide +kernel) rfl rfl (Nat.le_of_ble_eq_true rfl) (M' := M35) rfl (fun _ _ => ⟨rfl, rfl, rfl⟩) (dc tbX1_init_1_k 15 rfl) (fun H locs hC => ?_)
  have hC := hC.eqK setk_setk
  refine lv_aload_n hx hb (dc tbX1_init_1_k 16 rfl) rfl (lv_at hl 0 rfl) ?_
  have hC := (hC.as_kind (q' := (1, 0)) setk_s (by simp) (by simp) rfl).eqK (setk_setk.trans (setk_id hB.1))
  have hkd : kPart (kdN KF ad (s.heap.size + 7)) k0 := (kPart_congr hB (fun j hj => kdN_in (ltB hak had (by omega) hj)))
  obtain ⟨M37, _, q38, hf⟩ := cal_s hf
  refine c_callV hx hb hml hown hts hK hsx hC hinj (tX1_clear l hkd q38 H.size) cv_X1_clear q_t1_81 rfl rfl ⟨Nat.le_of_ble_eq_true rfl, Nat.le_of_ble_eq_true rfl⟩ hkd.1 (by simp) rfl rfl hl.1 (Nat.le_of_ble_eq_true rfl) (dc tbX1_init_1_k 17 rfl) ⟨Nat.le_of_ble_eq_true rfl, Nat.le_of_ble_eq_true rfl⟩ (fun H locs hC => ?_)
  cases hf
  exact c_ret hx hb hr hlk hC (dc tbX1_init_1_k 18 rfl)
theorem ci_X1_init : Cond.initialized yX1_init.cls ∈ WA ∧ Cond.instanceMethod yX1_init ∈ WA ∧ Cond.code yX1_init cX1_init 1 none ∈ WA := ⟨q_t1_3, q_t1_78, q_t1_79⟩
def mX2_init (k0 : Nat) (M : Mem) : Option (Mem × Unit) := bnd (zr M (k0 + 1)) (fun M1 => bnd (zr M1 (k0 + 2)) (fun M3 => bnd (zr M3 (k0 + 3)) (fun M5 => bnd (zr M5 (k0 + 4)) (fun M7 => bnd (zr M7 (k0 + 5)) (fun M9 => bnd (zr M9 (k0 + 6)) (fun M11 => bnd (wr M11 k0 6 (0 : Int32)) (fun M13 => bnd (wr M13 k0 7 (0 : Int32)) (fun M15 => bnd (wr M15 k0 8 (0 : Int32)) (fun M17 => some (M17, ()))))))))))
set_option maxHeartbeats 4000000 in
set_option maxRecDepth 100000 in
theorem tX2_init (l : Launch) {G : GT} {KF : Nat → Nat × Nat} {ad : Nat → Nat} {N : Nat} {k0 : Nat} (hinj : ∀ i j, ad i = ad j → i = j) (hB : kPlaces KF k0) (had : ∀ j, j < 6 → ad (k0 + 1 + j) = N + j) (hak : ad k0 < N) {M MO : Mem} (hf : mX2_init k0 M = some (MO, ())) : Met l yX2_init (Cond.code yX2_init cX2_init 1 none :: WA) (rmO 0 6 54) (Pk G (setk KF k0 (22, 0)) ad N [.ref (ad k0)] M) (Qk G (setk KF k0 (22, 0)) KF ad N 6 MO) 6 54 (AS (setk KF k0 (22, 0)) ad N) := by
  refine c_body (own := RX2) (by decide) rfl rfl hinj ?_ (Nat.le_of_ble_eq_true rfl)
  intro p e s m args below meth c C hsz H ls hC hl
  subst hsz
  obtain ⟨hx, hb, hml, hr, hown, hts, hlk, hK, hsx, hex, hin, hinj⟩ := id C
  have hl : lv_has ls 1 [(0, .ref (ad k0))] := hl
  unfold mX2_init at hf
  refine lv_aload_n hx hb (dc tbX2_init_k 0 rfl) rfl (lv_at hl 0 rfl) ?_
  refine W.objInit hx hb hown (hts _ q_t1_199) (hts _ q_t1_35) (hts _ q_t1_36) rfl (by rw [hml]; exact hl.1) rfl (dc tbX2_init_k 1 rfl) (Nat.le_of_ble_eq_true rfl) (Nat.le_of_ble_eq_true rfl) ?_
  refine W.eq (g2 := F0 m 4 ls []) rfl ?_
  refine lv_aload_n hx hb (dc tbX2_init_k 2 rfl) rfl (lv_at hl 0 rfl) ?_
  refine lv_bipush (v := 9) hx hb (dc tbX2_init_k 3 rfl) (by decide) ?_
  obtain ⟨M1, e2, hf⟩ := bnd_s hf
  refine c_newa (ty := .int) (n := 9) hx hb rfl q_t1_74 hts hC hinj ((congrArg ad (by omega : (k0 + 1) = k0 + 1 + 0)).trans (had 0 (by omega))) ((setk_o (by omega)).trans (hB.2.1)) (hK.2 0 _ rfl).2 rfl rfl ⟨by decide, by decide⟩ (Nat.le_of_ble_eq_true rfl) ⟨Nat.le_of_ble_eq_true rfl, Nat.le_of_ble_eq_true rfl⟩ e2 dX2_init_7 (fun H hC => ?_)
  refine c_put true hx hb hts inW2 tyX2 tyX2_ok nmX2 hown hK hC hinj hin (q' := (22, 1)) (setk_s) (by simp) (by simp) (Nat.lt_of_lt_of_le hak (Nat.le_add_right _ _)) rfl rfl 0 (by decide) ⟨rfl, rfl, rfl⟩ q_t1_200 rfl (fun h => by first | rfl | cases h) (ty := (.array (.int))) (by decide +kernel) rfl rfl (Nat.le_of_ble_eq_true rfl) (M' := M1) rfl (fun _ _ => ⟨rfl, rfl, rfl⟩) (dc tbX2_init_k 4 rfl) (fun H locs hC => ?_)
  have hC := hC.eqK setk_setk
  refine lv_aload_n hx hb (dc tbX2_init_k 5 rfl) rfl (lv_at hl 0 rfl) ?_
  refine lv_bipush (v := 9) hx hb (dc tbX2_init_k 6 rfl) (by decide) ?_
  obtain ⟨M3, e4, hf⟩ := bnd_s hf
  refine c_newa (ty := .int) (n := 9) hx hb rfl q_t1_74 hts hC hinj ((congrArg ad (by omega : (k0 + 2) = k0 + 1 + 1)).trans (had 1 (by omega))) ((setk_o (by omega)).trans (hB.2.2.1)) (hK.2 0 _ rfl).2 rfl rfl ⟨by decide, by decide⟩ (Nat.le_of_ble_eq_true rfl) ⟨Nat.le_of_ble_eq_true rfl, Nat.le_of_ble_eq_true rfl⟩ e4 dX2_init_15 (fun H hC => ?_)
  refine c_put true hx hb hts inW2 tyX2 tyX2_ok nmX2 hown hK hC hinj hin (q' := (22, 2)) (setk_s) (by simp) (by simp) (Nat.lt_of_lt_of_le hak (Nat.le_add_right _ _)) rfl rfl 1 (by decide) ⟨rfl, rfl, rfl⟩ q_t1_202 rfl (fun h => by first | rfl | cases h) (ty := (.array (.int))) (by decide +kernel) rfl rfl (Nat.le_of_ble_eq_true rfl) (M' := M3) rfl (fun _ _ => ⟨rfl, rfl, rfl⟩) (dc tbX2_init_k 7 rfl) (fun H locs hC => ?_)
  have hC := hC.eqK setk_setk
  refine lv_aload_n hx hb (dc tbX2_init_k 8 rfl) rfl (lv_at hl 0 rfl) ?_
  refine lv_bipush (v := 9) hx hb (dc tbX2_init_k 9 rfl) (by decide) ?_
  obtain ⟨M5, e6, hf⟩ := bnd_s hf
  refine c_newa (ty := .int) (n := 9) hx hb rfl q_t1_74 hts hC hinj ((congrArg ad (by omega : (k0 + 3) = k0 + 1 + 2)).trans (had 2 (by omega))) ((setk_o (by omega)).trans (hB.2.2.2.1)) (hK.2 0 _ rfl).2 rfl rfl ⟨by decide, by decide⟩ (Nat.le_of_ble_eq_true rfl) ⟨Nat.le_of_ble_eq_true rfl, Nat.le_of_ble_eq_true rfl⟩ e6 dX2_init_23 (fun H hC => ?_)
  refine c_put true hx hb hts inW2 tyX2 tyX2_ok nmX2 hown hK hC hinj hin (q' := (22, 3)) (setk_s) (by simp) (by simp) (Nat.lt_of_lt_of_le hak (Nat.le_add_right _ _)) rfl rfl 2 (by decide) ⟨rfl, rfl, rfl⟩ q_t1_204 rfl (fun h => by first | rfl | cases h) (ty := (.array (.int))) (by decide +kernel) rfl rfl (Nat.le_of_ble_eq_true rfl) (M' := M5) rfl (fun _ _ => ⟨rfl, rfl, rfl⟩) (dc tbX2_init_k 10 rfl) (fun H locs hC => ?_)
  have hC := hC.eqK setk_setk
  refine lv_aload_n hx hb (dc tbX2_init_k 11 rfl) rfl (lv_at hl 0 rfl) ?_
  refine lv_bipush (v := 9) hx hb (dc tbX2_init_k 12 rfl) (by decide) ?_
  obtain ⟨M7, e8, hf⟩ := bnd_s hf
  refine c_newa (ty := .int) (n := 9) hx hb rfl q_t1_74 hts hC hinj ((congrArg ad (by omega : (k0 + 4) = k0 + 1 + 3)).trans (had 3 (by omega))) ((setk_o (by omega)).trans (hB.2.2.2.2.1)) (hK.2 0 _ rfl).2 rfl rfl ⟨by decide, by decide⟩ (Nat.le_of_ble_eq_true rfl) ⟨Nat.le_of_ble_eq_true rfl, Nat.le_of_ble_eq_true rfl⟩ e8 dX2_init_31 (fun H hC => ?_)
  refine c_put true hx hb hts inW2 tyX2 tyX2_ok nmX2 hown hK hC hinj hin (q' := (22, 4)) (setk_s) (by simp) (by simp) (Nat.lt_of_lt_of_le hak (Nat.le_add_right _ _)) rfl rfl 3 (by decide) ⟨rfl, rfl, rfl⟩ q_t1_205 rfl (fun h => by first | rfl | cases h) (ty := (.array (.int))) (by decide +kernel) rfl rfl (Nat.le_of_ble_eq_true rfl) (M' := M7) rfl (fun _ _ => ⟨rfl, rfl, rfl⟩) (dc tbX2_init_k 13 rfl) (fun H locs hC => ?_)
  have hC := hC.eqK setk_setk
  refine lv_aload_n hx hb (dc tbX2_init_k 14 rfl) rfl (lv_at hl 0 rfl) ?_
  refine lv_bipush (v := 9) hx hb (dc tbX2_init_k 15 rfl) (by decide) ?_
  obtain ⟨M9, e10, hf⟩ := bnd_s hf
  refine c_newa (ty := .int) (n := 9) hx hb rfl q_t1_74 hts hC hinj ((congrArg ad (by omega : (k0 + 5) = k0 + 1 + 4)).trans (had 4 (by omega))) ((setk_o (by omega)).trans (hB.2.2.2.2.2.1)) (hK.2 0 _ rfl).2 rfl rfl ⟨by decide, by decide⟩ (Nat.le_of_ble_eq_true rfl) ⟨Nat.le_of_ble_eq_true rfl, Nat.le_of_ble_eq_true rfl⟩ e10 dX2_init_39 (fun H hC => ?_)
  refine c_put true hx hb hts inW2 tyX2 tyX2_ok nmX2 hown hK hC hinj hin (q' := (22, 5)) (setk_s) (by simp) (by simp) (Nat.lt_of_lt_of_le hak (Nat.le_add_right _ _)) rfl rfl 4 (by decide) ⟨rfl, rfl, rfl⟩ q_t1_206 rfl (fun h => by first | rfl | cases h) (ty := (.array (.int))) (by decide +kernel) rfl rfl (Nat.le_of_ble_eq_true rfl) (M' := M9) rfl (fun _ _ => ⟨rfl, rfl, rfl⟩) (dc tbX2_init_k 16 rfl) (fun H locs hC => ?_)
  have hC := hC.eqK setk_setk
  refine lv_aload_n hx hb (dc tbX2_init_k 17 rfl) rfl (lv_at hl 0 rfl) ?_
  refine lv_bipush (v := 9) hx hb (dc tbX2_init_k 18 rfl) (by decide) ?_
  obtain ⟨M11, e12, hf⟩ := bnd_s hf
  refine c_newa (ty := .int) (n := 9) hx hb rfl q_t1_74 hts hC hinj ((congrArg ad (by omega : (k0 + 6) = k0 + 1 + 5)).trans (had 5 (by omega))) ((setk_o (by omega)).trans (hB.2.2.2.2.2.2)) (hK.2 0 _ rfl).2 rfl rfl ⟨by decide, by decide⟩ (Nat.le_of_ble_eq_true rfl) ⟨Nat.le_of_ble_eq_true rfl, Nat.le_of_ble_eq_true rfl⟩ e12 dX2_init_47 (fun H hC => ?_)
  refine c_put true hx hb hts inW2 tyX2 tyX2_ok nmX2 hown hK hC hinj hin (q' := (22, 6)) (setk_s) (by simp) (by simp) (Nat.lt_of_lt_of_le hak (Nat.le_add_right _ _)) rfl rfl 5 (by decide) ⟨rfl, rfl, rfl⟩ q_t1_207 rfl (fun h => by first | rfl | cases h) (ty := (.array (.int))) (by decide +kernel) rfl rfl (Nat.le_of_ble_eq_true rfl) (M' := M11) rfl (fun _ _ => ⟨rfl, rfl, rfl⟩) (dc tbX2_init_k 19 rfl) (fun H locs hC => ?_)
  have hC := hC.eqK setk_setk
  refine lv_aload_n hx hb (dc tbX2_init_k 20 rfl) rfl (lv_at hl 0 rfl) ?_
  refine lv_iconst (v := 0) hx hb (dc tbX2_init_k 21 rfl) (by decide) ?_
  obtain ⟨M13, e14, hf⟩ := bnd_s hf
  refine c_put false hx hb hts inW2 tyX2 tyX2_ok nmX2 hown hK hC hinj hin (q' := (22, 6)) (setk_s) (by simp) (by simp) (Nat.lt_of_lt_of_le hak (Nat.le_add_right _ _)) rfl rfl 6 (by decide) ⟨rfl, rfl, rfl⟩ q_t1_208 rfl (fun h => by first | rfl | cases h) (ty := .int) (by decide +kernel) rfl rfl (Nat.le_of_ble_eq_true rfl) (M' := M13) (by rw [e14, wr_s]; rfl) (by rw [e14]; exact wr_o) (dc tbX2_init_k 22 rfl) (fun H locs hC => ?_)
  have hC := hC.eqK setk_setk
  refine lv_aload_n hx hb (dc tbX2_init_k 23 rfl) rfl (lv_at hl 0 rfl) ?_
  refine lv_iconst (v := 0) hx hb (dc tbX2_init_k 24 rfl) (by decide) ?_
  obtain ⟨M15, e16, hf⟩ := bnd_s hf
  refine c_put false hx hb hts inW2 tyX2 tyX2_ok nmX2 hown hK hC hinj hin (q' := (22, 6)) (setk_s) (by simp) (by simp) (Nat.lt_of_lt_of_le hak (Nat.le_add_right _ _)) rfl rfl 7 (by decide) ⟨rfl, rfl, rfl⟩ q_t1_209 rfl (fun h => by first | rfl | cases h) (ty := .int) (by decide +kernel) rfl rfl (Nat.le_of_ble_eq_true rfl) (M' := M15) (by rw [e16, wr_s]; rfl) (by rw [e16]; exact wr_o) (dc tbX2_init_k 25 rfl) (fun H locs hC => ?_)
  have hC := hC.eqK setk_setk
  refine lv_aload_n hx hb (dc tbX2_init_k 26 rfl) rfl (lv_at hl 0 rfl) ?_
  refine lv_iconst (v := 0) hx hb (dc tbX2_init_k 27 rfl) (by decide) ?_
  obtain ⟨M17, e18, hf⟩ := bnd_s hf
  refine c_put false hx hb hts inW2 tyX2 tyX2_ok nmX2 hown hK hC hinj hin (q' := (22, 6)) (setk_s) (by simp) (by simp) (Nat.lt_of_lt_of_le hak (Nat.le_add_right _ _)) rfl rfl 8 (by decide) ⟨rfl, rfl, rfl⟩ q_t1_210 rfl (fun h => by first | rfl | cases h) (ty := .int) (by decide +kernel) rfl rfl (Nat.le_of_ble_eq_true rfl) (M' := M17) (by rw [e18, wr_s]; rfl) (by rw [e18]; exact wr_o) (dc tbX2_init_k 28 rfl) (fun H locs hC => ?_)
  have hC := hC.eqK setk_setk
  have hC := (hC.as_kind (q' := (2, 0)) setk_s (by simp) (by simp) rfl).eqK (setk_setk.trans (setk_id hB.1))
  cases hf
  exact c_ret hx hb hr hlk hC (dc tbX2_init_k 29 rfl)
theorem ci_X2_init : Cond.initialized yX2_init.cls ∈ WA ∧ Cond.instanceMethod yX2_init ∈ WA ∧ Cond.code yX2_init cX2_init 1 none ∈ WA := ⟨q_t1_5, q_t1_197, q_t1_198⟩
def mX0_init (k0 : Nat) (M : Mem) : Option (Mem × Unit) := bnd (zr M (k0 + 1)) (fun M1 => bnd (wr M1 k0 1 (0 : Int32)) (fun M3 => bnd (wr M3 k0 2 (0 : Int32)) (fun M5 => bnd (zr M5 (k0 + 2)) (fun M7 => cal (mX1_init (k0 + 2) M7) (fun M9 _ => bnd (zr M9 (k0 + 10)) (fun M11 => cal (mX1_init (k0 + 10) M11) (fun M13 _ => bnd (zr M13 (k0 + 18)) (fun M15 => cal (mX1_init (k0 + 18) M15) (fun M17 _ => bnd (zr M17 (k0 + 26)) (fun M19 => cal (mX1_init (k0 + 26) M19) (fun M21 _ => bnd (zr M21 (k0 + 34)) (fun M23 => cal (mX1_init (k0 + 34) M23) (fun M25 _ => bnd (zr M25 (k0 + 42)) (fun M27 => cal (mX1_init (k0 + 42) M27) (fun M29 _ => bnd (zr M29 (k0 + 50)) (fun M31 => cal (mX1_init (k0 + 50) M31) (fun M33 _ => bnd (zr M33 (k0 + 58)) (fun M35 => cal (mX1_init (k0 + 58) M35) (fun M37 _ => bnd (zr M37 (k0 + 66)) (fun M39 => cal (mX1_init (k0 + 66) M39) (fun M41 _ => bnd (zr M41 (k0 + 74)) (fun M43 => cal (mX1_init (k0 + 74) M43) (fun M45 _ => some (M45, ()))))))))))))))))))))))))
set_option maxHeartbeats 4000000 in
set_option maxRecDepth 100000 in
theorem tX0_init (l : Launch) {G : GT} {KF : Nat → Nat × Nat} {ad : Nat → Nat} {N : Nat} {k0 : Nat} (hinj : ∀ i j, ad i = ad j → i = j) (hB : kHist KF k0) (had : ∀ j, j < 81 → ad (k0 + 1 + j) = N + j) (hak : ad k0 < N) {M MO : Mem} (hf : mX0_init k0 M = some (MO, ())) : Met l yX0_init (Cond.code yX0_init cX0_init 2 none :: WA) (rmO 3 81 780) (Pk G (setk KF k0 (24, 0)) ad N [.ref (ad k0)] M) (Qk G (setk KF k0 (24, 0)) KF ad N 81 MO) 81 780 (AS (setk KF k0 (24, 0)) ad N) := by
  refine c_body (own := RX0) (by decide) rfl rfl hinj ?_ (Nat.le_of_ble_eq_true rfl)
  intro p e s m args below meth c C hsz H ls hC hl
  subst hsz
  obtain ⟨hx, hb, hml, hr, hown, hts, hlk, hK, hsx, hex, hin, hinj⟩ := id C
  have hl : lv_has ls 2 [(0, .ref (ad k0))] := hl
  unfold mX0_init at hf
  refine lv_aload_n hx hb (dc tbX0_init_k 0 rfl) rfl (lv_at hl 0 rfl) ?_
  refine W.objInit hx hb hown (hts _ q_t1_179) (hts _ q_t1_35) (hts _ q_t1_36) rfl (by rw [hml]; exact hl.1) rfl (dc tbX0_init_k 1 rfl) (Nat.le_of_ble_eq_true rfl) (Nat.le_of_ble_eq_true rfl) ?_
  refine W.eq (g2 := F0 m 4 ls []) rfl ?_
  refine lv_aload_n hx hb (dc tbX0_init_k 2 rfl) rfl (lv_at hl 0 rfl) ?_
  refine lv_bipush (v := 10) hx hb (dc tbX0_init_k 3 rfl) (by decide) ?_
  have hC := hC.absent (q := (28, 0)) ((congrArg ad (by omega : (k0 + 1) = k0 + 1 + 0)).trans (had 0 (by omega))) ((setk_o (by omega)).trans (hB.2.1)) (by simp) (by simp)
  obtain ⟨M1, e2, hf⟩ := bnd_s hf
  refine c_newq (n := 0) hx hb hown q_t1_180 hts hK hex.1 hC hinj ((congrArg ad (by omega : (k0 + 1) = k0 + 1 + 0)).trans (had 0 (by omega))) (setk_s) ⟨by decide, by decide⟩ ⟨Nat.le_of_ble_eq_true rfl, Nat.le_of_ble_eq_true rfl⟩ e2 (dc tbX0_init_k 4 rfl) (fun H hC => ?_)
  refine c_put true hx hb hts inW0 tyX0 tyX0_ok nmX0 hown hK hC hinj hin (q' := (24, 1)) ((setk_o (by omega)).trans (setk_s)) (by simp) (by simp) (Nat.lt_of_lt_of_le hak (Nat.le_add_right _ _)) rfl rfl 0 (by decide) ⟨rfl, rfl, rfl⟩ q_t1_183 rfl (fun h => by first | rfl | cases h) (ty := (.array (.object "SheetFolder$Part"))) (by decide +kernel) rfl rfl (Nat.le_of_ble_eq_true rfl) (M' := M1) rfl (fun _ _ => ⟨rfl, rfl, rfl⟩) (dc tbX0_init_k 5 rfl) (fun H locs hC => ?_)
  have hC := hC.eqK (setk3 (by omega))
  refine lv_aload_n hx hb (dc tbX0_init_k 6 rfl) rfl (lv_at hl 0 rfl) ?_
  refine lv_iconst (v := 0) hx hb (dc tbX0_init_k 7 rfl) (by decide) ?_
  obtain ⟨M3, e4, hf⟩ := bnd_s hf
  refine c_put false hx hb hts inW0 tyX0 tyX0_ok nmX0 hown hK hC hinj hin (q' := (24, 1)) ((setk_o (by omega)).trans (setk_s)) (by simp) (by simp) (Nat.lt_of_lt_of_le hak (Nat.le_add_right _ _)) rfl rfl 1 (by decide) ⟨rfl, rfl, rfl⟩ q_t1_184 rfl (fun h => by first | rfl | cases h) (ty := .int) (by decide +kernel) rfl rfl (Nat.le_of_ble_eq_true rfl) (M' := M3) (by rw [e4, wr_s]; rfl) (by rw [e4]; exact wr_o) (dc tbX0_init_k 8 rfl) (fun H locs hC => ?_)
  have hC := hC.eqK (setk3 (by omega))
  refine lv_aload_n hx hb (dc tbX0_init_k 9 rfl) rfl (lv_at hl 0 rfl) ?_
  refine lv_iconst (v := 0) hx hb (dc tbX0_init_k 10 rfl) (by decide) ?_
  obtain ⟨M5, e6, hf⟩ := bnd_s hf
  refine c_put false hx hb hts inW0 tyX0 tyX0_ok nmX0 hown hK hC hinj hin (q' := (24, 1)) ((setk_o (by omega)).trans (setk_s)) (by simp) (by simp) (Nat.lt_of_lt_of_le hak (Nat.le_add_right _ _)) rfl rfl 2 (by decide) ⟨rfl, rfl, rfl⟩ q_t1_185 rfl (fun h => by first | rfl | cases h) (ty := .int) (by decide +kernel) rfl rfl (Nat.le_of_ble_eq_true rfl) (M' := M5) (by rw [e6, wr_s]; rfl) (by rw [e6]; exact wr_o) (dc tbX0_init_k 11 rfl) (fun H locs hC => ?_)
  have hC := hC.eqK (setk3 (by omega))
  refine lv_iconst (v := 0) hx hb (dc tbX0_init_k 12 rfl) (by decide) ?_
  refine lv_istore_n (lv' := [(1, .int (0 : Int32)), (0, .ref (ad k0))]) hx hb (dc tbX0_init_k 13 rfl) rfl hl (by decide) rfl (fun ls hl => ?_)
  refine lv_iload_n hx hb (dc tbX0_init_k 14 rfl) rfl (lv_at hl 0 rfl) ?_
  refine lv_bipush (v := 10) hx hb (dc tbX0_init_k 15 rfl) (by decide) ?_
  refine lv_icmp_ge (tgt := 50) hx hb (dc tbX0_init_k 16 rfl) rfl (fun c => absurd c (by decide)) (fun _ => ?_)
  refine lv_aload_n hx hb (dc tbX0_init_k 17 rfl) rfl (lv_at hl 1 rfl) ?_
  refine g_get hx hb hts inW0 hown hK hC.inv ((kdN_in (Nat.lt_of_lt_of_le hak (Nat.le_add_right _ _))).trans ((setk_o (by omega)).trans (setk_s))) (by simp) rfl rfl 0 (by decide) ⟨rfl, rfl, rfl⟩ q_t1_183 rfl (dc tbX0_init_k 18 rfl) ?_
  refine lv_iload_n hx hb (dc tbX0_init_k 19 rfl) rfl (lv_at hl 0 rfl) ?_
  obtain ⟨M7, e8, hf⟩ := bnd_s hf
  refine c_new hx hb hts inW1 tyX1 tyX1_ok hown q_t1_180 q_t1_76 q_t1_3 hK hC hinj ((congrArg ad (by omega : (k0 + 2) = k0 + 1 + 1)).trans (had 1 (by omega))) ((setk_o (by omega)).trans ((setk_o (by omega)).trans ((show kPart KF (k0 + 2) from hB.2.2 0 (by omega)).1))) (q := (21, 0)) (by simp) (by simp) rfl (fs := [.int 0, .null, .int 0, .int 0, .int 0, .int 0, .null, .int 0, .int 0, .int 0, .int 0, .null, .null, .int 0, .int 0, .null, .null, .null]) rfl (by decide +kernel) ⟨Nat.le_of_ble_eq_true rfl, Nat.le_of_ble_eq_true rfl⟩ e8 (dc tbX0_init_k 20 rfl) (fun H hC => ?_)
  refine lv_dup hx hb (dc tbX0_init_k 21 rfl) rfl ?_
  obtain ⟨M9, _, q10, hf⟩ := cal_s hf
  refine c_callI hx hb hml hown hts hK hsx hex hC (nzE_set (by rw [(setk_o (by omega)).trans ((setk_o (by omega)).trans ((show kPart KF (k0 + 2) from hB.2.2 0 (by omega)).1))]; simp) (by simp)) (As := []) (tX1_init l hinj (kPart_congr (kPart_congr (show kPart KF (k0 + 2) from hB.2.2 0 (by omega)) (fun j hj => setk_o (by omega))) (fun j hj => setk_o (by omega))) (fun j hj => by have h8 := hC.2.2.1; have h9 := had (2 + j) (by omega); rw [show (k0 + 2) + 1 + j = k0 + 1 + (2 + j) by omega]; omega) (by have := hC.2.2.1; have := ((congrArg ad (by omega : (k0 + 2) = k0 + 1 + 1)).trans (had 1 (by omega))); omega) q10) ci_X1_init q_t1_182 ⟨rfl, by decide +kernel⟩ rfl rfl rfl ⟨Nat.le_of_ble_eq_true rfl, Nat.le_of_ble_eq_true rfl⟩ hl.1 rfl (Nat.le_of_ble_eq_true rfl) (dc tbX0_init_k 22 rfl) ⟨Nat.le_of_ble_eq_true rfl, Nat.le_of_ble_eq_true rfl⟩ (fun H locs hC => ?_)
  refine c_aast (i := 0) hx hb hK hC hinj (setk_s) (by have := ((congrArg ad (by omega : (k0 + 1) = k0 + 1 + 0)).trans (had 0 (by omega))); omega) ((setk_o (by omega)).trans ((setk_o (by omega)).trans ((show kPart KF (k0 + 2) from hB.2.2 0 (by omega)).1))) (by have := ((congrArg ad (by omega : (k0 + 2) = k0 + 1 + 1)).trans (had 1 (by omega))); omega) (by omega) (by decide) ⟨by decide, by decide⟩ (dc tbX0_init_k 23 rfl) (fun H locs hC => ?_)
  have hC := hC.eqK setk_setk
  refine lv_iinc (v := (1 : Int32)) (lv' := [(1, .int (1 : Int32)), (0, .ref (ad k0))]) hx hb (dc tbX0_init_k 24 rfl) hl (k := 0) rfl (by decide) (by decide) rfl (fun ls hl => ?_)
  refine lv_goto (tgt := 25) hx hb (dc tbX0_init_k 25 rfl) rfl ?_
  refine lv_iload_n hx hb (dc tbX0_init_k 14 rfl) rfl (lv_at hl 0 rfl) ?_
  refine lv_bipush (v := 10) hx hb (dc tbX0_init_k 15 rfl) (by decide) ?_
  refine lv_icmp_ge (tgt := 50) hx hb (dc tbX0_init_k 16 rfl) rfl (fun c => absurd c (by decide)) (fun _ => ?_)
  refine lv_aload_n hx hb (dc tbX0_init_k 17 rfl) rfl (lv_at hl 1 rfl) ?_
  refine g_get hx hb hts inW0 hown hK hC.inv ((kdN_in (Nat.lt_of_lt_of_le hak (Nat.le_add_right _ _))).trans ((setk_o (by omega)).trans (setk_s))) (by simp) rfl rfl 0 (by decide) ⟨rfl, rfl, rfl⟩ q_t1_183 rfl (dc tbX0_init_k 18 rfl) ?_
  refine lv_iload_n hx hb (dc tbX0_init_k 19 rfl) rfl (lv_at hl 0 rfl) ?_
  obtain ⟨M11, e12, hf⟩ := bnd_s hf
  refine c_new hx hb hts inW1 tyX1 tyX1_ok hown q_t1_180 q_t1_76 q_t1_3 hK hC hinj ((congrArg ad (by omega : (k0 + 10) = k0 + 1 + 9)).trans (had 9 (by omega))) ((setk_o (by omega)).trans ((setk_o (by omega)).trans ((show kPart KF (k0 + 10) from hB.2.2 1 (by omega)).1))) (q := (21, 0)) (by simp) (by simp) rfl (fs := [.int 0, .null, .int 0, .int 0, .int 0, .int 0, .null, .int 0, .int 0, .int 0, .int 0, .null, .null, .int 0, .int 0, .null, .null, .null]) rfl (by decide +kernel) ⟨Nat.le_of_ble_eq_true rfl, Nat.le_of_ble_eq_true rfl⟩ e12 (dc tbX0_init_k 20 rfl) (fun H hC => ?_)
  refine lv_dup hx hb (dc tbX0_init_k 21 rfl) rfl ?_
  obtain ⟨M13, _, q14, hf⟩ := cal_s hf
  refine c_callI hx hb hml hown hts hK hsx hex hC (nzE_set (by rw [(setk_o (by omega)).trans ((setk_o (by omega)).trans ((show kPart KF (k0 + 10) from hB.2.2 1 (by omega)).1))]; simp) (by simp)) (As := []) (tX1_init l hinj (kPart_congr (kPart_congr (show kPart KF (k0 + 10) from hB.2.2 1 (by omega)) (fun j hj => setk_o (by omega))) (fun j hj => setk_o (by omega))) (fun j hj => by have h8 := hC.2.2.1; have h9 := had (10 + j) (by omega); rw [show (k0 + 10) + 1 + j = k0 + 1 + (10 + j) by omega]; omega) (by have := hC.2.2.1; have := ((congrArg ad (by omega : (k0 + 10) = k0 + 1 + 9)).trans (had 9 (by omega))); omega) q14) ci_X1_init q_t1_182 ⟨rfl, by decide +kernel⟩ rfl rfl rfl ⟨Nat.le_of_ble_eq_true rfl, Nat.le_of_ble_eq_true rfl⟩ hl.1 rfl (Nat.le_of_ble_eq_true rfl) (dc tbX0_init_k 22 rfl) ⟨Nat.le_of_ble_eq_true rfl, Nat.le_of_ble_eq_true rfl⟩ (fun H locs hC => ?_)
  refine c_aast (i := 1) hx hb hK hC hinj (setk_s) (by have := ((congrArg ad (by omega : (k0 + 1) = k0 + 1 + 0)).trans (had 0 (by omega))); omega) ((setk_o (by omega)).trans ((setk_o (by omega)).trans ((show kPart KF (k0 + 10) from hB.2.2 1 (by omega)).1))) (by have := ((congrArg ad (by omega : (k0 + 10) = k0 + 1 + 9)).trans (had 9 (by omega))); omega) (by omega) (by decide) ⟨by decide, by decide⟩ (dc tbX0_init_k 23 rfl) (fun H locs hC => ?_)
  have hC := hC.eqK setk_setk
  refine lv_iinc (v := (2 : Int32)) (lv' := [(1, .int (2 : Int32)), (0, .ref (ad k0))]) hx hb (dc tbX0_init_k 24 rfl) hl (k := 0) rfl (by decide) (by decide) rfl (fun ls hl => ?_)
  refine lv_goto (tgt := 25) hx hb (dc tbX0_init_k 25 rfl) rfl ?_
  refine lv_iload_n hx hb (dc tbX0_init_k 14 rfl) rfl (lv_at hl 0 rfl) ?_
  refine lv_bipush (v := 10) hx hb (dc tbX0_init_k 15 rfl) (by decide) ?_
  refine lv_icmp_ge (tgt := 50) hx hb (dc tbX0_init_k 16 rfl) rfl (fun c => absurd c (by decide)) (fun _ => ?_)
  refine lv_aload_n hx hb (dc tbX0_init_k 17 rfl) rfl (lv_at hl 1 rfl) ?_
  refine g_get hx hb hts inW0 hown hK hC.inv ((kdN_in (Nat.lt_of_lt_of_le hak (Nat.le_add_right _ _))).trans ((setk_o (by omega)).trans (setk_s))) (by simp) rfl rfl 0 (by decide) ⟨rfl, rfl, rfl⟩ q_t1_183 rfl (dc tbX0_init_k 18 rfl) ?_
  refine lv_iload_n hx hb (dc tbX0_init_k 19 rfl) rfl (lv_at hl 0 rfl) ?_
  obtain ⟨M15, e16, hf⟩ := bnd_s hf
  refine c_new hx hb hts inW1 tyX1 tyX1_ok hown q_t1_180 q_t1_76 q_t1_3 hK hC hinj ((congrArg ad (by omega : (k0 + 18) = k0 + 1 + 17)).trans (had 17 (by omega))) ((setk_o (by omega)).trans ((setk_o (by omega)).trans ((show kPart KF (k0 + 18) from hB.2.2 2 (by omega)).1))) (q := (21, 0)) (by simp) (by simp) rfl (fs := [.int 0, .null, .int 0, .int 0, .int 0, .int 0, .null, .int 0, .int 0, .int 0, .int 0, .null, .null, .int 0, .int 0, .null, .null, .null]) rfl (by decide +kernel) ⟨Nat.le_of_ble_eq_true rfl, Nat.le_of_ble_eq_true rfl⟩ e16 (dc tbX0_init_k 20 rfl) (fun H hC => ?_)
  refine lv_dup hx hb (dc tbX0_init_k 21 rfl) rfl ?_
  obtain ⟨M17, _, q18, hf⟩ := cal_s hf
  refine c_callI hx hb hml hown hts hK hsx hex hC (nzE_set (by rw [(setk_o (by omega)).trans ((setk_o (by omega)).trans ((show kPart KF (k0 + 18) from hB.2.2 2 (by omega)).1))]; simp) (by simp)) (As := []) (tX1_init l hinj (kPart_congr (kPart_congr (show kPart KF (k0 + 18) from hB.2.2 2 (by omega)) (fun j hj => setk_o (by omega))) (fun j hj => setk_o (by omega))) (fun j hj => by have h8 := hC.2.2.1; have h9 := had (18 + j) (by omega); rw [show (k0 + 18) + 1 + j = k0 + 1 + (18 + j) by omega]; omega) (by have := hC.2.2.1; have := ((congrArg ad (by omega : (k0 + 18) = k0 + 1 + 17)).trans (had 17 (by omega))); omega) q18) ci_X1_init q_t1_182 ⟨rfl, by decide +kernel⟩ rfl rfl rfl ⟨Nat.le_of_ble_eq_true rfl, Nat.le_of_ble_eq_true rfl⟩ hl.1 rfl (Nat.le_of_ble_eq_true rfl) (dc tbX0_init_k 22 rfl) ⟨Nat.le_of_ble_eq_true rfl, Nat.le_of_ble_eq_true rfl⟩ (fun H locs hC => ?_)
  refine c_aast (i := 2) hx hb hK hC hinj (setk_s) (by have := ((congrArg ad (by omega : (k0 + 1) = k0 + 1 + 0)).trans (had 0 (by omega))); omega) ((setk_o (by omega)).trans ((setk_o (by omega)).trans ((show kPart KF (k0 + 18) from hB.2.2 2 (by omega)).1))) (by have := ((congrArg ad (by omega : (k0 + 18) = k0 + 1 + 17)).trans (had 17 (by omega))); omega) (by omega) (by decide) ⟨by decide, by decide⟩ (dc tbX0_init_k 23 rfl) (fun H locs hC => ?_)
  have hC := hC.eqK setk_setk
  refine lv_iinc (v := (3 : Int32)) (lv' := [(1, .int (3 : Int32)), (0, .ref (ad k0))]) hx hb (dc tbX0_init_k 24 rfl) hl (k := 0) rfl (by decide) (by decide) rfl (fun ls hl => ?_)
  refine lv_goto (tgt := 25) hx hb (dc tbX0_init_k 25 rfl) rfl ?_
  refine lv_iload_n hx hb (dc tbX0_init_k 14 rfl) rfl (lv_at hl 0 rfl) ?_
  refine lv_bipush (v := 10) hx hb (dc tbX0_init_k 15 rfl) (by decide) ?_
  refine lv_icmp_ge (tgt := 50) hx hb (dc tbX0_init_k 16 rfl) rfl (fun c => absurd c (by decide)) (fun _ => ?_)
  refine lv_aload_n hx hb (dc tbX0_init_k 17 rfl) rfl (lv_at hl 1 rfl) ?_
  refine g_get hx hb hts inW0 hown hK hC.inv ((kdN_in (Nat.lt_of_lt_of_le hak (Nat.le_add_right _ _))).trans ((setk_o (by omega)).trans (setk_s))) (by simp) rfl rfl 0 (by decide) ⟨rfl, rfl, rfl⟩ q_t1_183 rfl (dc tbX0_init_k 18 rfl) ?_
  refine lv_iload_n hx hb (dc tbX0_init_k 19 rfl) rfl (lv_at hl 0 rfl) ?_
  obtain ⟨M19, e20, hf⟩ := bnd_s hf
  refine c_new hx hb hts inW1 tyX1 tyX1_ok hown q_t1_180 q_t1_76 q_t1_3 hK hC hinj ((congrArg ad (by omega : (k0 + 26) = k0 + 1 + 25)).trans (had 25 (by omega))) ((setk_o (by omega)).trans ((setk_o (by omega)).trans ((show kPart KF (k0 + 26) from hB.2.2 3 (by omega)).1))) (q := (21, 0)) (by simp) (by simp) rfl (fs := [.int 0, .null, .int 0, .int 0, .int 0, .int 0, .null, .int 0, .int 0, .int 0, .int 0, .null, .null, .int 0, .int 0, .null, .null, .null]) rfl (by decide +kernel) ⟨Nat.le_of_ble_eq_true rfl, Nat.le_of_ble_eq_true rfl⟩ e20 (dc tbX0_init_k 20 rfl) (fun H hC => ?_)
  refine lv_dup hx hb (dc tbX0_init_k 21 rfl) rfl ?_
  obtain ⟨M21, _, q22, hf⟩ := cal_s hf
  refine c_callI hx hb hml hown hts hK hsx hex hC (nzE_set (by rw [(setk_o (by omega)).trans ((setk_o (by omega)).trans ((show kPart KF (k0 + 26) from hB.2.2 3 (by omega)).1))]; simp) (by simp)) (As := []) (tX1_init l hinj (kPart_congr (kPart_congr (show kPart KF (k0 + 26) from hB.2.2 3 (by omega)) (fun j hj => setk_o (by omega))) (fun j hj => setk_o (by omega))) (fun j hj => by have h8 := hC.2.2.1; have h9 := had (26 + j) (by omega); rw [show (k0 + 26) + 1 + j = k0 + 1 + (26 + j) by omega]; omega) (by have := hC.2.2.1; have := ((congrArg ad (by omega : (k0 + 26) = k0 + 1 + 25)).trans (had 25 (by omega))); omega) q22) ci_X1_init q_t1_182 ⟨rfl, by decide +kernel⟩ rfl rfl rfl ⟨Nat.le_of_ble_eq_true rfl, Nat.le_of_ble_eq_true rfl⟩ hl.1 rfl (Nat.le_of_ble_eq_true rfl) (dc tbX0_init_k 22 rfl) ⟨Nat.le_of_ble_eq_true rfl, Nat.le_of_ble_eq_true rfl⟩ (fun H locs hC => ?_)
  refine c_aast (i := 3) hx hb hK hC hinj (setk_s) (by have := ((congrArg ad (by omega : (k0 + 1) = k0 + 1 + 0)).trans (had 0 (by omega))); omega) ((setk_o (by omega)).trans ((setk_o (by omega)).trans ((show kPart KF (k0 + 26) from hB.2.2 3 (by omega)).1))) (by have := ((congrArg ad (by omega : (k0 + 26) = k0 + 1 + 25)).trans (had 25 (by omega))); omega) (by omega) (by decide) ⟨by decide, by decide⟩ (dc tbX0_init_k 23 rfl) (fun H locs hC => ?_)
  have hC := hC.eqK setk_setk
  refine lv_iinc (v := (4 : Int32)) (lv' := [(1, .int (4 : Int32)), (0, .ref (ad k0))]) hx hb (dc tbX0_init_k 24 rfl) hl (k := 0) rfl (by decide) (by decide) rfl (fun ls hl => ?_)
  refine lv_goto (tgt := 25) hx hb (dc tbX0_init_k 25 rfl) rfl ?_
  refine lv_iload_n hx hb (dc tbX0_init_k 14 rfl) rfl (lv_at hl 0 rfl) ?_
  refine lv_bipush (v := 10) hx hb (dc tbX0_init_k 15 rfl) (by decide) ?_
  refine lv_icmp_ge (tgt := 50) hx hb (dc tbX0_init_k 16 rfl) rfl (fun c => absurd c (by decide)) (fun _ => ?_)
  refine lv_aload_n hx hb (dc tbX0_init_k 17 rfl) rfl (lv_at hl 1 rfl) ?_
  refine g_get hx hb hts inW0 hown hK hC.inv ((kdN_in (Nat.lt_of_lt_of_le hak (Nat.le_add_right _ _))).trans ((setk_o (by omega)).trans (setk_s))) (by simp) rfl rfl 0 (by decide) ⟨rfl, rfl, rfl⟩ q_t1_183 rfl (dc tbX0_init_k 18 rfl) ?_
  refine lv_iload_n hx hb (dc tbX0_init_k 19 rfl) rfl (lv_at hl 0 rfl) ?_
  obtain ⟨M23, e24, hf⟩ := bnd_s hf
  refine c_new hx hb hts inW1 tyX1 tyX1_ok hown q_t1_180 q_t1_76 q_t1_3 hK hC hinj ((congrArg ad (by omega : (k0 + 34) = k0 + 1 + 33)).trans (had 33 (by omega))) ((setk_o (by omega)).trans ((setk_o (by omega)).trans ((show kPart KF (k0 + 34) from hB.2.2 4 (by omega)).1))) (q := (21, 0)) (by simp) (by simp) rfl (fs := [.int 0, .null, .int 0, .int 0, .int 0, .int 0, .null, .int 0, .int 0, .int 0, .int 0, .null, .null, .int 0, .int 0, .null, .null, .null]) rfl (by decide +kernel) ⟨Nat.le_of_ble_eq_true rfl, Nat.le_of_ble_eq_true rfl⟩ e24 (dc tbX0_init_k 20 rfl) (fun H hC => ?_)
  refine lv_dup hx hb (dc tbX0_init_k 21 rfl) rfl ?_
  obtain ⟨M25, _, q26, hf⟩ := cal_s hf
  refine c_callI hx hb hml hown hts hK hsx hex hC (nzE_set (by rw [(setk_o (by omega)).trans ((setk_o (by omega)).trans ((show kPart KF (k0 + 34) from hB.2.2 4 (by omega)).1))]; simp) (by simp)) (As := []) (tX1_init l hinj (kPart_congr (kPart_congr (show kPart KF (k0 + 34) from hB.2.2 4 (by omega)) (fun j hj => setk_o (by omega))) (fun j hj => setk_o (by omega))) (fun j hj => by have h8 := hC.2.2.1; have h9 := had (34 + j) (by omega); rw [show (k0 + 34) + 1 + j = k0 + 1 + (34 + j) by omega]; omega) (by have := hC.2.2.1; have := ((congrArg ad (by omega : (k0 + 34) = k0 + 1 + 33)).trans (had 33 (by omega))); omega) q26) ci_X1_init q_t1_182 ⟨rfl, by decide +kernel⟩ rfl rfl rfl ⟨Nat.le_of_ble_eq_true rfl, Nat.le_of_ble_eq_true rfl⟩ hl.1 rfl (Nat.le_of_ble_eq_true rfl) (dc tbX0_init_k 22 rfl) ⟨Nat.le_of_ble_eq_true rfl, Nat.le_of_ble_eq_true rfl⟩ (fun H locs hC => ?_)
  refine c_aast (i := 4) hx hb hK hC hinj (setk_s) (by have := ((congrArg ad (by omega : (k0 + 1) = k0 + 1 + 0)).trans (had 0 (by omega))); omega) ((setk_o (by omega)).trans ((setk_o (by omega)).trans ((show kPart KF (k0 + 34) from hB.2.2 4 (by omega)).1))) (by have := ((congrArg ad (by omega : (k0 + 34) = k0 + 1 + 33)).trans (had 33 (by omega))); omega) (by omega) (by decide) ⟨by decide, by decide⟩ (dc tbX0_init_k 23 rfl) (fun H locs hC => ?_)
  have hC := hC.eqK setk_setk
  refine lv_iinc (v := (5 : Int32)) (lv' := [(1, .int (5 : Int32)), (0, .ref (ad k0))]) hx hb (dc tbX0_init_k 24 rfl) hl (k := 0) rfl (by decide) (by decide) rfl (fun ls hl => ?_)
  refine lv_goto (tgt := 25) hx hb (dc tbX0_init_k 25 rfl) rfl ?_
  refine lv_iload_n hx hb (dc tbX0_init_k 14 rfl) rfl (lv_at hl 0 rfl) ?_
  refine lv_bipush (v := 10) hx hb (dc tbX0_init_k 15 rfl) (by decide) ?_
  refine lv_icmp_ge (tgt := 50) hx hb (dc tbX0_init_k 16 rfl) rfl (fun c => absurd c (by decide)) (fun _ => ?_)
  refine lv_aload_n hx hb (dc tbX0_init_k 17 rfl) rfl (lv_at hl 1 rfl) ?_
  refine g_get hx hb hts inW0 hown hK hC.inv ((kdN_in (Nat.lt_of_lt_of_le hak (Nat.le_add_right _ _))).trans ((setk_o (by omega)).trans (setk_s))) (by simp) rfl rfl 0 (by decide) ⟨rfl, rfl, rfl⟩ q_t1_183 rfl (dc tbX0_init_k 18 rfl) ?_
  refine lv_iload_n hx hb (dc tbX0_init_k 19 rfl) rfl (lv_at hl 0 rfl) ?_
  obtain ⟨M27, e28, hf⟩ := bnd_s hf
  refine c_new hx hb hts inW1 tyX1 tyX1_ok hown q_t1_180 q_t1_76 q_t1_3 hK hC hinj ((congrArg ad (by omega : (k0 + 42) = k0 + 1 + 41)).trans (had 41 (by omega))) ((setk_o (by omega)).trans ((setk_o (by omega)).trans ((show kPart KF (k0 + 42) from hB.2.2 5 (by omega)).1))) (q := (21, 0)) (by simp) (by simp) rfl (fs := [.int 0, .null, .int 0, .int 0, .int 0, .int 0, .null, .int 0, .int 0, .int 0, .int 0, .null, .null, .int 0, .int 0, .null, .null, .null]) rfl (by decide +kernel) ⟨Nat.le_of_ble_eq_true rfl, Nat.le_of_ble_eq_true rfl⟩ e28 (dc tbX0_init_k 20 rfl) (fun H hC => ?_)
  refine lv_dup hx hb (dc tbX0_init_k 21 rfl) rfl ?_
  obtain ⟨M29, _, q30, hf⟩ := cal_s hf
  refine c_callI hx hb hml hown hts hK hsx hex hC (nzE_set (by rw [(setk_o (by omega)).trans ((setk_o (by omega)).trans ((show kPart KF (k0 + 42) from hB.2.2 5 (by omega)).1))]; simp) (by simp)) (As := []) (tX1_init l hinj (kPart_congr (kPart_congr (show kPart KF (k0 + 42) from hB.2.2 5 (by omega)) (fun j hj => setk_o (by omega))) (fun j hj => setk_o (by omega))) (fun j hj => by have h8 := hC.2.2.1; have h9 := had (42 + j) (by omega); rw [show (k0 + 42) + 1 + j = k0 + 1 + (42 + j) by omega]; omega) (by have := hC.2.2.1; have := ((congrArg ad (by omega : (k0 + 42) = k0 + 1 + 41)).trans (had 41 (by omega))); omega) q30) ci_X1_init q_t1_182 ⟨rfl, by decide +kernel⟩ rfl rfl rfl ⟨Nat.le_of_ble_eq_true rfl, Nat.le_of_ble_eq_true rfl⟩ hl.1 rfl (Nat.le_of_ble_eq_true rfl) (dc tbX0_init_k 22 rfl) ⟨Nat.le_of_ble_eq_true rfl, Nat.le_of_ble_eq_true rfl⟩ (fun H locs hC => ?_)
  refine c_aast (i := 5) hx hb hK hC hinj (setk_s) (by have := ((congrArg ad (by omega : (k0 + 1) = k0 + 1 + 0)).trans (had 0 (by omega))); omega) ((setk_o (by omega)).trans ((setk_o (by omega)).trans ((show kPart KF (k0 + 42) from hB.2.2 5 (by omega)).1))) (by have := ((congrArg ad (by omega : (k0 + 42) = k0 + 1 + 41)).trans (had 41 (by omega))); omega) (by omega) (by decide) ⟨by decide, by decide⟩ (dc tbX0_init_k 23 rfl) (fun H locs hC => ?_)
  have hC := hC.eqK setk_setk
  refine lv_iinc (v := (6 : Int32)) (lv' := [(1, .int (6 : Int32)), (0, .ref (ad k0))]) hx hb (dc tbX0_init_k 24 rfl) hl (k := 0) rfl (by decide) (by decide) rfl (fun ls hl => ?_)
  refine lv_goto (tgt := 25) hx hb (dc tbX0_init_k 25 rfl) rfl ?_
  refine lv_iload_n hx hb (dc tbX0_init_k 14 rfl) rfl (lv_at hl 0 rfl) ?_
  refine lv_bipush (v := 10) hx hb (dc tbX0_init_k 15 rfl) (by decide) ?_
  refine lv_icmp_ge (tgt := 50) hx hb (dc tbX0_init_k 16 rfl) rfl (fun c => absurd c (by decide)) (fun _ => ?_)
  refine lv_aload_n hx hb (dc tbX0_init_k 17 rfl) rfl (lv_at hl 1 rfl) ?_
  refine g_get hx hb hts inW0 hown hK hC.inv ((kdN_in (Nat.lt_of_lt_of_le hak (Nat.le_add_right _ _))).trans ((setk_o (by omega)).trans (setk_s))) (by simp) rfl rfl 0 (by decide) ⟨rfl, rfl, rfl⟩ q_t1_183 rfl (dc tbX0_init_k 18 rfl) ?_
  refine lv_iload_n hx hb (dc tbX0_init_k 19 rfl) rfl (lv_at hl 0 rfl) ?_
  obtain ⟨M31, e32, hf⟩ := bnd_s hf
  refine c_new hx hb hts inW1 tyX1 tyX1_ok hown q_t1_180 q_t1_76 q_t1_3 hK hC hinj ((congrArg ad (by omega : (k0 + 50) = k0 + 1 + 49)).trans (had 49 (by omega))) ((setk_o (by omega)).trans ((setk_o (by omega)).trans ((show kPart KF (k0 + 50) from hB.2.2 6 (by omega)).1))) (q := (21, 0)) (by simp) (by simp) rfl (fs := [.int 0, .null, .int 0, .int 0, .int 0, .int 0, .null, .int 0, .int 0, .int 0, .int 0, .null, .null, .int 0, .int 0, .null, .null, .null]) rfl (by decide +kernel) ⟨Nat.le_of_ble_eq_true rfl, Nat.le_of_ble_eq_true rfl⟩ e32 (dc tbX0_init_k 20 rfl) (fun H hC => ?_)
  refine lv_dup hx hb (dc tbX0_init_k 21 rfl) rfl ?_
  obtain ⟨M33, _, q34, hf⟩ := cal_s hf
  refine c_callI hx hb hml hown hts hK hsx hex hC (nzE_set (by rw [(setk_o (by omega)).trans ((setk_o (by omega)).trans ((show kPart KF (k0 + 50) from hB.2.2 6 (by omega)).1))]; simp) (by simp)) (As := []) (tX1_init l hinj (kPart_congr (kPart_congr (show kPart KF (k0 + 50) from hB.2.2 6 (by omega)) (fun j hj => setk_o (by omega))) (fun j hj => setk_o (by omega))) (fun j hj => by have h8 := hC.2.2.1; have h9 := had (50 + j) (by omega); rw [show (k0 + 50) + 1 + j = k0 + 1 + (50 + j) by omega]; omega) (by have := hC.2.2.1; have := ((congrArg ad (by omega : (k0 + 50) = k0 + 1 + 49)).trans (had 49 (by omega))); omega) q34) ci_X1_init q_t1_182 ⟨rfl, by decide +kernel⟩ rfl rfl rfl ⟨Nat.le_of_ble_eq_true rfl, Nat.le_of_ble_eq_true rfl⟩ hl.1 rfl (Nat.le_of_ble_eq_true rfl) (dc tbX0_init_k 22 rfl) ⟨Nat.le_of_ble_eq_true rfl, Nat.le_of_ble_eq_true rfl⟩ (fun H locs hC => ?_)
  refine c_aast (i := 6) hx hb hK hC hinj (setk_s) (by have := ((congrArg ad (by omega : (k0 + 1) = k0 + 1 + 0)).trans (had 0 (by omega))); omega) ((setk_o (by omega)).trans ((setk_o (by omega)).trans ((show kPart KF (k0 + 50) from hB.2.2 6 (by omega)).1))) (by have := ((congrArg ad (by omega : (k0 + 50) = k0 + 1 + 49)).trans (had 49 (by omega))); omega) (by omega) (by decide) ⟨by decide, by decide⟩ (dc tbX0_init_k 23 rfl) (fun H locs hC => ?_)
  have hC := hC.eqK setk_setk
  refine lv_iinc (v := (7 : Int32)) (lv' := [(1, .int (7 : Int32)), (0, .ref (ad k0))]) hx hb (dc tbX0_init_k 24 rfl) hl (k := 0) rfl (by decide) (by decide) rfl (fun ls hl => ?_)
  refine lv_goto (tgt := 25) hx hb (dc tbX0_init_k 25 rfl) rfl ?_
  refine lv_iload_n hx hb (dc tbX0_init_k 14 rfl) rfl (lv_at hl 0 rfl) ?_
  refine lv_bipush (v := 10) hx hb (dc tbX0_init_k 15 rfl) (by decide) ?_
  refine lv_icmp_ge (tgt := 50) hx hb (dc tbX0_init_k 16 rfl) rfl (fun c => absurd c (by decide)) (fun _ => ?_)
  refine lv_aload_n hx hb (dc tbX0_init_k 17 rfl) rfl (lv_at hl 1 rfl) ?_
  refine g_get hx hb hts inW0 hown hK hC.inv ((kdN_in (Nat.lt_of_lt_of_le hak (Nat.le_add_right _ _))).trans ((setk_o (by omega)).trans (setk_s))) (by simp) rfl rfl 0 (by decide) ⟨rfl, rfl, rfl⟩ q_t1_183 rfl (dc tbX0_init_k 18 rfl) ?_
  refine lv_iload_n hx hb (dc tbX0_init_k 19 rfl) rfl (lv_at hl 0 rfl) ?_
  obtain ⟨M35, e36, hf⟩ := bnd_s hf
  refine c_new hx hb hts inW1 tyX1 tyX1_ok hown q_t1_180 q_t1_76 q_t1_3 hK hC hinj ((congrArg ad (by omega : (k0 + 58) = k0 + 1 + 57)).trans (had 57 (by omega))) ((setk_o (by omega)).trans ((setk_o (by omega)).trans ((show kPart KF (k0 + 58) from hB.2.2 7 (by omega)).1))) (q := (21, 0)) (by simp) (by simp) rfl (fs := [.int 0, .null, .int 0, .int 0, .int 0, .int 0, .null, .int 0, .int 0, .int 0, .int 0, .null, .null, .int 0, .int 0, .null, .null, .null]) rfl (by decide +kernel) ⟨Nat.le_of_ble_eq_true rfl, Nat.le_of_ble_eq_true rfl⟩ e36 (dc tbX0_init_k 20 rfl) (fun H hC => ?_)
  refine lv_dup hx hb (dc tbX0_init_k 21 rfl) rfl ?_
  obtain ⟨M37, _, q38, hf⟩ := cal_s hf
  refine c_callI hx hb hml hown hts hK hsx hex hC (nzE_set (by rw [(setk_o (by omega)).trans ((setk_o (by omega)).trans ((show kPart KF (k0 + 58) from hB.2.2 7 (by omega)).1))]; simp) (by simp)) (As := []) (tX1_init l hinj (kPart_congr (kPart_congr (show kPart KF (k0 + 58) from hB.2.2 7 (by omega)) (fun j hj => setk_o (by omega))) (fun j hj => setk_o (by omega))) (fun j hj => by have h8 := hC.2.2.1; have h9 := had (58 + j) (by omega); rw [show (k0 + 58) + 1 + j = k0 + 1 + (58 + j) by omega]; omega) (by have := hC.2.2.1; have := ((congrArg ad (by omega : (k0 + 58) = k0 + 1 + 57)).trans (had 57 (by omega))); omega) q38) ci_X1_init q_t1_182 ⟨rfl, by decide +kernel⟩ rfl rfl rfl ⟨Nat.le_of_ble_eq_true rfl, Nat.le_of_ble_eq_true rfl⟩ hl.1 rfl (Nat.le_of_ble_eq_true rfl) (dc tbX0_init_k 22 rfl) ⟨Nat.le_of_ble_eq_true rfl, Nat.le_of_ble_eq_true rfl⟩ (fun H locs hC => ?_)
  refine c_aast (i := 7) hx hb hK hC hinj (setk_s) (by have := ((congrArg ad (by omega : (k0 + 1) = k0 + 1 + 0)).trans (had 0 (by omega))); omega) ((setk_o (by omega)).trans ((setk_o (by omega)).trans ((show kPart KF (k0 + 58) from hB.2.2 7 (by omega)).1))) (by have := ((congrArg ad (by omega : (k0 + 58) = k0 + 1 + 57)).trans (had 57 (by omega))); omega) (by omega) (by decide) ⟨by decide, by decide⟩ (dc tbX0_init_k 23 rfl) (fun H locs hC => ?_)
  have hC := hC.eqK setk_setk
  refine lv_iinc (v := (8 : Int32)) (lv' := [(1, .int (8 : Int32)), (0, .ref (ad k0))]) hx hb (dc tbX0_init_k 24 rfl) hl (k := 0) rfl (by decide) (by decide) rfl (fun ls hl => ?_)
  refine lv_goto (tgt := 25) hx hb (dc tbX0_init_k 25 rfl) rfl ?_
  refine lv_iload_n hx hb (dc tbX0_init_k 14 rfl) rfl (lv_at hl 0 rfl) ?_
  refine lv_bipush (v := 10) hx hb (dc tbX0_init_k 15 rfl) (by decide) ?_
  refine lv_icmp_ge (tgt := 50) hx hb (dc tbX0_init_k 16 rfl) rfl (fun c => absurd c (by decide)) (fun _ => ?_)
  refine lv_aload_n hx hb (dc tbX0_init_k 17 rfl) rfl (lv_at hl 1 rfl) ?_
  refine g_get hx hb hts inW0 hown hK hC.inv ((kdN_in (Nat.lt_of_lt_of_le hak (Nat.le_add_right _ _))).trans ((setk_o (by omega)).trans (setk_s))) (by simp) rfl rfl 0 (by decide) ⟨rfl, rfl, rfl⟩ q_t1_183 rfl (dc tbX0_init_k 18 rfl) ?_
  refine lv_iload_n hx hb (dc tbX0_init_k 19 rfl) rfl (lv_at hl 0 rfl) ?_
  obtain ⟨M39, e40, hf⟩ := bnd_s hf
  refine c_new hx hb hts inW1 tyX1 tyX1_ok hown q_t1_180 q_t1_76 q_t1_3 hK hC hinj ((congrArg ad (by omega : (k0 + 66) = k0 + 1 + 65)).trans (had 65 (by omega))) ((setk_o (by omega)).trans ((setk_o (by omega)).trans ((show kPart KF (k0 + 66) from hB.2.2 8 (by omega)).1))) (q := (21, 0)) (by simp) (by simp) rfl (fs := [.int 0, .null, .int 0, .int 0, .int 0, .int 0, .null, .int 0, .int 0, .int 0, .int 0, .null, .null, .int 0, .int 0, .null, .null, .null]) rfl (by decide +kernel) ⟨Nat.le_of_ble_eq_true rfl, Nat.le_of_ble_eq_true rfl⟩ e40 (dc tbX0_init_k 20 rfl) (fun H hC => ?_)
  refine lv_dup hx hb (dc tbX0_init_k 21 rfl) rfl ?_
  obtain ⟨M41, _, q42, hf⟩ := cal_s hf
  refine c_callI hx hb hml hown hts hK hsx hex hC (nzE_set (by rw [(setk_o (by omega)).trans ((setk_o (by omega)).trans ((show kPart KF (k0 + 66) from hB.2.2 8 (by omega)).1))]; simp) (by simp)) (As := []) (tX1_init l hinj (kPart_congr (kPart_congr (show kPart KF (k0 + 66) from hB.2.2 8 (by omega)) (fun j hj => setk_o (by omega))) (fun j hj => setk_o (by omega))) (fun j hj => by have h8 := hC.2.2.1; have h9 := had (66 + j) (by omega); rw [show (k0 + 66) + 1 + j = k0 + 1 + (66 + j) by omega]; omega) (by have := hC.2.2.1; have := ((congrArg ad (by omega : (k0 + 66) = k0 + 1 + 65)).trans (had 65 (by omega))); omega) q42) ci_X1_init q_t1_182 ⟨rfl, by decide +kernel⟩ rfl rfl rfl ⟨Nat.le_of_ble_eq_true rfl, Nat.le_of_ble_eq_true rfl⟩ hl.1 rfl (Nat.le_of_ble_eq_true rfl) (dc tbX0_init_k 22 rfl) ⟨Nat.le_of_ble_eq_true rfl, Nat.le_of_ble_eq_true rfl⟩ (fun H locs hC => ?_)
  refine c_aast (i := 8) hx hb hK hC hinj (setk_s) (by have := ((congrArg ad (by omega : (k0 + 1) = k0 + 1 + 0)).trans (had 0 (by omega))); omega) ((setk_o (by omega)).trans ((setk_o (by omega)).trans ((show kPart KF (k0 + 66) from hB.2.2 8 (by omega)).1))) (by have := ((congrArg ad (by omega : (k0 + 66) = k0 + 1 + 65)).trans (had 65 (by omega))); omega) (by omega) (by decide) ⟨by decide, by decide⟩ (dc tbX0_init_k 23 rfl) (fun H locs hC => ?_)
  have hC := hC.eqK setk_setk
  refine lv_iinc (v := (9 : Int32)) (lv' := [(1, .int (9 : Int32)), (0, .ref (ad k0))]) hx hb (dc tbX0_init_k 24 rfl) hl (k := 0) rfl (by decide) (by decide) rfl (fun ls hl => ?_)
  refine lv_goto (tgt := 25) hx hb (dc tbX0_init_k 25 rfl) rfl ?_
  refine lv_iload_n hx hb (dc tbX0_init_k 14 rfl) rfl (lv_at hl 0 rfl) ?_
  refine lv_bipush (v := 10) hx hb (dc tbX0_init_k 15 rfl) (by decide) ?_
  refine lv_icmp_ge (tgt := 50) hx hb (dc tbX0_init_k 16 rfl) rfl (fun c => absurd c (by decide)) (fun _ => ?_)
  refine lv_aload_n hx hb (dc tbX0_init_k 17 rfl) rfl (lv_at hl 1 rfl) ?_
  refine g_get hx hb hts inW0 hown hK hC.inv ((kdN_in (Nat.lt_of_lt_of_le hak (Nat.le_add_right _ _))).trans ((setk_o (by omega)).trans (setk_s))) (by simp) rfl rfl 0 (by decide) ⟨rfl, rfl, rfl⟩ q_t1_183 rfl (dc tbX0_init_k 18 rfl) ?_
  refine lv_iload_n hx hb (dc tbX0_init_k 19 rfl) rfl (lv_at hl 0 rfl) ?_
  obtain ⟨M43, e44, hf⟩ := bnd_s hf
  refine c_new hx hb hts inW1 tyX1 tyX1_ok hown q_t1_180 q_t1_76 q_t1_3 hK hC hinj ((congrArg ad (by omega : (k0 + 74) = k0 + 1 + 73)).trans (had 73 (by omega))) ((setk_o (by omega)).trans ((setk_o (by omega)).trans ((show kPart KF (k0 + 74) from hB.2.2 9 (by omega)).1))) (q := (21, 0)) (by simp) (by simp) rfl (fs := [.int 0, .null, .int 0, .int 0, .int 0, .int 0, .null, .int 0, .int 0, .int 0, .int 0, .null, .null, .int 0, .int 0, .null, .null, .null]) rfl (by decide +kernel) ⟨Nat.le_of_ble_eq_true rfl, Nat.le_of_ble_eq_true rfl⟩ e44 (dc tbX0_init_k 20 rfl) (fun H hC => ?_)
  refine lv_dup hx hb (dc tbX0_init_k 21 rfl) rfl ?_
  obtain ⟨M45, _, q46, hf⟩ := cal_s hf
  refine c_callI hx hb hml hown hts hK hsx hex hC (nzE_set (by rw [(setk_o (by omega)).trans ((setk_o (by omega)).trans ((show kPart KF (k0 + 74) from hB.2.2 9 (by omega)).1))]; simp) (by simp)) (As := []) (tX1_init l hinj (kPart_congr (kPart_congr (show kPart KF (k0 + 74) from hB.2.2 9 (by omega)) (fun j hj => setk_o (by omega))) (fun j hj => setk_o (by omega))) (fun j hj => by have h8 := hC.2.2.1; have h9 := had (74 + j) (by omega); rw [show (k0 + 74) + 1 + j = k0 + 1 + (74 + j) by omega]; omega) (by have := hC.2.2.1; have := ((congrArg ad (by omega : (k0 + 74) = k0 + 1 + 73)).trans (had 73 (by omega))); omega) q46) ci_X1_init q_t1_182 ⟨rfl, by decide +kernel⟩ rfl rfl rfl ⟨Nat.le_of_ble_eq_true rfl, Nat.le_of_ble_eq_true rfl⟩ hl.1 rfl (Nat.le_of_ble_eq_true rfl) (dc tbX0_init_k 22 rfl) ⟨Nat.le_of_ble_eq_true rfl, Nat.le_of_ble_eq_true rfl⟩ (fun H locs hC => ?_)
  refine c_aast (i := 9) hx hb hK hC hinj (setk_s) (by have := ((congrArg ad (by omega : (k0 + 1) = k0 + 1 + 0)).trans (had 0 (by omega))); omega) ((setk_o (by omega)).trans ((setk_o (by omega)).trans ((show kPart KF (k0 + 74) from hB.2.2 9 (by omega)).1))) (by have := ((congrArg ad (by omega : (k0 + 74) = k0 + 1 + 73)).trans (had 73 (by omega))); omega) (by omega) (by decide) ⟨by decide, by decide⟩ (dc tbX0_init_k 23 rfl) (fun H locs hC => ?_)
  have hC := hC.eqK setk_setk
  refine lv_iinc (v := (10 : Int32)) (lv' := [(1, .int (10 : Int32)), (0, .ref (ad k0))]) hx hb (dc tbX0_init_k 24 rfl) hl (k := 0) rfl (by decide) (by decide) rfl (fun ls hl => ?_)
  refine lv_goto (tgt := 25) hx hb (dc tbX0_init_k 25 rfl) rfl ?_
  refine lv_iload_n hx hb (dc tbX0_init_k 14 rfl) rfl (lv_at hl 0 rfl) ?_
  refine lv_bipush (v := 10) hx hb (dc tbX0_init_k 15 rfl) (by decide) ?_
  refine lv_icmp_ge (tgt := 50) hx hb (dc tbX0_init_k 16 rfl) rfl (fun _ => ?_) (fun c => absurd c (by decide))
  have hC := (hC.rowfull (setk_s)).eqK (setk_setk.trans (setk_id ((setk_o (by omega)).trans (hB.2.1))))
  have hC := (hC.as_kind (q' := (4, 0)) setk_s (by simp) (by simp) rfl).eqK (setk_setk.trans (setk_id hB.1))
  cases hf
  exact c_ret hx hb hr hlk hC (dc tbX0_init_k 26 rfl)
theorem ci_X0_init : Cond.initialized yX0_init.cls ∈ WA ∧ Cond.instanceMethod yX0_init ∈ WA ∧ Cond.code yX0_init cX0_init 2 none ∈ WA := ⟨q_t1_4, q_t1_177, q_t1_178⟩
def mX3_init (k0 : Nat) (M : Mem) : Option (Mem × Unit) := bnd (wr M k0 0 (-1 : Int32)) (fun M1 => bnd (wr M1 k0 1 (-1 : Int32)) (fun M3 => bnd (zr M3 (k0 + 1)) (fun M5 => bnd (wr M5 k0 3 (-1 : Int32)) (fun M7 => bnd (zr M7 (k0 + 2)) (fun M9 => cal (mX2_init (k0 + 2) M9) (fun M11 _ => bnd (zr M11 (k0 + 9)) (fun M13 => cal (mX1_init (k0 + 9) M13) (fun M15 _ => bnd (wr M15 k0 6 (0 : Int32)) (fun M17 => bnd (zr M17 (k0 + 17)) (fun M19 => bnd (zr M19 (k0 + 18)) (fun M21 => bnd (zr M21 (k0 + 19)) (fun M23 => bnd (zr M23 (k0 + 20)) (fun M25 => bnd (zr M25 (k0 + 21)) (fun M27 => bnd (zr M27 (k0 + 22)) (fun M29 => cal (mX3_forgetSteps k0 M29) (fun M31 _ => some (M31, ())))))))))))))))))
set_option maxHeartbeats 4000000 in
set_option maxRecDepth 100000 in
theorem tX3_init (l : Launch) {G : GT} {KF : Nat → Nat × Nat} {ad : Nat → Nat} {N : Nat} {k0 : Nat} (hinj : ∀ i j, ad i = ad j → i = j) (hB : kPlanner KF k0) (had : ∀ j, j < 22 → ad (k0 + 1 + j) = N + j) (hak : ad k0 < N) {M MO : Mem} (hf : mX3_init k0 M = some (MO, ())) : Met l yX3_init (Cond.code yX3_init cX3_init 1 none :: WA) (rmO 3 22 13204) (Pk G (setk KF k0 (23, 0)) ad N [.ref (ad k0)] M) (Qk G (setk KF k0 (23, 0)) KF ad N 22 MO) 22 13204 (AS (setk KF k0 (23, 0)) ad N) := by
  refine c_body (own := RX3) (by decide) rfl rfl hinj ?_ (Nat.le_of_ble_eq_true rfl)
  intro p e s m args below meth c C hsz H ls hC hl
  subst hsz
  obtain ⟨hx, hb, hml, hr, hown, hts, hlk, hK, hsx, hex, hin, hinj⟩ := id C
  have hl : lv_has ls 1 [(0, .ref (ad k0))] := hl
  unfold mX3_init at hf
  refine lv_aload_n hx hb (dc tbX3_init_0_k 0 rfl) rfl (lv_at hl 0 rfl) ?_
  refine W.objInit hx hb hown (hts _ q_t1_235) (hts _ q_t1_35) (hts _ q_t1_36) rfl (by rw [hml]; exact hl.1) rfl (dc tbX3_init_0_k 1 rfl) (Nat.le_of_ble_eq_true rfl) (Nat.le_of_ble_eq_true rfl) ?_
  refine W.eq (g2 := F0 m 4 ls []) rfl ?_
  refine lv_aload_n hx hb (dc tbX3_init_0_k 2 rfl) rfl (lv_at hl 0 rfl) ?_
  refine lv_iconst (v := -1) hx hb (dc tbX3_init_0_k 3 rfl) (by decide) ?_
  obtain ⟨M1, e2, hf⟩ := bnd_s hf
  refine c_put false hx hb hts inW3 tyX3 tyX3_ok nmX3 hown hK hC hinj hin (q' := (23, 0)) (setk_s) (by simp) (by simp) (Nat.lt_of_lt_of_le hak (Nat.le_add_right _ _)) rfl rfl 0 (by decide) ⟨rfl, rfl, rfl⟩ q_t2_4 rfl (fun h => by first | rfl | cases h) (ty := .int) (by decide +kernel) rfl rfl (Nat.le_of_ble_eq_true rfl) (M' := M1) (by rw [e2, wr_s]; rfl) (by rw [e2]; exact wr_o) (dc tbX3_init_0_k 4 rfl) (fun H locs hC => ?_)
  have hC := hC.eqK setk_setk
  refine lv_aload_n hx hb (dc tbX3_init_0_k 5 rfl) rfl (lv_at hl 0 rfl) ?_
  refine lv_iconst (v := -1) hx hb (dc tbX3_init_0_k 6 rfl) (by decide) ?_
  obtain ⟨M3, e4, hf⟩ := bnd_s hf
  refine c_put false hx hb hts inW3 tyX3 tyX3_ok nmX3 hown hK hC hinj hin (q' := (23, 0)) (setk_s) (by simp) (by simp) (Nat.lt_of_lt_of_le hak (Nat.le_add_right _ _)) rfl rfl 1 (by decide) ⟨rfl, rfl, rfl⟩ q_t2_6 rfl (fun h => by first | rfl | cases h) (ty := .int) (by decide +kernel) rfl rfl (Nat.le_of_ble_eq_true rfl) (M' := M3) (by rw [e4, wr_s]; rfl) (by rw [e4]; exact wr_o) (dc tbX3_init_0_k 7 rfl) (fun H locs hC => ?_)
  have hC := hC.eqK setk_setk
  refine lv_aload_n hx hb (dc tbX3_init_0_k 8 rfl) rfl (lv_at hl 0 rfl) ?_
  refine lv_bipush (v := 8) hx hb (dc tbX3_init_0_k 9 rfl) (by decide) ?_
  obtain ⟨M5, e6, hf⟩ := bnd_s hf
  refine c_newa (ty := .int) (n := 8) hx hb rfl q_t1_74 hts hC hinj ((congrArg ad (by omega : (k0 + 1) = k0 + 1 + 0)).trans (had 0 (by omega))) ((setk_o (by omega)).trans (hB.2.1)) (hK.2 0 _ rfl).2 rfl rfl ⟨by decide, by decide⟩ (Nat.le_of_ble_eq_true rfl) ⟨Nat.le_of_ble_eq_true rfl, Nat.le_of_ble_eq_true rfl⟩ e6 dX3_init_17 (fun H hC => ?_)
  refine c_put true hx hb hts inW3 tyX3 tyX3_ok nmX3 hown hK hC hinj hin (q' := (23, 1)) (setk_s) (by simp) (by simp) (Nat.lt_of_lt_of_le hak (Nat.le_add_right _ _)) rfl rfl 2 (by decide) ⟨rfl, rfl, rfl⟩ q_t2_8 rfl (fun h => by first | rfl | cases h) (ty := (.array (.int))) (by decide +kernel) rfl rfl (Nat.le_of_ble_eq_true rfl) (M' := M5) rfl (fun _ _ => ⟨rfl, rfl, rfl⟩) (dc tbX3_init_0_k 10 rfl) (fun H locs hC => ?_)
  have hC := hC.eqK setk_setk
  refine lv_aload_n hx hb (dc tbX3_init_0_k 11 rfl) rfl (lv_at hl 0 rfl) ?_
  refine lv_iconst (v := -1) hx hb (dc tbX3_init_0_k 12 rfl) (by decide) ?_
  obtain ⟨M7, e8, hf⟩ := bnd_s hf
  refine c_put false hx hb hts inW3 tyX3 tyX3_ok nmX3 hown hK hC hinj hin (q' := (23, 1)) (setk_s) (by simp) (by simp) (Nat.lt_of_lt_of_le hak (Nat.le_add_right _ _)) rfl rfl 3 (by decide) ⟨rfl, rfl, rfl⟩ q_t2_10 rfl (fun h => by first | rfl | cases h) (ty := .int) (by decide +kernel) rfl rfl (Nat.le_of_ble_eq_true rfl) (M' := M7) (by rw [e8, wr_s]; rfl) (by rw [e8]; exact wr_o) (dc tbX3_init_0_k 13 rfl) (fun H locs hC => ?_)
  have hC := hC.eqK setk_setk
  refine lv_aload_n hx hb (dc tbX3_init_0_k 14 rfl) rfl (lv_at hl 0 rfl) ?_
  obtain ⟨M9, e10, hf⟩ := bnd_s hf
  refine c_new hx hb hts inW2 tyX2 tyX2_ok hown q_t1_236 q_t1_195 q_t1_5 hK hC hinj ((congrArg ad (by omega : (k0 + 2) = k0 + 1 + 1)).trans (had 1 (by omega))) ((setk_o (by omega)).trans (hB.2.2.1.1)) (q := (22, 0)) (by simp) (by simp) rfl (fs := [.null, .null, .null, .null, .null, .null, .int 0, .int 0, .int 0]) rfl (by decide +kernel) ⟨Nat.le_of_ble_eq_true rfl, Nat.le_of_ble_eq_true rfl⟩ e10 (dc tbX3_init_0_k 15 rfl) (fun H hC => ?_)
  refine lv_dup hx hb (dc tbX3_init_0_k 16 rfl) rfl ?_
  obtain ⟨M11, _, q12, hf⟩ := cal_s hf
  refine c_callIN hx hb hml hown hts hK hsx hex hC (nzE_set (by rw [(setk_o (by omega)).trans (hB.2.2.1.1)]; simp) (by simp)) (As := []) (tX2_init l hinj (kPlaces_congr hB.2.2.1 (fun j hj => setk_o (by omega))) (fun j hj => by have h8 := hC.2.2.1; have h9 := had (2 + j) (by omega); rw [show (k0 + 2) + 1 + j = k0 + 1 + (2 + j) by omega]; omega) (by have := hC.2.2.1; have := ((congrArg ad (by omega : (k0 + 2) = k0 + 1 + 1)).trans (had 1 (by omega))); omega) q12) ci_X2_init (by decide +kernel) ⟨rfl, by decide +kernel⟩ rfl rfl rfl ⟨Nat.le_of_ble_eq_true rfl, Nat.le_of_ble_eq_true rfl⟩ hl.1 rfl (Nat.le_of_ble_eq_true rfl) (dc tbX3_init_0_k 17 rfl) ⟨Nat.le_of_ble_eq_true rfl, Nat.le_of_ble_eq_true rfl⟩ (fun H locs hC => ?_)
  refine c_put true hx hb hts inW3 tyX3 tyX3_ok nmX3 hown hK hC hinj hin (q' := (23, 2)) (setk_s) (by simp) (by simp) (Nat.lt_of_lt_of_le hak (Nat.le_add_right _ _)) rfl rfl 4 (by decide) ⟨rfl, rfl, rfl⟩ q_t2_12 rfl (fun h => by first | rfl | cases h) (ty := (.object "SheetFolder$Places")) (by decide +kernel) rfl rfl (Nat.le_of_ble_eq_true rfl) (M' := M11) rfl (fun _ _ => ⟨rfl, rfl, rfl⟩) (dc tbX3_init_0_k 18 rfl) (fun H locs hC => ?_)
  have hC := hC.eqK setk_setk
  refine lv_aload_n hx hb (dc tbX3_init_0_k 19 rfl) rfl (lv_at hl 0 rfl) ?_
  obtain ⟨M13, e14, hf⟩ := bnd_s hf
  refine c_new hx hb hts inW1 tyX1 tyX1_ok hown q_t1_238 q_t1_76 q_t1_3 hK hC hinj ((congrArg ad (by omega : (k0 + 9) = k0 + 1 + 8)).trans (had 8 (by omega))) ((setk_o (by omega)).trans (hB.2.2.2.1.1)) (q := (21, 0)) (by simp) (by simp) rfl (fs := [.int 0, .null, .int 0, .int 0, .int 0, .int 0, .null, .int 0, .int 0, .int 0, .int 0, .null, .null, .int 0, .int 0, .null, .null, .null]) rfl (by decide +kernel) ⟨Nat.le_of_ble_eq_true rfl, Nat.le_of_ble_eq_true rfl⟩ e14 (dc tbX3_init_0_k 20 rfl) (fun H hC => ?_)
  refine lv_dup hx hb (dc tbX3_init_0_k 21 rfl) rfl ?_
  obtain ⟨M15, _, q16, hf⟩ := cal_s hf
  refine c_callI hx hb hml hown hts hK hsx hex hC (nzE_set (by rw [(setk_o (by omega)).trans (hB.2.2.2.1.1)]; simp) (by simp)) (As := []) (tX1_init l hinj (kPart_congr hB.2.2.2.1 (fun j hj => setk_o (by omega))) (fun j hj => by have h8 := hC.2.2.1; have h9 := had (9 + j) (by omega); rw [show (k0 + 9) + 1 + j = k0 + 1 + (9 + j) by omega]; omega) (by have := hC.2.2.1; have := ((congrArg ad (by omega : (k0 + 9) = k0 + 1 + 8)).trans (had 8 (by omega))); omega) q16) ci_X1_init q_t1_239 ⟨rfl, by decide +kernel⟩ rfl rfl rfl ⟨Nat.le_of_ble_eq_true rfl, Nat.le_of_ble_eq_true rfl⟩ hl.1 rfl (Nat.le_of_ble_eq_true rfl) (dc tbX3_init_0_k 22 rfl) ⟨Nat.le_of_ble_eq_true rfl, Nat.le_of_ble_eq_true rfl⟩ (fun H locs hC => ?_)
  refine c_put true hx hb hts inW3 tyX3 tyX3_ok nmX3 hown hK hC hinj hin (q' := (23, 3)) (setk_s) (by simp) (by simp) (Nat.lt_of_lt_of_le hak (Nat.le_add_right _ _)) rfl rfl 5 (by decide) ⟨rfl, rfl, rfl⟩ q_t2_13 rfl (fun h => by first | rfl | cases h) (ty := (.object "SheetFolder$Part")) (by decide +kernel) rfl rfl (Nat.le_of_ble_eq_true rfl) (M' := M15) rfl (fun _ _ => ⟨rfl, rfl, rfl⟩) (dc tbX3_init_0_k 23 rfl) (fun H locs hC => ?_)
  have hC := hC.eqK setk_setk
  refine lv_aload_n hx hb (dc tbX3_init_0_k 24 rfl) rfl (lv_at hl 0 rfl) ?_
  refine lv_iconst (v := 0) hx hb (dc tbX3_init_0_k 25 rfl) (by decide) ?_
  obtain ⟨M17, e18, hf⟩ := bnd_s hf
  refine c_put false hx hb hts inW3 tyX3 tyX3_ok nmX3 hown hK hC hinj hin (q' := (23, 3)) (setk_s) (by simp) (by simp) (Nat.lt_of_lt_of_le hak (Nat.le_add_right _ _)) rfl rfl 6 (by decide) ⟨rfl, rfl, rfl⟩ q_t2_14 rfl (fun h => by first | rfl | cases h) (ty := .boolean) (by decide +kernel) rfl rfl (Nat.le_of_ble_eq_true rfl) (M' := M17) (by rw [e18, wr_s]; rfl) (by rw [e18]; exact wr_o) (dc tbX3_init_0_k 26 rfl) (fun H locs hC => ?_)
  have hC := hC.eqK setk_setk
  refine lv_aload_n hx hb (dc tbX3_init_0_k 27 rfl) rfl (lv_at hl 0 rfl) ?_
  refine lv_sipush (v := 256) hx hb (dc tbX3_init_0_k 28 rfl) (by decide) ?_
  obtain ⟨M19, e20, hf⟩ := bnd_s hf
  refine c_newa (ty := .int) (n := 256) hx hb rfl q_t1_74 hts hC hinj ((congrArg ad (by omega : (k0 + 17) = k0 + 1 + 16)).trans (had 16 (by omega))) ((setk_o (by omega)).trans (hB.2.2.2.2.1)) (hK.2 0 _ rfl).2 rfl rfl ⟨by decide, by decide⟩ (Nat.le_of_ble_eq_true rfl) ⟨Nat.le_of_ble_eq_true rfl, Nat.le_of_ble_eq_true rfl⟩ e20 dX3_init_58 (fun H hC => ?_)
  refine c_put true hx hb hts inW3 tyX3 tyX3_ok nmX3 hown hK hC hinj hin (q' := (23, 4)) (setk_s) (by simp) (by simp) (Nat.lt_of_lt_of_le hak (Nat.le_add_right _ _)) rfl rfl 7 (by decide) ⟨rfl, rfl, rfl⟩ q_t2_15 rfl (fun h => by first | rfl | cases h) (ty := (.array (.int))) (by decide +kernel) rfl rfl (Nat.le_of_ble_eq_true rfl) (M' := M19) rfl (fun _ _ => ⟨rfl, rfl, rfl⟩) (dc tbX3_init_0_k 29 rfl) (fun H locs hC => ?_)
  have hC := hC.eqK setk_setk
  refine lv_aload_n hx hb (dc tbX3_init_0_k 30 rfl) rfl (lv_at hl 0 rfl) ?_
  refine lv_sipush (v := 256) hx hb (dc tbX3_init_0_k 31 rfl) (by decide) ?_
  obtain ⟨M21, e22, hf⟩ := bnd_s hf
  refine c_newa (ty := .boolean) (n := 256) hx hb rfl q_t2_48 hts hC hinj ((congrArg ad (by omega : (k0 + 18) = k0 + 1 + 17)).trans (had 17 (by omega))) ((setk_o (by omega)).trans (hB.2.2.2.2.2.1)) (hK.2 2 _ rfl).2 rfl rfl ⟨by decide, by decide⟩ (Nat.le_of_ble_eq_true rfl) ⟨Nat.le_of_ble_eq_true rfl, Nat.le_of_ble_eq_true rfl⟩ e22 dX3_init_67 (fun H hC => ?_)
  refine c_put true hx hb hts inW3 tyX3 tyX3_ok nmX3 hown hK hC hinj hin (q' := (23, 5)) (setk_s) (by simp) (by simp) (Nat.lt_of_lt_of_le hak (Nat.le_add_right _ _)) rfl rfl 8 (by decide) ⟨rfl, rfl, rfl⟩ q_t2_16 rfl (fun h => by first | rfl | cases h) (ty := (.array (.boolean))) (by decide +kernel) rfl rfl (Nat.le_of_ble_eq_true rfl) (M' := M21) rfl (fun _ _ => ⟨rfl, rfl, rfl⟩) (dc tbX3_init_0_k 32 rfl) (fun H locs hC => ?_)
  have hC := hC.eqK setk_setk
  refine lv_aload_n hx hb (dc tbX3_init_0_k 33 rfl) rfl (lv_at hl 0 rfl) ?_
  refine lv_sipush (v := 256) hx hb (dc tbX3_init_0_k 34 rfl) (by decide) ?_
  obtain ⟨M23, e24, hf⟩ := bnd_s hf
  refine c_newa (ty := .long) (n := 256) hx hb rfl q_t2_49 hts hC hinj ((congrArg ad (by omega : (k0 + 19) = k0 + 1 + 18)).trans (had 18 (by omega))) ((setk_o (by omega)).trans (hB.2.2.2.2.2.2.1)) (hK.2 3 _ rfl).2 rfl rfl ⟨by decide, by decide⟩ (Nat.le_of_ble_eq_true rfl) ⟨Nat.le_of_ble_eq_true rfl, Nat.le_of_ble_eq_true rfl⟩ e24 dX3_init_76 (fun H hC => ?_)
  refine c_put true hx hb hts inW3 tyX3 tyX3_ok nmX3 hown hK hC hinj hin (q' := (23, 6)) (setk_s) (by simp) (by simp) (Nat.lt_of_lt_of_le hak (Nat.le_add_right _ _)) rfl rfl 9 (by decide) ⟨rfl, rfl, rfl⟩ q_t2_17 rfl (fun h => by first | rfl | cases h) (ty := (.array (.long))) (by decide +kernel) rfl rfl (Nat.le_of_ble_eq_true rfl) (M' := M23) rfl (fun _ _ => ⟨rfl, rfl, rfl⟩) (dc tbX3_init_0_k 35 rfl) (fun H locs hC => ?_)
  have hC := hC.eqK setk_setk
  refine lv_aload_n hx hb (dc tbX3_init_0_k 36 rfl) rfl (lv_at hl 0 rfl) ?_
  refine lv_sipush (v := 4096) hx hb (dc tbX3_init_0_k 37 rfl) (by decide) ?_
  obtain ⟨M25, e26, hf⟩ := bnd_s hf
  refine c_newa (ty := .int) (n := 4096) hx hb rfl q_t1_74 hts hC hinj ((congrArg ad (by omega : (k0 + 20) = k0 + 1 + 19)).trans (had 19 (by omega))) ((setk_o (by omega)).trans (hB.2.2.2.2.2.2.2.1)) (hK.2 0 _ rfl).2 rfl rfl ⟨by decide, by decide⟩ (Nat.le_of_ble_eq_true rfl) ⟨Nat.le_of_ble_eq_true rfl, Nat.le_of_ble_eq_true rfl⟩ e26 dX3_init_85 (fun H hC => ?_)
  refine c_put true hx hb hts inW3 tyX3 tyX3_ok nmX3 hown hK hC hinj hin (q' := (23, 7)) (setk_s) (by simp) (by simp) (Nat.lt_of_lt_of_le hak (Nat.le_add_right _ _)) rfl rfl 10 (by decide) ⟨rfl, rfl, rfl⟩ q_t2_18 rfl (fun h => by first | rfl | cases h) (ty := (.array (.int))) (by decide +kernel) rfl rfl (Nat.le_of_ble_eq_true rfl) (M' := M25) rfl (fun _ _ => ⟨rfl, rfl, rfl⟩) (dc tbX3_init_0_k 38 rfl) (fun H locs hC => ?_)
  have hC := hC.eqK setk_setk
  refine lv_aload_n hx hb (dc tbX3_init_0_k 39 rfl) rfl (lv_at hl 0 rfl) ?_
  refine lv_sipush (v := 4096) hx hb (dc tbX3_init_1_k 0 rfl) (by decide) ?_
  obtain ⟨M27, e28, hf⟩ := bnd_s hf
  refine c_newa (ty := .int) (n := 4096) hx hb rfl q_t1_74 hts hC hinj ((congrArg ad (by omega : (k0 + 21) = k0 + 1 + 20)).trans (had 20 (by omega))) ((setk_o (by omega)).trans (hB.2.2.2.2.2.2.2.2.1)) (hK.2 0 _ rfl).2 rfl rfl ⟨by decide, by decide⟩ (Nat.le_of_ble_eq_true rfl) ⟨Nat.le_of_ble_eq_true rfl, Nat.le_of_ble_eq_true rfl⟩ e28 dX3_init_94 (fun H hC => ?_)
  refine c_put true hx hb hts inW3 tyX3 tyX3_ok nmX3 hown hK hC hinj hin (q' := (23, 8)) (setk_s) (by simp) (by simp) (Nat.lt_of_lt_of_le hak (Nat.le_add_right _ _)) rfl rfl 11 (by decide) ⟨rfl, rfl, rfl⟩ q_t2_19 rfl (fun h => by first | rfl | cases h) (ty := (.array (.int))) (by decide +kernel) rfl rfl (Nat.le_of_ble_eq_true rfl) (M' := M27) rfl (fun _ _ => ⟨rfl, rfl, rfl⟩) (dc tbX3_init_1_k 1 rfl) (fun H locs hC => ?_)
  have hC := hC.eqK setk_setk
  refine lv_aload_n hx hb (dc tbX3_init_1_k 2 rfl) rfl (lv_at hl 0 rfl) ?_
  refine lv_sipush (v := 4096) hx hb (dc tbX3_init_1_k 3 rfl) (by decide) ?_
  obtain ⟨M29, e30, hf⟩ := bnd_s hf
  refine c_newa (ty := .int) (n := 4096) hx hb rfl q_t1_74 hts hC hinj ((congrArg ad (by omega : (k0 + 22) = k0 + 1 + 21)).trans (had 21 (by omega))) ((setk_o (by omega)).trans (hB.2.2.2.2.2.2.2.2.2)) (hK.2 0 _ rfl).2 rfl rfl ⟨by decide, by decide⟩ (Nat.le_of_ble_eq_true rfl) ⟨Nat.le_of_ble_eq_true rfl, Nat.le_of_ble_eq_true rfl⟩ e30 dX3_init_103 (fun H hC => ?_)
  refine c_put true hx hb hts inW3 tyX3 tyX3_ok nmX3 hown hK hC hinj hin (q' := (23, 9)) (setk_s) (by simp) (by simp) (Nat.lt_of_lt_of_le hak (Nat.le_add_right _ _)) rfl rfl 12 (by decide) ⟨rfl, rfl, rfl⟩ q_t2_20 rfl (fun h => by first | rfl | cases h) (ty := (.array (.int))) (by decide +kernel) rfl rfl (Nat.le_of_ble_eq_true rfl) (M' := M29) rfl (fun _ _ => ⟨rfl, rfl, rfl⟩) (dc tbX3_init_1_k 4 rfl) (fun H locs hC => ?_)
  have hC := hC.eqK setk_setk
  refine lv_aload_n hx hb (dc tbX3_init_1_k 5 rfl) rfl (lv_at hl 0 rfl) ?_
  have hC := (hC.as_kind (q' := (3, 0)) setk_s (by simp) (by simp) rfl).eqK (setk_setk.trans (setk_id hB.1))
  have hkd : kPlanner (kdN KF ad (s.heap.size + 22)) k0 := (kPlanner_congr hB (fun j hj => kdN_in (ltB hak had (by omega) hj)))
  obtain ⟨M31, _, q32, hf⟩ := cal_s hf
  refine c_callV hx hb hml hown hts hK hsx hC hinj (tX3_forgetSteps l hkd q32 H.size) cv_X3_forgetSteps q_t2_0 rfl rfl ⟨Nat.le_of_ble_eq_true rfl, Nat.le_of_ble_eq_true rfl⟩ hkd.1 (by simp) rfl rfl hl.1 (Nat.le_of_ble_eq_true rfl) (dc tbX3_init_1_k 6 rfl) ⟨Nat.le_of_ble_eq_true rfl, Nat.le_of_ble_eq_true rfl⟩ (fun H locs hC => ?_)
  cases hf
  exact c_ret hx hb hr hlk hC (dc tbX3_init_1_k 7 rfl)
theorem ci_X3_init : Cond.initialized yX3_init.cls ∈ WA ∧ Cond.instanceMethod yX3_init ∈ WA ∧ Cond.code yX3_init cX3_init 1 none ∈ WA := ⟨q_t1_6, q_t1_233, q_t1_234⟩
def mX7_init (k0 : Nat) (M : Mem) : Option (Mem × Unit) := bnd (zr M (k0 + 1)) (fun M1 => bnd (zr M1 (k0 + 2)) (fun M3 => bnd (zr M3 (k0 + 3)) (fun M5 => bnd (zr M5 (k0 + 4)) (fun M7 => bnd (zr M7 (k0 + 5)) (fun M9 => bnd (wr M9 k0 9 (-1 : Int32)) (fun M11 => bnd (zr M11 (k0 + 6)) (fun M13 => bnd (zr M13 (k0 + 7)) (fun M15 => bnd (zr M15 (k0 + 8)) (fun M17 => bnd (zr M17 (k0 + 9)) (fun M19 => bnd (zr M19 (k0 + 10)) (fun M21 => bnd (zr M21 (k0 + 11)) (fun M23 => bnd (zr M23 (k0 + 12)) (fun M25 => bnd (zr M25 (k0 + 13)) (fun M27 => bnd (zr M27 (k0 + 14)) (fun M29 => bnd (zr M29 (k0 + 15)) (fun M31 => bnd (zr M31 (k0 + 16)) (fun M33 => cal (mX7_reset k0 M33) (fun M35 _ => cal (mX7_copy (k0 + 2) (k0 + 1) M35) (fun M37 _ => some (M37, ()))))))))))))))))))))
set_option maxHeartbeats 4000000 in
set_option maxRecDepth 100000 in
theorem tX7_init (l : Launch) {G : GT} {KF : Nat → Nat × Nat} {ad : Nat → Nat} {N : Nat} {k0 : Nat} (hinj : ∀ i j, ad i = ad j → i = j) (hB : kModel KF k0) (had : ∀ j, j < 16 → ad (k0 + 1 + j) = N + j) (hak : ad k0 < N) {M MO : Mem} (hf : mX7_init k0 M = some (MO, ())) : Met l yX7_init (Cond.code yX7_init cX7_init 1 none :: WA) (rmO 2 16 19282) (Pk G (setk KF k0 (27, 0)) ad N [.ref (ad k0)] M) (Qk G (setk KF k0 (27, 0)) KF ad N 16 MO) 16 19282 (AS (setk KF k0 (27, 0)) ad N) := by
  refine c_body (own := RX7) (by decide) rfl rfl hinj ?_ (Nat.le_of_ble_eq_true rfl)
  intro p e s m args below meth c C hsz H ls hC hl
  subst hsz
  obtain ⟨hx, hb, hml, hr, hown, hts, hlk, hK, hsx, hex, hin, hinj⟩ := id C
  have hl : lv_has ls 1 [(0, .ref (ad k0))] := hl
  unfold mX7_init at hf
  refine lv_aload_n hx hb (dc tbX7_init_0_k 0 rfl) rfl (lv_at hl 0 rfl) ?_
  refine W.objInit hx hb hown (hts _ q_t7_64) (hts _ q_t1_35) (hts _ q_t1_36) rfl (by rw [hml]; exact hl.1) rfl (dc tbX7_init_0_k 1 rfl) (Nat.le_of_ble_eq_true rfl) (Nat.le_of_ble_eq_true rfl) ?_
  refine W.eq (g2 := F0 m 4 ls []) rfl ?_
  refine lv_aload_n hx hb (dc tbX7_init_0_k 2 rfl) rfl (lv_at hl 0 rfl) ?_
  refine lv_bipush (v := 86) hx hb (dc tbX7_init_0_k 3 rfl) (by decide) ?_
  obtain ⟨M1, e2, hf⟩ := bnd_s hf
  refine c_newa (ty := .int) (n := 86) hx hb rfl q_t1_74 hts hC hinj ((congrArg ad (by omega : (k0 + 1) = k0 + 1 + 0)).trans (had 0 (by omega))) ((setk_o (by omega)).trans (hB.2.1)) (hK.2 0 _ rfl).2 rfl rfl ⟨by decide, by decide⟩ (Nat.le_of_ble_eq_true rfl) ⟨Nat.le_of_ble_eq_true rfl, Nat.le_of_ble_eq_true rfl⟩ e2 dX7_init_7 (fun H hC => ?_)
  refine c_put true hx hb hts inW7 tyX7 tyX7_ok nmX7 hown hK hC hinj hin (q' := (27, 1)) (setk_s) (by simp) (by simp) (Nat.lt_of_lt_of_le hak (Nat.le_add_right _ _)) rfl rfl 0 (by decide) ⟨rfl, rfl, rfl⟩ q_t7_76 rfl (fun h => by first | rfl | cases h) (ty := (.array (.int))) (by decide +kernel) rfl rfl (Nat.le_of_ble_eq_true rfl) (M' := M1) rfl (fun _ _ => ⟨rfl, rfl, rfl⟩) (dc tbX7_init_0_k 4 rfl) (fun H locs hC => ?_)
  have hC := hC.eqK setk_setk
  refine lv_aload_n hx hb (dc tbX7_init_0_k 5 rfl) rfl (lv_at hl 0 rfl) ?_
  refine lv_bipush (v := 86) hx hb (dc tbX7_init_0_k 6 rfl) (by decide) ?_
  obtain ⟨M3, e4, hf⟩ := bnd_s hf
  refine c_newa (ty := .int) (n := 86) hx hb rfl q_t1_74 hts hC hinj ((congrArg ad (by omega : (k0 + 2) = k0 + 1 + 1)).trans (had 1 (by omega))) ((setk_o (by omega)).trans (hB.2.2.1)) (hK.2 0 _ rfl).2 rfl rfl ⟨by decide, by decide⟩ (Nat.le_of_ble_eq_true rfl) ⟨Nat.le_of_ble_eq_true rfl, Nat.le_of_ble_eq_true rfl⟩ e4 dX7_init_15 (fun H hC => ?_)
  refine c_put true hx hb hts inW7 tyX7 tyX7_ok nmX7 hown hK hC hinj hin (q' := (27, 2)) (setk_s) (by simp) (by simp) (Nat.lt_of_lt_of_le hak (Nat.le_add_right _ _)) rfl rfl 1 (by decide) ⟨rfl, rfl, rfl⟩ q_t7_77 rfl (fun h => by first | rfl | cases h) (ty := (.array (.int))) (by decide +kernel) rfl rfl (Nat.le_of_ble_eq_true rfl) (M' := M3) rfl (fun _ _ => ⟨rfl, rfl, rfl⟩) (dc tbX7_init_0_k 7 rfl) (fun H locs hC => ?_)
  have hC := hC.eqK setk_setk
  refine lv_aload_n hx hb (dc tbX7_init_0_k 8 rfl) rfl (lv_at hl 0 rfl) ?_
  refine lv_bipush (v := 86) hx hb (dc tbX7_init_0_k 9 rfl) (by decide) ?_
  obtain ⟨M5, e6, hf⟩ := bnd_s hf
  refine c_newa (ty := .int) (n := 86) hx hb rfl q_t1_74 hts hC hinj ((congrArg ad (by omega : (k0 + 3) = k0 + 1 + 2)).trans (had 2 (by omega))) ((setk_o (by omega)).trans (hB.2.2.2.1)) (hK.2 0 _ rfl).2 rfl rfl ⟨by decide, by decide⟩ (Nat.le_of_ble_eq_true rfl) ⟨Nat.le_of_ble_eq_true rfl, Nat.le_of_ble_eq_true rfl⟩ e6 dX7_init_23 (fun H hC => ?_)
  refine c_put true hx hb hts inW7 tyX7 tyX7_ok nmX7 hown hK hC hinj hin (q' := (27, 3)) (setk_s) (by simp) (by simp) (Nat.lt_of_lt_of_le hak (Nat.le_add_right _ _)) rfl rfl 2 (by decide) ⟨rfl, rfl, rfl⟩ q_t7_78 rfl (fun h => by first | rfl | cases h) (ty := (.array (.int))) (by decide +kernel) rfl rfl (Nat.le_of_ble_eq_true rfl) (M' := M5) rfl (fun _ _ => ⟨rfl, rfl, rfl⟩) (dc tbX7_init_0_k 10 rfl) (fun H locs hC => ?_)
  have hC := hC.eqK setk_setk
  refine lv_aload_n hx hb (dc tbX7_init_0_k 11 rfl) rfl (lv_at hl 0 rfl) ?_
  refine lv_sipush (v := 860) hx hb (dc tbX7_init_0_k 12 rfl) (by decide) ?_
  obtain ⟨M7, e8, hf⟩ := bnd_s hf
  refine c_newa (ty := .int) (n := 860) hx hb rfl q_t1_74 hts hC hinj ((congrArg ad (by omega : (k0 + 4) = k0 + 1 + 3)).trans (had 3 (by omega))) ((setk_o (by omega)).trans (hB.2.2.2.2.1)) (hK.2 0 _ rfl).2 rfl rfl ⟨by decide, by decide⟩ (Nat.le_of_ble_eq_true rfl) ⟨Nat.le_of_ble_eq_true rfl, Nat.le_of_ble_eq_true rfl⟩ e8 dX7_init_32 (fun H hC => ?_)
  refine c_put true hx hb hts inW7 tyX7 tyX7_ok nmX7 hown hK hC hinj hin (q' := (27, 4)) (setk_s) (by simp) (by simp) (Nat.lt_of_lt_of_le hak (Nat.le_add_right _ _)) rfl rfl 3 (by decide) ⟨rfl, rfl, rfl⟩ q_t7_79 rfl (fun h => by first | rfl | cases h) (ty := (.array (.int))) (by decide +kernel) rfl rfl (Nat.le_of_ble_eq_true rfl) (M' := M7) rfl (fun _ _ => ⟨rfl, rfl, rfl⟩) (dc tbX7_init_0_k 13 rfl) (fun H locs hC => ?_)
  have hC := hC.eqK setk_setk
  refine lv_aload_n hx hb (dc tbX7_init_0_k 14 rfl) rfl (lv_at hl 0 rfl) ?_
  refine lv_sipush (v := 600) hx hb (dc tbX7_init_0_k 15 rfl) (by decide) ?_
  obtain ⟨M9, e10, hf⟩ := bnd_s hf
  refine c_newa (ty := .int) (n := 600) hx hb rfl q_t1_74 hts hC hinj ((congrArg ad (by omega : (k0 + 5) = k0 + 1 + 4)).trans (had 4 (by omega))) ((setk_o (by omega)).trans (hB.2.2.2.2.2.1)) (hK.2 0 _ rfl).2 rfl rfl ⟨by decide, by decide⟩ (Nat.le_of_ble_eq_true rfl) ⟨Nat.le_of_ble_eq_true rfl, Nat.le_of_ble_eq_true rfl⟩ e10 dX7_init_41 (fun H hC => ?_)
  refine c_put true hx hb hts inW7 tyX7 tyX7_ok nmX7 hown hK hC hinj hin (q' := (27, 5)) (setk_s) (by simp) (by simp) (Nat.lt_of_lt_of_le hak (Nat.le_add_right _ _)) rfl rfl 6 (by decide) ⟨rfl, rfl, rfl⟩ q_t7_82 rfl (fun h => by first | rfl | cases h) (ty := (.array (.int))) (by decide +kernel) rfl rfl (Nat.le_of_ble_eq_true rfl) (M' := M9) rfl (fun _ _ => ⟨rfl, rfl, rfl⟩) (dc tbX7_init_0_k 16 rfl) (fun H locs hC => ?_)
  have hC := hC.eqK setk_setk
  refine lv_aload_n hx hb (dc tbX7_init_0_k 17 rfl) rfl (lv_at hl 0 rfl) ?_
  refine lv_iconst (v := -1) hx hb (dc tbX7_init_0_k 18 rfl) (by decide) ?_
  obtain ⟨M11, e12, hf⟩ := bnd_s hf
  refine c_put false hx hb hts inW7 tyX7 tyX7_ok nmX7 hown hK hC hinj hin (q' := (27, 5)) (setk_s) (by simp) (by simp) (Nat.lt_of_lt_of_le hak (Nat.le_add_right _ _)) rfl rfl 9 (by decide) ⟨rfl, rfl, rfl⟩ q_t7_85 rfl (fun h => by first | rfl | cases h) (ty := .int) (by decide +kernel) rfl rfl (Nat.le_of_ble_eq_true rfl) (M' := M11) (by rw [e12, wr_s]; rfl) (by rw [e12]; exact wr_o) (dc tbX7_init_0_k 19 rfl) (fun H locs hC => ?_)
  have hC := hC.eqK setk_setk
  refine lv_aload_n hx hb (dc tbX7_init_0_k 20 rfl) rfl (lv_at hl 0 rfl) ?_
  refine lv_bipush (v := 9) hx hb (dc tbX7_init_0_k 21 rfl) (by decide) ?_
  obtain ⟨M13, e14, hf⟩ := bnd_s hf
  refine c_newa (ty := .int) (n := 9) hx hb rfl q_t1_74 hts hC hinj ((congrArg ad (by omega : (k0 + 6) = k0 + 1 + 5)).trans (had 5 (by omega))) ((setk_o (by omega)).trans (hB.2.2.2.2.2.2.1)) (hK.2 0 _ rfl).2 rfl rfl ⟨by decide, by decide⟩ (Nat.le_of_ble_eq_true rfl) ⟨Nat.le_of_ble_eq_true rfl, Nat.le_of_ble_eq_true rfl⟩ e14 dX7_init_54 (fun H hC => ?_)
  refine c_put true hx hb hts inW7 tyX7 tyX7_ok nmX7 hown hK hC hinj hin (q' := (27, 6)) (setk_s) (by simp) (by simp) (Nat.lt_of_lt_of_le hak (Nat.le_add_right _ _)) rfl rfl 17 (by decide) ⟨rfl, rfl, rfl⟩ q_t7_93 rfl (fun h => by first | rfl | cases h) (ty := (.array (.int))) (by decide +kernel) rfl rfl (Nat.le_of_ble_eq_true rfl) (M' := M13) rfl (fun _ _ => ⟨rfl, rfl, rfl⟩) (dc tbX7_init_0_k 22 rfl) (fun H locs hC => ?_)
  have hC := hC.eqK setk_setk
  refine lv_aload_n hx hb (dc tbX7_init_0_k 23 rfl) rfl (lv_at hl 0 rfl) ?_
  refine lv_bipush (v := 9) hx hb (dc tbX7_init_0_k 24 rfl) (by decide) ?_
  obtain ⟨M15, e16, hf⟩ := bnd_s hf
  refine c_newa (ty := .int) (n := 9) hx hb rfl q_t1_74 hts hC hinj ((congrArg ad (by omega : (k0 + 7) = k0 + 1 + 6)).trans (had 6 (by omega))) ((setk_o (by omega)).trans (hB.2.2.2.2.2.2.2.1)) (hK.2 0 _ rfl).2 rfl rfl ⟨by decide, by decide⟩ (Nat.le_of_ble_eq_true rfl) ⟨Nat.le_of_ble_eq_true rfl, Nat.le_of_ble_eq_true rfl⟩ e16 dX7_init_62 (fun H hC => ?_)
  refine c_put true hx hb hts inW7 tyX7 tyX7_ok nmX7 hown hK hC hinj hin (q' := (27, 7)) (setk_s) (by simp) (by simp) (Nat.lt_of_lt_of_le hak (Nat.le_add_right _ _)) rfl rfl 18 (by decide) ⟨rfl, rfl, rfl⟩ q_t7_94 rfl (fun h => by first | rfl | cases h) (ty := (.array (.int))) (by decide +kernel) rfl rfl (Nat.le_of_ble_eq_true rfl) (M' := M15) rfl (fun _ _ => ⟨rfl, rfl, rfl⟩) (dc tbX7_init_0_k 25 rfl) (fun H locs hC => ?_)
  have hC := hC.eqK setk_setk
  refine lv_aload_n hx hb (dc tbX7_init_0_k 26 rfl) rfl (lv_at hl 0 rfl) ?_
  refine lv_bipush (v := 9) hx hb (dc tbX7_init_0_k 27 rfl) (by decide) ?_
  obtain ⟨M17, e18, hf⟩ := bnd_s hf
  refine c_newa (ty := .int) (n := 9) hx hb rfl q_t1_74 hts hC hinj ((congrArg ad (by omega : (k0 + 8) = k0 + 1 + 7)).trans (had 7 (by omega))) ((setk_o (by omega)).trans (hB.2.2.2.2.2.2.2.2.1)) (hK.2 0 _ rfl).2 rfl rfl ⟨by decide, by decide⟩ (Nat.le_of_ble_eq_true rfl) ⟨Nat.le_of_ble_eq_true rfl, Nat.le_of_ble_eq_true rfl⟩ e18 dX7_init_70 (fun H hC => ?_)
  refine c_put true hx hb hts inW7 tyX7 tyX7_ok nmX7 hown hK hC hinj hin (q' := (27, 8)) (setk_s) (by simp) (by simp) (Nat.lt_of_lt_of_le hak (Nat.le_add_right _ _)) rfl rfl 19 (by decide) ⟨rfl, rfl, rfl⟩ q_t7_95 rfl (fun h => by first | rfl | cases h) (ty := (.array (.int))) (by decide +kernel) rfl rfl (Nat.le_of_ble_eq_true rfl) (M' := M17) rfl (fun _ _ => ⟨rfl, rfl, rfl⟩) (dc tbX7_init_0_k 28 rfl) (fun H locs hC => ?_)
  have hC := hC.eqK setk_setk
  refine lv_aload_n hx hb (dc tbX7_init_0_k 29 rfl) rfl (lv_at hl 0 rfl) ?_
  refine lv_bipush (v := 9) hx hb (dc tbX7_init_0_k 30 rfl) (by decide) ?_
  obtain ⟨M19, e20, hf⟩ := bnd_s hf
  refine c_newa (ty := .int) (n := 9) hx hb rfl q_t1_74 hts hC hinj ((congrArg ad (by omega : (k0 + 9) = k0 + 1 + 8)).trans (had 8 (by omega))) ((setk_o (by omega)).trans (hB.2.2.2.2.2.2.2.2.2.1)) (hK.2 0 _ rfl).2 rfl rfl ⟨by decide, by decide⟩ (Nat.le_of_ble_eq_true rfl) ⟨Nat.le_of_ble_eq_true rfl, Nat.le_of_ble_eq_true rfl⟩ e20 dX7_init_78 (fun H hC => ?_)
  refine c_put true hx hb hts inW7 tyX7 tyX7_ok nmX7 hown hK hC hinj hin (q' := (27, 9)) (setk_s) (by simp) (by simp) (Nat.lt_of_lt_of_le hak (Nat.le_add_right _ _)) rfl rfl 20 (by decide) ⟨rfl, rfl, rfl⟩ q_t7_96 rfl (fun h => by first | rfl | cases h) (ty := (.array (.int))) (by decide +kernel) rfl rfl (Nat.le_of_ble_eq_true rfl) (M' := M19) rfl (fun _ _ => ⟨rfl, rfl, rfl⟩) (dc tbX7_init_0_k 31 rfl) (fun H locs hC => ?_)
  have hC := hC.eqK setk_setk
  refine lv_aload_n hx hb (dc tbX7_init_0_k 32 rfl) rfl (lv_at hl 0 rfl) ?_
  refine lv_sipush (v := 4096) hx hb (dc tbX7_init_0_k 33 rfl) (by decide) ?_
  obtain ⟨M21, e22, hf⟩ := bnd_s hf
  refine c_newa (ty := .boolean) (n := 4096) hx hb rfl q_t2_48 hts hC hinj ((congrArg ad (by omega : (k0 + 10) = k0 + 1 + 9)).trans (had 9 (by omega))) ((setk_o (by omega)).trans (hB.2.2.2.2.2.2.2.2.2.2.1)) (hK.2 2 _ rfl).2 rfl rfl ⟨by decide, by decide⟩ (Nat.le_of_ble_eq_true rfl) ⟨Nat.le_of_ble_eq_true rfl, Nat.le_of_ble_eq_true rfl⟩ e22 dX7_init_87 (fun H hC => ?_)
  refine c_put true hx hb hts inW7 tyX7 tyX7_ok nmX7 hown hK hC hinj hin (q' := (27, 10)) (setk_s) (by simp) (by simp) (Nat.lt_of_lt_of_le hak (Nat.le_add_right _ _)) rfl rfl 23 (by decide) ⟨rfl, rfl, rfl⟩ q_t7_99 rfl (fun h => by first | rfl | cases h) (ty := (.array (.boolean))) (by decide +kernel) rfl rfl (Nat.le_of_ble_eq_true rfl) (M' := M21) rfl (fun _ _ => ⟨rfl, rfl, rfl⟩) (dc tbX7_init_0_k 34 rfl) (fun H locs hC => ?_)
  have hC := hC.eqK setk_setk
  refine lv_aload_n hx hb (dc tbX7_init_0_k 35 rfl) rfl (lv_at hl 0 rfl) ?_
  refine lv_sipush (v := 4096) hx hb (dc tbX7_init_0_k 36 rfl) (by decide) ?_
  obtain ⟨M23, e24, hf⟩ := bnd_s hf
  refine c_newa (ty := .int) (n := 4096) hx hb rfl q_t1_74 hts hC hinj ((congrArg ad (by omega : (k0 + 11) = k0 + 1 + 10)).trans (had 10 (by omega))) ((setk_o (by omega)).trans (hB.2.2.2.2.2.2.2.2.2.2.2.1)) (hK.2 0 _ rfl).2 rfl rfl ⟨by decide, by decide⟩ (Nat.le_of_ble_eq_true rfl) ⟨Nat.le_of_ble_eq_true rfl, Nat.le_of_ble_eq_true rfl⟩ e24 dX7_init_96 (fun H hC => ?_)
  refine c_put true hx hb hts inW7 tyX7 tyX7_ok nmX7 hown hK hC hinj hin (q' := (27, 11)) (setk_s) (by simp) (by simp) (Nat.lt_of_lt_of_le hak (Nat.le_add_right _ _)) rfl rfl 24 (by decide) ⟨rfl, rfl, rfl⟩ q_t7_100 rfl (fun h => by first | rfl | cases h) (ty := (.array (.int))) (by decide +kernel) rfl rfl (Nat.le_of_ble_eq_true rfl) (M' := M23) rfl (fun _ _ => ⟨rfl, rfl, rfl⟩) (dc tbX7_init_0_k 37 rfl) (fun H locs hC => ?_)
  have hC := hC.eqK setk_setk
  refine lv_aload_n hx hb (dc tbX7_init_0_k 38 rfl) rfl (lv_at hl 0 rfl) ?_
  refine lv_sipush (v := 256) hx hb (dc tbX7_init_0_k 39 rfl) (by decide) ?_
  obtain ⟨M25, e26, hf⟩ := bnd_s hf
  refine c_newa (ty := .long) (n := 256) hx hb rfl q_t2_49 hts hC hinj ((congrArg ad (by omega : (k0 + 12) = k0 + 1 + 11)).trans (had 11 (by omega))) ((setk_o (by omega)).trans (hB.2.2.2.2.2.2.2.2.2.2.2.2.1)) (hK.2 3 _ rfl).2 rfl rfl ⟨by decide, by decide⟩ (Nat.le_of_ble_eq_true rfl) ⟨Nat.le_of_ble_eq_true rfl, Nat.le_of_ble_eq_true rfl⟩ e26 dX7_init_105 (fun H hC => ?_)
  refine c_put true hx hb hts inW7 tyX7 tyX7_ok nmX7 hown hK hC hinj hin (q' := (27, 12)) (setk_s) (by simp) (by simp) (Nat.lt_of_lt_of_le hak (Nat.le_add_right _ _)) rfl rfl 25 (by decide) ⟨rfl, rfl, rfl⟩ q_t7_101 rfl (fun h => by first | rfl | cases h) (ty := (.array (.long))) (by decide +kernel) rfl rfl (Nat.le_of_ble_eq_true rfl) (M' := M25) rfl (fun _ _ => ⟨rfl, rfl, rfl⟩) (dc tbX7_init_1_k 0 rfl) (fun H locs hC => ?_)
  have hC := hC.eqK setk_setk
  refine lv_aload_n hx hb (dc tbX7_init_1_k 1 rfl) rfl (lv_at hl 0 rfl) ?_
  refine lv_sipush (v := 4352) hx hb (dc tbX7_init_1_k 2 rfl) (by decide) ?_
  obtain ⟨M27, e28, hf⟩ := bnd_s hf
  refine c_newa (ty := .int) (n := 4352) hx hb rfl q_t1_74 hts hC hinj ((congrArg ad (by omega : (k0 + 13) = k0 + 1 + 12)).trans (had 12 (by omega))) ((setk_o (by omega)).trans (hB.2.2.2.2.2.2.2.2.2.2.2.2.2.1)) (hK.2 0 _ rfl).2 rfl rfl ⟨by decide, by decide⟩ (Nat.le_of_ble_eq_true rfl) ⟨Nat.le_of_ble_eq_true rfl, Nat.le_of_ble_eq_true rfl⟩ e28 dX7_init_114 (fun H hC => ?_)
  refine c_put true hx hb hts inW7 tyX7 tyX7_ok nmX7 hown hK hC hinj hin (q' := (27, 13)) (setk_s) (by simp) (by simp) (Nat.lt_of_lt_of_le hak (Nat.le_add_right _ _)) rfl rfl 26 (by decide) ⟨rfl, rfl, rfl⟩ q_t7_102 rfl (fun h => by first | rfl | cases h) (ty := (.array (.int))) (by decide +kernel) rfl rfl (Nat.le_of_ble_eq_true rfl) (M' := M27) rfl (fun _ _ => ⟨rfl, rfl, rfl⟩) (dc tbX7_init_1_k 3 rfl) (fun H locs hC => ?_)
  have hC := hC.eqK setk_setk
  refine lv_aload_n hx hb (dc tbX7_init_1_k 4 rfl) rfl (lv_at hl 0 rfl) ?_
  refine lv_sipush (v := 4352) hx hb (dc tbX7_init_1_k 5 rfl) (by decide) ?_
  obtain ⟨M29, e30, hf⟩ := bnd_s hf
  refine c_newa (ty := .int) (n := 4352) hx hb rfl q_t1_74 hts hC hinj ((congrArg ad (by omega : (k0 + 14) = k0 + 1 + 13)).trans (had 13 (by omega))) ((setk_o (by omega)).trans (hB.2.2.2.2.2.2.2.2.2.2.2.2.2.2.1)) (hK.2 0 _ rfl).2 rfl rfl ⟨by decide, by decide⟩ (Nat.le_of_ble_eq_true rfl) ⟨Nat.le_of_ble_eq_true rfl, Nat.le_of_ble_eq_true rfl⟩ e30 dX7_init_123 (fun H hC => ?_)
  refine c_put true hx hb hts inW7 tyX7 tyX7_ok nmX7 hown hK hC hinj hin (q' := (27, 14)) (setk_s) (by simp) (by simp) (Nat.lt_of_lt_of_le hak (Nat.le_add_right _ _)) rfl rfl 27 (by decide) ⟨rfl, rfl, rfl⟩ q_t7_103 rfl (fun h => by first | rfl | cases h) (ty := (.array (.int))) (by decide +kernel) rfl rfl (Nat.le_of_ble_eq_true rfl) (M' := M29) rfl (fun _ _ => ⟨rfl, rfl, rfl⟩) (dc tbX7_init_1_k 6 rfl) (fun H locs hC => ?_)
  have hC := hC.eqK setk_setk
  refine lv_aload_n hx hb (dc tbX7_init_1_k 7 rfl) rfl (lv_at hl 0 rfl) ?_
  refine lv_sipush (v := 256) hx hb (dc tbX7_init_1_k 8 rfl) (by decide) ?_
  obtain ⟨M31, e32, hf⟩ := bnd_s hf
  refine c_newa (ty := .boolean) (n := 256) hx hb rfl q_t2_48 hts hC hinj ((congrArg ad (by omega : (k0 + 15) = k0 + 1 + 14)).trans (had 14 (by omega))) ((setk_o (by omega)).trans (hB.2.2.2.2.2.2.2.2.2.2.2.2.2.2.2.1)) (hK.2 2 _ rfl).2 rfl rfl ⟨by decide, by decide⟩ (Nat.le_of_ble_eq_true rfl) ⟨Nat.le_of_ble_eq_true rfl, Nat.le_of_ble_eq_true rfl⟩ e32 dX7_init_132 (fun H hC => ?_)
  refine c_put true hx hb hts inW7 tyX7 tyX7_ok nmX7 hown hK hC hinj hin (q' := (27, 15)) (setk_s) (by simp) (by simp) (Nat.lt_of_lt_of_le hak (Nat.le_add_right _ _)) rfl rfl 28 (by decide) ⟨rfl, rfl, rfl⟩ q_t7_104 rfl (fun h => by first | rfl | cases h) (ty := (.array (.boolean))) (by decide +kernel) rfl rfl (Nat.le_of_ble_eq_true rfl) (M' := M31) rfl (fun _ _ => ⟨rfl, rfl, rfl⟩) (dc tbX7_init_1_k 9 rfl) (fun H locs hC => ?_)
  have hC := hC.eqK setk_setk
  refine lv_aload_n hx hb (dc tbX7_init_1_k 10 rfl) rfl (lv_at hl 0 rfl) ?_
  refine lv_bipush (v := 120) hx hb (dc tbX7_init_1_k 11 rfl) (by decide) ?_
  obtain ⟨M33, e34, hf⟩ := bnd_s hf
  refine c_newa (ty := .int) (n := 120) hx hb rfl q_t1_74 hts hC hinj ((congrArg ad (by omega : (k0 + 16) = k0 + 1 + 15)).trans (had 15 (by omega))) ((setk_o (by omega)).trans (hB.2.2.2.2.2.2.2.2.2.2.2.2.2.2.2.2)) (hK.2 0 _ rfl).2 rfl rfl ⟨by decide, by decide⟩ (Nat.le_of_ble_eq_true rfl) ⟨Nat.le_of_ble_eq_true rfl, Nat.le_of_ble_eq_true rfl⟩ e34 dX7_init_140 (fun H hC => ?_)
  refine c_put true hx hb hts inW7 tyX7 tyX7_ok nmX7 hown hK hC hinj hin (q' := (27, 16)) (setk_s) (by simp) (by simp) (Nat.lt_of_lt_of_le hak (Nat.le_add_right _ _)) rfl rfl 29 (by decide) ⟨rfl, rfl, rfl⟩ q_t7_105 rfl (fun h => by first | rfl | cases h) (ty := (.array (.int))) (by decide +kernel) rfl rfl (Nat.le_of_ble_eq_true rfl) (M' := M33) rfl (fun _ _ => ⟨rfl, rfl, rfl⟩) (dc tbX7_init_1_k 12 rfl) (fun H locs hC => ?_)
  have hC := hC.eqK setk_setk
  refine lv_aload_n hx hb (dc tbX7_init_1_k 13 rfl) rfl (lv_at hl 0 rfl) ?_
  have hC := (hC.as_kind (q' := (7, 0)) setk_s (by simp) (by simp) rfl).eqK (setk_setk.trans (setk_id hB.1))
  have hkd : kModel (kdN KF ad (s.heap.size + 16)) k0 := (kModel_congr hB (fun j hj => kdN_in (ltB hak had (by omega) hj)))
  obtain ⟨M35, _, q36, hf⟩ := cal_s hf
  refine c_callV hx hb hml hown hts hK hsx hC hinj (tX7_reset l hkd q36 H.size) cv_X7_reset q_t7_65 rfl rfl ⟨Nat.le_of_ble_eq_true rfl, Nat.le_of_ble_eq_true rfl⟩ hkd.1 (by simp) rfl rfl hl.1 (Nat.le_of_ble_eq_true rfl) (dc tbX7_init_1_k 14 rfl) ⟨Nat.le_of_ble_eq_true rfl, Nat.le_of_ble_eq_true rfl⟩ (fun H locs hC => ?_)
  refine lv_aload_n hx hb (dc tbX7_init_1_k 15 rfl) rfl (lv_at hl 0 rfl) ?_
  refine g_get hx hb hts inW7 hown hK hC.inv ((kdN_in (Nat.lt_of_lt_of_le hak (Nat.le_add_right _ _))).trans (hB.1)) (by simp) rfl rfl 1 (by decide) ⟨rfl, rfl, rfl⟩ q_t7_77 rfl (dc tbX7_init_1_k 16 rfl) ?_
  refine lv_aload_n hx hb (dc tbX7_init_1_k 17 rfl) rfl (lv_at hl 0 rfl) ?_
  refine g_get hx hb hts inW7 hown hK hC.inv ((kdN_in (Nat.lt_of_lt_of_le hak (Nat.le_add_right _ _))).trans (hB.1)) (by simp) rfl rfl 0 (by decide) ⟨rfl, rfl, rfl⟩ q_t7_76 rfl (dc tbX7_init_1_k 18 rfl) ?_
  have hkd : kModel (kdN KF ad (s.heap.size + 16)) k0 := (kModel_congr hB (fun j hj => kdN_in (ltB hak had (by omega) hj)))
  obtain ⟨M37, _, q38, hf⟩ := cal_s hf
  refine c_callS hx hb hml hown hts hK hsx hC hinj (tX7_copy l (k0 := (k0 + 2)) (k1 := (k0 + 1)) hkd.2.2.1 hkd.2.1 q38 H.size) cs_X7_copy q_t7_73 rfl rfl ⟨Nat.le_of_ble_eq_true rfl, Nat.le_of_ble_eq_true rfl⟩ rfl hl.1 rfl (Nat.le_of_ble_eq_true rfl) (dc tbX7_init_1_k 19 rfl) ⟨Nat.le_of_ble_eq_true rfl, Nat.le_of_ble_eq_true rfl⟩ (fun H locs hC => ?_)
  cases hf
  exact c_ret hx hb hr hlk hC (dc tbX7_init_1_k 20 rfl)
theorem ci_X7_init : Cond.initialized yX7_init.cls ∈ WA ∧ Cond.instanceMethod yX7_init ∈ WA ∧ Cond.code yX7_init cX7_init 1 none ∈ WA := ⟨q_t1_11, q_t7_62, q_t7_63⟩
theorem inWJ4 : ∀ w ∈ u_ws RJ4 TJ4 4, w ∈ WA := wa_f (List.forall_mem_cons.mpr ⟨q_t2_73, List.forall_mem_cons.mpr ⟨q_t2_75, List.forall_mem_cons.mpr ⟨q_t2_77, List.forall_mem_cons.mpr ⟨q_t2_79, fun _ h => absurd h List.not_mem_nil⟩⟩⟩⟩) _ rfl
def mJ5_init_d00df (k0 : Nat) (M : Mem) : Option (Mem × Unit) := bnd (zr M (k0 + 1)) (fun M1 => bnd (wr M1 k0 1 (0 : Int32)) (fun M3 => chk (decide (rd M3 k0 0 = 0)) (some (M3, ()))))
set_option maxHeartbeats 4000000 in
set_option maxRecDepth 100000 in
theorem tJ5_init_d00df (l : Launch) {G : GT} {KF : Nat → Nat × Nat} {ad : Nat → Nat} {N : Nat} {k0 : Nat} (hinj : ∀ i j, ad i = ad j → i = j) (hB : kSB KF k0) (had : ∀ j, j < 1 → ad (k0 + 1 + j) = N + j) (hak : ad k0 < N) {M MO : Mem} (hf : mJ5_init_d00df k0 M = some (MO, ())) : Met l yJ5_init_d00df (Cond.code yJ5_init_d00df cJ5_init_d00df 2 none :: WA) (rmO 0 1 16) (Pk G (setk KF k0 (29, 0)) ad N [.ref (ad k0), .int (16 : Int32)] M) (Qk G (setk KF k0 (29, 0)) KF ad N 1 MO) 1 16 (AS (setk KF k0 (29, 0)) ad N) := by
  refine c_body (own := RJ5) (by decide) rfl rfl hinj ?_ (Nat.le_of_ble_eq_true rfl)
  intro p e s m args below meth c C hsz H ls hC hl
  subst hsz
  obtain ⟨hx, hb, hml, hr, hown, hts, hlk, hK, hsx, hex, hin, hinj⟩ := id C
  have hl : lv_has ls 2 [(0, .ref (ad k0)), (1, .int (16 : Int32))] := hl
  unfold mJ5_init_d00df at hf
  refine lv_aload_n hx hb (dc tbJ5_init_d00df_k 0 rfl) rfl (lv_at hl 0 rfl) ?_
  refine W.objInit hx hb hown (hts _ q_t2_58) (hts _ q_t1_35) (hts _ q_t1_36) rfl (by rw [hml]; exact hl.1) rfl (dc tbJ5_init_d00df_k 1 rfl) (Nat.le_of_ble_eq_true rfl) (Nat.le_of_ble_eq_true rfl) ?_
  refine W.eq (g2 := F0 m 4 ls []) rfl ?_
  refine va_gets hx hb hex.2.2 hC.2.1 hown (hts _ q_t2_59) (fun _ h => h) (dc tbJ5_init_d00df_k 2 rfl) ?_
  refine lv_if_eq (tgt := 25) hx hb (dc tbJ5_init_d00df_k 3 rfl) rfl (fun c => absurd c (by decide)) (fun _ => ?_)
  refine lv_aload_n hx hb (dc tbJ5_init_d00df_k 4 rfl) rfl (lv_at hl 0 rfl) ?_
  refine lv_iload_n hx hb (dc tbJ5_init_d00df_k 5 rfl) rfl (lv_at hl 1 rfl) ?_
  obtain ⟨M1, e2, hf⟩ := bnd_s hf
  refine c_newa (ty := .byte) (n := 16) hx hb rfl q_t1_73 hts hC hinj ((congrArg ad (by omega : (k0 + 1) = k0 + 1 + 0)).trans (had 0 (by omega))) ((setk_o (by omega)).trans (hB.2)) (hK.2 1 _ rfl).2 rfl rfl ⟨by decide, by decide⟩ (Nat.le_of_ble_eq_true rfl) ⟨Nat.le_of_ble_eq_true rfl, Nat.le_of_ble_eq_true rfl⟩ e2 dJ5_init_d00df_12 (fun H hC => ?_)
  refine c_put false hx hb hts inWJ4 tyJ4 tyJ4_ok nmJ4 hown hK hC hinj hin (q' := (29, 1)) (setk_s) (by simp) (by simp) (Nat.lt_of_lt_of_le hak (Nat.le_add_right _ _)) rfl rfl 0 (by decide) ⟨rfl, rfl, rfl⟩ q_t2_68 rfl (fun h => by first | rfl | cases h) (ty := (.array (.byte))) (by decide +kernel) rfl rfl (Nat.le_of_ble_eq_true rfl) (M' := M1) rfl (fun _ _ => ⟨rfl, rfl, rfl⟩) (dc tbJ5_init_d00df_k 6 rfl) (fun H locs hC => ?_)
  have hC := hC.eqK setk_setk
  refine lv_aload_n hx hb (dc tbJ5_init_d00df_k 7 rfl) rfl (lv_at hl 0 rfl) ?_
  refine lv_iconst (v := 0) hx hb (dc tbJ5_init_d00df_k 8 rfl) (by decide) ?_
  obtain ⟨M3, e4, hf⟩ := bnd_s hf
  refine c_put false hx hb hts inWJ4 tyJ4 tyJ4_ok nmJ4 hown hK hC hinj hin (q' := (29, 1)) (setk_s) (by simp) (by simp) (Nat.lt_of_lt_of_le hak (Nat.le_add_right _ _)) rfl rfl 1 (by decide) ⟨rfl, rfl, rfl⟩ q_t2_69 rfl (fun h => by first | rfl | cases h) (ty := .byte) (by decide +kernel) rfl rfl (Nat.le_of_ble_eq_true rfl) (M' := M3) (by rw [e4, wr_s]; rfl) (by rw [e4]; exact wr_o) (dc tbJ5_init_d00df_k 9 rfl) (fun H locs hC => ?_)
  have hC := hC.eqK setk_setk
  refine lv_goto (tgt := 38) hx hb (dc tbJ5_init_d00df_k 10 rfl) rfl ?_
  obtain ⟨h5, hf⟩ := chk_s hf
  have h5 : sbv k0 (M3.1 k0 0) = k0 + 1 := if_pos (of_decide_eq_true h5)
  have hC := (hC.as_kind (q' := (9, 0)) setk_s (by simp) (by simp) (by show (Sum.inr (1, eSB ad k0 (M3.1 k0)) : va_E) = _; unfold eSB; rw [h5]; rfl)).eqK (setk_setk.trans (setk_id hB.1))
  cases hf
  exact c_ret hx hb hr hlk hC (dc tbJ5_init_d00df_k 18 rfl)
theorem ci_J5_init_d00df : Cond.initialized yJ5_init_d00df.cls ∈ WA ∧ Cond.instanceMethod yJ5_init_d00df ∈ WA ∧ Cond.code yJ5_init_d00df cJ5_init_d00df 2 none ∈ WA := ⟨q_t1_7, q_t2_56, q_t2_57⟩
def mJ4_init_da8c8 (k0 : Nat) (M : Mem) : Option (Mem × Unit) := cal (mJ5_init_d00df k0 M) (fun M1 _ => some (M1, ()))
set_option maxHeartbeats 4000000 in
set_option maxRecDepth 100000 in
theorem tJ4_init_da8c8 (l : Launch) {G : GT} {KF : Nat → Nat × Nat} {ad : Nat → Nat} {N : Nat} {k0 : Nat} (hinj : ∀ i j, ad i = ad j → i = j) (hB : kSB KF k0) (had : ∀ j, j < 1 → ad (k0 + 1 + j) = N + j) (hak : ad k0 < N) {M MO : Mem} (hf : mJ4_init_da8c8 k0 M = some (MO, ())) : Met l yJ4_init_da8c8 (Cond.code yJ4_init_da8c8 cJ4_init_da8c8 1 none :: WA) (rmO 1 1 16) (Pk G (setk KF k0 (29, 0)) ad N [.ref (ad k0)] M) (Qk G (setk KF k0 (29, 0)) KF ad N 1 MO) 1 16 (AS (setk KF k0 (29, 0)) ad N) := by
  refine c_body (own := RJ4) (by decide) rfl rfl hinj ?_ (Nat.le_of_ble_eq_true rfl)
  intro p e s m args below meth c C hsz H ls hC hl
  subst hsz
  obtain ⟨hx, hb, hml, hr, hown, hts, hlk, hK, hsx, hex, hin, hinj⟩ := id C
  have hl : lv_has ls 1 [(0, .ref (ad k0))] := hl
  unfold mJ4_init_da8c8 at hf
  refine lv_aload_n hx hb (dc tbJ4_init_da8c8_k 0 rfl) rfl (lv_at hl 0 rfl) ?_
  refine lv_bipush (v := 16) hx hb (dc tbJ4_init_da8c8_k 1 rfl) (by decide) ?_
  obtain ⟨M1, _, q2, hf⟩ := cal_s hf
  refine c_callI hx hb hml hown hts hK hsx hex hC (nzE_set (by rw [hB.1]; simp) (by simp)) (As := [.int (16 : Int32)]) (tJ5_init_d00df l hinj hB (fun j hj => by have h8 := hC.2.2.1; have h9 := had (0 + j) (by omega); rw [show k0 + 1 + j = k0 + 1 + (0 + j) by omega]; omega) (by have := hC.2.2.1; have := hak; omega) q2) ci_J5_init_d00df q_t2_55 ⟨rfl, by decide +kernel⟩ rfl rfl rfl ⟨Nat.le_of_ble_eq_true rfl, Nat.le_of_ble_eq_true rfl⟩ hl.1 rfl (Nat.le_of_ble_eq_true rfl) (dc tbJ4_init_da8c8_k 2 rfl) ⟨Nat.le_of_ble_eq_true rfl, Nat.le_of_ble_eq_true rfl⟩ (fun H locs hC => ?_)
  cases hf
  exact c_ret hx hb hr hlk hC (dc tbJ4_init_da8c8_k 3 rfl)
theorem ci_J4_init_da8c8 : Cond.initialized yJ4_init_da8c8.cls ∈ WA ∧ Cond.instanceMethod yJ4_init_da8c8 ∈ WA ∧ Cond.code yJ4_init_da8c8 cJ4_init_da8c8 1 none ∈ WA := ⟨q_t1_8, q_t2_53, q_t2_54⟩
def mX4_init (M : Mem) : Option (Mem × Unit) := bnd (wr M 2 0 (0 : Int32)) (fun M1 => bnd (wr M1 2 1 (-1 : Int32)) (fun M3 => bnd (zr M3 4) (fun M5 => chk (decide (¬ rd M5 2 2 = 1)) (bnd (wr M5 2 3 (0 : Int32)) (fun M8 => bnd (wr M8 2 4 (0 : Int32)) (fun M10 => bnd (wr M10 2 5 (0 : Int32)) (fun M12 => bnd (wr M12 2 6 (0 : Int32)) (fun M14 => bnd (wr M14 2 7 (0 : Int32)) (fun M16 => bnd (zr M16 3) (fun M18 => some (M18, ())))))))))))
set_option maxHeartbeats 4000000 in
set_option maxRecDepth 100000 in
theorem tX4_init (l : Launch) {G : GT} {KF : Nat → Nat × Nat} {ad : Nat → Nat} {N : Nat} (hinj : ∀ i j, ad i = ad j → i = j) (hB : kReader KF 2) (h4 : KF 4 = (11, 0)) (had : ad 4 = N ∧ ad 3 = N + 1) (hak : ad 2 < N) {M MO : Mem} (hf : mX4_init M = some (MO, ())) : Met l yX4_init (Cond.code yX4_init cX4_init 1 none :: WA) (rmO 0 2 3) (Pk G (setk KF 2 (25, 0)) ad N [.ref (ad 2)] M) (Qk G (setk KF 2 (25, 0)) KF ad N 2 MO) 2 3 (AS (setk KF 2 (25, 0)) ad N) := by
  refine c_body (own := RX4) (by decide) rfl rfl hinj ?_ (Nat.le_of_ble_eq_true rfl)
  intro p e s m args below meth c C hsz H ls hC hl
  subst hsz
  obtain ⟨hx, hb, hml, hr, hown, hts, hlk, hK, hsx, hex, hin, hinj⟩ := id C
  have hl : lv_has ls 1 [(0, .ref (ad 2))] := hl
  unfold mX4_init at hf
  refine lv_aload_n hx hb (dc tbX4_init_k 0 rfl) rfl (lv_at hl 0 rfl) ?_
  refine W.objInit hx hb hown (hts _ q_t1_42) (hts _ q_t1_35) (hts _ q_t1_36) rfl (by rw [hml]; exact hl.1) rfl (dc tbX4_init_k 1 rfl) (Nat.le_of_ble_eq_true rfl) (Nat.le_of_ble_eq_true rfl) ?_
  refine W.eq (g2 := F0 m 4 ls []) rfl ?_
  refine lv_aload_n hx hb (dc tbX4_init_k 2 rfl) rfl (lv_at hl 0 rfl) ?_
  refine lv_iconst (v := 0) hx hb (dc tbX4_init_k 3 rfl) (by decide) ?_
  obtain ⟨M1, e2, hf⟩ := bnd_s hf
  refine c_put false hx hb hts inW4 tyX4 tyX4_ok nmX4 hown hK hC hinj hin (q' := (25, 0)) (setk_s) (by simp) (by simp) (Nat.lt_of_lt_of_le hak (Nat.le_add_right _ _)) rfl rfl 0 (by decide) ⟨rfl, rfl, rfl⟩ q_t1_43 rfl (fun h => by first | rfl | cases h) (ty := .int) (by decide +kernel) rfl rfl (Nat.le_of_ble_eq_true rfl) (M' := M1) (by rw [e2, wr_s]; rfl) (by rw [e2]; exact wr_o) (dc tbX4_init_k 4 rfl) (fun H locs hC => ?_)
  have hC := hC.eqK setk_setk
  refine lv_aload_n hx hb (dc tbX4_init_k 5 rfl) rfl (lv_at hl 0 rfl) ?_
  refine lv_iconst (v := -1) hx hb (dc tbX4_init_k 6 rfl) (by decide) ?_
  obtain ⟨M3, e4, hf⟩ := bnd_s hf
  refine c_put false hx hb hts inW4 tyX4 tyX4_ok nmX4 hown hK hC hinj hin (q' := (25, 0)) (setk_s) (by simp) (by simp) (Nat.lt_of_lt_of_le hak (Nat.le_add_right _ _)) rfl rfl 1 (by decide) ⟨rfl, rfl, rfl⟩ q_t1_45 rfl (fun h => by first | rfl | cases h) (ty := .int) (by decide +kernel) rfl rfl (Nat.le_of_ble_eq_true rfl) (M' := M3) (by rw [e4, wr_s]; rfl) (by rw [e4]; exact wr_o) (dc tbX4_init_k 7 rfl) (fun H locs hC => ?_)
  have hC := hC.eqK setk_setk
  refine lv_aload_n hx hb (dc tbX4_init_k 8 rfl) rfl (lv_at hl 0 rfl) ?_
  refine lv_iconst (v := 0) hx hb (dc tbX4_init_k 9 rfl) (by decide) ?_
  obtain ⟨M5, e6, hf⟩ := bnd_s hf
  refine c_newa (ty := .byte) (n := 0) hx hb rfl q_t1_73 hts hC hinj had.1 ((setk_o (by omega)).trans (h4)) (hK.2 1 _ rfl).2 rfl rfl ⟨by decide, by decide⟩ (Nat.le_of_ble_eq_true rfl) ⟨Nat.le_of_ble_eq_true rfl, Nat.le_of_ble_eq_true rfl⟩ e6 dX4_init_16 (fun H hC => ?_)
  obtain ⟨h7, hf⟩ := chk_s hf
  have h7 : ¬ M5.1 2 2 = 1 := of_decide_eq_true h7
  refine c_put false hx hb hts inW4 tyX4 tyX4_ok nmX4 hown hK hC hinj hin (q' := (25, 1)) (setk_s) (by simp) (by simp) (Nat.lt_of_lt_of_le hak (Nat.le_add_right _ _)) rfl rfl 2 (by decide) ⟨rfl, rfl, rfl⟩ q_t1_47 rfl (fun h => by first | rfl | cases h) (ty := (.array (.byte))) (by decide +kernel) rfl rfl (Nat.le_of_ble_eq_true rfl) (M' := M5) (by rw [show ad 4 = ad (if M5.1 2 2 = 1 then 1 else 4) from congrArg ad (if_neg h7).symm]; rfl) (fun _ _ => ⟨rfl, rfl, rfl⟩) (dc tbX4_init_k 10 rfl) (fun H locs hC => ?_)
  have hC := hC.eqK setk_setk
  refine lv_aload_n hx hb (dc tbX4_init_k 11 rfl) rfl (lv_at hl 0 rfl) ?_
  refine lv_iconst (v := 0) hx hb (dc tbX4_init_k 12 rfl) (by decide) ?_
  obtain ⟨M8, e9, hf⟩ := bnd_s hf
  refine c_put false hx hb hts inW4 tyX4 tyX4_ok nmX4 hown hK hC hinj hin (q' := (25, 1)) (setk_s) (by simp) (by simp) (Nat.lt_of_lt_of_le hak (Nat.le_add_right _ _)) rfl rfl 3 (by decide) ⟨rfl, rfl, rfl⟩ q_t1_48 rfl (fun h => by first | rfl | cases h) (ty := .int) (by decide +kernel) rfl rfl (Nat.le_of_ble_eq_true rfl) (M' := M8) (by rw [e9, wr_s]; rfl) (by rw [e9]; exact wr_o) (dc tbX4_init_k 13 rfl) (fun H locs hC => ?_)
  have hC := hC.eqK setk_setk
  refine lv_aload_n hx hb (dc tbX4_init_k 14 rfl) rfl (lv_at hl 0 rfl) ?_
  refine lv_iconst (v := 0) hx hb (dc tbX4_init_k 15 rfl) (by decide) ?_
  obtain ⟨M10, e11, hf⟩ := bnd_s hf
  refine c_put false hx hb hts inW4 tyX4 tyX4_ok nmX4 hown hK hC hinj hin (q' := (25, 1)) (setk_s) (by simp) (by simp) (Nat.lt_of_lt_of_le hak (Nat.le_add_right _ _)) rfl rfl 4 (by decide) ⟨rfl, rfl, rfl⟩ q_t1_49 rfl (fun h => by first | rfl | cases h) (ty := .int) (by decide +kernel) rfl rfl (Nat.le_of_ble_eq_true rfl) (M' := M10) (by rw [e11, wr_s]; rfl) (by rw [e11]; exact wr_o) (dc tbX4_init_k 16 rfl) (fun H locs hC => ?_)
  have hC := hC.eqK setk_setk
  refine lv_aload_n hx hb (dc tbX4_init_k 17 rfl) rfl (lv_at hl 0 rfl) ?_
  refine lv_iconst (v := 0) hx hb (dc tbX4_init_k 18 rfl) (by decide) ?_
  obtain ⟨M12, e13, hf⟩ := bnd_s hf
  refine c_put false hx hb hts inW4 tyX4 tyX4_ok nmX4 hown hK hC hinj hin (q' := (25, 1)) (setk_s) (by simp) (by simp) (Nat.lt_of_lt_of_le hak (Nat.le_add_right _ _)) rfl rfl 5 (by decide) ⟨rfl, rfl, rfl⟩ q_t1_50 rfl (fun h => by first | rfl | cases h) (ty := .int) (by decide +kernel) rfl rfl (Nat.le_of_ble_eq_true rfl) (M' := M12) (by rw [e13, wr_s]; rfl) (by rw [e13]; exact wr_o) (dc tbX4_init_k 19 rfl) (fun H locs hC => ?_)
  have hC := hC.eqK setk_setk
  refine lv_aload_n hx hb (dc tbX4_init_k 20 rfl) rfl (lv_at hl 0 rfl) ?_
  refine lv_iconst (v := 0) hx hb (dc tbX4_init_k 21 rfl) (by decide) ?_
  obtain ⟨M14, e15, hf⟩ := bnd_s hf
  refine c_put false hx hb hts inW4 tyX4 tyX4_ok nmX4 hown hK hC hinj hin (q' := (25, 1)) (setk_s) (by simp) (by simp) (Nat.lt_of_lt_of_le hak (Nat.le_add_right _ _)) rfl rfl 6 (by decide) ⟨rfl, rfl, rfl⟩ q_t1_51 rfl (fun h => by first | rfl | cases h) (ty := .int) (by decide +kernel) rfl rfl (Nat.le_of_ble_eq_true rfl) (M' := M14) (by rw [e15, wr_s]; rfl) (by rw [e15]; exact wr_o) (dc tbX4_init_k 22 rfl) (fun H locs hC => ?_)
  have hC := hC.eqK setk_setk
  refine lv_aload_n hx hb (dc tbX4_init_k 23 rfl) rfl (lv_at hl 0 rfl) ?_
  refine lv_iconst (v := 0) hx hb (dc tbX4_init_k 24 rfl) (by decide) ?_
  obtain ⟨M16, e17, hf⟩ := bnd_s hf
  refine c_put false hx hb hts inW4 tyX4 tyX4_ok nmX4 hown hK hC hinj hin (q' := (25, 1)) (setk_s) (by simp) (by simp) (Nat.lt_of_lt_of_le hak (Nat.le_add_right _ _)) rfl rfl 7 (by decide) ⟨rfl, rfl, rfl⟩ q_t1_52 rfl (fun h => by first | rfl | cases h) (ty := .int) (by decide +kernel) rfl rfl (Nat.le_of_ble_eq_true rfl) (M' := M16) (by rw [e17, wr_s]; rfl) (by rw [e17]; exact wr_o) (dc tbX4_init_k 25 rfl) (fun H locs hC => ?_)
  have hC := hC.eqK setk_setk
  refine lv_aload_n hx hb (dc tbX4_init_k 26 rfl) rfl (lv_at hl 0 rfl) ?_
  refine lv_iconst (v := 3) hx hb (dc tbX4_init_k 27 rfl) (by decide) ?_
  obtain ⟨M18, e19, hf⟩ := bnd_s hf
  refine c_newa (ty := .int) (n := 3) hx hb rfl q_t1_74 hts hC hinj had.2 ((setk_o (by omega)).trans (hB.2.1)) (hK.2 0 _ rfl).2 rfl rfl ⟨by decide, by decide⟩ (Nat.le_of_ble_eq_true rfl) ⟨Nat.le_of_ble_eq_true rfl, Nat.le_of_ble_eq_true rfl⟩ e19 dX4_init_48 (fun H hC => ?_)
  refine c_put true hx hb hts inW4 tyX4 tyX4_ok nmX4 hown hK hC hinj hin (q' := (25, 2)) (setk_s) (by simp) (by simp) (Nat.lt_of_lt_of_le hak (Nat.le_add_right _ _)) rfl rfl 8 (by decide) ⟨rfl, rfl, rfl⟩ q_t1_53 rfl (fun h => by first | rfl | cases h) (ty := (.array (.int))) (by decide +kernel) rfl rfl (Nat.le_of_ble_eq_true rfl) (M' := M18) rfl (fun _ _ => ⟨rfl, rfl, rfl⟩) (dc tbX4_init_k 28 rfl) (fun H locs hC => ?_)
  have hC := hC.eqK setk_setk
  have hC := (hC.as_kind (q' := (5, 0)) setk_s (by simp) (by simp) rfl).eqK (setk_setk.trans (setk_id hB.1))
  cases hf
  exact c_ret hx hb hr hlk hC (dc tbX4_init_k 29 rfl)
theorem ci_X4_init : Cond.initialized yX4_init.cls ∈ WA ∧ Cond.instanceMethod yX4_init ∈ WA ∧ Cond.code yX4_init cX4_init 1 none ∈ WA := ⟨q_t1_2, q_t1_40, q_t1_41⟩
def mX6_init (M : Mem) : Option (Mem × Unit) := bnd (zr M 1) (fun M1 => bnd (wr M1 0 1 (0 : Int32)) (fun M3 => bnd (zr M3 2) (fun M5 => cal (mX4_init M5) (fun M7 _ => bnd (zr M7 5) (fun M9 => cal (mX1_init 5 M9) (fun M11 _ => bnd (zr M11 13) (fun M13 => cal (mX1_init 13 M13) (fun M15 _ => bnd (zr M15 21) (fun M17 => cal (mX0_init 21 M17) (fun M19 _ => bnd (zr M19 103) (fun M21 => cal (mX2_init 103 M21) (fun M23 _ => bnd (zr M23 110) (fun M25 => cal (mX3_init 110 M25) (fun M27 _ => bnd (zr M27 133) (fun M29 => cal (mJ4_init_da8c8 133 M29) (fun M31 _ => some (M31, ())))))))))))))))))
set_option maxHeartbeats 4000000 in
set_option maxRecDepth 100000 in
theorem tX6_init (l : Launch) {G : GT} {KF : Nat → Nat × Nat} {ad : Nat → Nat} {N : Nat} (hinj : ∀ i j, ad i = ad j → i = j) (hB : kRoot KF 0) (h4 : KF 4 = (11, 0)) (hS : kSB KF 133) (had : (∀ j, 1 ≤ j → j ≤ 134 → j ≠ 3 → j ≠ 4 → ad j = N + (j - 1)) ∧ ad 4 = N + 2 ∧ ad 3 = N + 3) (hak : ad 0 < N) {M MO : Mem} (hf : mX6_init M = some (MO, ())) : Met l yX6_init (Cond.code yX6_init cX6_init 1 none :: WA) (rmO 4 134 14849) (Pk G (setk KF 0 (26, 0)) ad N [.ref (ad 0)] M) (Qk G (setk KF 0 (26, 0)) KF ad N 134 MO) 134 14849 (AS (setk KF 0 (26, 0)) ad N) := by
  refine c_body (own := RX6) (by decide) rfl rfl hinj ?_ (Nat.le_of_ble_eq_true rfl)
  intro p e s m args below meth c C hsz H ls hC hl
  subst hsz
  obtain ⟨hx, hb, hml, hr, hown, hts, hlk, hK, hsx, hex, hin, hinj⟩ := id C
  have hl : lv_has ls 1 [(0, .ref (ad 0))] := hl
  unfold mX6_init at hf
  refine lv_aload_n hx hb (dc tbX6_init_0_k 0 rfl) rfl (lv_at hl 0 rfl) ?_
  refine W.objInit hx hb hown (hts _ q_t1_34) (hts _ q_t1_35) (hts _ q_t1_36) rfl (by rw [hml]; exact hl.1) rfl (dc tbX6_init_0_k 1 rfl) (Nat.le_of_ble_eq_true rfl) (Nat.le_of_ble_eq_true rfl) ?_
  refine W.eq (g2 := F0 m 4 ls []) rfl ?_
  refine lv_aload_n hx hb (dc tbX6_init_0_k 2 rfl) rfl (lv_at hl 0 rfl) ?_
  refine lv_sipush (v := 600) hx hb (dc tbX6_init_0_k 3 rfl) (by decide) ?_
  obtain ⟨M1, e2, hf⟩ := bnd_s hf
  refine c_newa (ty := .byte) (n := 600) hx hb rfl q_t1_73 hts hC hinj (had.1 1 (by decide) (by decide) (by decide) (by decide)) ((setk_o (by omega)).trans (hB.2.1)) (hK.2 1 _ rfl).2 rfl rfl ⟨by decide, by decide⟩ (Nat.le_of_ble_eq_true rfl) ⟨Nat.le_of_ble_eq_true rfl, Nat.le_of_ble_eq_true rfl⟩ e2 dX6_init_8 (fun H hC => ?_)
  refine c_put true hx hb hts inW6 tyX6 tyX6_ok nmX6 hown hK hC hinj hin (q' := (26, 1)) (setk_s) (by simp) (by simp) (Nat.lt_of_lt_of_le hak (Nat.le_add_right _ _)) rfl rfl 0 (by decide) ⟨rfl, rfl, rfl⟩ q_t2_82 rfl (fun h => by first | rfl | cases h) (ty := (.array (.byte))) (by decide +kernel) rfl rfl (Nat.le_of_ble_eq_true rfl) (M' := M1) rfl (fun _ _ => ⟨rfl, rfl, rfl⟩) (dc tbX6_init_0_k 4 rfl) (fun H locs hC => ?_)
  have hC := hC.eqK setk_setk
  refine lv_aload_n hx hb (dc tbX6_init_0_k 5 rfl) rfl (lv_at hl 0 rfl) ?_
  refine lv_iconst (v := 0) hx hb (dc tbX6_init_0_k 6 rfl) (by decide) ?_
  obtain ⟨M3, e4, hf⟩ := bnd_s hf
  refine c_put false hx hb hts inW6 tyX6 tyX6_ok nmX6 hown hK hC hinj hin (q' := (26, 1)) (setk_s) (by simp) (by simp) (Nat.lt_of_lt_of_le hak (Nat.le_add_right _ _)) rfl rfl 1 (by decide) ⟨rfl, rfl, rfl⟩ q_t2_83 rfl (fun h => by first | rfl | cases h) (ty := .int) (by decide +kernel) rfl rfl (Nat.le_of_ble_eq_true rfl) (M' := M3) (by rw [e4, wr_s]; rfl) (by rw [e4]; exact wr_o) (dc tbX6_init_0_k 7 rfl) (fun H locs hC => ?_)
  have hC := hC.eqK setk_setk
  refine lv_aload_n hx hb (dc tbX6_init_0_k 8 rfl) rfl (lv_at hl 0 rfl) ?_
  obtain ⟨M5, e6, hf⟩ := bnd_s hf
  refine c_new hx hb hts inW4 tyX4 tyX4_ok hown q_t1_37 q_t1_38 q_t1_2 hK hC hinj (had.1 2 (by decide) (by decide) (by decide) (by decide)) ((setk_o (by omega)).trans (hB.2.2.1.1)) (q := (25, 0)) (by simp) (by simp) rfl (fs := [.int 0, .int 0, .null, .int 0, .int 0, .int 0, .int 0, .int 0, .null]) rfl (by decide +kernel) ⟨Nat.le_of_ble_eq_true rfl, Nat.le_of_ble_eq_true rfl⟩ e6 (dc tbX6_init_0_k 9 rfl) (fun H hC => ?_)
  refine lv_dup hx hb (dc tbX6_init_0_k 10 rfl) rfl ?_
  obtain ⟨M7, _, q8, hf⟩ := cal_s hf
  refine c_callIN hx hb hml hown hts hK hsx hex hC (nzE_set (by rw [(setk_o (by omega)).trans (hB.2.2.1.1)]; simp) (by simp)) (As := []) (tX4_init l hinj (kReader_congr hB.2.2.1 (fun j h1 h2 => setk_o (by omega))) ((setk_o (by omega)).trans h4) ⟨by have h8 := hC.2.2.1; have h9 := had.2.1; omega, by have h8 := hC.2.2.1; have h9 := had.2.2; omega⟩ (by have := hC.2.2.1; have := (had.1 2 (by decide) (by decide) (by decide) (by decide)); omega) q8) ci_X4_init (by decide +kernel) ⟨rfl, by decide +kernel⟩ rfl rfl rfl ⟨Nat.le_of_ble_eq_true rfl, Nat.le_of_ble_eq_true rfl⟩ hl.1 rfl (Nat.le_of_ble_eq_true rfl) (dc tbX6_init_0_k 11 rfl) ⟨Nat.le_of_ble_eq_true rfl, Nat.le_of_ble_eq_true rfl⟩ (fun H locs hC => ?_)
  refine c_put true hx hb hts inW6 tyX6 tyX6_ok nmX6 hown hK hC hinj hin (q' := (26, 2)) (setk_s) (by simp) (by simp) (Nat.lt_of_lt_of_le hak (Nat.le_add_right _ _)) rfl rfl 2 (by decide) ⟨rfl, rfl, rfl⟩ q_t2_84 rfl (fun h => by first | rfl | cases h) (ty := (.object "SheetFolder$TextReader")) (by decide +kernel) rfl rfl (Nat.le_of_ble_eq_true rfl) (M' := M7) rfl (fun _ _ => ⟨rfl, rfl, rfl⟩) (dc tbX6_init_0_k 12 rfl) (fun H locs hC => ?_)
  have hC := hC.eqK setk_setk
  refine lv_aload_n hx hb (dc tbX6_init_0_k 13 rfl) rfl (lv_at hl 0 rfl) ?_
  obtain ⟨M9, e10, hf⟩ := bnd_s hf
  refine c_new hx hb hts inW1 tyX1 tyX1_ok hown q_t1_75 q_t1_76 q_t1_3 hK hC hinj (had.1 5 (by decide) (by decide) (by decide) (by decide)) ((setk_o (by omega)).trans (hB.2.2.2.1.1)) (q := (21, 0)) (by simp) (by simp) rfl (fs := [.int 0, .null, .int 0, .int 0, .int 0, .int 0, .null, .int 0, .int 0, .int 0, .int 0, .null, .null, .int 0, .int 0, .null, .null, .null]) rfl (by decide +kernel) ⟨Nat.le_of_ble_eq_true rfl, Nat.le_of_ble_eq_true rfl⟩ e10 (dc tbX6_init_0_k 14 rfl) (fun H hC => ?_)
  refine lv_dup hx hb (dc tbX6_init_0_k 15 rfl) rfl ?_
  obtain ⟨M11, _, q12, hf⟩ := cal_s hf
  refine c_callI hx hb hml hown hts hK hsx hex hC (nzE_set (by rw [(setk_o (by omega)).trans (hB.2.2.2.1.1)]; simp) (by simp)) (As := []) (tX1_init l hinj (kPart_congr hB.2.2.2.1 (fun j hj => setk_o (by omega))) (fun j hj => by have h8 := hC.2.2.1; have h9 := had.1 (5 + 1 + j) (by omega) (by omega) (by omega) (by omega); omega) (by have := hC.2.2.1; have := (had.1 5 (by decide) (by decide) (by decide) (by decide)); omega) q12) ci_X1_init q_t1_77 ⟨rfl, by decide +kernel⟩ rfl rfl rfl ⟨Nat.le_of_ble_eq_true rfl, Nat.le_of_ble_eq_true rfl⟩ hl.1 rfl (Nat.le_of_ble_eq_true rfl) (dc tbX6_init_0_k 16 rfl) ⟨Nat.le_of_ble_eq_true rfl, Nat.le_of_ble_eq_true rfl⟩ (fun H locs hC => ?_)
  refine c_put true hx hb hts inW6 tyX6 tyX6_ok nmX6 hown hK hC hinj hin (q' := (26, 3)) (setk_s) (by simp) (by simp) (Nat.lt_of_lt_of_le hak (Nat.le_add_right _ _)) rfl rfl 3 (by decide) ⟨rfl, rfl, rfl⟩ q_t2_85 rfl (fun h => by first | rfl | cases h) (ty := (.object "SheetFolder$Part")) (by decide +kernel) rfl rfl (Nat.le_of_ble_eq_true rfl) (M' := M11) rfl (fun _ _ => ⟨rfl, rfl, rfl⟩) (dc tbX6_init_0_k 17 rfl) (fun H locs hC => ?_)
  have hC := hC.eqK setk_setk
  refine lv_aload_n hx hb (dc tbX6_init_0_k 18 rfl) rfl (lv_at hl 0 rfl) ?_
  obtain ⟨M13, e14, hf⟩ := bnd_s hf
  refine c_new hx hb hts inW1 tyX1 tyX1_ok hown q_t1_75 q_t1_76 q_t1_3 hK hC hinj (had.1 13 (by decide) (by decide) (by decide) (by decide)) ((setk_o (by omega)).trans (hB.2.2.2.2.1.1)) (q := (21, 0)) (by simp) (by simp) rfl (fs := [.int 0, .null, .int 0, .int 0, .int 0, .int 0, .null, .int 0, .int 0, .int 0, .int 0, .null, .null, .int 0, .int 0, .null, .null, .null]) rfl (by decide +kernel) ⟨Nat.le_of_ble_eq_true rfl, Nat.le_of_ble_eq_true rfl⟩ e14 (dc tbX6_init_0_k 19 rfl) (fun H hC => ?_)
  refine lv_dup hx hb (dc tbX6_init_0_k 20 rfl) rfl ?_
  obtain ⟨M15, _, q16, hf⟩ := cal_s hf
  refine c_callI hx hb hml hown hts hK hsx hex hC (nzE_set (by rw [(setk_o (by omega)).trans (hB.2.2.2.2.1.1)]; simp) (by simp)) (As := []) (tX1_init l hinj (kPart_congr hB.2.2.2.2.1 (fun j hj => setk_o (by omega))) (fun j hj => by have h8 := hC.2.2.1; have h9 := had.1 (13 + 1 + j) (by omega) (by omega) (by omega) (by omega); omega) (by have := hC.2.2.1; have := (had.1 13 (by decide) (by decide) (by decide) (by decide)); omega) q16) ci_X1_init q_t1_77 ⟨rfl, by decide +kernel⟩ rfl rfl rfl ⟨Nat.le_of_ble_eq_true rfl, Nat.le_of_ble_eq_true rfl⟩ hl.1 rfl (Nat.le_of_ble_eq_true rfl) (dc tbX6_init_0_k 21 rfl) ⟨Nat.le_of_ble_eq_true rfl, Nat.le_of_ble_eq_true rfl⟩ (fun H locs hC => ?_)
  refine c_put true hx hb hts inW6 tyX6 tyX6_ok nmX6 hown hK hC hinj hin (q' := (26, 4)) (setk_s) (by simp) (by simp) (Nat.lt_of_lt_of_le hak (Nat.le_add_right _ _)) rfl rfl 4 (by decide) ⟨rfl, rfl, rfl⟩ q_t2_86 rfl (fun h => by first | rfl | cases h) (ty := (.object "SheetFolder$Part")) (by decide +kernel) rfl rfl (Nat.le_of_ble_eq_true rfl) (M' := M15) rfl (fun _ _ => ⟨rfl, rfl, rfl⟩) (dc tbX6_init_0_k 22 rfl) (fun H locs hC => ?_)
  have hC := hC.eqK setk_setk
  refine lv_aload_n hx hb (dc tbX6_init_0_k 23 rfl) rfl (lv_at hl 0 rfl) ?_
  obtain ⟨M17, e18, hf⟩ := bnd_s hf
  refine c_new hx hb hts inW0 tyX0 tyX0_ok hown q_t1_174 q_t1_175 q_t1_4 hK hC hinj (had.1 21 (by decide) (by decide) (by decide) (by decide)) ((setk_o (by omega)).trans (hB.2.2.2.2.2.1.1)) (q := (24, 0)) (by simp) (by simp) rfl (fs := [.null, .int 0, .int 0]) rfl (by decide +kernel) ⟨Nat.le_of_ble_eq_true rfl, Nat.le_of_ble_eq_true rfl⟩ e18 (dc tbX6_init_0_k 24 rfl) (fun H hC => ?_)
  refine lv_dup hx hb (dc tbX6_init_0_k 25 rfl) rfl ?_
  obtain ⟨M19, _, q20, hf⟩ := cal_s hf
  refine c_callI hx hb hml hown hts hK hsx hex hC (nzE_set (by rw [(setk_o (by omega)).trans (hB.2.2.2.2.2.1.1)]; simp) (by simp)) (As := []) (tX0_init l hinj (kHist_congr hB.2.2.2.2.2.1 (fun j hj => setk_o (by omega))) (fun j hj => by have h8 := hC.2.2.1; have h9 := had.1 (21 + 1 + j) (by omega) (by omega) (by omega) (by omega); omega) (by have := hC.2.2.1; have := (had.1 21 (by decide) (by decide) (by decide) (by decide)); omega) q20) ci_X0_init q_t1_176 ⟨rfl, by decide +kernel⟩ rfl rfl rfl ⟨Nat.le_of_ble_eq_true rfl, Nat.le_of_ble_eq_true rfl⟩ hl.1 rfl (Nat.le_of_ble_eq_true rfl) (dc tbX6_init_0_k 26 rfl) ⟨Nat.le_of_ble_eq_true rfl, Nat.le_of_ble_eq_true rfl⟩ (fun H locs hC => ?_)
  refine c_put true hx hb hts inW6 tyX6 tyX6_ok nmX6 hown hK hC hinj hin (q' := (26, 5)) (setk_s) (by simp) (by simp) (Nat.lt_of_lt_of_le hak (Nat.le_add_right _ _)) rfl rfl 5 (by decide) ⟨rfl, rfl, rfl⟩ q_t2_87 rfl (fun h => by first | rfl | cases h) (ty := (.object "SheetFolder$History")) (by decide +kernel) rfl rfl (Nat.le_of_ble_eq_true rfl) (M' := M19) rfl (fun _ _ => ⟨rfl, rfl, rfl⟩) (dc tbX6_init_0_k 27 rfl) (fun H locs hC => ?_)
  have hC := hC.eqK setk_setk
  refine lv_aload_n hx hb (dc tbX6_init_0_k 28 rfl) rfl (lv_at hl 0 rfl) ?_
  obtain ⟨M21, e22, hf⟩ := bnd_s hf
  refine c_new hx hb hts inW2 tyX2 tyX2_ok hown q_t1_194 q_t1_195 q_t1_5 hK hC hinj (had.1 103 (by decide) (by decide) (by decide) (by decide)) ((setk_o (by omega)).trans (hB.2.2.2.2.2.2.1.1)) (q := (22, 0)) (by simp) (by simp) rfl (fs := [.null, .null, .null, .null, .null, .null, .int 0, .int 0, .int 0]) rfl (by decide +kernel) ⟨Nat.le_of_ble_eq_true rfl, Nat.le_of_ble_eq_true rfl⟩ e22 (dc tbX6_init_0_k 29 rfl) (fun H hC => ?_)
  refine lv_dup hx hb (dc tbX6_init_0_k 30 rfl) rfl ?_
  obtain ⟨M23, _, q24, hf⟩ := cal_s hf
  refine c_callIN hx hb hml hown hts hK hsx hex hC (nzE_set (by rw [(setk_o (by omega)).trans (hB.2.2.2.2.2.2.1.1)]; simp) (by simp)) (As := []) (tX2_init l hinj (kPlaces_congr hB.2.2.2.2.2.2.1 (fun j hj => setk_o (by omega))) (fun j hj => by have h8 := hC.2.2.1; have h9 := had.1 (103 + 1 + j) (by omega) (by omega) (by omega) (by omega); omega) (by have := hC.2.2.1; have := (had.1 103 (by decide) (by decide) (by decide) (by decide)); omega) q24) ci_X2_init (by decide +kernel) ⟨rfl, by decide +kernel⟩ rfl rfl rfl ⟨Nat.le_of_ble_eq_true rfl, Nat.le_of_ble_eq_true rfl⟩ hl.1 rfl (Nat.le_of_ble_eq_true rfl) (dc tbX6_init_0_k 31 rfl) ⟨Nat.le_of_ble_eq_true rfl, Nat.le_of_ble_eq_true rfl⟩ (fun H locs hC => ?_)
  refine c_put true hx hb hts inW6 tyX6 tyX6_ok nmX6 hown hK hC hinj hin (q' := (26, 6)) (setk_s) (by simp) (by simp) (Nat.lt_of_lt_of_le hak (Nat.le_add_right _ _)) rfl rfl 6 (by decide) ⟨rfl, rfl, rfl⟩ q_t2_88 rfl (fun h => by first | rfl | cases h) (ty := (.object "SheetFolder$Places")) (by decide +kernel) rfl rfl (Nat.le_of_ble_eq_true rfl) (M' := M23) rfl (fun _ _ => ⟨rfl, rfl, rfl⟩) (dc tbX6_init_0_k 32 rfl) (fun H locs hC => ?_)
  have hC := hC.eqK setk_setk
  refine lv_aload_n hx hb (dc tbX6_init_0_k 33 rfl) rfl (lv_at hl 0 rfl) ?_
  obtain ⟨M25, e26, hf⟩ := bnd_s hf
  refine c_new hx hb hts inW3 tyX3 tyX3_ok hown q_t1_230 q_t1_231 q_t1_6 hK hC hinj (had.1 110 (by decide) (by decide) (by decide) (by decide)) ((setk_o (by omega)).trans (hB.2.2.2.2.2.2.2.1)) (q := (23, 0)) (by simp) (by simp) rfl (fs := [.int 0, .int 0, .null, .int 0, .null, .null, .int 0, .null, .null, .null, .null, .null, .null]) rfl (by decide +kernel) ⟨Nat.le_of_ble_eq_true rfl, Nat.le_of_ble_eq_true rfl⟩ e26 (dc tbX6_init_0_k 34 rfl) (fun H hC => ?_)
  refine lv_dup hx hb (dc tbX6_init_0_k 35 rfl) rfl ?_
  obtain ⟨M27, _, q28, hf⟩ := cal_s hf
  refine c_callI hx hb hml hown hts hK hsx hex hC (nzE_set (by rw [(setk_o (by omega)).trans (hB.2.2.2.2.2.2.2.1)]; simp) (by simp)) (As := []) (tX3_init l hinj (kPlanner_congr hB.2.2.2.2.2.2.2 (fun j hj => setk_o (by omega))) (fun j hj => by have h8 := hC.2.2.1; have h9 := had.1 (110 + 1 + j) (by omega) (by omega) (by omega) (by omega); omega) (by have := hC.2.2.1; have := (had.1 110 (by decide) (by decide) (by decide) (by decide)); omega) q28) ci_X3_init q_t1_232 ⟨rfl, by decide +kernel⟩ rfl rfl rfl ⟨Nat.le_of_ble_eq_true rfl, Nat.le_of_ble_eq_true rfl⟩ hl.1 rfl (Nat.le_of_ble_eq_true rfl) (dc tbX6_init_0_k 36 rfl) ⟨Nat.le_of_ble_eq_true rfl, Nat.le_of_ble_eq_true rfl⟩ (fun H locs hC => ?_)
  refine c_put true hx hb hts inW6 tyX6 tyX6_ok nmX6 hown hK hC hinj hin (q' := (26, 7)) (setk_s) (by simp) (by simp) (Nat.lt_of_lt_of_le hak (Nat.le_add_right _ _)) rfl rfl 7 (by decide) ⟨rfl, rfl, rfl⟩ q_t2_89 rfl (fun h => by first | rfl | cases h) (ty := (.object "SheetFolder$Planner")) (by decide +kernel) rfl rfl (Nat.le_of_ble_eq_true rfl) (M' := M27) rfl (fun _ _ => ⟨rfl, rfl, rfl⟩) (dc tbX6_init_0_k 37 rfl) (fun H locs hC => ?_)
  have hC := hC.eqK setk_setk
  refine lv_aload_n hx hb (dc tbX6_init_0_k 38 rfl) rfl (lv_at hl 0 rfl) ?_
  obtain ⟨M29, e30, hf⟩ := bnd_s hf
  refine c_new hx hb hts inWJ4 tyJ4 tyJ4_ok hown q_t2_50 q_t2_51 q_t1_8 hK hC hinj (had.1 133 (by decide) (by decide) (by decide) (by decide)) ((setk_o (by omega)).trans (hS.1)) (q := (29, 0)) (by simp) (by simp) rfl (fs := [.null, .int 0, .int 0, .int 0]) rfl (by decide +kernel) ⟨Nat.le_of_ble_eq_true rfl, Nat.le_of_ble_eq_true rfl⟩ e30 (dc tbX6_init_0_k 39 rfl) (fun H hC => ?_)
  refine lv_dup hx hb (dc tbX6_init_1_k 0 rfl) rfl ?_
  obtain ⟨M31, _, q32, hf⟩ := cal_s hf
  refine c_callI hx hb hml hown hts hK hsx hex hC (nzE_set (by rw [(setk_o (by omega)).trans (hS.1)]; simp) (by simp)) (As := []) (tJ4_init_da8c8 l hinj (kSB_congr hS (fun j hj => setk_o (by omega))) (fun j hj => by have h8 := hC.2.2.1; have h9 := had.1 (133 + 1 + j) (by omega) (by omega) (by omega) (by omega); omega) (by have := hC.2.2.1; have := (had.1 133 (by decide) (by decide) (by decide) (by decide)); omega) q32) ci_J4_init_da8c8 q_t2_52 ⟨rfl, by decide +kernel⟩ rfl rfl rfl ⟨Nat.le_of_ble_eq_true rfl, Nat.le_of_ble_eq_true rfl⟩ hl.1 rfl (Nat.le_of_ble_eq_true rfl) (dc tbX6_init_1_k 1 rfl) ⟨Nat.le_of_ble_eq_true rfl, Nat.le_of_ble_eq_true rfl⟩ (fun H locs hC => ?_)
  refine c_put true hx hb hts inW6 tyX6 tyX6_ok nmX6 hown hK hC hinj hin (q' := (26, 8)) (setk_s) (by simp) (by simp) (Nat.lt_of_lt_of_le hak (Nat.le_add_right _ _)) rfl rfl 8 (by decide) ⟨rfl, rfl, rfl⟩ q_t2_90 rfl (fun h => by first | rfl | cases h) (ty := (.object "java/lang/StringBuilder")) (by decide +kernel) rfl rfl (Nat.le_of_ble_eq_true rfl) (M' := M31) rfl (fun _ _ => ⟨rfl, rfl, rfl⟩) (dc tbX6_init_1_k 2 rfl) (fun H locs hC => ?_)
  have hC := hC.eqK setk_setk
  have hC := (hC.as_kind (q' := (6, 0)) setk_s (by simp) (by simp) rfl).eqK (setk_setk.trans (setk_id hB.1))
  cases hf
  exact c_ret hx hb hr hlk hC (dc tbX6_init_1_k 3 rfl)
theorem ci_X6_init : Cond.initialized yX6_init.cls ∈ WA ∧ Cond.instanceMethod yX6_init ∈ WA ∧ Cond.code yX6_init cX6_init 1 none ∈ WA := ⟨q_t1_1, q_t1_32, q_t1_33⟩
end CS
end
/-! part 32.words3 -/
section
theorem q_s2_2 : (Cond.selects "SheetFolder" ⟨"SheetFolder", "writeBend", "(I)V"⟩ ⟨"SheetFolder", "writeBend", "(I)V"⟩) ∈ WA := wa_q sel_2_k 2 rfl rfl
theorem q_t1_26 : (Cond.initialized "jdk/internal/util/ArraysSupport") ∈ WA := wa_q tbl_1 26 rfl rfl
theorem q_t1_27 : (Cond.initialized "java/util/Arrays") ∈ WA := wa_q tbl_1 27 rfl rfl
theorem q_t10_22 : (Cond.sameMethod "java/lang/AbstractStringBuilder" "java/lang/AbstractStringBuilder" "setLength" "(I)V") ∈ WA := wa_q tbl_10 22 rfl rfl
theorem q_t10_23 : (Cond.sameMethod "java/lang/AbstractStringBuilder" "java/lang/AbstractStringBuilder" "append" "(Ljava/lang/String;)Ljava/lang/AbstractStringBuilder;") ∈ WA := wa_q tbl_10 23 rfl rfl
theorem q_t10_25 : (Cond.sameMethod "java/lang/AbstractStringBuilder" "java/lang/AbstractStringBuilder" "ensureCapacityInternal" "(I)V") ∈ WA := wa_q tbl_10 25 rfl rfl
theorem q_t10_26 : (Cond.sameMethod "java/lang/AbstractStringBuilder" "java/lang/AbstractStringBuilder" "newCapacity" "(I)I") ∈ WA := wa_q tbl_10 26 rfl rfl
theorem q_t10_27 : (Cond.sameMethod "java/lang/AbstractStringBuilder" "java/lang/AbstractStringBuilder" "putStringAt" "(ILjava/lang/String;)V") ∈ WA := wa_q tbl_10 27 rfl rfl
theorem q_t10_28 : (Cond.sameMethod "java/lang/AbstractStringBuilder" "java/lang/AbstractStringBuilder" "inflateIfNeededFor" "(Ljava/lang/String;)V") ∈ WA := wa_q tbl_10 28 rfl rfl
theorem q_t10_30 : (Cond.sameMethod "java/lang/AbstractStringBuilder" "java/lang/AbstractStringBuilder" "append" "(I)Ljava/lang/AbstractStringBuilder;") ∈ WA := wa_q tbl_10 30 rfl rfl
theorem q_t10_32 : (Cond.sameMethod "java/lang/AbstractStringBuilder" "java/lang/AbstractStringBuilder" "append" "(C)Ljava/lang/AbstractStringBuilder;") ∈ WA := wa_q tbl_10 32 rfl rfl
theorem q_t10_33 : (Cond.selects "java/lang/StringBuilder" ⟨"java/lang/StringBuilder", "length", "()I"⟩ ⟨"java/lang/StringBuilder", "length", "()I"⟩) ∈ WA := wa_q tbl_10 33 rfl rfl
theorem q_t10_34 : (Cond.sameMethod "java/lang/AbstractStringBuilder" "java/lang/AbstractStringBuilder" "charAt" "(I)C") ∈ WA := wa_q tbl_10 34 rfl rfl
theorem q_t2_70 : (Cond.fieldLink "java/lang/AbstractStringBuilder" 73 "java/lang/AbstractStringBuilder" "maybeLatin1" "Z") ∈ WA := wa_q tbl_2 70 rfl rfl
theorem q_t2_72 : (Cond.fieldLink "java/lang/AbstractStringBuilder" 79 "java/lang/AbstractStringBuilder" "count" "I") ∈ WA := wa_q tbl_2 72 rfl rfl
theorem q_t2_81 : (Cond.superclass "java/lang/StringBuilder" "java/lang/AbstractStringBuilder") ∈ WA := wa_q tbl_2 81 rfl rfl
theorem q_t3_206 : (Cond.instanceMethod ⟨"SheetFolder", "write", "()I"⟩) ∈ WA := wa_q tbl_3 206 rfl rfl
theorem q_t3_207 : (Cond.selects "SheetFolder" ⟨"SheetFolder", "write", "()I"⟩ ⟨"SheetFolder", "write", "()I"⟩) ∈ WA := wa_q tbl_3 207 rfl rfl
theorem q_t3_208 : (Cond.code ⟨"SheetFolder", "write", "()I"⟩ prog_1_method_61_code 2 (some .int)) ∈ WA := wa_q tbl_3 208 rfl rfl
theorem q_t3_209 : (Cond.methodLink "SheetFolder" 343 ⟨"java/lang/StringBuilder", "setLength", "(I)V"⟩) ∈ WA := wa_q tbl_3 209 rfl rfl
theorem q_t3_210 : (Cond.instanceMethod ⟨"java/lang/StringBuilder", "setLength", "(I)V"⟩) ∈ WA := wa_q tbl_3 210 rfl rfl
theorem q_t3_211 : (Cond.selects "java/lang/StringBuilder" ⟨"java/lang/StringBuilder", "setLength", "(I)V"⟩ ⟨"java/lang/StringBuilder", "setLength", "(I)V"⟩) ∈ WA := wa_q tbl_3 211 rfl rfl
theorem q_t3_212 : (Cond.code ⟨"java/lang/StringBuilder", "setLength", "(I)V"⟩ prog_22_method_89_code 2 none) ∈ WA := wa_q tbl_3 212 rfl rfl
theorem q_t3_213 : (Cond.methodLink "java/lang/StringBuilder" 333 ⟨"java/lang/AbstractStringBuilder", "setLength", "(I)V"⟩) ∈ WA := wa_q tbl_3 213 rfl rfl
theorem q_t3_214 : (Cond.instanceMethod ⟨"java/lang/AbstractStringBuilder", "setLength", "(I)V"⟩) ∈ WA := wa_q tbl_3 214 rfl rfl
theorem q_t3_215 : (Cond.code ⟨"java/lang/AbstractStringBuilder", "setLength", "(I)V"⟩ prog_10_method_13_code 2 none) ∈ WA := wa_q tbl_3 215 rfl rfl
theorem q_t3_225 : (Cond.instanceMethod ⟨"java/lang/StringBuilder", "append", "(Ljava/lang/String;)Ljava/lang/StringBuilder;"⟩) ∈ WA := wa_q tbl_3 225 rfl rfl
theorem q_t3_226 : (Cond.selects "java/lang/StringBuilder" ⟨"java/lang/StringBuilder", "append", "(Ljava/lang/String;)Ljava/lang/StringBuilder;"⟩ ⟨"java/lang/StringBuilder", "append", "(Ljava/lang/String;)Ljava/lang/StringBuilder;"⟩) ∈ WA := wa_q tbl_3 226 rfl rfl
theorem q_t3_227 : (Cond.code ⟨"java/lang/StringBuilder", "append", "(Ljava/lang/String;)Ljava/lang/StringBuilder;"⟩ prog_22_method_7_code 2 (Option.some (.object "java/lang/StringBuilder"))) ∈ WA := wa_q tbl_3 227 rfl rfl
theorem q_t3_228 : (Cond.methodLink "java/lang/StringBuilder" 29 ⟨"java/lang/AbstractStringBuilder", "append", "(Ljava/lang/String;)Ljava/lang/AbstractStringBuilder;"⟩) ∈ WA := wa_q tbl_3 228 rfl rfl
theorem q_t3_229 : (Cond.instanceMethod ⟨"java/lang/AbstractStringBuilder", "append", "(Ljava/lang/String;)Ljava/lang/AbstractStringBuilder;"⟩) ∈ WA := wa_q tbl_3 229 rfl rfl
theorem q_t3_230 : (Cond.code ⟨"java/lang/AbstractStringBuilder", "append", "(Ljava/lang/String;)Ljava/lang/AbstractStringBuilder;"⟩ prog_10_method_22_code 3 (Option.some (.object "java/lang/AbstractStringBuilder"))) ∈ WA := wa_q tbl_3 230 rfl rfl
theorem q_t3_235 : (Cond.methodLink "java/lang/AbstractStringBuilder" 100 ⟨"java/lang/AbstractStringBuilder", "ensureCapacityInternal", "(I)V"⟩) ∈ WA := wa_q tbl_3 235 rfl rfl
theorem q_t3_237 : (Cond.instanceMethod ⟨"java/lang/AbstractStringBuilder", "ensureCapacityInternal", "(I)V"⟩) ∈ WA := wa_q tbl_3 237 rfl rfl
theorem q_t3_238 : (Cond.code ⟨"java/lang/AbstractStringBuilder", "ensureCapacityInternal", "(I)V"⟩ prog_10_method_9_code 3 none) ∈ WA := wa_q tbl_3 238 rfl rfl
theorem q_t3_239 : (Cond.methodLink "java/lang/AbstractStringBuilder" 104 ⟨"java/lang/AbstractStringBuilder", "newCapacity", "(I)I"⟩) ∈ WA := wa_q tbl_3 239 rfl rfl
theorem q_t4_1 : (Cond.instanceMethod ⟨"java/lang/AbstractStringBuilder", "newCapacity", "(I)I"⟩) ∈ WA := wa_q tbl_4 1 rfl rfl
theorem q_t4_2 : (Cond.code ⟨"java/lang/AbstractStringBuilder", "newCapacity", "(I)I"⟩ prog_10_method_10_code 6 (some .int)) ∈ WA := wa_q tbl_4 2 rfl rfl
theorem q_t4_3 : (Cond.methodLink "java/lang/AbstractStringBuilder" 114 ⟨"jdk/internal/util/ArraysSupport", "newLength", "(III)I"⟩) ∈ WA := wa_q tbl_4 3 rfl rfl
theorem q_t4_4 : (Cond.static ⟨"jdk/internal/util/ArraysSupport", "newLength", "(III)I"⟩) ∈ WA := wa_q tbl_4 4 rfl rfl
theorem q_t4_5 : (Cond.code ⟨"jdk/internal/util/ArraysSupport", "newLength", "(III)I"⟩ prog_29_method_27_code 4 (some .int)) ∈ WA := wa_q tbl_4 5 rfl rfl
theorem q_t4_6 : (Cond.methodLink "jdk/internal/util/ArraysSupport" 194 ⟨"java/lang/Math", "max", "(II)I"⟩) ∈ WA := wa_q tbl_4 6 rfl rfl
theorem q_t4_7 : (Cond.constant "jdk/internal/util/ArraysSupport" 200 2147483639) ∈ WA := wa_q tbl_4 7 rfl rfl
theorem q_t4_11 : (Cond.constant "java/lang/AbstractStringBuilder" 39 2147483647) ∈ WA := wa_q tbl_4 11 rfl rfl
theorem q_t4_12 : (Cond.methodLink "java/lang/AbstractStringBuilder" 108 ⟨"java/util/Arrays", "copyOf", "([BI)[B"⟩) ∈ WA := wa_q tbl_4 12 rfl rfl
theorem q_t4_13 : (Cond.static ⟨"java/util/Arrays", "copyOf", "([BI)[B"⟩) ∈ WA := wa_q tbl_4 13 rfl rfl
theorem q_t4_14 : (Cond.code ⟨"java/util/Arrays", "copyOf", "([BI)[B"⟩ prog_28_method_121_code 3 (Option.some (.array .byte))) ∈ WA := wa_q tbl_4 14 rfl rfl
theorem q_t4_22 : (Cond.methodLink "java/util/Arrays" 304 ⟨"java/lang/Math", "min", "(II)I"⟩) ∈ WA := wa_q tbl_4 22 rfl rfl
theorem q_t4_23 : (Cond.methodLink "java/util/Arrays" 150 ⟨"java/lang/System", "arraycopy", "(Ljava/lang/Object;ILjava/lang/Object;II)V"⟩) ∈ WA := wa_q tbl_4 23 rfl rfl
theorem q_t4_24 : (Cond.methodLink "java/lang/AbstractStringBuilder" 83 ⟨"java/lang/AbstractStringBuilder", "isLatin1", "()Z"⟩) ∈ WA := wa_q tbl_4 24 rfl rfl
theorem q_t4_25 : (Cond.instanceMethod ⟨"java/lang/AbstractStringBuilder", "isLatin1", "()Z"⟩) ∈ WA := wa_q tbl_4 25 rfl rfl
theorem q_t4_26 : (Cond.sameMethod "java/lang/AbstractStringBuilder" "java/lang/AbstractStringBuilder" "isLatin1" "()Z") ∈ WA := wa_q tbl_4 26 rfl rfl
theorem q_t4_27 : (Cond.selects "java/lang/StringBuilder" ⟨"java/lang/AbstractStringBuilder", "isLatin1", "()Z"⟩ ⟨"java/lang/AbstractStringBuilder", "isLatin1", "()Z"⟩) ∈ WA := wa_q tbl_4 27 rfl rfl
theorem q_t4_28 : (Cond.code ⟨"java/lang/AbstractStringBuilder", "isLatin1", "()Z"⟩ prog_10_method_68_code 1 (some .boolean)) ∈ WA := wa_q tbl_4 28 rfl rfl
theorem q_t4_55 : (Cond.methodLink "java/lang/AbstractStringBuilder" 32 ⟨"java/lang/String", "length", "()I"⟩) ∈ WA := wa_q tbl_4 55 rfl rfl
theorem q_t4_64 : (Cond.methodLink "java/lang/AbstractStringBuilder" 208 ⟨"java/lang/AbstractStringBuilder", "putStringAt", "(ILjava/lang/String;)V"⟩) ∈ WA := wa_q tbl_4 64 rfl rfl
theorem q_t4_66 : (Cond.instanceMethod ⟨"java/lang/AbstractStringBuilder", "putStringAt", "(ILjava/lang/String;)V"⟩) ∈ WA := wa_q tbl_4 66 rfl rfl
theorem q_t4_67 : (Cond.code ⟨"java/lang/AbstractStringBuilder", "putStringAt", "(ILjava/lang/String;)V"⟩ prog_10_method_73_code 3 none) ∈ WA := wa_q tbl_4 67 rfl rfl
theorem q_t4_68 : (Cond.methodLink "java/lang/AbstractStringBuilder" 397 ⟨"java/lang/AbstractStringBuilder", "inflateIfNeededFor", "(Ljava/lang/String;)V"⟩) ∈ WA := wa_q tbl_4 68 rfl rfl
theorem q_t4_70 : (Cond.instanceMethod ⟨"java/lang/AbstractStringBuilder", "inflateIfNeededFor", "(Ljava/lang/String;)V"⟩) ∈ WA := wa_q tbl_4 70 rfl rfl
theorem q_t4_71 : (Cond.code ⟨"java/lang/AbstractStringBuilder", "inflateIfNeededFor", "(Ljava/lang/String;)V"⟩ prog_10_method_71_code 2 none) ∈ WA := wa_q tbl_4 71 rfl rfl
theorem q_t4_72 : (Cond.methodLink "java/lang/AbstractStringBuilder" 40 ⟨"java/lang/String", "coder", "()B"⟩) ∈ WA := wa_q tbl_4 72 rfl rfl
theorem q_t4_92 : (Cond.methodLink "java/lang/AbstractStringBuilder" 399 ⟨"java/lang/String", "getBytes", "([BIB)V"⟩) ∈ WA := wa_q tbl_4 92 rfl rfl
theorem q_t4_93 : (Cond.instanceMethod ⟨"java/lang/String", "getBytes", "([BIB)V"⟩) ∈ WA := wa_q tbl_4 93 rfl rfl
theorem q_t4_94 : (Cond.selects "java/lang/String" ⟨"java/lang/String", "getBytes", "([BIB)V"⟩ ⟨"java/lang/String", "getBytes", "([BIB)V"⟩) ∈ WA := wa_q tbl_4 94 rfl rfl
theorem q_t4_95 : (Cond.code ⟨"java/lang/String", "getBytes", "([BIB)V"⟩ prog_21_method_147_code 4 none) ∈ WA := wa_q tbl_4 95 rfl rfl
theorem q_t4_96 : (Cond.methodLink "java/lang/String" 212 ⟨"java/lang/System", "arraycopy", "(Ljava/lang/Object;ILjava/lang/Object;II)V"⟩) ∈ WA := wa_q tbl_4 96 rfl rfl
theorem q_t4_99 : (Cond.instanceMethod ⟨"java/lang/StringBuilder", "append", "(I)Ljava/lang/StringBuilder;"⟩) ∈ WA := wa_q tbl_4 99 rfl rfl
theorem q_t4_100 : (Cond.selects "java/lang/StringBuilder" ⟨"java/lang/StringBuilder", "append", "(I)Ljava/lang/StringBuilder;"⟩ ⟨"java/lang/StringBuilder", "append", "(I)Ljava/lang/StringBuilder;"⟩) ∈ WA := wa_q tbl_4 100 rfl rfl
theorem q_t4_101 : (Cond.code ⟨"java/lang/StringBuilder", "append", "(I)Ljava/lang/StringBuilder;"⟩ prog_22_method_15_code 2 (Option.some (.object "java/lang/StringBuilder"))) ∈ WA := wa_q tbl_4 101 rfl rfl
theorem q_t4_102 : (Cond.methodLink "java/lang/StringBuilder" 53 ⟨"java/lang/AbstractStringBuilder", "append", "(I)Ljava/lang/AbstractStringBuilder;"⟩) ∈ WA := wa_q tbl_4 102 rfl rfl
theorem q_t4_103 : (Cond.instanceMethod ⟨"java/lang/AbstractStringBuilder", "append", "(I)Ljava/lang/AbstractStringBuilder;"⟩) ∈ WA := wa_q tbl_4 103 rfl rfl
theorem q_t4_104 : (Cond.code ⟨"java/lang/AbstractStringBuilder", "append", "(I)Ljava/lang/AbstractStringBuilder;"⟩ prog_10_method_32_code 4 (Option.some (.object "java/lang/AbstractStringBuilder"))) ∈ WA := wa_q tbl_4 104 rfl rfl
theorem q_t4_105 : (Cond.methodLink "java/lang/AbstractStringBuilder" 245 ⟨"java/lang/Integer", "stringSize", "(I)I"⟩) ∈ WA := wa_q tbl_4 105 rfl rfl
theorem q_t4_106 : (Cond.static ⟨"java/lang/Integer", "stringSize", "(I)I"⟩) ∈ WA := wa_q tbl_4 106 rfl rfl
theorem q_t4_107 : (Cond.code ⟨"java/lang/Integer", "stringSize", "(I)I"⟩ prog_18_method_13_code 4 (some .int)) ∈ WA := wa_q tbl_4 107 rfl rfl
theorem q_t4_108 : (Cond.methodLink "java/lang/AbstractStringBuilder" 248 ⟨"java/lang/Integer", "getChars", "(II[B)I"⟩) ∈ WA := wa_q tbl_4 108 rfl rfl
theorem q_t4_109 : (Cond.static ⟨"java/lang/Integer", "getChars", "(II[B)I"⟩) ∈ WA := wa_q tbl_4 109 rfl rfl
theorem q_t4_110 : (Cond.code ⟨"java/lang/Integer", "getChars", "(II[B)I"⟩ prog_18_method_12_code 7 (some .int)) ∈ WA := wa_q tbl_4 110 rfl rfl
theorem q_t4_111 : (Cond.fieldLink "java/lang/Integer" 83 "java/lang/Integer" "DigitOnes" "[B") ∈ WA := wa_q tbl_4 111 rfl rfl
theorem q_t4_113 : (Cond.fieldLink "java/lang/Integer" 87 "java/lang/Integer" "DigitTens" "[B") ∈ WA := wa_q tbl_4 113 rfl rfl
theorem q_t4_142 : (Cond.instanceMethod ⟨"java/lang/AbstractStringBuilder", "length", "()I"⟩) ∈ WA := wa_q tbl_4 142 rfl rfl
theorem q_t4_143 : (Cond.sameMethod "java/lang/AbstractStringBuilder" "java/lang/AbstractStringBuilder" "length" "()I") ∈ WA := wa_q tbl_4 143 rfl rfl
theorem q_t4_145 : (Cond.instanceMethod ⟨"java/lang/StringBuilder", "length", "()I"⟩) ∈ WA := wa_q tbl_4 145 rfl rfl
theorem q_t4_146 : (Cond.code ⟨"java/lang/StringBuilder", "length", "()I"⟩ prog_22_method_93_code 1 (some .int)) ∈ WA := wa_q tbl_4 146 rfl rfl
theorem q_t4_147 : (Cond.methodLink "java/lang/StringBuilder" 343 ⟨"java/lang/AbstractStringBuilder", "length", "()I"⟩) ∈ WA := wa_q tbl_4 147 rfl rfl
theorem q_t4_148 : (Cond.code ⟨"java/lang/AbstractStringBuilder", "length", "()I"⟩ prog_10_method_6_code 1 (some .int)) ∈ WA := wa_q tbl_4 148 rfl rfl
theorem q_t5_67 : (Cond.methodLink "SheetFolder" 346 ⟨"SheetFolder", "writeBend", "(I)V"⟩) ∈ WA := wa_q tbl_5 67 rfl rfl
theorem q_t5_69 : (Cond.instanceMethod ⟨"SheetFolder", "writeBend", "(I)V"⟩) ∈ WA := wa_q tbl_5 69 rfl rfl
theorem q_t5_70 : (Cond.code ⟨"SheetFolder", "writeBend", "(I)V"⟩ prog_1_method_62_code 2 none) ∈ WA := wa_q tbl_5 70 rfl rfl
theorem q_t5_72 : (Cond.methodLink "SheetFolder" 360 ⟨"java/lang/StringBuilder", "append", "(C)Ljava/lang/StringBuilder;"⟩) ∈ WA := wa_q tbl_5 72 rfl rfl
theorem q_t5_73 : (Cond.instanceMethod ⟨"java/lang/StringBuilder", "append", "(C)Ljava/lang/StringBuilder;"⟩) ∈ WA := wa_q tbl_5 73 rfl rfl
theorem q_t5_74 : (Cond.selects "java/lang/StringBuilder" ⟨"java/lang/StringBuilder", "append", "(C)Ljava/lang/StringBuilder;"⟩ ⟨"java/lang/StringBuilder", "append", "(C)Ljava/lang/StringBuilder;"⟩) ∈ WA := wa_q tbl_5 74 rfl rfl
theorem q_t5_75 : (Cond.code ⟨"java/lang/StringBuilder", "append", "(C)Ljava/lang/StringBuilder;"⟩ prog_22_method_14_code 2 (Option.some (.object "java/lang/StringBuilder"))) ∈ WA := wa_q tbl_5 75 rfl rfl
theorem q_t5_76 : (Cond.methodLink "java/lang/StringBuilder" 50 ⟨"java/lang/AbstractStringBuilder", "append", "(C)Ljava/lang/AbstractStringBuilder;"⟩) ∈ WA := wa_q tbl_5 76 rfl rfl
theorem q_t5_77 : (Cond.instanceMethod ⟨"java/lang/AbstractStringBuilder", "append", "(C)Ljava/lang/AbstractStringBuilder;"⟩) ∈ WA := wa_q tbl_5 77 rfl rfl
theorem q_t5_78 : (Cond.code ⟨"java/lang/AbstractStringBuilder", "append", "(C)Ljava/lang/AbstractStringBuilder;"⟩ prog_10_method_31_code 2 (Option.some (.object "java/lang/AbstractStringBuilder"))) ∈ WA := wa_q tbl_5 78 rfl rfl
theorem q_t5_79 : (Cond.methodLink "java/lang/AbstractStringBuilder" 191 ⟨"java/lang/StringLatin1", "canEncode", "(C)Z"⟩) ∈ WA := wa_q tbl_5 79 rfl rfl
theorem q_t5_80 : (Cond.static ⟨"java/lang/StringLatin1", "canEncode", "(C)Z"⟩) ∈ WA := wa_q tbl_5 80 rfl rfl
theorem q_t5_81 : (Cond.code ⟨"java/lang/StringLatin1", "canEncode", "(C)Z"⟩ prog_24_method_3_code 1 (some .boolean)) ∈ WA := wa_q tbl_5 81 rfl rfl
theorem q_t5_94 : (Cond.methodLink "SheetFolder" 349 ⟨"java/lang/StringBuilder", "append", "(I)Ljava/lang/StringBuilder;"⟩) ∈ WA := wa_q tbl_5 94 rfl rfl
theorem q_t5_96 : (Cond.methodLink "SheetFolder" 354 ⟨"java/lang/StringBuilder", "append", "(Ljava/lang/String;)Ljava/lang/StringBuilder;"⟩) ∈ WA := wa_q tbl_5 96 rfl rfl
theorem q_t5_97 : (Cond.methodLink "SheetFolder" 357 ⟨"java/lang/StringBuilder", "length", "()I"⟩) ∈ WA := wa_q tbl_5 97 rfl rfl
theorem q_t7_45 : (Cond.instanceMethod ⟨"SheetFolder", "written", "(I)C"⟩) ∈ WA := wa_q tbl_7 45 rfl rfl
theorem q_t7_46 : (Cond.selects "SheetFolder" ⟨"SheetFolder", "written", "(I)C"⟩ ⟨"SheetFolder", "written", "(I)C"⟩) ∈ WA := wa_q tbl_7 46 rfl rfl
theorem q_t7_47 : (Cond.code ⟨"SheetFolder", "written", "(I)C"⟩ prog_1_method_63_code 2 (some .char)) ∈ WA := wa_q tbl_7 47 rfl rfl
theorem q_t7_49 : (Cond.methodLink "SheetFolder" 365 ⟨"java/lang/StringBuilder", "charAt", "(I)C"⟩) ∈ WA := wa_q tbl_7 49 rfl rfl
theorem q_t7_50 : (Cond.instanceMethod ⟨"java/lang/StringBuilder", "charAt", "(I)C"⟩) ∈ WA := wa_q tbl_7 50 rfl rfl
theorem q_t7_51 : (Cond.selects "java/lang/StringBuilder" ⟨"java/lang/StringBuilder", "charAt", "(I)C"⟩ ⟨"java/lang/StringBuilder", "charAt", "(I)C"⟩) ∈ WA := wa_q tbl_7 51 rfl rfl
theorem q_t7_52 : (Cond.code ⟨"java/lang/StringBuilder", "charAt", "(I)C"⟩ prog_22_method_88_code 2 (some .char)) ∈ WA := wa_q tbl_7 52 rfl rfl
theorem q_t7_53 : (Cond.methodLink "java/lang/StringBuilder" 329 ⟨"java/lang/AbstractStringBuilder", "charAt", "(I)C"⟩) ∈ WA := wa_q tbl_7 53 rfl rfl
theorem q_t7_54 : (Cond.instanceMethod ⟨"java/lang/AbstractStringBuilder", "charAt", "(I)C"⟩) ∈ WA := wa_q tbl_7 54 rfl rfl
theorem q_t7_55 : (Cond.code ⟨"java/lang/AbstractStringBuilder", "charAt", "(I)C"⟩ prog_10_method_14_code 5 (some .char)) ∈ WA := wa_q tbl_7 55 rfl rfl
theorem q_t7_56 : (Cond.methodLink "java/lang/AbstractStringBuilder" 138 ⟨"java/lang/Math", "min", "(II)I"⟩) ∈ WA := wa_q tbl_7 56 rfl rfl
theorem q_t7_57 : (Cond.methodLink "java/lang/AbstractStringBuilder" 144 ⟨"java/lang/String", "checkIndex", "(II)V"⟩) ∈ WA := wa_q tbl_7 57 rfl rfl
theorem q_wk_0 : (Cond.selects "java/lang/StringBuilder" ⟨"java/lang/AbstractStringBuilder", "ensureCapacityInternal", "(I)V"⟩ ⟨"java/lang/AbstractStringBuilder", "ensureCapacityInternal", "(I)V"⟩) ∈ WA := wa_x 0 rfl
theorem q_wk_1 : (Cond.selects "java/lang/StringBuilder" ⟨"java/lang/AbstractStringBuilder", "newCapacity", "(I)I"⟩ ⟨"java/lang/AbstractStringBuilder", "newCapacity", "(I)I"⟩) ∈ WA := wa_x 1 rfl
theorem q_wk_3 : (Cond.selects "java/lang/StringBuilder" ⟨"java/lang/AbstractStringBuilder", "putStringAt", "(ILjava/lang/String;)V"⟩ ⟨"java/lang/AbstractStringBuilder", "putStringAt", "(ILjava/lang/String;)V"⟩) ∈ WA := wa_x 3 rfl
theorem q_wk_5 : (Cond.selects "java/lang/StringBuilder" ⟨"java/lang/AbstractStringBuilder", "inflateIfNeededFor", "(Ljava/lang/String;)V"⟩ ⟨"java/lang/AbstractStringBuilder", "inflateIfNeededFor", "(Ljava/lang/String;)V"⟩) ∈ WA := wa_x 5 rfl
theorem bp_m10 : (Int8.ofInt (-10)).toInt32 = -10 := by decide
theorem bp_m100 : (Int8.ofInt (-100)).toInt32 = -100 := by decide
theorem bp_m9 : (Int8.ofInt (-9)).toInt32 = -9 := by decide
end
/-! part 33a.grow -/
section
/-! growth: the world gets the StringBuilder's second or third array -/
def Ext (kd : Nat → Nat × Nat) (ad : Nat → Nat) (kd' : Nat → Nat × Nat) (ad' : Nat → Nat) (sz : Nat) : Prop :=
  (∀ k, (kd k).1 ≠ 0 → kd' k = kd k ∧ ad' k = ad k) ∧ ∀ k, (kd k).1 = 0 → (kd' k).1 ≠ 0 → sz ≤ ad' k
section EXT
variable {kd kd' kd1 kd2 : Nat → Nat × Nat} {ad ad' ad1 ad2 : Nat → Nat} {sz sz' : Nat}
theorem Ext.refl : Ext kd ad kd ad sz := ⟨fun _ _ => ⟨rfl, rfl⟩, fun _ h h' => absurd h h'⟩
theorem Ext.trans (h : Ext kd ad kd1 ad1 sz) (h' : Ext kd1 ad1 kd2 ad2 sz') (hs : sz ≤ sz') : Ext kd ad kd2 ad2 sz := by
  refine ⟨fun k hk => ?_, fun k hk hk2 => ?_⟩
  · obtain ⟨e1, e2⟩ := h.1 k hk
    obtain ⟨e3, e4⟩ := h'.1 k (by rw [e1]; exact hk)
    exact ⟨e3.trans e1, e4.trans e2⟩
  · by_cases h1 : (kd1 k).1 = 0
    · exact Nat.le_trans hs (h'.2 k h1 hk2)
    · rw [(h'.1 k h1).2]; exact h.2 k hk h1
theorem Ext.AS (h : Ext kd ad kd' ad' sz) : AS kd' ad' sz = AS kd ad sz := by
  funext q
  refine propext ⟨fun hq => hq.elim (fun ⟨k, hk, e⟩ => ?_) Or.inr, fun hq => hq.elim (fun ⟨k, hk, e⟩ => ?_) Or.inr⟩
  · by_cases h1 : (kd k).1 = 0
    · exact Or.inr (by rw [e]; exact h.2 k h1 hk)
    · exact Or.inl ⟨k, h1, by rw [e]; exact (h.1 k h1).2⟩
  · obtain ⟨e1, e2⟩ := h.1 k hk
    exact Or.inl ⟨k, by rw [e1]; exact hk, by rw [e, e2]⟩
/-- no cell but the StringBuilder refers to 154 or 155 -/
def lowAt : Nat → Nat → Prop
  | 0, _ => True
  | 1, k => k ≤ 146
  | 2, k => k ≤ 147
  | 3, k => k ≤ 131
  | 4, k => k ≤ 152
  | 5, k => k ≤ 152
  | 6, _ => True
  | 8, k => k = 22
  | 10, _ => True
  | 11, _ => True
  | 12, _ => True
  | 13, _ => True
  | 14, _ => True
  | _, _ => False
def Low (kd : Nat → Nat × Nat) : Prop := ∀ k, k ≠ 133 → lowAt (kd k).1 k
theorem ent_ad {cA : Nat → ClassId} {k : Nat} {r : Nat → Int32} {q : Nat → Int64} {u : Nat → UInt64} (hL : Low kd) (hk : k ≠ 133) (had : ∀ j, j ≠ 154 → j ≠ 155 → ad' j = ad j) : ent ad' cA (kd k) k r q u = ent ad cA (kd k) k r q u := by
  have h := hL k hk
  generalize kd k = c at h
  obtain ⟨c1, c2⟩ := c
  match c1, h with
  | 0, _ => rfl
  | 1, h =>
    have h : k ≤ 146 := h
    show Sum.inr (5, ePart ad' k r) = Sum.inr (5, ePart ad k r)
    unfold ePart
    rw [had (k + 1) (by omega) (by omega), had (k + 2) (by omega) (by omega), had (k + 3) (by omega) (by omega), had (k + 4) (by omega) (by omega), had (k + 5) (by omega) (by omega), had (k + 6) (by omega) (by omega), had (k + 7) (by omega) (by omega)]
  | 2, h =>
    have h : k ≤ 147 := h
    show Sum.inr (6, ePlaces ad' k r) = Sum.inr (6, ePlaces ad k r)
    unfold ePlaces
    rw [had (k + 1) (by omega) (by omega), had (k + 2) (by omega) (by omega), had (k + 3) (by omega) (by omega), had (k + 4) (by omega) (by omega), had (k + 5) (by omega) (by omega), had (k + 6) (by omega) (by omega)]
  | 3, h =>
    have h : k ≤ 131 := h
    show Sum.inr (7, ePlanner ad' k r) = Sum.inr (7, ePlanner ad k r)
    unfold ePlanner
    rw [had (k + 1) (by omega) (by omega), had (k + 2) (by omega) (by omega), had (k + 9) (by omega) (by omega), had (k + 17) (by omega) (by omega), had (k + 18) (by omega) (by omega), had (k + 19) (by omega) (by omega), had (k + 20) (by omega) (by omega), had (k + 21) (by omega) (by omega), had (k + 22) (by omega) (by omega)]
  | 4, h =>
    have h : k ≤ 152 := h
    show Sum.inr (4, eHist ad' k r) = Sum.inr (4, eHist ad k r)
    unfold eHist
    rw [had (k + 1) (by omega) (by omega)]
  | 5, h =>
    have h : k ≤ 152 := h
    show Sum.inr (8, eReader ad' k r) = Sum.inr (8, eReader ad k r)
    unfold eReader
    rw [had (k + 1) (by omega) (by omega), had (if r 2 = 1 then 1 else 4) (by split <;> omega) (by split <;> omega)]
  | 6, _ =>
    show Sum.inr (10, eRoot ad' k r) = Sum.inr (10, eRoot ad k r)
    unfold eRoot
    rw [had 1 (by omega) (by omega), had 2 (by omega) (by omega), had 5 (by omega) (by omega), had 13 (by omega) (by omega), had 21 (by omega) (by omega), had 103 (by omega) (by omega), had 110 (by omega) (by omega), had 133 (by omega) (by omega)]
  | 8, h =>
    have h : k = 22 := h
    subst h
    have e : (fun j => some (ad' (22 + 1 + 8 * j))) = (fun j => some (ad (22 + 1 + 8 * j))) := by
      funext j
      rw [had _ (by omega) (by omega)]
    show (Sum.inl (cA 4, c2, .inr (.inr (.inr (.inr (fun j => some (ad' (22 + 1 + 8 * j))))))) : va_E) = Sum.inl (cA 4, c2, .inr (.inr (.inr (.inr (fun j => some (ad (22 + 1 + 8 * j)))))))
    rw [e]
  | 10, _ => rfl
  | 11, _ => rfl
  | 12, _ => rfl
  | 13, _ => rfl
  | 14, _ => rfl
theorem Low.set (hL : Low kd) {id N : Nat} : Low (setk kd id (11, N)) := fun k hk => by
  by_cases e : k = id
  · subst e; rw [setk_s]; trivial
  · rw [setk_o e]; exact hL k hk
def adx (ad : Nat → Nat) (id a : Nat) : Nat → Nat := fun j => if j = id then a else ad j
theorem adx_s {id a : Nat} : adx ad id a id = a := if_pos rfl
theorem adx_o {id a j : Nat} (h : j ≠ id) : adx ad id a j = ad j := if_neg h
theorem Ext.new {id N a : Nat} (h0 : (kd id).1 = 0) (ha : sz ≤ a) : Ext kd ad (setk kd id (11, N)) (adx ad id a) sz := by
  refine ⟨fun k hk => ?_, fun k hk hk2 => ?_⟩
  · have e : k ≠ id := fun e => hk (by rw [e]; exact h0)
    exact ⟨setk_o e, adx_o e⟩
  · by_cases e : k = id
    · subst e; rw [adx_s]; exact ha
    · rw [setk_o e] at hk2; exact absurd hk hk2
/-- the StringBuilder (number 133) with its level g -/
def Sb (kd : Nat → Nat × Nat) (g : Int32) : Prop := kd 133 = (9, 0) ∧ kd (sbv 133 g) = (11, sbn g) ∧ (g = 0 → (kd 154).1 = 0 ∧ (kd 155).1 = 0) ∧ (g = 1 → (kd 155).1 = 0) ∧ (g = 0 ∨ g = 1 ∨ g = 2)
end EXT
section GRW
variable {p : Program} {l : Launch} {e : Env} {R : Room} {s : State} {m : MethodId} {args : Array Value} {below : List Frame} {meth : Method} {c : Code} {H : Heap} {locs : List Loc} {cells slots : Nat} {Q : State → Prop}
variable {cc : ByteArray} {pc : Nat} {ls : Array Slot} {rest : List Value} {G : GT} {kd : Nat → Nat × Nat} {ad : Nat → Nat} {M : Mem} {H0 : Heap}
theorem g_newb {id N : Nat} (hx : p.tables.exec = Jvm.exec) (hb : c.code = cc) (hw : Cond.arrayClass .byte ∈ WA) (hts : ∀ w ∈ WA, w.before args s = true) (hK : va_K G.1 vwCl (tyL G) s) (hap : Apt kd ad) (hL : Low kd) (hI : Inv G kd ad s.heap M H locs) (hid : id = 154 ∨ id = 155) (h0 : (kd id).1 = 0) (h9 : kd 133 = (9, 0)) (hsb : sbv 133 (M.1 133 0) ≠ id)
    {v : Int32} (hv : v.toNatClampNeg = N ∧ ¬ v < 0) (hbytes : N * 1 ≤ 536870912) (hR : cells + 1 ≤ R.cells ∧ slots + N ≤ R.slots) (hdg : decode cc pc = .ok (.newarray .byte, 2))
    (kk : ∀ (H1 : Heap), s.heap.size ≤ H.size → Inv G (setk kd id (11, N)) (adx ad id H.size) s.heap (zr M id) H1 locs → Apt (setk kd id (11, N)) (adx ad id H.size) → W p l e R s m args below meth c H1 locs (cells + 1) (slots + N) Q (F0 m (pc + 2) ls (.ref (adx ad id H.size id) :: rest))) : W p l e R s m args below meth c H locs cells slots Q (F0 m pc ls (.int v :: rest)) := by
  rw [adx_s] at kk
  refine va_newaK hx hb (show Cond.before (Cond.arrayClass (newarray.typeOf .byte)) args s = true from hts _ hw) rfl hdg rfl hv.2 hv.1 hbytes hR.1 hR.2 rfl fun H1 cA1 e1 z1 o1 hAr hNm => ?_
  have hcA : cA1 = G.2.1 1 := Option.some.inj (hNm.symm.trans (hK.2 1 _ rfl).2)
  subst hcA
  have hsz := hI.2.1
  have hext : Ext kd ad (setk kd id (11, N)) (adx ad id H.size) s.heap.size := Ext.new h0 hsz
  refine kk H1 hsz ⟨fun k hk => ?_, ?_⟩ (fun k k' hk hk' he => ?_)
  · by_cases ek : k = id
    · subst ek
      rw [setk_s, adx_s]
      show H1[H.size]? = some (vp_cell (G.2.1 1) (N, .inl ((zr M k).1 k)))
      rw [zr_s.1, vp_cell_i]
      exact e1
    · rw [setk_o ek] at hk ⊢
      rw [adx_o ek]
      obtain ⟨z1', z2', z3'⟩ := zr_o (M := M) (j := id) k ek
      rw [z1', z2', z3']
      have hat := hI.1 k hk
      have hent : ent (adx ad id H.size) G.2.1 (kd k) k (M.1 k) (M.2.1 k) (M.2.2 k) = ent ad G.2.1 (kd k) k (M.1 k) (M.2.1 k) (M.2.2 k) := by
        by_cases e9 : k = 133
        · subst e9
          rw [h9]
          show Sum.inr (1, eSB (adx ad id H.size) 133 (M.1 133)) = Sum.inr (1, eSB ad 133 (M.1 133))
          unfold eSB
          rw [adx_o hsb]
        · exact ent_ad hL e9 (fun j h1 h2 => adx_o (by rcases hid with rfl | rfl <;> assumption))
      rw [hent]
      exact hat.kept (o1 _ hat.lt)
  · rw [hext.AS]
    exact ⟨Nat.le_trans hI.2.1 (by omega), fun x h1 h2 => (o1 x (Nat.lt_of_lt_of_le h1 hI.2.1)).trans (hI.2.2.1 x h1 h2), hI.2.2.2⟩
  · by_cases ek : k = id
    · by_cases ek' : k' = id
      · rw [ek, ek']
      · rw [setk_o ek'] at hk'
        rw [ek, adx_s, adx_o ek'] at he
        have := hI.1.lt hk'
        omega
    · by_cases ek' : k' = id
      · rw [setk_o ek] at hk
        rw [ek', adx_s, adx_o ek] at he
        have := hI.1.lt hk
        omega
      · rw [setk_o ek] at hk
        rw [setk_o ek'] at hk'
        rw [adx_o ek, adx_o ek'] at he
        exact hap _ _ hk hk' he
end GRW
end
/-! part 33b.growrules -/
section
/-! methods that let the array grow: their worlds, calls, ends -/
def Qr (G : GT) (kd : Nat → Nat × Nat) (ad : Nat → Nat) (sz : Nat) (M : Mem) (v : Option Value) : Array Value → State → Outcome → State → Prop := fun _ st oc t => oc = .returned v ∧ (∃ kd' ad', Ext kd ad kd' ad' sz ∧ Low kd' ∧ Sb kd' (rd M 133 0) ∧ Apt kd' ad' ∧ Wd G kd' ad' M t.heap) ∧ va_F (AS kd ad sz) st t
theorem Ext.le {kd kd' : Nat → Nat × Nat} {ad ad' : Nat → Nat} {sz sz' : Nat} (h : Ext kd ad kd' ad' sz') (hs : sz ≤ sz') : Ext kd ad kd' ad' sz := ⟨h.1, fun k h1 h2 => Nat.le_trans hs (h.2 k h1 h2)⟩
theorem kPart_ext {kd kd' : Nat → Nat × Nat} {ad ad' : Nat → Nat} {sz k : Nat} (h : kPart kd k) (he : Ext kd ad kd' ad' sz) : kPart kd' k := by
  obtain ⟨h0, h1, h2, h3, h4, h5, h6, h7⟩ := h
  have f : ∀ j q, kd j = q → q.1 ≠ 0 → kd' j = q := fun j q hq hn => by rw [(he.1 j (by rw [hq]; exact hn)).1, hq]
  exact ⟨f _ _ h0 (by simp), f _ _ h1 (by simp), f _ _ h2 (by simp), f _ _ h3 (by simp), f _ _ h4 (by simp), f _ _ h5 (by simp), f _ _ h6 (by simp), f _ _ h7 (by simp)⟩
theorem kPlaces_ext {kd kd' : Nat → Nat × Nat} {ad ad' : Nat → Nat} {sz k : Nat} (h : kPlaces kd k) (he : Ext kd ad kd' ad' sz) : kPlaces kd' k := by
  obtain ⟨h0, h1, h2, h3, h4, h5, h6⟩ := h
  have f : ∀ j q, kd j = q → q.1 ≠ 0 → kd' j = q := fun j q hq hn => by rw [(he.1 j (by rw [hq]; exact hn)).1, hq]
  exact ⟨f _ _ h0 (by simp), f _ _ h1 (by simp), f _ _ h2 (by simp), f _ _ h3 (by simp), f _ _ h4 (by simp), f _ _ h5 (by simp), f _ _ h6 (by simp)⟩
theorem kPlanner_ext {kd kd' : Nat → Nat × Nat} {ad ad' : Nat → Nat} {sz k : Nat} (h : kPlanner kd k) (he : Ext kd ad kd' ad' sz) : kPlanner kd' k := by
  obtain ⟨h0, h1, h2, h3, h4, h5, h6, h7, h8, h9⟩ := h
  have f : ∀ j q, kd j = q → q.1 ≠ 0 → kd' j = q := fun j q hq hn => by rw [(he.1 j (by rw [hq]; exact hn)).1, hq]
  exact ⟨f _ _ h0 (by simp), f _ _ h1 (by simp), kPlaces_ext h2 he, kPart_ext h3 he, f _ _ h4 (by simp), f _ _ h5 (by simp), f _ _ h6 (by simp), f _ _ h7 (by simp), f _ _ h8 (by simp), f _ _ h9 (by simp)⟩
theorem kHist_ext {kd kd' : Nat → Nat × Nat} {ad ad' : Nat → Nat} {sz k : Nat} (h : kHist kd k) (he : Ext kd ad kd' ad' sz) : kHist kd' k := by
  obtain ⟨h0, h1, h2⟩ := h
  have f : ∀ j q, kd j = q → q.1 ≠ 0 → kd' j = q := fun j q hq hn => by rw [(he.1 j (by rw [hq]; exact hn)).1, hq]
  exact ⟨f _ _ h0 (by simp), f _ _ h1 (by simp), fun i hi => kPart_ext (h2 i hi) he⟩
theorem kReader_ext {kd kd' : Nat → Nat × Nat} {ad ad' : Nat → Nat} {sz k : Nat} (h : kReader kd k) (he : Ext kd ad kd' ad' sz) : kReader kd' k := by
  obtain ⟨h0, h1, h2⟩ := h
  have f : ∀ j q, kd j = q → q.1 ≠ 0 → kd' j = q := fun j q hq hn => by rw [(he.1 j (by rw [hq]; exact hn)).1, hq]
  exact ⟨f _ _ h0 (by simp), f _ _ h1 (by simp), f _ _ h2 (by simp)⟩
theorem kRoot_ext {kd kd' : Nat → Nat × Nat} {ad ad' : Nat → Nat} {sz k : Nat} (h : kRoot kd k) (he : Ext kd ad kd' ad' sz) : kRoot kd' k := by
  obtain ⟨h0, h1, h2, h3, h4, h5, h6, h7⟩ := h
  have f : ∀ j q, kd j = q → q.1 ≠ 0 → kd' j = q := fun j q hq hn => by rw [(he.1 j (by rw [hq]; exact hn)).1, hq]
  exact ⟨f _ _ h0 (by simp), f _ _ h1 (by simp), kReader_ext h2 he, kPart_ext h3 he, kPart_ext h4 he, kHist_ext h5 he, kPlaces_ext h6 he, kPlanner_ext h7 he⟩
theorem Cx.ext {p : Program} {s : State} {m : MethodId} {args : Array Value} {meth : Method} {c : Code} {cc : ByteArray} {nL : Nat} {ret : Option FieldType} {own : String} {G : GT} {kd kd' : Nat → Nat × Nat} {ad ad' : Nat → Nat} (C : Cx p s m args meth c cc nL ret own G kd ad) (he : Ext kd ad kd' ad' s.heap.size) (hap : Apt kd' ad') : Cx p s m args meth c cc nL ret own G kd' ad' := by
  obtain ⟨h1, h2, h3, h4, h5, h6, h7, h8, -, h9⟩ := C
  exact ⟨h1, h2, h3, h4, h5, h6, h7, h8, hap, by rw [he.AS]; exact h9⟩
section GR2
variable {p : Program} {l : Launch} {e : Env} {R : Room} {s : State} {m : MethodId} {args : Array Value} {below : List Frame} {meth : Method} {c : Code} {H : Heap} {locs : List Loc} {cells slots : Nat} {Q : State → Prop}
variable {cc : ByteArray} {pc : Nat} {ls : Array Slot} {rest : List Value} {G : GT} {kd : Nat → Nat × Nat} {ad : Nat → Nat} {M : Mem} {H0 : Heap}
theorem g_bodyR {y : MethodName} {bytes : ByteArray} {maxL mc ms n : Nat} {ret : Option FieldType} {own : String} {As : List Value} {M' : Mem} {v : Option Value} {d : Nat} (hy : plainName y.cls = true) (hyo : y.cls = own)
    (body : ∀ p e s m args below meth c, Cx p s m args meth c bytes maxL ret own G kd ad → s.heap.size = n → At p l e (rmO d mc ms) s m args below meth c 0 0 (MQ below (Qr G kd ad s.heap.size M' v) args s mc ms (AS kd ad s.heap.size)) G kd ad maxL 0 (lv_args 0 As) [] M) (hlen : (lg_sl As).length ≤ maxL) :
    Met l y (Cond.code y bytes maxL ret :: WA) (rmO d mc ms) (Pg G kd ad n As M) (Qr G kd ad n M' v) mc ms (AS kd ad n) := by
  refine Met.ofW (cc := bytes) (maxL := maxL) (ret := ret) hy rfl ?_
  intro p e s m args below meth c s₁ B hml hv
  obtain ⟨rfl, hsz, hw, hap, hK, hsx⟩ := hv
  have hts := atoms_spec (ws := Cond.code y bytes maxL ret :: WA) B.pre
  have hown : s.vm.findClass own = some m.cls := hyo ▸ findClass_of_methodNamed B.named
  subst hsz
  have hl := lv_entry As (n := maxL) hlen
  rw [lg_entry_eq]
  generalize (lg_sl As ++ List.replicate (maxL - (lg_sl As).length) Slot.unset).toArray = ls at hl ⊢
  exact body p e s m _ below meth c ⟨B.exec, B.bytes, hml, B.returns, hown, fun w h => hts w (List.mem_cons_of_mem _ h), B.notSynchronized, hK, hap, hsx⟩ rfl _ _ ls ⟨hw, va_S.rf⟩ hl
theorem g_vretR (hx : p.tables.exec = Jvm.exec) (hb : c.code = cc) (hr : meth.sig.returnType = none) (hlk : meth.locks = false) {kd0 : Nat → Nat × Nat} {ad0 : Nat → Nat} (he : Ext kd0 ad0 kd ad s.heap.size) (hL : Low kd) (hS : Sb kd (rd M 133 0)) (hap : Apt kd ad) (hI : Inv G kd ad s.heap M H locs) (hdg : decode cc pc = .ok (.return_, 1)) : W p l e R s m args below meth c H locs cells slots (MQ below (Qr G kd0 ad0 s.heap.size M none) args s cells slots (AS kd0 ad0 s.heap.size)) (F0 m pc ls []) :=
  W.vret hx hb hr (fun t ht _ => ⟨rfl, ⟨kd, ad, he, hL, hS, hap, by rw [ht]; exact hI.1⟩, by rw [← he.AS]; exact hI.2.F ht⟩) (fun q hq => by rw [← he.AS]; exact hI.2.2.2 q hq) hdg hlk
theorem g_iretR (hx : p.tables.exec = Jvm.exec) (hb : c.code = cc) (hr : meth.sig.returnType = some .int) (hlk : meth.locks = false) {kd0 : Nat → Nat × Nat} {ad0 : Nat → Nat} (he : Ext kd0 ad0 kd ad s.heap.size) (hL : Low kd) (hS : Sb kd (rd M 133 0)) (hap : Apt kd ad) (hI : Inv G kd ad s.heap M H locs) {v : Int32} (hdg : decode cc pc = .ok (.ireturn, 1)) : W p l e R s m args below meth c H locs cells slots (MQ below (Qr G kd0 ad0 s.heap.size M (some (.int v))) args s cells slots (AS kd0 ad0 s.heap.size)) (F0 m pc ls [.int v]) :=
  W.iret hx hb hr (fun t ht _ => ⟨rfl, ⟨kd, ad, he, hL, hS, hap, by rw [ht]; exact hI.1⟩, by rw [← he.AS]; exact hI.2.F ht⟩) (fun q hq => by rw [← he.AS]; exact hI.2.2.2 q hq) hdg hlk
theorem g_aretR (hx : p.tables.exec = Jvm.exec) (hb : c.code = cc) {rt : FieldType} (hr : meth.sig.returnType = some rt) (hrt : (∃ n, rt = .object n) ∨ ∃ t, rt = .array t) (hlk : meth.locks = false) {kd0 : Nat → Nat × Nat} {ad0 : Nat → Nat} (he : Ext kd0 ad0 kd ad s.heap.size) (hL : Low kd) (hS : Sb kd (rd M 133 0)) (hap : Apt kd ad) (hI : Inv G kd ad s.heap M H locs) {a : Nat} (hdg : decode cc pc = .ok (.areturn, 1)) : W p l e R s m args below meth c H locs cells slots (MQ below (Qr G kd0 ad0 s.heap.size M (some (.ref a))) args s cells slots (AS kd0 ad0 s.heap.size)) (F0 m pc ls [.ref a]) :=
  W.aret hx hb hr hrt (Or.inr ⟨_, rfl⟩) (fun t ht _ => ⟨rfl, ⟨kd, ad, he, hL, hS, hap, by rw [ht]; exact hI.1⟩, by rw [← he.AS]; exact hI.2.F ht⟩) (fun q hq => by rw [← he.AS]; exact hI.2.2.2 q hq) hdg hlk
theorem g_callR {st0 : List Value} {a : Array Value} {mc ms : Nat} {M' : Mem} {v : Option Value} (hr : va_Run p l e R s m args below meth c H locs cells slots mc ms (F0 m pc ls st0) rest (Qr G kd ad H.size M' v a) (AS kd ad H.size)) (hI : Inv G kd ad s.heap M H locs)
    (kk : ∀ (kd1 : Nat → Nat × Nat) (ad1 : Nat → Nat) (H1 : Heap) (locs1 : List Loc), Ext kd ad kd1 ad1 s.heap.size → Low kd1 → Sb kd1 (rd M' 133 0) → Apt kd1 ad1 → Inv G kd1 ad1 s.heap M' H1 locs1 → W p l e R s m args below meth c H1 locs1 (cells + mc) (slots + ms) Q (F0 m (pc + 3) ls (v.toList ++ rest))) : W p l e R s m args below meth c H locs cells slots Q (F0 m pc ls st0) := by
  intro T hT X
  obtain ⟨v', st₀, t, T', L, h0, X', hL, e1, e2, ⟨hv, ⟨kd1, ad1, hE, hLw, hSb, hAp, hw⟩, hF⟩, st⟩ := hr T hT X
  cases hv
  obtain ⟨k1, k2, k3⟩ := vx_keep h0 e1 hI.2 (fun q hq h => AS.old hq h) (fun q h => AS.mono hI.2.1 h) hL (by rw [← h0] at hF; rw [h0] at hF; exact hF)
  have hE' := hE.le hI.2.1
  obtain ⟨t2, a1, b1⟩ := kk kd1 ad1 T'.heap (locs ++ L) hE' hLw hSb hAp ⟨by rw [e1]; exact hw, by rw [hE'.AS]; exact k3⟩ T' rfl X'
  exact ⟨t2, st t2 a1, b1⟩
theorem g_callVRa {b : Nat} {C : String} {y : MethodName} {bytes : ByteArray} {maxL nL mc ms n index : Nat} {ret : Option FieldType} {rm : Room} {own : String} {As : List Value} {M' : Mem}  (hx : p.tables.exec = Jvm.exec) (hb : c.code = cc) (hml : c.maxLocals = nL) (hown : s.vm.findClass own = some m.cls) (hts : ∀ w ∈ WA, w.before args s = true) (hK : va_K G.1 vwCl (tyL G) s) (hap : Apt kd ad) (hsx : Sx G (AS kd ad s.heap.size) s s.heap) (hI : Inv G kd ad s.heap M H locs)
    (hM : Met l y (Cond.code y bytes maxL ret :: WA) rm (Pg G kd ad H.size (.ref (ad b) :: As) M) (Qr G kd ad H.size M' (some (.ref (ad b)))) mc ms (AS kd ad H.size)) (hcv : cvF C y bytes maxL ret n) (hl : Cond.methodLink own index y ∈ WA) (hrc : rm.cells = mc) (hrs : rm.slots = ms) (hR : rm.frames + 1 ≤ R.frames ∧ 8 + (maxL + 11) + rm.locals ≤ R.locals)
    {ci : Nat} {q : Nat × Nat} {fs : List Value} {T : u_T} {N : Nat} (hk : kd b = q) (hq : q.1 ≠ 0) (he : ent ad G.2.1 q b (M.1 b) (M.2.1 b) (M.2.2 b) = .inr (ci, fs)) (hc : vwCl[ci]? = some (C, T, N))
    (hn : As.length = n) (hsize : ls.size = nL) {st : List Value} (hst : st = As.reverse ++ .ref (ad b) :: rest) (hW : (rest.map fun v => v.category).sum ≤ 8) (hdg : decode cc pc = .ok (.invokevirtual index, 3)) (hf : cells + mc ≤ R.cells ∧ slots + ms ≤ R.slots)
    (kk : ∀ (kd1 : Nat → Nat × Nat) (ad1 : Nat → Nat) (H1 : Heap) (locs1 : List Loc), Ext kd ad kd1 ad1 s.heap.size → Low kd1 → Sb kd1 (rd M' 133 0) → Apt kd1 ad1 → Inv G kd1 ad1 s.heap M' H1 locs1 → W p l e R s m args below meth c H1 locs1 (cells + mc) (slots + ms) Q (F0 m (pc + 3) ls (.ref (ad b) :: rest))) : W p l e R s m args below meth c H locs cells slots Q (F0 m pc ls st) := by
  subst hst
  obtain ⟨c1, c2, c3, c4, c5⟩ := hcv
  have hG : GoodIn WA (wsV own index C y (Cond.code y bytes maxL ret :: WA)) := fun w h => by
    have : w ∈ WA := by
      rcases List.mem_append.mp h with h | h
      · simp only [List.mem_cons, List.not_mem_nil, or_false] at h
        rcases h with rfl | rfl | rfl | rfl
        · exact hl
        · exact c1
        · exact c2
        · exact c3
      · exact ws_good c4 w h
    exact ⟨this, wa_good w this⟩
  exact g_callR (va_runV (C := C) (b := ad b) (As := As) (rest := rest) ⟨hx, hb, hml, hown, hts⟩ hM (cwV n hts hG rfl hrc hrs c5 hR) ⟨pg_blind, va_recv hK (va_P1 (hI.at hk hq he)) hc (q0 := 0) rfl, fun U hU hW => pg_of hap hK hsx hI hU hW⟩ rfl hn hsize rfl (lv_room hW) hdg hf) hI kk
theorem g_callVRv {b : Nat} {C : String} {y : MethodName} {bytes : ByteArray} {maxL nL mc ms n index : Nat} {ret : Option FieldType} {rm : Room} {own : String} {As : List Value} {M' : Mem}  (hx : p.tables.exec = Jvm.exec) (hb : c.code = cc) (hml : c.maxLocals = nL) (hown : s.vm.findClass own = some m.cls) (hts : ∀ w ∈ WA, w.before args s = true) (hK : va_K G.1 vwCl (tyL G) s) (hap : Apt kd ad) (hsx : Sx G (AS kd ad s.heap.size) s s.heap) (hI : Inv G kd ad s.heap M H locs)
    (hM : Met l y (Cond.code y bytes maxL ret :: WA) rm (Pg G kd ad H.size (.ref (ad b) :: As) M) (Qr G kd ad H.size M' none) mc ms (AS kd ad H.size)) (hcv : cvF C y bytes maxL ret n) (hl : Cond.methodLink own index y ∈ WA) (hrc : rm.cells = mc) (hrs : rm.slots = ms) (hR : rm.frames + 1 ≤ R.frames ∧ 8 + (maxL + 11) + rm.locals ≤ R.locals)
    {ci : Nat} {q : Nat × Nat} {fs : List Value} {T : u_T} {N : Nat} (hk : kd b = q) (hq : q.1 ≠ 0) (he : ent ad G.2.1 q b (M.1 b) (M.2.1 b) (M.2.2 b) = .inr (ci, fs)) (hc : vwCl[ci]? = some (C, T, N))
    (hn : As.length = n) (hsize : ls.size = nL) {st : List Value} (hst : st = As.reverse ++ .ref (ad b) :: rest) (hW : (rest.map fun v => v.category).sum ≤ 8) (hdg : decode cc pc = .ok (.invokevirtual index, 3)) (hf : cells + mc ≤ R.cells ∧ slots + ms ≤ R.slots)
    (kk : ∀ (kd1 : Nat → Nat × Nat) (ad1 : Nat → Nat) (H1 : Heap) (locs1 : List Loc), Ext kd ad kd1 ad1 s.heap.size → Low kd1 → Sb kd1 (rd M' 133 0) → Apt kd1 ad1 → Inv G kd1 ad1 s.heap M' H1 locs1 → W p l e R s m args below meth c H1 locs1 (cells + mc) (slots + ms) Q (F0 m (pc + 3) ls (rest))) : W p l e R s m args below meth c H locs cells slots Q (F0 m pc ls st) := by
  subst hst
  obtain ⟨c1, c2, c3, c4, c5⟩ := hcv
  have hG : GoodIn WA (wsV own index C y (Cond.code y bytes maxL ret :: WA)) := fun w h => by
    have : w ∈ WA := by
      rcases List.mem_append.mp h with h | h
      · simp only [List.mem_cons, List.not_mem_nil, or_false] at h
        rcases h with rfl | rfl | rfl | rfl
        · exact hl
        · exact c1
        · exact c2
        · exact c3
      · exact ws_good c4 w h
    exact ⟨this, wa_good w this⟩
  exact g_callR (va_runV (C := C) (b := ad b) (As := As) (rest := rest) ⟨hx, hb, hml, hown, hts⟩ hM (cwV n hts hG rfl hrc hrs c5 hR) ⟨pg_blind, va_recv hK (va_P1 (hI.at hk hq he)) hc (q0 := 0) rfl, fun U hU hW => pg_of hap hK hsx hI hU hW⟩ rfl hn hsize rfl (lv_room hW) hdg hf) hI kk
theorem g_callURv {b : Nat} {C : String} {y : MethodName} {bytes : ByteArray} {maxL nL mc ms n index : Nat} {ret : Option FieldType} {rm : Room} {own : String} {As : List Value} {M' : Mem}  (hx : p.tables.exec = Jvm.exec) (hb : c.code = cc) (hml : c.maxLocals = nL) (hown : s.vm.findClass own = some m.cls) (hts : ∀ w ∈ WA, w.before args s = true) (hK : va_K G.1 vwCl (tyL G) s) (hap : Apt kd ad) (hsx : Sx G (AS kd ad s.heap.size) s s.heap) (hI : Inv G kd ad s.heap M H locs)
    (hM : Met l y (Cond.code y bytes maxL ret :: WA) rm (Pg G kd ad H.size (.ref (ad b) :: As) M) (Qr G kd ad H.size M' none) mc ms (AS kd ad H.size)) (hl : Cond.methodLink own index y ∈ WA) (h2 : Cond.sameMethod y.cls y.cls y.name y.desc ∈ WA) (h3 : Cond.instanceMethod y ∈ WA) (h4 : Cond.initialized y.cls ∈ WA) (h5 : Cond.code y bytes maxL ret ∈ WA) (hsel : Cond.selects C y y ∈ WA) (hf9 : (y.cls ≠ "java/lang/invoke/MethodHandle" ∧ y.cls ≠ "java/lang/invoke/VarHandle" ∧ (parseMethodDescriptor y.desc).map (fun d => d.parameters.length) = some n)) (hrc : rm.cells = mc) (hrs : rm.slots = ms) (hR : rm.frames + 1 ≤ R.frames ∧ 8 + (maxL + 11) + rm.locals ≤ R.locals)
    {ci : Nat} {q : Nat × Nat} {fs : List Value} {T : u_T} {N : Nat} (hk : kd b = q) (hq : q.1 ≠ 0) (he : ent ad G.2.1 q b (M.1 b) (M.2.1 b) (M.2.2 b) = .inr (ci, fs)) (hc : vwCl[ci]? = some (C, T, N))
    (hn : As.length = n) (hsize : ls.size = nL) {st : List Value} (hst : st = As.reverse ++ .ref (ad b) :: rest) (hW : (rest.map fun v => v.category).sum ≤ 8) (hdg : decode cc pc = .ok (.invokevirtual index, 3)) (hf : cells + mc ≤ R.cells ∧ slots + ms ≤ R.slots)
    (kk : ∀ (kd1 : Nat → Nat × Nat) (ad1 : Nat → Nat) (H1 : Heap) (locs1 : List Loc), Ext kd ad kd1 ad1 s.heap.size → Low kd1 → Sb kd1 (rd M' 133 0) → Apt kd1 ad1 → Inv G kd1 ad1 s.heap M' H1 locs1 → W p l e R s m args below meth c H1 locs1 (cells + mc) (slots + ms) Q (F0 m (pc + 3) ls (rest))) : W p l e R s m args below meth c H locs cells slots Q (F0 m pc ls st) := by
  subst hst
  have hG : GoodIn WA (va_wsU own index C y.cls y y (Cond.code y bytes maxL ret :: WA)) := fun w h => by
    have : w ∈ WA := by
      rcases List.mem_append.mp h with h | h
      · simp only [List.mem_cons, List.not_mem_nil, or_false] at h
        rcases h with rfl | rfl | rfl | rfl | rfl
        · exact hl
        · exact h2
        · exact hsel
        · exact h3
        · exact h4
      · exact ws_good h5 w h
    exact ⟨this, wa_good w this⟩
  exact g_callR (va_runU (C := C) (b := ad b) (As := As) (rest := rest) ⟨hx, hb, hml, hown, hts⟩ hM (va_cwU n hts hG rfl hrc hrs rfl hf9 hR) ⟨pg_blind, va_recv hK (va_P1 (hI.at hk hq he)) hc (q0 := 0) rfl, fun U hU hW => pg_of hap hK hsx hI hU hW⟩ rfl hn hsize rfl (lv_room hW) hdg hf) hI kk
theorem g_callSURa {b : Nat} {C : String} {y : MethodName} {bytes : ByteArray} {maxL nL mc ms n index : Nat} {ret : Option FieldType} {rm : Room} {own : String} {As : List Value} {M' : Mem}  (hx : p.tables.exec = Jvm.exec) (hb : c.code = cc) (hml : c.maxLocals = nL) (hown : s.vm.findClass own = some m.cls) (hts : ∀ w ∈ WA, w.before args s = true) (hK : va_K G.1 vwCl (tyL G) s) (hap : Apt kd ad) (hsx : Sx G (AS kd ad s.heap.size) s s.heap) (hI : Inv G kd ad s.heap M H locs)
    (hM : Met l y (Cond.code y bytes maxL ret :: WA) rm (Pg G kd ad H.size (.ref (ad b) :: As) M) (Qr G kd ad H.size M' (some (.ref (ad b)))) mc ms (AS kd ad H.size)) (hl : Cond.methodLink own index y ∈ WA) (h2 : Cond.sameMethod y.cls y.cls y.name y.desc ∈ WA) (h3 : Cond.instanceMethod y ∈ WA) (h4 : Cond.initialized y.cls ∈ WA) (h5 : Cond.code y bytes maxL ret ∈ WA) (hsup : Cond.superclass own y.cls ∈ WA) (hf9 : (y.name ≠ "<init>" ∧ (parseMethodDescriptor y.desc).map (fun d => d.parameters.length) = some n)) (hrc : rm.cells = mc) (hrs : rm.slots = ms) (hR : rm.frames + 1 ≤ R.frames ∧ 8 + (maxL + 11) + rm.locals ≤ R.locals)
    {ci : Nat} {q : Nat × Nat} {fs : List Value} {T : u_T} {N : Nat} (hk : kd b = q) (hq : q.1 ≠ 0) (he : ent ad G.2.1 q b (M.1 b) (M.2.1 b) (M.2.2 b) = .inr (ci, fs)) (hc : vwCl[ci]? = some (C, T, N))
    (hn : As.length = n) (hsize : ls.size = nL) {st : List Value} (hst : st = As.reverse ++ .ref (ad b) :: rest) (hW : (rest.map fun v => v.category).sum ≤ 8) (hdg : decode cc pc = .ok (.invokespecial index, 3)) (hf : cells + mc ≤ R.cells ∧ slots + ms ≤ R.slots)
    (kk : ∀ (kd1 : Nat → Nat × Nat) (ad1 : Nat → Nat) (H1 : Heap) (locs1 : List Loc), Ext kd ad kd1 ad1 s.heap.size → Low kd1 → Sb kd1 (rd M' 133 0) → Apt kd1 ad1 → Inv G kd1 ad1 s.heap M' H1 locs1 → W p l e R s m args below meth c H1 locs1 (cells + mc) (slots + ms) Q (F0 m (pc + 3) ls (.ref (ad b) :: rest))) : W p l e R s m args below meth c H locs cells slots Q (F0 m pc ls st) := by
  subst hst
  have hG : GoodIn WA (va_wsSU own index y (Cond.code y bytes maxL ret :: WA)) := fun w h => by
    have : w ∈ WA := by
      rcases List.mem_append.mp h with h | h
      · simp only [List.mem_cons, List.not_mem_nil, or_false] at h
        rcases h with rfl | rfl | rfl | rfl | rfl
        · exact hl
        · exact h2
        · exact hsup
        · exact h3
        · exact h4
      · exact ws_good h5 w h
    exact ⟨this, wa_good w this⟩
  have hKn := (hK.1 ci _ hc).2
  have hcl : ClassAt s C (G.1.1 ci) := ⟨hKn.1, by obtain ⟨kC, hkC, hkind⟩ := hKn.2; exact ⟨kC, hkC, hkind⟩⟩
  exact g_callR (va_runSU (C := C) (b := ad b) (As := As) (rest := rest) hcl ⟨hx, hb, hml, hown, hts⟩ hM (va_cwSU n hts hG rfl hrc hrs hf9 hR) ⟨pg_blind, va_recv hK (va_P1 (hI.at hk hq he)) hc (q0 := 0) rfl, fun U hU hW => pg_of hap hK hsx hI hU hW⟩ rfl hn hsize rfl (lv_room hW) hdg hf) hI kk
theorem g_callSURv {b : Nat} {C : String} {y : MethodName} {bytes : ByteArray} {maxL nL mc ms n index : Nat} {ret : Option FieldType} {rm : Room} {own : String} {As : List Value} {M' : Mem}  (hx : p.tables.exec = Jvm.exec) (hb : c.code = cc) (hml : c.maxLocals = nL) (hown : s.vm.findClass own = some m.cls) (hts : ∀ w ∈ WA, w.before args s = true) (hK : va_K G.1 vwCl (tyL G) s) (hap : Apt kd ad) (hsx : Sx G (AS kd ad s.heap.size) s s.heap) (hI : Inv G kd ad s.heap M H locs)
    (hM : Met l y (Cond.code y bytes maxL ret :: WA) rm (Pg G kd ad H.size (.ref (ad b) :: As) M) (Qr G kd ad H.size M' none) mc ms (AS kd ad H.size)) (hl : Cond.methodLink own index y ∈ WA) (h2 : Cond.sameMethod y.cls y.cls y.name y.desc ∈ WA) (h3 : Cond.instanceMethod y ∈ WA) (h4 : Cond.initialized y.cls ∈ WA) (h5 : Cond.code y bytes maxL ret ∈ WA) (hsup : Cond.superclass own y.cls ∈ WA) (hf9 : (y.name ≠ "<init>" ∧ (parseMethodDescriptor y.desc).map (fun d => d.parameters.length) = some n)) (hrc : rm.cells = mc) (hrs : rm.slots = ms) (hR : rm.frames + 1 ≤ R.frames ∧ 8 + (maxL + 11) + rm.locals ≤ R.locals)
    {ci : Nat} {q : Nat × Nat} {fs : List Value} {T : u_T} {N : Nat} (hk : kd b = q) (hq : q.1 ≠ 0) (he : ent ad G.2.1 q b (M.1 b) (M.2.1 b) (M.2.2 b) = .inr (ci, fs)) (hc : vwCl[ci]? = some (C, T, N))
    (hn : As.length = n) (hsize : ls.size = nL) {st : List Value} (hst : st = As.reverse ++ .ref (ad b) :: rest) (hW : (rest.map fun v => v.category).sum ≤ 8) (hdg : decode cc pc = .ok (.invokespecial index, 3)) (hf : cells + mc ≤ R.cells ∧ slots + ms ≤ R.slots)
    (kk : ∀ (kd1 : Nat → Nat × Nat) (ad1 : Nat → Nat) (H1 : Heap) (locs1 : List Loc), Ext kd ad kd1 ad1 s.heap.size → Low kd1 → Sb kd1 (rd M' 133 0) → Apt kd1 ad1 → Inv G kd1 ad1 s.heap M' H1 locs1 → W p l e R s m args below meth c H1 locs1 (cells + mc) (slots + ms) Q (F0 m (pc + 3) ls (rest))) : W p l e R s m args below meth c H locs cells slots Q (F0 m pc ls st) := by
  subst hst
  have hG : GoodIn WA (va_wsSU own index y (Cond.code y bytes maxL ret :: WA)) := fun w h => by
    have : w ∈ WA := by
      rcases List.mem_append.mp h with h | h
      · simp only [List.mem_cons, List.not_mem_nil, or_false] at h
        rcases h with rfl | rfl | rfl | rfl | rfl
        · exact hl
        · exact h2
        · exact hsup
        · exact h3
        · exact h4
      · exact ws_good h5 w h
    exact ⟨this, wa_good w this⟩
  have hKn := (hK.1 ci _ hc).2
  have hcl : ClassAt s C (G.1.1 ci) := ⟨hKn.1, by obtain ⟨kC, hkC, hkind⟩ := hKn.2; exact ⟨kC, hkC, hkind⟩⟩
  exact g_callR (va_runSU (C := C) (b := ad b) (As := As) (rest := rest) hcl ⟨hx, hb, hml, hown, hts⟩ hM (va_cwSU n hts hG rfl hrc hrs hf9 hR) ⟨pg_blind, va_recv hK (va_P1 (hI.at hk hq he)) hc (q0 := 0) rfl, fun U hU hW => pg_of hap hK hsx hI hU hW⟩ rfl hn hsize rfl (lv_room hW) hdg hf) hI kk
end GR2
end
/-! part 33c.sb1 -/
section
section SBR
variable {p : Program} {l : Launch} {e : Env} {R : Room} {s : State} {m : MethodId} {args : Array Value} {below : List Frame} {meth : Method} {c : Code} {H : Heap} {locs : List Loc} {cells slots : Nat} {Q : State → Prop}
variable {cc : ByteArray} {pc : Nat} {ls : Array Slot} {rest : List Value} {G : GT} {kd : Nat → Nat × Nat} {ad : Nat → Nat} {M : Mem} {H0 : Heap}
theorem ggSB_0 (hx : p.tables.exec = Jvm.exec) (hb : c.code = cc) (hts : ∀ w ∈ WA, w.before args s = true) {own : String} {index k : Nat} (hown : s.vm.findClass own = some m.cls) (hK : va_K G.1 vwCl (tyL G) s) (hI : Inv G kd ad H0 M H locs) (hk : kd k = (9, 0)) (hlink : Cond.fieldLink own index "java/lang/AbstractStringBuilder" "value" "[B" ∈ WA) (hdg : decode cc pc = .ok (.getfield index, 3)) (kk : W p l e R s m args below meth c H locs cells slots Q (F0 m (pc + 3) ls (.ref (ad (sbv k (rd M k 0))) :: rest))) : W p l e R s m args below meth c H locs cells slots Q (F0 m pc ls (.ref (ad k) :: rest)) :=
  g_get hx hb hts inWJ4 hown hK hI hk (by simp) rfl rfl 0 (by decide) ⟨rfl, rfl, rfl⟩ hlink rfl hdg kk
theorem ggSB_1 (hx : p.tables.exec = Jvm.exec) (hb : c.code = cc) (hts : ∀ w ∈ WA, w.before args s = true) {own : String} {index k : Nat} (hown : s.vm.findClass own = some m.cls) (hK : va_K G.1 vwCl (tyL G) s) (hI : Inv G kd ad H0 M H locs) (hk : kd k = (9, 0)) (hlink : Cond.fieldLink own index "java/lang/AbstractStringBuilder" "coder" "B" ∈ WA) (hdg : decode cc pc = .ok (.getfield index, 3)) (kk : W p l e R s m args below meth c H locs cells slots Q (F0 m (pc + 3) ls (.int (rd M k 1) :: rest))) : W p l e R s m args below meth c H locs cells slots Q (F0 m pc ls (.ref (ad k) :: rest)) :=
  g_get hx hb hts inWJ4 hown hK hI hk (by simp) rfl rfl 1 (by decide) ⟨rfl, rfl, rfl⟩ hlink rfl hdg kk
theorem gpSB_2 (hx : p.tables.exec = Jvm.exec) (hb : c.code = cc) (hts : ∀ w ∈ WA, w.before args s = true) {own : String} {index k : Nat} (hown : s.vm.findClass own = some m.cls) (hK : va_K G.1 vwCl (tyL G) s) (hap : Apt kd ad) (hI : Inv G kd ad H0 M H locs) (hk : kd k = (9, 0)) (hlink : Cond.fieldLink own index "java/lang/AbstractStringBuilder" "maybeLatin1" "Z" ∈ WA) {v : Int32} (hdg : decode cc pc = .ok (.putfield index, 3)) (hn : narrow .boolean (.int v) = .int v) (hfz : fits .boolean (.int v) = true) {M' : Mem} (hM : M' = wr M k 2 v) (kk : ∀ (H1 : Heap) (locs1 : List Loc), Inv G kd ad H0 M' H1 locs1 → W p l e R s m args below meth c H1 locs1 cells slots Q (F0 m (pc + 3) ls rest)) : W p l e R s m args below meth c H locs cells slots Q (F0 m pc ls (.int v :: .ref (ad k) :: rest)) := by
  subst hM
  exact g_put hx hb hts inWJ4 tyJ4 tyJ4_ok nmJ4 hown hK hap hI hk (by simp) rfl rfl 2 (by decide) ⟨rfl, rfl, rfl⟩ hlink rfl (ty := .boolean) (by decide +kernel) hn hfz (Nat.le_of_ble_eq_true rfl) (by rw [wr_s]; rfl) wr_o hdg kk
theorem ggSB_3 (hx : p.tables.exec = Jvm.exec) (hb : c.code = cc) (hts : ∀ w ∈ WA, w.before args s = true) {own : String} {index k : Nat} (hown : s.vm.findClass own = some m.cls) (hK : va_K G.1 vwCl (tyL G) s) (hI : Inv G kd ad H0 M H locs) (hk : kd k = (9, 0)) (hlink : Cond.fieldLink own index "java/lang/AbstractStringBuilder" "count" "I" ∈ WA) (hdg : decode cc pc = .ok (.getfield index, 3)) (kk : W p l e R s m args below meth c H locs cells slots Q (F0 m (pc + 3) ls (.int (rd M k 3) :: rest))) : W p l e R s m args below meth c H locs cells slots Q (F0 m pc ls (.ref (ad k) :: rest)) :=
  g_get hx hb hts inWJ4 hown hK hI hk (by simp) rfl rfl 3 (by decide) ⟨rfl, rfl, rfl⟩ hlink rfl hdg kk
theorem gpSB_3 (hx : p.tables.exec = Jvm.exec) (hb : c.code = cc) (hts : ∀ w ∈ WA, w.before args s = true) {own : String} {index k : Nat} (hown : s.vm.findClass own = some m.cls) (hK : va_K G.1 vwCl (tyL G) s) (hap : Apt kd ad) (hI : Inv G kd ad H0 M H locs) (hk : kd k = (9, 0)) (hlink : Cond.fieldLink own index "java/lang/AbstractStringBuilder" "count" "I" ∈ WA) {v : Int32} (hdg : decode cc pc = .ok (.putfield index, 3)) {M' : Mem} (hM : M' = wr M k 3 v) (kk : ∀ (H1 : Heap) (locs1 : List Loc), Inv G kd ad H0 M' H1 locs1 → W p l e R s m args below meth c H1 locs1 cells slots Q (F0 m (pc + 3) ls rest)) : W p l e R s m args below meth c H locs cells slots Q (F0 m pc ls (.int v :: .ref (ad k) :: rest)) := by
  subst hM
  exact g_put hx hb hts inWJ4 tyJ4 tyJ4_ok nmJ4 hown hK hap hI hk (by simp) rfl rfl 3 (by decide) ⟨rfl, rfl, rfl⟩ hlink rfl (ty := .int) (by decide +kernel) rfl rfl (Nat.le_of_ble_eq_true rfl) (by rw [wr_s]; rfl) wr_o hdg kk
theorem g_callUi {b : Nat} {C : String} {y : MethodName} {bytes : ByteArray} {maxL nL mc ms n index : Nat} {ret : Option FieldType} {rm : Room} {own : String} {As : List Value} {M' : Mem} {r : Int32} (hx : p.tables.exec = Jvm.exec) (hb : c.code = cc) (hml : c.maxLocals = nL) (hown : s.vm.findClass own = some m.cls) (hts : ∀ w ∈ WA, w.before args s = true) (hK : va_K G.1 vwCl (tyL G) s) (hap : Apt kd ad) (hsx : Sx G (AS kd ad s.heap.size) s s.heap) (hI : Inv G kd ad s.heap M H locs)
    (hM : Met l y (Cond.code y bytes maxL ret :: WA) rm (Pg G kd ad H.size (.ref (ad b) :: As) M) (Qg G kd ad H.size M' (some (.int r))) mc ms (AS kd ad H.size)) (hl : Cond.methodLink own index y ∈ WA) (h2 : Cond.sameMethod y.cls y.cls y.name y.desc ∈ WA) (h3 : Cond.instanceMethod y ∈ WA) (h4 : Cond.initialized y.cls ∈ WA) (h5 : Cond.code y bytes maxL ret ∈ WA) (hsel : Cond.selects C y y ∈ WA) (hf9 : (y.cls ≠ "java/lang/invoke/MethodHandle" ∧ y.cls ≠ "java/lang/invoke/VarHandle" ∧ (parseMethodDescriptor y.desc).map (fun d => d.parameters.length) = some n)) (hrc : rm.cells = mc) (hrs : rm.slots = ms) (hR : rm.frames + 1 ≤ R.frames ∧ 8 + (maxL + 11) + rm.locals ≤ R.locals)
    {ci : Nat} {q : Nat × Nat} {fs : List Value} {T : u_T} {N : Nat} (hk : kd b = q) (hq : q.1 ≠ 0) (he : ent ad G.2.1 q b (M.1 b) (M.2.1 b) (M.2.2 b) = .inr (ci, fs)) (hc : vwCl[ci]? = some (C, T, N))
    (hn : As.length = n) (hsize : ls.size = nL) {st : List Value} (hst : st = As.reverse ++ .ref (ad b) :: rest) (hW : (rest.map fun v => v.category).sum ≤ 8) (hdg : decode cc pc = .ok (.invokevirtual index, 3)) (hf : cells + mc ≤ R.cells ∧ slots + ms ≤ R.slots)
    (kk : ∀ (H1 : Heap) (locs1 : List Loc), Inv G kd ad s.heap M' H1 locs1 → W p l e R s m args below meth c H1 locs1 (cells + mc) (slots + ms) Q (F0 m (pc + 3) ls (.int r :: rest))) : W p l e R s m args below meth c H locs cells slots Q (F0 m pc ls st) := by
  subst hst
  have hG : GoodIn WA (va_wsU own index C y.cls y y (Cond.code y bytes maxL ret :: WA)) := fun w h => by
    have : w ∈ WA := by
      rcases List.mem_append.mp h with h | h
      · simp only [List.mem_cons, List.not_mem_nil, or_false] at h
        rcases h with rfl | rfl | rfl | rfl | rfl
        · exact hl
        · exact h2
        · exact hsel
        · exact h3
        · exact h4
      · exact ws_good h5 w h
    exact ⟨this, wa_good w this⟩
  exact g_call (va_runU (C := C) (b := ad b) (As := As) (rest := rest) ⟨hx, hb, hml, hown, hts⟩ hM (va_cwU n hts hG rfl hrc hrs rfl hf9 hR) ⟨pg_blind, va_recv hK (va_P1 (hI.at hk hq he)) hc (q0 := 0) rfl, fun U hU hW => pg_of hap hK hsx hI hU hW⟩ rfl hn hsize rfl (lv_room hW) hdg hf) hI kk
theorem g_callUv {b : Nat} {C : String} {y : MethodName} {bytes : ByteArray} {maxL nL mc ms n index : Nat} {ret : Option FieldType} {rm : Room} {own : String} {As : List Value} {M' : Mem}  (hx : p.tables.exec = Jvm.exec) (hb : c.code = cc) (hml : c.maxLocals = nL) (hown : s.vm.findClass own = some m.cls) (hts : ∀ w ∈ WA, w.before args s = true) (hK : va_K G.1 vwCl (tyL G) s) (hap : Apt kd ad) (hsx : Sx G (AS kd ad s.heap.size) s s.heap) (hI : Inv G kd ad s.heap M H locs)
    (hM : Met l y (Cond.code y bytes maxL ret :: WA) rm (Pg G kd ad H.size (.ref (ad b) :: As) M) (Qg G kd ad H.size M' none) mc ms (AS kd ad H.size)) (hl : Cond.methodLink own index y ∈ WA) (h2 : Cond.sameMethod y.cls y.cls y.name y.desc ∈ WA) (h3 : Cond.instanceMethod y ∈ WA) (h4 : Cond.initialized y.cls ∈ WA) (h5 : Cond.code y bytes maxL ret ∈ WA) (hsel : Cond.selects C y y ∈ WA) (hf9 : (y.cls ≠ "java/lang/invoke/MethodHandle" ∧ y.cls ≠ "java/lang/invoke/VarHandle" ∧ (parseMethodDescriptor y.desc).map (fun d => d.parameters.length) = some n)) (hrc : rm.cells = mc) (hrs : rm.slots = ms) (hR : rm.frames + 1 ≤ R.frames ∧ 8 + (maxL + 11) + rm.locals ≤ R.locals)
    {ci : Nat} {q : Nat × Nat} {fs : List Value} {T : u_T} {N : Nat} (hk : kd b = q) (hq : q.1 ≠ 0) (he : ent ad G.2.1 q b (M.1 b) (M.2.1 b) (M.2.2 b) = .inr (ci, fs)) (hc : vwCl[ci]? = some (C, T, N))
    (hn : As.length = n) (hsize : ls.size = nL) {st : List Value} (hst : st = As.reverse ++ .ref (ad b) :: rest) (hW : (rest.map fun v => v.category).sum ≤ 8) (hdg : decode cc pc = .ok (.invokevirtual index, 3)) (hf : cells + mc ≤ R.cells ∧ slots + ms ≤ R.slots)
    (kk : ∀ (H1 : Heap) (locs1 : List Loc), Inv G kd ad s.heap M' H1 locs1 → W p l e R s m args below meth c H1 locs1 (cells + mc) (slots + ms) Q (F0 m (pc + 3) ls rest)) : W p l e R s m args below meth c H locs cells slots Q (F0 m pc ls st) := by
  subst hst
  have hG : GoodIn WA (va_wsU own index C y.cls y y (Cond.code y bytes maxL ret :: WA)) := fun w h => by
    have : w ∈ WA := by
      rcases List.mem_append.mp h with h | h
      · simp only [List.mem_cons, List.not_mem_nil, or_false] at h
        rcases h with rfl | rfl | rfl | rfl | rfl
        · exact hl
        · exact h2
        · exact hsel
        · exact h3
        · exact h4
      · exact ws_good h5 w h
    exact ⟨this, wa_good w this⟩
  exact g_call (va_runU (C := C) (b := ad b) (As := As) (rest := rest) ⟨hx, hb, hml, hown, hts⟩ hM (va_cwU n hts hG rfl hrc hrs rfl hf9 hR) ⟨pg_blind, va_recv hK (va_P1 (hI.at hk hq he)) hc (q0 := 0) rfl, fun U hU hW => pg_of hap hK hsx hI hU hW⟩ rfl hn hsize rfl (lv_room hW) hdg hf) hI kk
theorem g_callSUi {b : Nat} {C : String} {y : MethodName} {bytes : ByteArray} {maxL nL mc ms n index : Nat} {ret : Option FieldType} {rm : Room} {own : String} {As : List Value} {M' : Mem} {r : Int32} (hx : p.tables.exec = Jvm.exec) (hb : c.code = cc) (hml : c.maxLocals = nL) (hown : s.vm.findClass own = some m.cls) (hts : ∀ w ∈ WA, w.before args s = true) (hK : va_K G.1 vwCl (tyL G) s) (hap : Apt kd ad) (hsx : Sx G (AS kd ad s.heap.size) s s.heap) (hI : Inv G kd ad s.heap M H locs)
    (hM : Met l y (Cond.code y bytes maxL ret :: WA) rm (Pg G kd ad H.size (.ref (ad b) :: As) M) (Qg G kd ad H.size M' (some (.int r))) mc ms (AS kd ad H.size)) (hl : Cond.methodLink own index y ∈ WA) (h2 : Cond.sameMethod y.cls y.cls y.name y.desc ∈ WA) (h3 : Cond.instanceMethod y ∈ WA) (h4 : Cond.initialized y.cls ∈ WA) (h5 : Cond.code y bytes maxL ret ∈ WA) (hsup : Cond.superclass own y.cls ∈ WA) (hf9 : (y.name ≠ "<init>" ∧ (parseMethodDescriptor y.desc).map (fun d => d.parameters.length) = some n)) (hrc : rm.cells = mc) (hrs : rm.slots = ms) (hR : rm.frames + 1 ≤ R.frames ∧ 8 + (maxL + 11) + rm.locals ≤ R.locals)
    {ci : Nat} {q : Nat × Nat} {fs : List Value} {T : u_T} {N : Nat} (hk : kd b = q) (hq : q.1 ≠ 0) (he : ent ad G.2.1 q b (M.1 b) (M.2.1 b) (M.2.2 b) = .inr (ci, fs)) (hc : vwCl[ci]? = some (C, T, N))
    (hn : As.length = n) (hsize : ls.size = nL) {st : List Value} (hst : st = As.reverse ++ .ref (ad b) :: rest) (hW : (rest.map fun v => v.category).sum ≤ 8) (hdg : decode cc pc = .ok (.invokespecial index, 3)) (hf : cells + mc ≤ R.cells ∧ slots + ms ≤ R.slots)
    (kk : ∀ (H1 : Heap) (locs1 : List Loc), Inv G kd ad s.heap M' H1 locs1 → W p l e R s m args below meth c H1 locs1 (cells + mc) (slots + ms) Q (F0 m (pc + 3) ls (.int r :: rest))) : W p l e R s m args below meth c H locs cells slots Q (F0 m pc ls st) := by
  subst hst
  have hG : GoodIn WA (va_wsSU own index y (Cond.code y bytes maxL ret :: WA)) := fun w h => by
    have : w ∈ WA := by
      rcases List.mem_append.mp h with h | h
      · simp only [List.mem_cons, List.not_mem_nil, or_false] at h
        rcases h with rfl | rfl | rfl | rfl | rfl
        · exact hl
        · exact h2
        · exact hsup
        · exact h3
        · exact h4
      · exact ws_good h5 w h
    exact ⟨this, wa_good w this⟩
  have hKn := (hK.1 ci _ hc).2
  have hcl : ClassAt s C (G.1.1 ci) := ⟨hKn.1, by obtain ⟨kC, hkC, hkind⟩ := hKn.2; exact ⟨kC, hkC, hkind⟩⟩
  exact g_call (va_runSU (C := C) (b := ad b) (As := As) (rest := rest) hcl ⟨hx, hb, hml, hown, hts⟩ hM (va_cwSU n hts hG rfl hrc hrs hf9 hR) ⟨pg_blind, va_recv hK (va_P1 (hI.at hk hq he)) hc (q0 := 0) rfl, fun U hU hW => pg_of hap hK hsx hI hU hW⟩ rfl hn hsize rfl (lv_room hW) hdg hf) hI kk
end SBR
def mJ6_stringSize_0f7a4_b16 (M : Mem) (ih16 : Int32 → Int32 → Int32 → Int32 → Option Int32) (x0 : Int32) (x1 : Int32) (x2 : Int32) (x3 : Int32) : Option Int32 := ite2 ((10 : Int32) ≤ x3) (some ((10 : Int32) + x1)) (ite2 (x0 ≤ x2) (bnd (((10 : Int32) * x2)) (fun x2_35 => bnd (x3 + (1 : Int32)) (fun x3_36 => ih16 x0 x1 x2_35 x3_36))) (some (x3 + x1)))
set_option maxHeartbeats 4000000 in
set_option maxRecDepth 100000 in
theorem tJ6_stringSize_0f7a4_b16 {p : Program} {l : Launch} {e : Env} {s : State} {m : MethodId} {args : Array Value} {below : List Frame} {meth : Method} {c : Code} {G : GT} {kd : Nat → Nat × Nat} {ad : Nat → Nat} (C : Cx p s m args meth c cJ6_stringSize_0f7a4 4 (some .int) RJ6 G kd ad)  {M : Mem} {vo : Int32} {ih16 : Int32 → Int32 → Int32 → Int32 → Option Int32} (hih16 : ∀ (x0 : Int32) (x1 : Int32) (x2 : Int32) (x3 : Int32), ih16 x0 x1 x2 x3 = some vo → At p l e (rmO 0 0 0) s m args below meth c 0 0 (MQ below (Qg G kd ad s.heap.size M (some (.int vo))) args s 0 0 (AS kd ad s.heap.size)) G kd ad 4 16 [(0, .int x0), (1, .int x1), (2, .int x2), (3, .int x3)] [] M) : ∀ (x0 : Int32) (x1 : Int32) (x2 : Int32) (x3 : Int32), mJ6_stringSize_0f7a4_b16  M ih16 x0 x1 x2 x3 = some vo → At p l e (rmO 0 0 0) s m args below meth c 0 0 (MQ below (Qg G kd ad s.heap.size M (some (.int vo))) args s 0 0 (AS kd ad s.heap.size)) G kd ad 4 16 [(0, .int x0), (1, .int x1), (2, .int x2), (3, .int x3)] [] M := by
  intro x0 x1 x2 x3 hf H locs ls hI hl
  obtain ⟨hx, hb, hml, hr, hown, hts, hlk, hK, hap, hsx⟩ := id C
  unfold mJ6_stringSize_0f7a4_b16 at hf
  refine lv_iload_n hx hb (dc tbJ6_stringSize_0f7a4_k 13 rfl) rfl (lv_at hl 3 rfl) ?_
  refine lv_bipush (v := 10) hx hb (dc tbJ6_stringSize_0f7a4_k 14 rfl) bp_10 ?_
  refine lv_icmp_ge (tgt := 42) hx hb (dc tbJ6_stringSize_0f7a4_k 15 rfl) rfl (fun c2 => ?_) (fun c2 => ?_)
  · have hf := ite_t c2 hf
    refine lv_bipush (v := 10) hx hb (dc tbJ6_stringSize_0f7a4_k 29 rfl) bp_10 ?_
    refine lv_iload_n hx hb (dc tbJ6_stringSize_0f7a4_k 30 rfl) rfl (lv_at hl 1 rfl) ?_
    refine lv_iadd hx hb (dc tbJ6_stringSize_0f7a4_k 31 rfl) ?_
    cases hf
    exact g_iret hx hb hr hlk hI (dc tbJ6_stringSize_0f7a4_k 32 rfl)
  · have hf := ite_f c2 hf
    refine lv_iload_n hx hb (dc tbJ6_stringSize_0f7a4_k 16 rfl) rfl (lv_at hl 0 rfl) ?_
    refine lv_iload_n hx hb (dc tbJ6_stringSize_0f7a4_k 17 rfl) rfl (lv_at hl 2 rfl) ?_
    refine lv_icmp_le (tgt := 31) hx hb (dc tbJ6_stringSize_0f7a4_k 18 rfl) rfl (fun c3 => ?_) (fun c3 => ?_)
    · have hf := ite_t c3 hf
      refine lv_bipush (v := 10) hx hb (dc tbJ6_stringSize_0f7a4_k 23 rfl) bp_10 ?_
      refine lv_iload_n hx hb (dc tbJ6_stringSize_0f7a4_k 24 rfl) rfl (lv_at hl 2 rfl) ?_
      refine lv_imul hx hb (dc tbJ6_stringSize_0f7a4_k 25 rfl) ?_
      obtain ⟨x2_35, e4, hf⟩ := bnd_s hf
      refine lv_ei e4 ?_
      refine lv_istore_n (lv' := [(2, .int x2_35), (0, .int x0), (1, .int x1), (3, .int x3)]) hx hb (dc tbJ6_stringSize_0f7a4_k 26 rfl) rfl hl (by decide) rfl (fun ls hl => ?_)
      obtain ⟨x3_36, e5, hf⟩ := bnd_s hf
      refine lv_iinc (v := x3_36) (lv' := [(3, .int x3_36), (2, .int x2_35), (0, .int x0), (1, .int x1)]) hx hb (dc tbJ6_stringSize_0f7a4_k 27 rfl) hl (k := 3) rfl (ii_e e5 ic_1) (by decide) rfl (fun ls hl => ?_)
      refine lv_goto (tgt := 16) hx hb (dc tbJ6_stringSize_0f7a4_k 28 rfl) rfl ?_
      exact hih16 x0 x1 x2_35 x3_36 hf _ _ _ hI (lv_sub hl [2, 3, 1, 0] rfl)
    · have hf := ite_f c3 hf
      refine lv_iload_n hx hb (dc tbJ6_stringSize_0f7a4_k 19 rfl) rfl (lv_at hl 3 rfl) ?_
      refine lv_iload_n hx hb (dc tbJ6_stringSize_0f7a4_k 20 rfl) rfl (lv_at hl 1 rfl) ?_
      refine lv_iadd hx hb (dc tbJ6_stringSize_0f7a4_k 21 rfl) ?_
      cases hf
      exact g_iret hx hb hr hlk hI (dc tbJ6_stringSize_0f7a4_k 22 rfl)
def mJ6_stringSize_0f7a4_l16 (M : Mem) : Nat → Int32 → Int32 → Int32 → Int32 → Option Int32
  | 0 => fun _ _ _ _ => none
  | n + 1 => mJ6_stringSize_0f7a4_b16  M (mJ6_stringSize_0f7a4_l16  M n)
theorem tJ6_stringSize_0f7a4_l16 {p : Program} {l : Launch} {e : Env} {s : State} {m : MethodId} {args : Array Value} {below : List Frame} {meth : Method} {c : Code} {G : GT} {kd : Nat → Nat × Nat} {ad : Nat → Nat} (C : Cx p s m args meth c cJ6_stringSize_0f7a4 4 (some .int) RJ6 G kd ad)  {M : Mem} {vo : Int32}   : ∀ (fuel : Nat) (x0 : Int32) (x1 : Int32) (x2 : Int32) (x3 : Int32), mJ6_stringSize_0f7a4_l16  M fuel x0 x1 x2 x3 = some vo → At p l e (rmO 0 0 0) s m args below meth c 0 0 (MQ below (Qg G kd ad s.heap.size M (some (.int vo))) args s 0 0 (AS kd ad s.heap.size)) G kd ad 4 16 [(0, .int x0), (1, .int x1), (2, .int x2), (3, .int x3)] [] M := by
  intro fuel
  induction fuel with
  | zero => intro x0 x1 x2 x3 hf; cases hf
  | succ n IH => exact tJ6_stringSize_0f7a4_b16 C  IH
def mJ6_stringSize_0f7a4_b11 (M : Mem) (x0 : Int32) (x1 : Int32) : Option Int32 := mJ6_stringSize_0f7a4_l16  M 5000 x0 x1 (-10 : Int32) (1 : Int32)
set_option maxHeartbeats 4000000 in
set_option maxRecDepth 100000 in
theorem tJ6_stringSize_0f7a4_b11 {p : Program} {l : Launch} {e : Env} {s : State} {m : MethodId} {args : Array Value} {below : List Frame} {meth : Method} {c : Code} {G : GT} {kd : Nat → Nat × Nat} {ad : Nat → Nat} (C : Cx p s m args meth c cJ6_stringSize_0f7a4 4 (some .int) RJ6 G kd ad)  {M : Mem} {vo : Int32}   : ∀ (x0 : Int32) (x1 : Int32), mJ6_stringSize_0f7a4_b11  M x0 x1 = some vo → At p l e (rmO 0 0 0) s m args below meth c 0 0 (MQ below (Qg G kd ad s.heap.size M (some (.int vo))) args s 0 0 (AS kd ad s.heap.size)) G kd ad 4 11 [(0, .int x0), (1, .int x1)] [] M := by
  intro x0 x1 hf H locs ls hI hl
  obtain ⟨hx, hb, hml, hr, hown, hts, hlk, hK, hap, hsx⟩ := id C
  unfold mJ6_stringSize_0f7a4_b11 at hf
  refine lv_bipush (v := -10) hx hb (dc tbJ6_stringSize_0f7a4_k 9 rfl) bp_m10 ?_
  refine lv_istore_n (lv' := [(2, .int (-10 : Int32)), (0, .int x0), (1, .int x1)]) hx hb (dc tbJ6_stringSize_0f7a4_k 10 rfl) rfl hl (by decide) rfl (fun ls hl => ?_)
  refine lv_iconst (v := 1) hx hb (dc tbJ6_stringSize_0f7a4_k 11 rfl) ic_1 ?_
  refine lv_istore_n (lv' := [(3, .int (1 : Int32)), (2, .int (-10 : Int32)), (0, .int x0), (1, .int x1)]) hx hb (dc tbJ6_stringSize_0f7a4_k 12 rfl) rfl hl (by decide) rfl (fun ls hl => ?_)
  exact tJ6_stringSize_0f7a4_l16 C  5000 x0 x1 (-10 : Int32) (1 : Int32) hf _ _ _ hI (lv_sub hl [2, 3, 1, 0] rfl)
def mJ6_stringSize_0f7a4 (x0 : Int32) (M : Mem) : Option Int32 := ite2 (x0 < 0) (mJ6_stringSize_0f7a4_b11  M x0 (1 : Int32)) (bnd ((-x0)) (fun x0_10 => mJ6_stringSize_0f7a4_b11  M x0_10 (0 : Int32)))
set_option maxHeartbeats 4000000 in
set_option maxRecDepth 100000 in
theorem tJ6_stringSize_0f7a4 (l : Launch) {G : GT} {kd : Nat → Nat × Nat} {ad : Nat → Nat}  {x0 : Int32} {M : Mem} {vo : Int32} (hf : mJ6_stringSize_0f7a4  x0 M = some vo) (n : Nat) : Met l yJ6_stringSize_0f7a4 (Cond.code yJ6_stringSize_0f7a4 cJ6_stringSize_0f7a4 4 (some .int) :: WA) (rmO 0 0 0) (Pg G kd ad n [.int x0] M) (Qg G kd ad n M (some (.int vo))) 0 0 (AS kd ad n) := by
  refine g_body (own := RJ6) (by decide) rfl ?_ (Nat.le_of_ble_eq_true rfl)
  intro p e s m args below meth c C _ H locs ls hI hl
  obtain ⟨hx, hb, hml, hr, hown, hts, hlk, hK, hap, hsx⟩ := id C
  have hl : lv_has ls 4 [(0, .int x0)] := hl
  unfold mJ6_stringSize_0f7a4 at hf
  refine lv_iconst (v := 1) hx hb (dc tbJ6_stringSize_0f7a4_k 0 rfl) ic_1 ?_
  refine lv_istore_n (lv' := [(1, .int (1 : Int32)), (0, .int x0)]) hx hb (dc tbJ6_stringSize_0f7a4_k 1 rfl) rfl hl (by decide) rfl (fun ls hl => ?_)
  refine lv_iload_n hx hb (dc tbJ6_stringSize_0f7a4_k 2 rfl) rfl (lv_at hl 1 rfl) ?_
  refine lv_if_lt (tgt := 11) hx hb (dc tbJ6_stringSize_0f7a4_k 3 rfl) rfl (fun c1 => ?_) (fun c1 => ?_)
  · have hf := ite_t c1 hf
    exact tJ6_stringSize_0f7a4_b11 C  x0 (1 : Int32) hf _ _ _ hI (lv_sub hl [1, 0] rfl)
  · have hf := ite_f c1 hf
    refine lv_iconst (v := 0) hx hb (dc tbJ6_stringSize_0f7a4_k 4 rfl) ic_0 ?_
    refine lv_istore_n (lv' := [(1, .int (0 : Int32)), (0, .int x0)]) hx hb (dc tbJ6_stringSize_0f7a4_k 5 rfl) rfl hl (by decide) rfl (fun ls hl => ?_)
    refine lv_iload_n hx hb (dc tbJ6_stringSize_0f7a4_k 6 rfl) rfl (lv_at hl 1 rfl) ?_
    refine lv_ineg hx hb (dc tbJ6_stringSize_0f7a4_k 7 rfl) ?_
    obtain ⟨x0_10, e6, hf⟩ := bnd_s hf
    refine lv_ei e6 ?_
    refine lv_istore_n (lv' := [(0, .int x0_10), (1, .int (0 : Int32))]) hx hb (dc tbJ6_stringSize_0f7a4_k 8 rfl) rfl hl (by decide) rfl (fun ls hl => ?_)
    exact tJ6_stringSize_0f7a4_b11 C  x0_10 (0 : Int32) hf _ _ _ hI (lv_sub hl [0, 1] rfl)
theorem cs_J6_stringSize_0f7a4 : csF yJ6_stringSize_0f7a4 cJ6_stringSize_0f7a4 4 (some .int) 1 := ⟨q_t4_106, q_t1_23, q_t4_107, by decide +kernel⟩
def mJ6_getChars_ba4f3_b104 (k0 : Nat) (n0 : Nat) (x5 : Int32) (x6 : Int32) (M : Mem) : Option (Mem × Int32) := ite2 (x6 = 0) (some (M, x5)) (bnd (x5 + (-1 : Int32)) (fun x5_110 => chk (okb x5_110 n0) (bnd (wr M k0 (x5_110).toNatClampNeg (vp_nar .byte (45 : Int32))) (fun M14 => some (M14, x5_110)))))
set_option maxHeartbeats 4000000 in
set_option maxRecDepth 100000 in
theorem tJ6_getChars_ba4f3_b104 {p : Program} {l : Launch} {e : Env} {s : State} {m : MethodId} {args : Array Value} {below : List Frame} {meth : Method} {c : Code} {G : GT} {kd : Nat → Nat × Nat} {ad : Nat → Nat} (C : Cx p s m args meth c cJ6_getChars_ba4f3 7 (some .int) RJ6 G kd ad) {k0 : Nat} {n0 : Nat} (hk0 : kd k0 = (11, n0)) {MO : Mem} {vo : Int32}   : ∀ (x5 : Int32) (x6 : Int32) (M : Mem), mJ6_getChars_ba4f3_b104 k0 n0 x5 x6 M = some (MO, vo) → At p l e (rmO 0 0 0) s m args below meth c 0 0 (MQ below (Qg G kd ad s.heap.size MO (some (.int vo))) args s 0 0 (AS kd ad s.heap.size)) G kd ad 7 104 [(2, .ref (ad k0)), (5, .int x5), (6, .int x6)] [] M := by
  intro x5 x6 M hf H locs ls hI hl
  obtain ⟨hx, hb, hml, hr, hown, hts, hlk, hK, hap, hsx⟩ := id C
  unfold mJ6_getChars_ba4f3_b104 at hf
  refine lv_iload hx hb (dc tbJ6_getChars_ba4f3_1_k 22 rfl) (lv_at hl 2 rfl) ?_
  refine lv_if_eq (tgt := 118) hx hb (dc tbJ6_getChars_ba4f3_1_k 23 rfl) rfl (fun c10 => ?_) (fun c10 => ?_)
  · have hf := ite_t c10 hf
    refine lv_iload hx hb (dc tbJ6_getChars_ba4f3_1_k 29 rfl) (lv_at hl 1 rfl) ?_
    cases hf
    exact g_iret hx hb hr hlk hI (dc tbJ6_getChars_ba4f3_1_k 30 rfl)
  · have hf := ite_f c10 hf
    refine lv_aload_n hx hb (dc tbJ6_getChars_ba4f3_1_k 24 rfl) rfl (lv_at hl 0 rfl) ?_
    obtain ⟨x5_110, e11, hf⟩ := bnd_s hf
    refine lv_iinc (v := x5_110) (lv' := [(5, .int x5_110), (2, .ref (ad k0)), (6, .int x6)]) hx hb (dc tbJ6_getChars_ba4f3_1_k 25 rfl) hl (k := 1) rfl (ii_e e11 ic_m1) (by decide) rfl (fun ls hl => ?_)
    refine lv_iload hx hb (dc tbJ6_getChars_ba4f3_1_k 26 rfl) (lv_at hl 0 rfl) ?_
    refine lv_bipush (v := 45) hx hb (dc tbJ6_getChars_ba4f3_1_k 27 rfl) bp_45 ?_
    obtain ⟨h12, hf⟩ := chk_s hf
    obtain ⟨M14, e13, hf⟩ := bnd_s hf
    refine g_bast hx hb hK hap hI hk0 (okb_in h12) (dc tbJ6_getChars_ba4f3_1_k 28 rfl) e13 (fun H locs hI => ?_)
    refine lv_iload hx hb (dc tbJ6_getChars_ba4f3_1_k 29 rfl) (lv_at hl 0 rfl) ?_
    cases hf
    exact g_iret hx hb hr hlk hI (dc tbJ6_getChars_ba4f3_1_k 30 rfl)
def mJ6_getChars_ba4f3_b22 (k0 : Nat) (n0 : Nat) (ih22 : Int32 → Int32 → Int32 → Mem → Option (Mem × Int32)) (x0 : Int32) (x5 : Int32) (x6 : Int32) (M : Mem) : Option (Mem × Int32) := ite2 ((-100 : Int32) < x0) (bnd (x5 + (-1 : Int32)) (fun x5_73 => chk (okb (-x0) 100) (chk (okb x5_73 n0) (bnd (wr M k0 (x5_73).toNatClampNeg (vp_nar .byte (dgOnes.getD ((-x0)).toNatClampNeg 0))) (fun M8 => ite2 ((-9 : Int32) ≤ x0) (mJ6_getChars_ba4f3_b104 k0 n0 x5_73 x6 M8) (bnd (x5_73 + (-1 : Int32)) (fun x5_92 => chk (okb (-x0) 100) (chk (okb x5_92 n0) (bnd (wr M8 k0 (x5_92).toNatClampNeg (vp_nar .byte (dgTens.getD ((-x0)).toNatClampNeg 0))) (fun M19 => mJ6_getChars_ba4f3_b104 k0 n0 x5_92 x6 M19)))))))))) (bnd ((x0 / (100 : Int32))) (fun x3_32 => bnd (((x3_32 * (100 : Int32)) - x0)) (fun x4_39 => bnd (x5 + (-1 : Int32)) (fun x5_44 => chk (okb x4_39 100) (chk (okb x5_44 n0) (bnd (wr M k0 (x5_44).toNatClampNeg (vp_nar .byte (dgOnes.getD (x4_39).toNatClampNeg 0))) (fun M26 => bnd (x5_44 + (-1 : Int32)) (fun x5_57 => chk (okb x4_39 100) (chk (okb x5_57 n0) (bnd (wr M26 k0 (x5_57).toNatClampNeg (vp_nar .byte (dgTens.getD (x4_39).toNatClampNeg 0))) (fun M31 => ih22 x3_32 x5_57 x6 M31)))))))))))
set_option maxHeartbeats 4000000 in
set_option maxRecDepth 100000 in
theorem tJ6_getChars_ba4f3_b22 {p : Program} {l : Launch} {e : Env} {s : State} {m : MethodId} {args : Array Value} {below : List Frame} {meth : Method} {c : Code} {G : GT} {kd : Nat → Nat × Nat} {ad : Nat → Nat} (C : Cx p s m args meth c cJ6_getChars_ba4f3 7 (some .int) RJ6 G kd ad) {k0 : Nat} {n0 : Nat} (hk0 : kd k0 = (11, n0)) {MO : Mem} {vo : Int32} {ih22 : Int32 → Int32 → Int32 → Mem → Option (Mem × Int32)} (hih22 : ∀ (x0 : Int32) (x5 : Int32) (x6 : Int32) (M : Mem), ih22 x0 x5 x6 M = some (MO, vo) → At p l e (rmO 0 0 0) s m args below meth c 0 0 (MQ below (Qg G kd ad s.heap.size MO (some (.int vo))) args s 0 0 (AS kd ad s.heap.size)) G kd ad 7 22 [(0, .int x0), (2, .ref (ad k0)), (5, .int x5), (6, .int x6)] [] M) : ∀ (x0 : Int32) (x5 : Int32) (x6 : Int32) (M : Mem), mJ6_getChars_ba4f3_b22 k0 n0 ih22 x0 x5 x6 M = some (MO, vo) → At p l e (rmO 0 0 0) s m args below meth c 0 0 (MQ below (Qg G kd ad s.heap.size MO (some (.int vo))) args s 0 0 (AS kd ad s.heap.size)) G kd ad 7 22 [(0, .int x0), (2, .ref (ad k0)), (5, .int x5), (6, .int x6)] [] M := by
  intro x0 x5 x6 M hf H locs ls hI hl
  obtain ⟨hx, hb, hml, hr, hown, hts, hlk, hK, hap, hsx⟩ := id C
  unfold mJ6_getChars_ba4f3_b22 at hf
  refine lv_iload_n hx hb (dc tbJ6_getChars_ba4f3_0_k 13 rfl) rfl (lv_at hl 0 rfl) ?_
  refine lv_bipush (v := -100) hx hb (dc tbJ6_getChars_ba4f3_0_k 14 rfl) bp_m100 ?_
  refine lv_icmp_gt (tgt := 72) hx hb (dc tbJ6_getChars_ba4f3_0_k 15 rfl) rfl (fun c3 => ?_) (fun c3 => ?_)
  · have hf := ite_t c3 hf
    refine lv_aload_n hx hb (dc tbJ6_getChars_ba4f3_1_k 3 rfl) rfl (lv_at hl 1 rfl) ?_
    obtain ⟨x5_73, e4, hf⟩ := bnd_s hf
    refine lv_iinc (v := x5_73) (lv' := [(5, .int x5_73), (0, .int x0), (2, .ref (ad k0)), (6, .int x6)]) hx hb (dc tbJ6_getChars_ba4f3_1_k 4 rfl) hl (k := 2) rfl (ii_e e4 ic_m1) (by decide) rfl (fun ls hl => ?_)
    refine lv_iload hx hb (dc tbJ6_getChars_ba4f3_1_k 5 rfl) (lv_at hl 0 rfl) ?_
    refine g_gsd1 hx hb hown hts hsx hI q_t4_111 (dc tbJ6_getChars_ba4f3_1_k 6 rfl) ?_
    refine lv_iload_n hx hb (dc tbJ6_getChars_ba4f3_1_k 7 rfl) rfl (lv_at hl 1 rfl) ?_
    refine lv_ineg hx hb (dc tbJ6_getChars_ba4f3_1_k 8 rfl) ?_
    obtain ⟨h5, hf⟩ := chk_s hf
    refine g_d1ld hx hb hsx hI (okb_in h5) (dc tbJ6_getChars_ba4f3_1_k 9 rfl) ?_
    obtain ⟨h6, hf⟩ := chk_s hf
    obtain ⟨M8, e7, hf⟩ := bnd_s hf
    refine g_bast hx hb hK hap hI hk0 (okb_in h6) (dc tbJ6_getChars_ba4f3_1_k 10 rfl) e7 (fun H locs hI => ?_)
    refine lv_iload_n hx hb (dc tbJ6_getChars_ba4f3_1_k 11 rfl) rfl (lv_at hl 1 rfl) ?_
    refine lv_bipush (v := -9) hx hb (dc tbJ6_getChars_ba4f3_1_k 12 rfl) bp_m9 ?_
    refine lv_icmp_ge (tgt := 104) hx hb (dc tbJ6_getChars_ba4f3_1_k 13 rfl) rfl (fun c9 => ?_) (fun c9 => ?_)
    · have hf := ite_t c9 hf
      exact tJ6_getChars_ba4f3_b104 C hk0 x5_73 x6 M8 hf _ _ _ hI (lv_sub hl [2, 0, 3] rfl)
    · have hf := ite_f c9 hf
      refine lv_aload_n hx hb (dc tbJ6_getChars_ba4f3_1_k 14 rfl) rfl (lv_at hl 2 rfl) ?_
      obtain ⟨x5_92, e15, hf⟩ := bnd_s hf
      refine lv_iinc (v := x5_92) (lv' := [(5, .int x5_92), (0, .int x0), (2, .ref (ad k0)), (6, .int x6)]) hx hb (dc tbJ6_getChars_ba4f3_1_k 15 rfl) hl (k := 0) rfl (ii_e e15 ic_m1) (by decide) rfl (fun ls hl => ?_)
      refine lv_iload hx hb (dc tbJ6_getChars_ba4f3_1_k 16 rfl) (lv_at hl 0 rfl) ?_
      refine g_gsd2 hx hb hown hts hsx hI q_t4_113 (dc tbJ6_getChars_ba4f3_1_k 17 rfl) ?_
      refine lv_iload_n hx hb (dc tbJ6_getChars_ba4f3_1_k 18 rfl) rfl (lv_at hl 1 rfl) ?_
      refine lv_ineg hx hb (dc tbJ6_getChars_ba4f3_1_k 19 rfl) ?_
      obtain ⟨h16, hf⟩ := chk_s hf
      refine g_d2ld hx hb hsx hI (okb_in h16) (dc tbJ6_getChars_ba4f3_1_k 20 rfl) ?_
      obtain ⟨h17, hf⟩ := chk_s hf
      obtain ⟨M19, e18, hf⟩ := bnd_s hf
      refine g_bast hx hb hK hap hI hk0 (okb_in h17) (dc tbJ6_getChars_ba4f3_1_k 21 rfl) e18 (fun H locs hI => ?_)
      exact tJ6_getChars_ba4f3_b104 C hk0 x5_92 x6 M19 hf _ _ _ hI (lv_sub hl [2, 0, 3] rfl)
  · have hf := ite_f c3 hf
    refine lv_iload_n hx hb (dc tbJ6_getChars_ba4f3_0_k 16 rfl) rfl (lv_at hl 0 rfl) ?_
    refine lv_bipush (v := 100) hx hb (dc tbJ6_getChars_ba4f3_0_k 17 rfl) bp_100 ?_
    refine lv_idiv hx hb (dc tbJ6_getChars_ba4f3_0_k 18 rfl) (by decide) ?_
    obtain ⟨x3_32, e20, hf⟩ := bnd_s hf
    refine lv_ei e20 ?_
    refine lv_istore_n (lv' := [(3, .int x3_32), (0, .int x0), (2, .ref (ad k0)), (5, .int x5), (6, .int x6)]) hx hb (dc tbJ6_getChars_ba4f3_0_k 19 rfl) rfl hl (by decide) rfl (fun ls hl => ?_)
    refine lv_iload_n hx hb (dc tbJ6_getChars_ba4f3_0_k 20 rfl) rfl (lv_at hl 0 rfl) ?_
    refine lv_bipush (v := 100) hx hb (dc tbJ6_getChars_ba4f3_0_k 21 rfl) bp_100 ?_
    refine lv_imul hx hb (dc tbJ6_getChars_ba4f3_0_k 22 rfl) ?_
    refine lv_iload_n hx hb (dc tbJ6_getChars_ba4f3_0_k 23 rfl) rfl (lv_at hl 1 rfl) ?_
    refine lv_isub hx hb (dc tbJ6_getChars_ba4f3_0_k 24 rfl) ?_
    obtain ⟨x4_39, e21, hf⟩ := bnd_s hf
    refine lv_ei e21 ?_
    refine lv_istore (lv' := [(4, .int x4_39), (3, .int x3_32), (0, .int x0), (2, .ref (ad k0)), (5, .int x5), (6, .int x6)]) hx hb (dc tbJ6_getChars_ba4f3_0_k 25 rfl) hl (by decide) rfl (fun ls hl => ?_)
    refine lv_iload_n hx hb (dc tbJ6_getChars_ba4f3_0_k 26 rfl) rfl (lv_at hl 1 rfl) ?_
    refine lv_istore_n (lv' := [(0, .int x3_32), (4, .int x4_39), (3, .int x3_32), (2, .ref (ad k0)), (5, .int x5), (6, .int x6)]) hx hb (dc tbJ6_getChars_ba4f3_0_k 27 rfl) rfl hl (by decide) rfl (fun ls hl => ?_)
    refine lv_aload_n hx hb (dc tbJ6_getChars_ba4f3_0_k 28 rfl) rfl (lv_at hl 3 rfl) ?_
    obtain ⟨x5_44, e22, hf⟩ := bnd_s hf
    refine lv_iinc (v := x5_44) (lv' := [(5, .int x5_44), (0, .int x3_32), (4, .int x4_39), (3, .int x3_32), (2, .ref (ad k0)), (6, .int x6)]) hx hb (dc tbJ6_getChars_ba4f3_0_k 29 rfl) hl (k := 4) rfl (ii_e e22 ic_m1) (by decide) rfl (fun ls hl => ?_)
    refine lv_iload hx hb (dc tbJ6_getChars_ba4f3_0_k 30 rfl) (lv_at hl 0 rfl) ?_
    refine g_gsd1 hx hb hown hts hsx hI q_t4_111 (dc tbJ6_getChars_ba4f3_0_k 31 rfl) ?_
    refine lv_iload hx hb (dc tbJ6_getChars_ba4f3_0_k 32 rfl) (lv_at hl 2 rfl) ?_
    obtain ⟨h23, hf⟩ := chk_s hf
    refine g_d1ld hx hb hsx hI (okb_in h23) (dc tbJ6_getChars_ba4f3_0_k 33 rfl) ?_
    obtain ⟨h24, hf⟩ := chk_s hf
    obtain ⟨M26, e25, hf⟩ := bnd_s hf
    refine g_bast hx hb hK hap hI hk0 (okb_in h24) (dc tbJ6_getChars_ba4f3_0_k 34 rfl) e25 (fun H locs hI => ?_)
    refine lv_aload_n hx hb (dc tbJ6_getChars_ba4f3_0_k 35 rfl) rfl (lv_at hl 4 rfl) ?_
    obtain ⟨x5_57, e27, hf⟩ := bnd_s hf
    refine lv_iinc (v := x5_57) (lv' := [(5, .int x5_57), (0, .int x3_32), (4, .int x4_39), (3, .int x3_32), (2, .ref (ad k0)), (6, .int x6)]) hx hb (dc tbJ6_getChars_ba4f3_0_k 36 rfl) hl (k := 0) rfl (ii_e e27 ic_m1) (by decide) rfl (fun ls hl => ?_)
    refine lv_iload hx hb (dc tbJ6_getChars_ba4f3_0_k 37 rfl) (lv_at hl 0 rfl) ?_
    refine g_gsd2 hx hb hown hts hsx hI q_t4_113 (dc tbJ6_getChars_ba4f3_0_k 38 rfl) ?_
    refine lv_iload hx hb (dc tbJ6_getChars_ba4f3_0_k 39 rfl) (lv_at hl 2 rfl) ?_
    obtain ⟨h28, hf⟩ := chk_s hf
    refine g_d2ld hx hb hsx hI (okb_in h28) (dc tbJ6_getChars_ba4f3_1_k 0 rfl) ?_
    obtain ⟨h29, hf⟩ := chk_s hf
    obtain ⟨M31, e30, hf⟩ := bnd_s hf
    refine g_bast hx hb hK hap hI hk0 (okb_in h29) (dc tbJ6_getChars_ba4f3_1_k 1 rfl) e30 (fun H locs hI => ?_)
    refine lv_goto (tgt := 22) hx hb (dc tbJ6_getChars_ba4f3_1_k 2 rfl) rfl ?_
    exact hih22 x3_32 x5_57 x6 M31 hf _ _ _ hI (lv_sub hl [1, 4, 0, 5] rfl)
def mJ6_getChars_ba4f3_l22 (k0 : Nat) (n0 : Nat) : Nat → Int32 → Int32 → Int32 → Mem → Option (Mem × Int32)
  | 0 => fun _ _ _ _ => none
  | n + 1 => mJ6_getChars_ba4f3_b22 k0 n0 (mJ6_getChars_ba4f3_l22 k0 n0 n)
theorem tJ6_getChars_ba4f3_l22 {p : Program} {l : Launch} {e : Env} {s : State} {m : MethodId} {args : Array Value} {below : List Frame} {meth : Method} {c : Code} {G : GT} {kd : Nat → Nat × Nat} {ad : Nat → Nat} (C : Cx p s m args meth c cJ6_getChars_ba4f3 7 (some .int) RJ6 G kd ad) {k0 : Nat} {n0 : Nat} (hk0 : kd k0 = (11, n0)) {MO : Mem} {vo : Int32}   : ∀ (fuel : Nat) (x0 : Int32) (x5 : Int32) (x6 : Int32) (M : Mem), mJ6_getChars_ba4f3_l22 k0 n0 fuel x0 x5 x6 M = some (MO, vo) → At p l e (rmO 0 0 0) s m args below meth c 0 0 (MQ below (Qg G kd ad s.heap.size MO (some (.int vo))) args s 0 0 (AS kd ad s.heap.size)) G kd ad 7 22 [(0, .int x0), (2, .ref (ad k0)), (5, .int x5), (6, .int x6)] [] M := by
  intro fuel
  induction fuel with
  | zero => intro x0 x5 x6 M hf; cases hf
  | succ n IH => exact tJ6_getChars_ba4f3_b22 C hk0 IH
def mJ6_getChars_ba4f3_b12 (k0 : Nat) (n0 : Nat) (x0 : Int32) (x5 : Int32) (y0 : Int32) (M : Mem) : Option (Mem × Int32) := ite2 (y0 = 0) (bnd ((-x0)) (fun x0_21 => mJ6_getChars_ba4f3_l22 k0 n0 5000 x0_21 x5 y0 M)) (mJ6_getChars_ba4f3_l22 k0 n0 5000 x0 x5 y0 M)
set_option maxHeartbeats 4000000 in
set_option maxRecDepth 100000 in
theorem tJ6_getChars_ba4f3_b12 {p : Program} {l : Launch} {e : Env} {s : State} {m : MethodId} {args : Array Value} {below : List Frame} {meth : Method} {c : Code} {G : GT} {kd : Nat → Nat × Nat} {ad : Nat → Nat} (C : Cx p s m args meth c cJ6_getChars_ba4f3 7 (some .int) RJ6 G kd ad) {k0 : Nat} {n0 : Nat} (hk0 : kd k0 = (11, n0)) {MO : Mem} {vo : Int32}   : ∀ (x0 : Int32) (x5 : Int32) (y0 : Int32) (M : Mem), mJ6_getChars_ba4f3_b12 k0 n0 x0 x5 y0 M = some (MO, vo) → At p l e (rmO 0 0 0) s m args below meth c 0 0 (MQ below (Qg G kd ad s.heap.size MO (some (.int vo))) args s 0 0 (AS kd ad s.heap.size)) G kd ad 7 12 [(0, .int x0), (2, .ref (ad k0)), (5, .int x5)] [.int y0] M := by
  intro x0 x5 y0 M hf H locs ls hI hl
  obtain ⟨hx, hb, hml, hr, hown, hts, hlk, hK, hap, hsx⟩ := id C
  unfold mJ6_getChars_ba4f3_b12 at hf
  refine lv_istore (lv' := [(6, .int y0), (0, .int x0), (2, .ref (ad k0)), (5, .int x5)]) hx hb (dc tbJ6_getChars_ba4f3_0_k 7 rfl) hl (by decide) rfl (fun ls hl => ?_)
  refine lv_iload hx hb (dc tbJ6_getChars_ba4f3_0_k 8 rfl) (lv_at hl 0 rfl) ?_
  refine lv_if_ne (tgt := 22) hx hb (dc tbJ6_getChars_ba4f3_0_k 9 rfl) rfl (fun c2 => ?_) (fun c2 => ?_)
  · have hf := ite_f c2 hf
    exact tJ6_getChars_ba4f3_l22 C hk0 5000 x0 x5 y0 M hf _ _ _ hI (lv_sub hl [1, 2, 3, 0] rfl)
  · have hf := ite_t c2 hf
    refine lv_iload_n hx hb (dc tbJ6_getChars_ba4f3_0_k 10 rfl) rfl (lv_at hl 1 rfl) ?_
    refine lv_ineg hx hb (dc tbJ6_getChars_ba4f3_0_k 11 rfl) ?_
    obtain ⟨x0_21, e32, hf⟩ := bnd_s hf
    refine lv_ei e32 ?_
    refine lv_istore_n (lv' := [(0, .int x0_21), (6, .int y0), (2, .ref (ad k0)), (5, .int x5)]) hx hb (dc tbJ6_getChars_ba4f3_0_k 12 rfl) rfl hl (by decide) rfl (fun ls hl => ?_)
    exact tJ6_getChars_ba4f3_l22 C hk0 5000 x0_21 x5 y0 M hf _ _ _ hI (lv_sub hl [0, 2, 3, 1] rfl)
def mJ6_getChars_ba4f3 (k0 : Nat) (n0 : Nat) (x0 : Int32) (x1 : Int32) (M : Mem) : Option (Mem × Int32) := ite2 (0 ≤ x0) (mJ6_getChars_ba4f3_b12 k0 n0 x0 x1 (0 : Int32) M) (mJ6_getChars_ba4f3_b12 k0 n0 x0 x1 (1 : Int32) M)
set_option maxHeartbeats 4000000 in
set_option maxRecDepth 100000 in
theorem tJ6_getChars_ba4f3 (l : Launch) {G : GT} {kd : Nat → Nat × Nat} {ad : Nat → Nat} {k0 : Nat} {n0 : Nat} (hk0 : kd k0 = (11, n0)) {x0 : Int32} {x1 : Int32} {M : Mem} {MO : Mem} {vo : Int32} (hf : mJ6_getChars_ba4f3 k0 n0 x0 x1 M = some (MO, vo)) (n : Nat) : Met l yJ6_getChars_ba4f3 (Cond.code yJ6_getChars_ba4f3 cJ6_getChars_ba4f3 7 (some .int) :: WA) (rmO 0 0 0) (Pg G kd ad n [.int x0, .int x1, .ref (ad k0)] M) (Qg G kd ad n MO (some (.int vo))) 0 0 (AS kd ad n) := by
  refine g_body (own := RJ6) (by decide) rfl ?_ (Nat.le_of_ble_eq_true rfl)
  intro p e s m args below meth c C _ H locs ls hI hl
  obtain ⟨hx, hb, hml, hr, hown, hts, hlk, hK, hap, hsx⟩ := id C
  have hl : lv_has ls 7 [(0, .int x0), (1, .int x1), (2, .ref (ad k0))] := hl
  unfold mJ6_getChars_ba4f3 at hf
  refine lv_iload_n hx hb (dc tbJ6_getChars_ba4f3_0_k 0 rfl) rfl (lv_at hl 1 rfl) ?_
  refine lv_istore (lv' := [(5, .int x1), (0, .int x0), (1, .int x1), (2, .ref (ad k0))]) hx hb (dc tbJ6_getChars_ba4f3_0_k 1 rfl) hl (by decide) rfl (fun ls hl => ?_)
  refine lv_iload_n hx hb (dc tbJ6_getChars_ba4f3_0_k 2 rfl) rfl (lv_at hl 1 rfl) ?_
  refine lv_if_ge (tgt := 11) hx hb (dc tbJ6_getChars_ba4f3_0_k 3 rfl) rfl (fun c1 => ?_) (fun c1 => ?_)
  · have hf := ite_t c1 hf
    refine lv_iconst (v := 0) hx hb (dc tbJ6_getChars_ba4f3_0_k 6 rfl) ic_0 ?_
    exact tJ6_getChars_ba4f3_b12 C hk0 x0 x1 (0 : Int32) M hf _ _ _ hI (lv_sub hl [1, 3, 0] rfl)
  · have hf := ite_f c1 hf
    refine lv_iconst (v := 1) hx hb (dc tbJ6_getChars_ba4f3_0_k 4 rfl) ic_1 ?_
    refine lv_goto (tgt := 12) hx hb (dc tbJ6_getChars_ba4f3_0_k 5 rfl) rfl ?_
    exact tJ6_getChars_ba4f3_b12 C hk0 x0 x1 (1 : Int32) M hf _ _ _ hI (lv_sub hl [1, 3, 0] rfl)
theorem cs_J6_getChars_ba4f3 : csF yJ6_getChars_ba4f3 cJ6_getChars_ba4f3 7 (some .int) 3 := ⟨q_t4_109, q_t1_23, q_t4_110, by decide +kernel⟩
def mJ1_canEncode_fc78d (x0 : Int32) (M : Mem) : Option Int32 := ite2 ((255 : Int32) < x0) (some (0 : Int32)) (some (1 : Int32))
set_option maxHeartbeats 4000000 in
set_option maxRecDepth 100000 in
theorem tJ1_canEncode_fc78d (l : Launch) {G : GT} {kd : Nat → Nat × Nat} {ad : Nat → Nat}  {x0 : Int32} {M : Mem} {vo : Int32} (hf : mJ1_canEncode_fc78d  x0 M = some vo) (n : Nat) : Met l yJ1_canEncode_fc78d (Cond.code yJ1_canEncode_fc78d cJ1_canEncode_fc78d 1 (some .boolean) :: WA) (rmO 0 0 0) (Pg G kd ad n [.int x0] M) (Qg G kd ad n M (some (.int vo))) 0 0 (AS kd ad n) := by
  refine g_body (own := RJ1) (by decide) rfl ?_ (Nat.le_of_ble_eq_true rfl)
  intro p e s m args below meth c C _ H locs ls hI hl
  obtain ⟨hx, hb, hml, hr, hown, hts, hlk, hK, hap, hsx⟩ := id C
  have hl : lv_has ls 1 [(0, .int x0)] := hl
  unfold mJ1_canEncode_fc78d at hf
  refine lv_iload_n hx hb (dc tbJ1_canEncode_fc78d_k 0 rfl) rfl (lv_at hl 0 rfl) ?_
  refine lv_sipush (v := 255) hx hb (dc tbJ1_canEncode_fc78d_k 1 rfl) sp_255 ?_
  refine lv_icmp_gt (tgt := 11) hx hb (dc tbJ1_canEncode_fc78d_k 2 rfl) rfl (fun c1 => ?_) (fun c1 => ?_)
  · have hf := ite_t c1 hf
    refine lv_iconst (v := 0) hx hb (dc tbJ1_canEncode_fc78d_k 5 rfl) ic_0 ?_
    cases hf
    exact g_zret hx hb hr hlk hI rfl (dc tbJ1_canEncode_fc78d_k 6 rfl)
  · have hf := ite_f c1 hf
    refine lv_iconst (v := 1) hx hb (dc tbJ1_canEncode_fc78d_k 3 rfl) ic_1 ?_
    refine lv_goto (tgt := 12) hx hb (dc tbJ1_canEncode_fc78d_k 4 rfl) rfl ?_
    cases hf
    exact g_zret hx hb hr hlk hI rfl (dc tbJ1_canEncode_fc78d_k 6 rfl)
theorem cs_J1_canEncode_fc78d : csF yJ1_canEncode_fc78d cJ1_canEncode_fc78d 1 (some .boolean) 1 := ⟨q_t5_80, q_t1_18, q_t5_81, by decide +kernel⟩
def mJ8_newLength_cabcc_b21 (M : Mem) (x0 : Int32) (x1 : Int32) : Option Int32 := none
set_option maxHeartbeats 4000000 in
set_option maxRecDepth 100000 in
theorem tJ8_newLength_cabcc_b21 {p : Program} {l : Launch} {e : Env} {s : State} {m : MethodId} {args : Array Value} {below : List Frame} {meth : Method} {c : Code} {G : GT} {kd : Nat → Nat × Nat} {ad : Nat → Nat} (C : Cx p s m args meth c cJ8_newLength_cabcc 4 (some .int) RJ8 G kd ad)  {M : Mem} {vo : Int32}   : ∀ (x0 : Int32) (x1 : Int32), mJ8_newLength_cabcc_b21  M x0 x1 = some vo → At p l e (rmO 0 0 0) s m args below meth c 0 0 (MQ below (Qg G kd ad s.heap.size M (some (.int vo))) args s 0 0 (AS kd ad s.heap.size)) G kd ad 4 21 [(0, .int x0), (1, .int x1)] [] M := by
  intro x0 x1 hf H locs ls hI hl
  obtain ⟨hx, hb, hml, hr, hown, hts, hlk, hK, hap, hsx⟩ := id C
  unfold mJ8_newLength_cabcc_b21 at hf
  refine lv_iload_n hx hb (dc tbJ8_newLength_cabcc_k 14 rfl) rfl (lv_at hl 0 rfl) ?_
  refine lv_iload_n hx hb (dc tbJ8_newLength_cabcc_k 15 rfl) rfl (lv_at hl 1 rfl) ?_
  cases hf
def mJ8_newLength_cabcc (x0 : Int32) (x1 : Int32) (x2 : Int32) (M : Mem) : Option Int32 := bnd ((x0 + (imax x1 x2))) (fun x3_7 => ite2 (x3_7 ≤ (0 : Int32)) (mJ8_newLength_cabcc_b21  M x0 x1) (ite2 ((2147483639 : Int32) < x3_7) (mJ8_newLength_cabcc_b21  M x0 x1) (some x3_7)))
set_option maxHeartbeats 4000000 in
set_option maxRecDepth 100000 in
theorem tJ8_newLength_cabcc (l : Launch) {G : GT} {kd : Nat → Nat × Nat} {ad : Nat → Nat}  {x0 : Int32} {x1 : Int32} {x2 : Int32} {M : Mem} {vo : Int32} (hf : mJ8_newLength_cabcc  x0 x1 x2 M = some vo) (n : Nat) : Met l yJ8_newLength_cabcc (Cond.code yJ8_newLength_cabcc cJ8_newLength_cabcc 4 (some .int) :: WA) (rmO 0 0 0) (Pg G kd ad n [.int x0, .int x1, .int x2] M) (Qg G kd ad n M (some (.int vo))) 0 0 (AS kd ad n) := by
  refine g_body (own := RJ8) (by decide) rfl ?_ (Nat.le_of_ble_eq_true rfl)
  intro p e s m args below meth c C _ H locs ls hI hl
  obtain ⟨hx, hb, hml, hr, hown, hts, hlk, hK, hap, hsx⟩ := id C
  have hl : lv_has ls 4 [(0, .int x0), (1, .int x1), (2, .int x2)] := hl
  unfold mJ8_newLength_cabcc at hf
  refine lv_iload_n hx hb (dc tbJ8_newLength_cabcc_k 0 rfl) rfl (lv_at hl 0 rfl) ?_
  refine lv_iload_n hx hb (dc tbJ8_newLength_cabcc_k 1 rfl) rfl (lv_at hl 1 rfl) ?_
  refine lv_iload_n hx hb (dc tbJ8_newLength_cabcc_k 2 rfl) rfl (lv_at hl 2 rfl) ?_
  refine va_mmax hx hb (hml.trans hl.1.symm) hown (hts _ q_t4_6) (hts _ q_t2_203) (hts _ q_t1_22) (hts _ q_t2_204) (Nat.le_of_ble_eq_true rfl) (Nat.le_of_ble_eq_true rfl) (Nat.le_of_ble_eq_true rfl) (Nat.le_of_ble_eq_true rfl) (dc tbJ8_newLength_cabcc_k 3 rfl) ?_
  refine lv_et (show (if _ then _ else _) = (imax x1 x2) from rfl) ?_
  refine lv_iadd hx hb (dc tbJ8_newLength_cabcc_k 4 rfl) ?_
  obtain ⟨x3_7, e1, hf⟩ := bnd_s hf
  refine lv_ei e1 ?_
  refine lv_istore_n (lv' := [(3, .int x3_7), (0, .int x0), (1, .int x1), (2, .int x2)]) hx hb (dc tbJ8_newLength_cabcc_k 5 rfl) rfl hl (by decide) rfl (fun ls hl => ?_)
  refine lv_iconst (v := 0) hx hb (dc tbJ8_newLength_cabcc_k 6 rfl) ic_0 ?_
  refine lv_iload_n hx hb (dc tbJ8_newLength_cabcc_k 7 rfl) rfl (lv_at hl 0 rfl) ?_
  refine lv_icmp_ge (tgt := 21) hx hb (dc tbJ8_newLength_cabcc_k 8 rfl) rfl (fun c2 => ?_) (fun c2 => ?_)
  · have hf := ite_t c2 hf
    exact tJ8_newLength_cabcc_b21 C  x0 x1 hf _ _ _ hI (lv_sub hl [1, 2] rfl)
  · have hf := ite_f c2 hf
    refine lv_iload_n hx hb (dc tbJ8_newLength_cabcc_k 9 rfl) rfl (lv_at hl 0 rfl) ?_
    refine lv_ldc hx hb hown (hts _ q_t4_7) (dc tbJ8_newLength_cabcc_k 10 rfl) ?_
    refine lv_icmp_gt (tgt := 21) hx hb (dc tbJ8_newLength_cabcc_k 11 rfl) rfl (fun c3 => ?_) (fun c3 => ?_)
    · have hf := ite_t c3 hf
      exact tJ8_newLength_cabcc_b21 C  x0 x1 hf _ _ _ hI (lv_sub hl [1, 2] rfl)
    · have hf := ite_f c3 hf
      refine lv_iload_n hx hb (dc tbJ8_newLength_cabcc_k 12 rfl) rfl (lv_at hl 0 rfl) ?_
      cases hf
      exact g_iret hx hb hr hlk hI (dc tbJ8_newLength_cabcc_k 13 rfl)
theorem cs_J8_newLength_cabcc : csF yJ8_newLength_cabcc cJ8_newLength_cabcc 4 (some .int) 3 := ⟨q_t4_4, q_t1_26, q_t4_5, by decide +kernel⟩
def mJ5_isLatin1_aae02 (M : Mem) : Option Int32 := ite2 ((1 : Int32) = 0) (some (0 : Int32)) (ite2 ((rd M 133 1) = 0) (some (1 : Int32)) (some (0 : Int32)))
set_option maxHeartbeats 4000000 in
set_option maxRecDepth 100000 in
theorem tJ5_isLatin1_aae02 (l : Launch) {G : GT} {kd : Nat → Nat × Nat} {ad : Nat → Nat} {M : Mem} (hS : Sb kd (rd M 133 0)) {vo : Int32} (hf : mJ5_isLatin1_aae02  M = some vo) (n : Nat) : Met l yJ5_isLatin1_aae02 (Cond.code yJ5_isLatin1_aae02 cJ5_isLatin1_aae02 1 (some .boolean) :: WA) (rmO 0 0 0) (Pg G kd ad n [.ref (ad 133)] M) (Qg G kd ad n M (some (.int vo))) 0 0 (AS kd ad n) := by
  refine g_body (own := RJ5) (by decide) rfl ?_ (Nat.le_of_ble_eq_true rfl)
  intro p e s m args below meth c C _ H locs ls hI hl
  obtain ⟨hx, hb, hml, hr, hown, hts, hlk, hK, hap, hsx⟩ := id C
  have hl : lv_has ls 1 [(0, .ref (ad 133))] := hl
  unfold mJ5_isLatin1_aae02 at hf
  refine g_gscs hx hb hown hts hsx hI q_t2_59 (dc tbJ5_isLatin1_aae02_k 0 rfl) ?_
  refine lv_if_eq (tgt := 17) hx hb (dc tbJ5_isLatin1_aae02_k 1 rfl) rfl (fun c1 => ?_) (fun c1 => ?_)
  · have hf := ite_t c1 hf
    refine lv_iconst (v := 0) hx hb (dc tbJ5_isLatin1_aae02_k 7 rfl) ic_0 ?_
    cases hf
    exact g_zret hx hb hr hlk hI rfl (dc tbJ5_isLatin1_aae02_k 8 rfl)
  · have hf := ite_f c1 hf
    refine lv_aload_n hx hb (dc tbJ5_isLatin1_aae02_k 2 rfl) rfl (lv_at hl 0 rfl) ?_
    refine ggSB_1 hx hb hts hown hK hI hS.1 q_t2_69 (dc tbJ5_isLatin1_aae02_k 3 rfl) ?_
    refine lv_if_ne (tgt := 17) hx hb (dc tbJ5_isLatin1_aae02_k 4 rfl) rfl (fun c2 => ?_) (fun c2 => ?_)
    · have hf := ite_f c2 hf
      refine lv_iconst (v := 0) hx hb (dc tbJ5_isLatin1_aae02_k 7 rfl) ic_0 ?_
      cases hf
      exact g_zret hx hb hr hlk hI rfl (dc tbJ5_isLatin1_aae02_k 8 rfl)
    · have hf := ite_t c2 hf
      refine lv_iconst (v := 1) hx hb (dc tbJ5_isLatin1_aae02_k 5 rfl) ic_1 ?_
      refine lv_goto (tgt := 18) hx hb (dc tbJ5_isLatin1_aae02_k 6 rfl) rfl ?_
      cases hf
      exact g_zret hx hb hr hlk hI rfl (dc tbJ5_isLatin1_aae02_k 8 rfl)
def mJ5_newCapacity_0f7a4 (x1 : Int32) (M : Mem) : Option Int32 := bnd ((Int32.ofNat (sbn (rd M 133 0)))) (fun x2_5 => bnd ((x1 <<< ((rd M 133 1) &&& 31))) (fun x3_12 => bnd ((x3_12 - x2_5)) (fun x4_16 => cap (mJ8_newLength_cabcc x2_5 x4_16 (x2_5 + ((2 : Int32) <<< ((rd M 133 1) &&& 31))) M) (fun r6 => ite2 (r6 = (2147483647 : Int32)) (none) (some (r6 >>> ((rd M 133 1) &&& 31)))))))
set_option maxHeartbeats 4000000 in
set_option maxRecDepth 100000 in
theorem tJ5_newCapacity_0f7a4 (l : Launch) {G : GT} {kd : Nat → Nat × Nat} {ad : Nat → Nat} {M : Mem} (hS : Sb kd (rd M 133 0)) {x1 : Int32} {vo : Int32} (hf : mJ5_newCapacity_0f7a4  x1 M = some vo) (n : Nat) : Met l yJ5_newCapacity_0f7a4 (Cond.code yJ5_newCapacity_0f7a4 cJ5_newCapacity_0f7a4 6 (some .int) :: WA) (rmO 1 0 0) (Pg G kd ad n [.ref (ad 133), .int x1] M) (Qg G kd ad n M (some (.int vo))) 0 0 (AS kd ad n) := by
  refine g_body (own := RJ5) (by decide) rfl ?_ (Nat.le_of_ble_eq_true rfl)
  intro p e s m args below meth c C _ H locs ls hI hl
  obtain ⟨hx, hb, hml, hr, hown, hts, hlk, hK, hap, hsx⟩ := id C
  have hl : lv_has ls 6 [(0, .ref (ad 133)), (1, .int x1)] := hl
  unfold mJ5_newCapacity_0f7a4 at hf
  refine lv_aload_n hx hb (dc tbJ5_newCapacity_0f7a4_k 0 rfl) rfl (lv_at hl 0 rfl) ?_
  refine ggSB_0 hx hb hts hown hK hI hS.1 q_t2_68 (dc tbJ5_newCapacity_0f7a4_k 1 rfl) ?_
  refine g_alenB hx hb hK hI hS.2.1 (v := Int32.ofNat (sbn (rd M 133 0))) rfl (dc tbJ5_newCapacity_0f7a4_k 2 rfl) ?_
  obtain ⟨x2_5, e2, hf⟩ := bnd_s hf
  refine lv_ei e2 ?_
  refine lv_istore_n (lv' := [(2, .int x2_5), (0, .ref (ad 133)), (1, .int x1)]) hx hb (dc tbJ5_newCapacity_0f7a4_k 3 rfl) rfl hl (by decide) rfl (fun ls hl => ?_)
  refine lv_iload_n hx hb (dc tbJ5_newCapacity_0f7a4_k 4 rfl) rfl (lv_at hl 2 rfl) ?_
  refine lv_aload_n hx hb (dc tbJ5_newCapacity_0f7a4_k 5 rfl) rfl (lv_at hl 1 rfl) ?_
  refine ggSB_1 hx hb hts hown hK hI hS.1 q_t2_69 (dc tbJ5_newCapacity_0f7a4_k 6 rfl) ?_
  refine lv_ishl hx hb (dc tbJ5_newCapacity_0f7a4_k 7 rfl) ?_
  obtain ⟨x3_12, e3, hf⟩ := bnd_s hf
  refine lv_ei e3 ?_
  refine lv_istore_n (lv' := [(3, .int x3_12), (2, .int x2_5), (0, .ref (ad 133)), (1, .int x1)]) hx hb (dc tbJ5_newCapacity_0f7a4_k 8 rfl) rfl hl (by decide) rfl (fun ls hl => ?_)
  refine lv_iload_n hx hb (dc tbJ5_newCapacity_0f7a4_k 9 rfl) rfl (lv_at hl 0 rfl) ?_
  refine lv_iload_n hx hb (dc tbJ5_newCapacity_0f7a4_k 10 rfl) rfl (lv_at hl 1 rfl) ?_
  refine lv_isub hx hb (dc tbJ5_newCapacity_0f7a4_k 11 rfl) ?_
  obtain ⟨x4_16, e4, hf⟩ := bnd_s hf
  refine lv_ei e4 ?_
  refine lv_istore (lv' := [(4, .int x4_16), (3, .int x3_12), (2, .int x2_5), (0, .ref (ad 133)), (1, .int x1)]) hx hb (dc tbJ5_newCapacity_0f7a4_k 12 rfl) hl (by decide) rfl (fun ls hl => ?_)
  refine lv_iload_n hx hb (dc tbJ5_newCapacity_0f7a4_k 13 rfl) rfl (lv_at hl 2 rfl) ?_
  refine lv_iload hx hb (dc tbJ5_newCapacity_0f7a4_k 14 rfl) (lv_at hl 0 rfl) ?_
  refine lv_iload_n hx hb (dc tbJ5_newCapacity_0f7a4_k 15 rfl) rfl (lv_at hl 2 rfl) ?_
  refine lv_iconst (v := 2) hx hb (dc tbJ5_newCapacity_0f7a4_k 16 rfl) ic_2 ?_
  refine lv_aload_n hx hb (dc tbJ5_newCapacity_0f7a4_k 17 rfl) rfl (lv_at hl 3 rfl) ?_
  refine ggSB_1 hx hb hts hown hK hI hS.1 q_t2_69 (dc tbJ5_newCapacity_0f7a4_k 18 rfl) ?_
  refine lv_ishl hx hb (dc tbJ5_newCapacity_0f7a4_k 19 rfl) ?_
  refine lv_iadd hx hb (dc tbJ5_newCapacity_0f7a4_k 20 rfl) ?_
  obtain ⟨r6, q5, hf⟩ := cap_s hf
  refine g_callSi hx hb hml hown hts hK hap hsx hI (tJ8_newLength_cabcc l  q5 H.size) cs_J8_newLength_cabcc q_t4_3 rfl rfl ⟨Nat.le_of_ble_eq_true rfl, Nat.le_of_ble_eq_true rfl⟩ rfl hl.1 rfl (Nat.le_of_ble_eq_true rfl) (dc tbJ5_newCapacity_0f7a4_k 21 rfl) ⟨Nat.le_of_ble_eq_true rfl, Nat.le_of_ble_eq_true rfl⟩ (fun H locs hI => ?_)
  refine lv_istore (lv' := [(5, .int r6), (4, .int x4_16), (3, .int x3_12), (2, .int x2_5), (0, .ref (ad 133)), (1, .int x1)]) hx hb (dc tbJ5_newCapacity_0f7a4_k 22 rfl) hl (by decide) rfl (fun ls hl => ?_)
  refine lv_iload hx hb (dc tbJ5_newCapacity_0f7a4_k 23 rfl) (lv_at hl 0 rfl) ?_
  refine lv_ldc hx hb hown (hts _ q_t4_11) (dc tbJ5_newCapacity_0f7a4_k 24 rfl) ?_
  refine lv_icmp_ne (tgt := 51) hx hb (dc tbJ5_newCapacity_0f7a4_k 25 rfl) rfl (fun c8 => ?_) (fun c8 => ?_)
  · have hf := ite_f c8 hf
    refine lv_iload hx hb (dc tbJ5_newCapacity_0f7a4_k 31 rfl) (lv_at hl 0 rfl) ?_
    refine lv_aload_n hx hb (dc tbJ5_newCapacity_0f7a4_k 32 rfl) rfl (lv_at hl 4 rfl) ?_
    refine ggSB_1 hx hb hts hown hK hI hS.1 q_t2_69 (dc tbJ5_newCapacity_0f7a4_k 33 rfl) ?_
    refine lv_ishr hx hb (dc tbJ5_newCapacity_0f7a4_k 34 rfl) ?_
    cases hf
    exact g_iret hx hb hr hlk hI (dc tbJ5_newCapacity_0f7a4_k 35 rfl)
  · have hf := ite_t c8 hf
    cases hf
end
/-! part 33d.copy -/
section
/-! copies of bytes; the array that the StringBuilder grows to -/
def fitB (f : Nat → Int32) (n : Nat) : Bool := (List.range n).all (fun i => fits .byte (.int (f i)))
theorem fitB_s {f : Nat → Int32} {n : Nat} (h : fitB f n = true) : ∀ i, i < n → fits .byte (.int (f i)) = true := fun i hi => List.all_eq_true.mp h i (List.mem_range.mpr hi)
def stF (i : Nat) : Nat → Int32 := fun j => (stB i).getD j 0
def cpS (M : Mem) (i k2 dp : Nat) : Mem := (fun a => if a = k2 then va_cpy (stF i) (M.1 k2) 0 dp (stLen i) else M.1 a, M.2)
theorem cpS_o {M : Mem} {i b dp : Nat} (k' : Nat) (h : k' ≠ b) : (cpS M i b dp).1 k' = M.1 k' ∧ (cpS M i b dp).2.1 k' = M.2.1 k' ∧ (cpS M i b dp).2.2 k' = M.2.2 k' := ⟨if_neg h, rfl, rfl⟩
theorem cpS_s {M : Mem} {i b dp : Nat} : (cpS M i b dp).1 b = va_cpy (stF i) (M.1 b) 0 dp (stLen i) := if_pos rfl
theorem st_len : ∀ i, i < 12 → (Int32.ofNat (stLen i)).toNatClampNeg = stLen i ∧ ¬ Int32.ofNat (stLen i) < 0 ∧ stLen i ≤ 8 := by decide +kernel
theorem st_fit : ∀ i, i < 12 → ∀ j, j < 8 → fits .byte (.int (stF i j)) = true := by decide +kernel
theorem i_nn {x : Int32} (h : ¬ x < 0) : x = Int32.ofNat x.toNatClampNeg := by
  have hz0 : (0 : Int) ≤ x.toInt := by
    have := Int32.not_lt.mp h
    simpa using Int32.le_iff_toInt_le.mp this
  have e : x.toInt = (x.toInt.toNat : Int) := by omega
  show x = Int32.ofNat x.toInt.toNat
  calc x = Int32.ofInt x.toInt := (Int32.ofInt_toInt x).symm
    _ = Int32.ofInt (x.toInt.toNat : Int) := by rw [← e]
    _ = Int32.ofNat x.toInt.toNat := rfl
theorem i_s9 {x : Int32} (h : okb x 9 = true) : (x + 1).toNatClampNeg = x.toNatClampNeg + 1 := by
  have h9 := okb_lt h
  have h0 : ¬ x < 0 := fun hn => (okb_in h) (Or.inl hn)
  have e := i_nn h0
  have key : ∀ n, n < 9 → (Int32.ofNat n + 1).toNatClampNeg = n + 1 := by decide
  rw [← key _ h9, ← e]
theorem i_n9 {x : Int32} (h : okb x 9 = true) : x.toNatClampNeg < 9 := okb_lt h
section GD
variable {p : Program} {l : Launch} {e : Env} {R : Room} {s : State} {m : MethodId} {args : Array Value} {below : List Frame} {meth : Method} {c : Code} {H : Heap} {locs : List Loc} {cells slots : Nat} {Q : State → Prop}
variable {cc : ByteArray} {pc : Nat} {ls : Array Slot} {rest : List Value} {G : GT} {kd : Nat → Nat × Nat} {ad : Nat → Nat} {M : Mem} {H0 : Heap}
theorem g_copyB (hx : p.tables.exec = Jvm.exec) (hb : c.code = cc) (hml : c.maxLocals = ls.size) {own : String} {index : Nat} (hown : s.vm.findClass own = some m.cls) (hlink : (Cond.methodLink own index arraycopyName).before args s = true) (hnat : (Cond.native arraycopyName).before args s = true) (hstat : (Cond.static arraycopyName).before args s = true) (hini : (Cond.initialized "java/lang/System").before args s = true)
    (hK : va_K G.1 vwCl (tyL G) s) (hap : Apt kd ad) (hI : Inv G kd ad H0 M H locs) {k1 k2 n0 n1 : Nat} (hk1 : kd k1 = (11, n0)) (hk2 : kd k2 = (11, n1)) {N : Nat} {sp dp n : Int32} (e1 : sp = 0) (e2 : dp = 0) (e3 : n.toNatClampNeg = N ∧ ¬ n < 0) (h4 : N ≤ n0) (h5 : N ≤ n1) (hfit : ∀ i, i < N → fits .byte (.int (M.1 k1 i)) = true) (hroom : 1 ≤ R.frames ∧ (rest.map fun v => v.category).sum + (nativeFrameWords "java/lang/System" "arraycopy" 5 + 11) ≤ R.locals) (hdg : decode cc pc = .ok (.invokestatic index, 3)) {M' : Mem} (hM : M' = cpy M k1 k2 0 0 N)
    (kk : ∀ (H1 : Heap) (locs1 : List Loc), Inv G kd ad H0 M' H1 locs1 → W p l e R s m args below meth c H1 locs1 cells slots Q (F0 m (pc + 3) ls rest)) : W p l e R s m args below meth c H locs cells slots Q (F0 m pc ls (.int n :: .int dp :: .ref (ad k2) :: .int sp :: .ref (ad k1) :: rest)) := by
  subst hM; subst e1; subst e2
  obtain ⟨e3, h3⟩ := e3
  have nn : ∀ z : Int32, ¬ z < 0 → z.toInt = (z.toNatClampNeg : Int) := by
    intro z hz
    have hz0 : (0 : Int) ≤ z.toInt := by
      have := Int32.not_lt.mp hz
      simpa using Int32.le_iff_toInt_le.mp this
    show z.toInt = ((z.toInt.toNat : Nat) : Int)
    omega
  have z0 : (0 : Int32).toNatClampNeg = 0 := rfl
  intro T hT X
  have hc0 : H[ad k1]? = some (vp_cell (G.2.1 1) (n0, .inl (M.1 k1))) := hI.at hk1 (by simp) rfl
  have hc1 : H[ad k2]? = some (vp_cell (G.2.1 1) (n1, .inl (M.1 k2))) := hI.at hk2 (by simp) rfl
  obtain ⟨-, ka, hka, cm0, hkk0⟩ := (hK.2 1 _ rfl).1 n0 (fun j => .int (M.1 k1 j))
  obtain ⟨-, kb, hkb, cm1, hkk1⟩ := (hK.2 1 _ rfl).1 n1 (fun j => .int (M.1 k2 j))
  obtain ⟨vm', X', step⟩ := X.arraycopy hx hown hlink hnat hstat hini (src := ad k1) (dst := ad k2) (cs := (vp_cell (G.2.1 1) (n0, .inl (M.1 k1)))) (cd := (vp_cell (G.2.1 1) (n1, .inl (M.1 k2)))) (srcPos := 0) (destPos := 0) (n := n) (by rw [hT]; exact hc0) (by rw [hT]; exact hc1)
    (fun _ h => by cases h) (fun _ h => by cases h) (fun h => by cases h) (fun h => by cases h) hka hkb hkk0 hkk1 (by simp [refKind]) (by decide) (by decide) h3
    (by rw [nn 0 (by decide), nn n h3, e3, z0]; show ¬ _ > ((arrV (G.2.1 1) n0 (fun j => .int (M.1 k1 j))).slots.size : Int); rw [arrV_size]; omega)
    (by rw [nn 0 (by decide), nn n h3, e3, z0]; show ¬ _ > ((arrV (G.2.1 1) n1 (fun j => .int (M.1 k2 j))).slots.size : Int); rw [arrV_size]; omega)
    (fun vm₁ _ i hi => by
      have e : (vp_cell (G.2.1 1) (n0, .inl (M.1 k1))).slots.getD ((0 : Int32).toNatClampNeg + i) .null = .int (M.1 k1 i) := by
        show (arrV (G.2.1 1) n0 (fun j => .int (M.1 k1 j))).slots.getD _ _ = _
        rw [z0, Nat.zero_add, Array.getD_eq_getD_getElem?, arrV_read _ _ (by omega)]
        rfl
      refine ⟨?_, ?_⟩
      · rw [e]; exact hfit i (by omega)
      · rw [e]; exact trivial)
    (g := F0 m pc ls (.int n :: .int 0 :: .ref (ad k2) :: .int 0 :: .ref (ad k1) :: rest)) rfl (by rw [hml]) (rest := rest) rfl (by rw [hb]; exact hdg) hroom.1 (by have := hroom.2; show 2 * 0 + _ + _ ≤ _; omega)
  have e1 : copied (vp_cell (G.2.1 1) (n0, .inl (M.1 k1))) (vp_cell (G.2.1 1) (n1, .inl (M.1 k2))) 0 0 n = vp_cell (G.2.1 1) (n1, .inl (va_cpy (M.1 k1) (M.1 k2) (0 : Int32).toNatClampNeg (0 : Int32).toNatClampNeg n.toNatClampNeg)) := va_copied (fun z => .int z) (G.2.1 1) (G.2.1 1) (M.1 k1) (M.1 k2) (by rw [z0, e3]; omega)
  rw [z0, e3] at e1
  rw [e1] at X' step
  have hl : ad k2 < H.size := (Array.getElem?_eq_some_iff.mp hc1).1
  have hheap : ((T.setVm vm').setCell (ad k2) (vp_cell (G.2.1 1) (n1, .inl (va_cpy (M.1 k1) (M.1 k2) 0 0 N)))).heap = H.setIfInBounds (ad k2) (vp_cell (G.2.1 1) (n1, .inl (va_cpy (M.1 k1) (M.1 k2) 0 0 N))) := by rw [← hT]; rfl
  have oq : ∀ q : Nat, q ≠ ad k2 → (H.setIfInBounds (ad k2) (vp_cell (G.2.1 1) (n1, .inl (va_cpy (M.1 k1) (M.1 k2) 0 0 N))))[q]? = H[q]? := fun q hq => by simp [Array.getElem?_setIfInBounds, Ne.symm hq]
  have hcell : (H.setIfInBounds (ad k2) (vp_cell (G.2.1 1) (n1, .inl (va_cpy (M.1 k1) (M.1 k2) 0 0 N))))[ad k2]? = some (vp_cell (G.2.1 1) (n1, .inl (va_cpy (M.1 k1) (M.1 k2) 0 0 N))) := by simp [Array.getElem?_setIfInBounds, hl]
  obtain ⟨t, a1, b1⟩ := kk _ _ ⟨fun k hk => by
      by_cases e : k = k2
      · subst e
        rw [cpy_s, hk2]; exact hcell
      · obtain ⟨q1, q2, q3⟩ := cpy_o (M := M) (a := k1) (sp := 0) (dp := 0) (n := N) k e
        rw [q1, q2, q3]
        exact (hI.1 k hk).kept (oq _ (fun q => e (hap _ _ hk (by rw [hk2]; simp) q))),
    by simp; exact hI.2.1, fun q g1 g2 => by
      rw [oq q (fun e => g2 (by rw [e]; exact Or.inl ⟨k2, by rw [hk2]; simp, rfl⟩))]
      exact hI.2.2.1 q g1 g2, fun q hq => by
      rcases List.mem_append.mp hq with h | h
      · exact hI.2.2.2 q h
      · obtain ⟨z, -, hz⟩ := List.mem_map.mp h
        rw [← hz]
        exact Or.inl ⟨k2, by rw [hk2]; simp, rfl⟩⟩ _ hheap X'
  exact ⟨t, step t a1, b1⟩
theorem g_copyS (hx : p.tables.exec = Jvm.exec) (hb : c.code = cc) (hml : c.maxLocals = ls.size) {own : String} {index : Nat} (hown : s.vm.findClass own = some m.cls) (hlink : (Cond.methodLink own index arraycopyName).before args s = true) (hnat : (Cond.native arraycopyName).before args s = true) (hstat : (Cond.static arraycopyName).before args s = true) (hini : (Cond.initialized "java/lang/System").before args s = true)
    (hK : va_K G.1 vwCl (tyL G) s) (hap : Apt kd ad) (hsx : Sx G (AS kd ad s.heap.size) s s.heap) (hI : Inv G kd ad s.heap M H locs) {i0 k2 n1 : Nat} (hi0 : i0 < 12) (hk2 : kd k2 = (11, n1)) {dp : Int32} (hc : (!(decide (dp < 0)) && decide (dp.toNatClampNeg + stLen i0 ≤ n1)) = true) (hroom : 1 ≤ R.frames ∧ (rest.map fun v => v.category).sum + (nativeFrameWords "java/lang/System" "arraycopy" 5 + 11) ≤ R.locals) (hdg : decode cc pc = .ok (.invokestatic index, 3)) {M' : Mem} (hM : M' = cpS M i0 k2 dp.toNatClampNeg)
    (kk : ∀ (H1 : Heap) (locs1 : List Loc), Inv G kd ad s.heap M' H1 locs1 → W p l e R s m args below meth c H1 locs1 cells slots Q (F0 m (pc + 3) ls rest)) : W p l e R s m args below meth c H locs cells slots Q (F0 m pc ls (.int (Int32.ofNat (stLen i0)) :: .int dp :: .ref (ad k2) :: .int 0 :: .ref (G.2.2 (200 + i0)) :: rest)) := by
  subst hM
  rw [Bool.and_eq_true] at hc
  obtain ⟨h2, h5⟩ := hc
  have h2 : ¬ dp < 0 := fun h => by rw [decide_eq_true h] at h2; exact absurd h2 (by decide)
  have h5 : dp.toNatClampNeg + stLen i0 ≤ n1 := of_decide_eq_true h5
  obtain ⟨hN, h3, h8⟩ := st_len i0 hi0
  have nn : ∀ z : Int32, ¬ z < 0 → z.toInt = (z.toNatClampNeg : Int) := by
    intro z hz
    have hz0 : (0 : Int) ≤ z.toInt := by
      have := Int32.not_lt.mp hz
      simpa using Int32.le_iff_toInt_le.mp this
    show z.toInt = ((z.toInt.toNat : Nat) : Int)
    omega
  have z0 : (0 : Int32).toNatClampNeg = 0 := rfl
  intro T hT X
  have hX : va_T .byte (G.2.2 (200 + i0)) (stLen i0) (fun j => .int (stF i0 j)) (AS kd ad s.heap.size) s s.heap := (hsx.2.2.2.1.2.1 i0 hi0).2.2.2
  obtain ⟨scr, hs1, hs2, hs3, hs4, -, hs5, hs7⟩ := hX
  have hc0 : H[G.2.2 (200 + i0)]? = some scr := by rw [hI.2.2.1 _ (Array.getElem?_eq_some_iff.mp hs1).1 hs7]; exact hs1
  have hc1 : H[ad k2]? = some (vp_cell (G.2.1 1) (n1, .inl (M.1 k2))) := hI.at hk2 (by simp) rfl
  obtain ⟨hs6, ka, hka, cm0, hkk0⟩ := hs2
  obtain ⟨-, kb, hkb, cm1, hkk1⟩ := (hK.2 1 _ rfl).1 n1 (fun j => .int (M.1 k2 j))
  obtain ⟨vm', X', step⟩ := X.arraycopy hx hown hlink hnat hstat hini (src := G.2.2 (200 + i0)) (dst := ad k2) (cs := scr) (cd := (vp_cell (G.2.1 1) (n1, .inl (M.1 k2)))) (srcPos := 0) (destPos := dp) (n := Int32.ofNat (stLen i0)) (by rw [hT]; exact hc0) (by rw [hT]; exact hc1)
    hs6 (fun _ h => by cases h) hs3 (fun h => by cases h) hka hkb hkk0 hkk1 (by simp [refKind]) (by decide) h2 h3
    (by rw [nn 0 (by decide), nn _ h3, z0, hN]; omega)
    (by rw [nn dp h2, nn _ h3, hN]; show ¬ _ > ((arrV (G.2.1 1) n1 (fun j => .int (M.1 k2 j))).slots.size : Int); rw [arrV_size]; omega)
    (fun vm₁ _ i hi => by
      rw [hN] at hi
      have e : scr.slots.getD ((0 : Int32).toNatClampNeg + i) .null = .int (stF i0 i) := by
        rw [z0, Nat.zero_add, Array.getD_eq_getD_getElem?, hs5 _ hi]
        rfl
      refine ⟨?_, ?_⟩
      · rw [e]; exact st_fit i0 hi0 i (by omega)
      · rw [e]; exact trivial)
    (g := F0 m pc ls (.int (Int32.ofNat (stLen i0)) :: .int dp :: .ref (ad k2) :: .int 0 :: .ref (G.2.2 (200 + i0)) :: rest)) rfl (by rw [hml]) (rest := rest) rfl (by rw [hb]; exact hdg) hroom.1 (by have := hroom.2; show 2 * 0 + _ + _ ≤ _; omega)
  have e1 : copied scr (vp_cell (G.2.1 1) (n1, .inl (M.1 k2))) 0 dp (Int32.ofNat (stLen i0)) = vp_cell (G.2.1 1) (n1, .inl (va_cpy (stF i0) (M.1 k2) (0 : Int32).toNatClampNeg dp.toNatClampNeg (Int32.ofNat (stLen i0)).toNatClampNeg)) := va_copiedX (fun z => .int z) scr (G.2.1 1) (stF i0) (M.1 k2) hs5 (by rw [z0, hN]; omega)
  rw [z0, hN] at e1
  rw [e1] at X' step
  have hl : ad k2 < H.size := (Array.getElem?_eq_some_iff.mp hc1).1
  have hheap : ((T.setVm vm').setCell (ad k2) (vp_cell (G.2.1 1) (n1, .inl (va_cpy (stF i0) (M.1 k2) 0 dp.toNatClampNeg (stLen i0))))).heap = H.setIfInBounds (ad k2) (vp_cell (G.2.1 1) (n1, .inl (va_cpy (stF i0) (M.1 k2) 0 dp.toNatClampNeg (stLen i0)))) := by rw [← hT]; rfl
  have oq : ∀ q : Nat, q ≠ ad k2 → (H.setIfInBounds (ad k2) (vp_cell (G.2.1 1) (n1, .inl (va_cpy (stF i0) (M.1 k2) 0 dp.toNatClampNeg (stLen i0)))))[q]? = H[q]? := fun q hq => by simp [Array.getElem?_setIfInBounds, Ne.symm hq]
  have hcell : (H.setIfInBounds (ad k2) (vp_cell (G.2.1 1) (n1, .inl (va_cpy (stF i0) (M.1 k2) 0 dp.toNatClampNeg (stLen i0)))))[ad k2]? = some (vp_cell (G.2.1 1) (n1, .inl (va_cpy (stF i0) (M.1 k2) 0 dp.toNatClampNeg (stLen i0)))) := by simp [Array.getElem?_setIfInBounds, hl]
  obtain ⟨t, a1, b1⟩ := kk _ _ ⟨fun k hk => by
      by_cases e : k = k2
      · subst e
        rw [cpS_s, hk2]; exact hcell
      · obtain ⟨q1, q2, q3⟩ := cpS_o (M := M) (i := i0) (dp := dp.toNatClampNeg) k e
        rw [q1, q2, q3]
        exact (hI.1 k hk).kept (oq _ (fun q => e (hap _ _ hk (by rw [hk2]; simp) q))),
    by simp; exact hI.2.1, fun q g1 g2 => by
      rw [oq q (fun e => g2 (by rw [e]; exact Or.inl ⟨k2, by rw [hk2]; simp, rfl⟩))]
      exact hI.2.2.1 q g1 g2, fun q hq => by
      rcases List.mem_append.mp hq with h | h
      · exact hI.2.2.2 q h
      · obtain ⟨z, -, hz⟩ := List.mem_map.mp h
        rw [← hz]
        exact Or.inl ⟨k2, by rw [hk2]; simp, rfl⟩⟩ _ hheap X'
  exact ⟨t, step t a1, b1⟩
def Qc (G : GT) (kd : Nat → Nat × Nat) (ad : Nat → Nat) (sz id N : Nat) (M' : Mem) : Array Value → State → Outcome → State → Prop := fun _ st oc t => ∃ ad' : Nat → Nat, oc = .returned (some (.ref (ad' id))) ∧ Ext kd ad (setk kd id (11, N)) ad' sz ∧ Apt (setk kd id (11, N)) ad' ∧ Wd G (setk kd id (11, N)) ad' M' t.heap ∧ va_F (AS kd ad sz) st t
theorem g_bodyC {y : MethodName} {bytes : ByteArray} {maxL mc ms n id N : Nat} {ret : Option FieldType} {own : String} {As : List Value} {M' : Mem} {d : Nat} (hy : plainName y.cls = true) (hyo : y.cls = own)
    (body : ∀ p e s m args below meth c, Cx p s m args meth c bytes maxL ret own G kd ad → s.heap.size = n → At p l e (rmO d mc ms) s m args below meth c 0 0 (MQ below (Qc G kd ad s.heap.size id N M') args s mc ms (AS kd ad s.heap.size)) G kd ad maxL 0 (lv_args 0 As) [] M) (hlen : (lg_sl As).length ≤ maxL) :
    Met l y (Cond.code y bytes maxL ret :: WA) (rmO d mc ms) (Pg G kd ad n As M) (Qc G kd ad n id N M') mc ms (AS kd ad n) := by
  refine Met.ofW (cc := bytes) (maxL := maxL) (ret := ret) hy rfl ?_
  intro p e s m args below meth c s₁ B hml hv
  obtain ⟨rfl, hsz, hw, hap, hK, hsx⟩ := hv
  have hts := atoms_spec (ws := Cond.code y bytes maxL ret :: WA) B.pre
  have hown : s.vm.findClass own = some m.cls := hyo ▸ findClass_of_methodNamed B.named
  subst hsz
  have hl := lv_entry As (n := maxL) hlen
  rw [lg_entry_eq]
  generalize (lg_sl As ++ List.replicate (maxL - (lg_sl As).length) Slot.unset).toArray = ls at hl ⊢
  exact body p e s m _ below meth c ⟨B.exec, B.bytes, hml, B.returns, hown, fun w h => hts w (List.mem_cons_of_mem _ h), B.notSynchronized, hK, hap, hsx⟩ rfl _ _ ls ⟨hw, va_S.rf⟩ hl
theorem g_callC {st0 : List Value} {a : Array Value} {mc ms id N : Nat} {M' : Mem} (hr : va_Run p l e R s m args below meth c H locs cells slots mc ms (F0 m pc ls st0) rest (Qc G kd ad H.size id N M' a) (AS kd ad H.size)) (hI : Inv G kd ad s.heap M H locs)
    (kk : ∀ (ad1 : Nat → Nat) (H1 : Heap) (locs1 : List Loc), Ext kd ad (setk kd id (11, N)) ad1 s.heap.size → Apt (setk kd id (11, N)) ad1 → Inv G (setk kd id (11, N)) ad1 s.heap M' H1 locs1 → W p l e R s m args below meth c H1 locs1 (cells + mc) (slots + ms) Q (F0 m (pc + 3) ls (.ref (ad1 id) :: rest))) : W p l e R s m args below meth c H locs cells slots Q (F0 m pc ls st0) := by
  intro T hT X
  obtain ⟨v', st₀, t, T', L, h0, X', hL, e1, e2, ⟨ad1, hv, hE, hAp, hw, hF⟩, st⟩ := hr T hT X
  cases hv
  obtain ⟨k1, k2, k3⟩ := vx_keep h0 e1 hI.2 (fun q hq h => AS.old hq h) (fun q h => AS.mono hI.2.1 h) hL (by rw [← h0] at hF; rw [h0] at hF; exact hF)
  have hE' := hE.le hI.2.1
  obtain ⟨t2, a1, b1⟩ := kk ad1 T'.heap (locs ++ L) hE' hAp ⟨by rw [e1]; exact hw, by rw [hE'.AS]; exact k3⟩ T' rfl X'
  exact ⟨t2, st t2 a1, b1⟩
theorem g_callSC {y : MethodName} {bytes : ByteArray} {maxL nL mc ms n index id N : Nat} {ret : Option FieldType} {rm : Room} {own : String} {As : List Value} {M' : Mem} (hx : p.tables.exec = Jvm.exec) (hb : c.code = cc) (hml : c.maxLocals = nL) (hown : s.vm.findClass own = some m.cls) (hts : ∀ w ∈ WA, w.before args s = true) (hK : va_K G.1 vwCl (tyL G) s) (hap : Apt kd ad) (hsx : Sx G (AS kd ad s.heap.size) s s.heap) (hI : Inv G kd ad s.heap M H locs)
    (hM : Met l y (Cond.code y bytes maxL ret :: WA) rm (Pg G kd ad H.size As M) (Qc G kd ad H.size id N M') mc ms (AS kd ad H.size)) (hcv : csF y bytes maxL ret n) (hl : Cond.methodLink own index y ∈ WA) (hrc : rm.cells = mc) (hrs : rm.slots = ms) (hR : rm.frames + 1 ≤ R.frames ∧ 8 + (maxL + 11) + rm.locals ≤ R.locals)
    (hn : As.length = n) (hsize : ls.size = nL) {st : List Value} (hst : st = As.reverse ++ rest) (hW : (rest.map fun v => v.category).sum ≤ 8) (hdg : decode cc pc = .ok (.invokestatic index, 3)) (hf : cells + mc ≤ R.cells ∧ slots + ms ≤ R.slots)
    (kk : ∀ (ad1 : Nat → Nat) (H1 : Heap) (locs1 : List Loc), Ext kd ad (setk kd id (11, N)) ad1 s.heap.size → Apt (setk kd id (11, N)) ad1 → Inv G (setk kd id (11, N)) ad1 s.heap M' H1 locs1 → W p l e R s m args below meth c H1 locs1 (cells + mc) (slots + ms) Q (F0 m (pc + 3) ls (.ref (ad1 id) :: rest))) : W p l e R s m args below meth c H locs cells slots Q (F0 m pc ls st) := by
  subst hst
  obtain ⟨c1, c3, c4, c5⟩ := hcv
  have hG : GoodIn WA (va_wsS own index y (Cond.code y bytes maxL ret :: WA)) := fun w h => by
    have : w ∈ WA := by
      rcases List.mem_append.mp h with h | h
      · simp only [List.mem_cons, List.not_mem_nil, or_false] at h
        rcases h with rfl | rfl | rfl
        · exact hl
        · exact c1
        · exact c3
      · exact ws_good c4 w h
    exact ⟨this, wa_good w this⟩
  exact g_callC (va_runS (As := As) (rest := rest) ⟨hx, hb, hml, hown, hts⟩ hM (va_cwS n hts hG rfl hrc hrs c5 hR) ⟨pg_blind, fun U hU hW => pg_of hap hK hsx hI hU hW⟩ rfl hn hsize rfl (lv_room hW) hdg hf) hI kk
theorem g_callTv {b : Nat} {y : MethodName} {bytes : ByteArray} {maxL nL mc ms n index : Nat} {ret : Option FieldType} {rm : Room} {own : String} {As : List Value} {M' : Mem} (hx : p.tables.exec = Jvm.exec) (hb : c.code = cc) (hml : c.maxLocals = nL) (hown : s.vm.findClass own = some m.cls) (hts : ∀ w ∈ WA, w.before args s = true) (hK : va_K G.1 vwCl (tyL G) s) (hap : Apt kd ad) (hsx : Sx G (AS kd ad s.heap.size) s s.heap) (hI : Inv G kd ad s.heap M H locs)
    (hM : Met l y (Cond.code y bytes maxL ret :: WA) rm (Pg G kd ad H.size (.ref (G.2.2 (100 + b)) :: As) M) (Qg G kd ad H.size M' none) mc ms (AS kd ad H.size)) (hcv : cvF "java/lang/String" y bytes maxL ret n) (hl : Cond.methodLink own index y ∈ WA) (hrc : rm.cells = mc) (hrs : rm.slots = ms) (hR : rm.frames + 1 ≤ R.frames ∧ 8 + (maxL + 11) + rm.locals ≤ R.locals)
    (hbw : b < 12) (hn : As.length = n) (hsize : ls.size = nL) {st : List Value} (hst : st = As.reverse ++ .ref (G.2.2 (100 + b)) :: rest) (hW : (rest.map fun v => v.category).sum ≤ 8) (hdg : decode cc pc = .ok (.invokevirtual index, 3)) (hf : cells + mc ≤ R.cells ∧ slots + ms ≤ R.slots)
    (kk : ∀ (H1 : Heap) (locs1 : List Loc), Inv G kd ad s.heap M' H1 locs1 → W p l e R s m args below meth c H1 locs1 (cells + mc) (slots + ms) Q (F0 m (pc + 3) ls rest)) : W p l e R s m args below meth c H locs cells slots Q (F0 m pc ls st) := by
  subst hst
  obtain ⟨c1, c2, c3, c4, c5⟩ := hcv
  have hG : GoodIn WA (wsV own index "java/lang/String" y (Cond.code y bytes maxL ret :: WA)) := fun w h => by
    have : w ∈ WA := by
      rcases List.mem_append.mp h with h | h
      · simp only [List.mem_cons, List.not_mem_nil, or_false] at h
        rcases h with rfl | rfl | rfl | rfl
        · exact hl
        · exact c1
        · exact c2
        · exact c3
      · exact ws_good c4 w h
    exact ⟨this, wa_good w this⟩
  exact g_call (va_runV (C := "java/lang/String") (b := G.2.2 (100 + b)) (As := As) (rest := rest) ⟨hx, hb, hml, hown, hts⟩ hM (cwV n hts hG rfl hrc hrs c5 hR) ⟨pg_blind, st_recv hsx hbw hI, fun U hU hW => pg_of hap hK hsx hI hU hW⟩ rfl hn hsize rfl (lv_room hW) hdg hf) hI kk
end GD
set_option maxHeartbeats 4000000 in
theorem tJ7_copyOf_9075b (l : Launch) {G : GT} {kd : Nat → Nat × Nat} {ad : Nat → Nat} {M : Mem} {k id n0 N : Nat} {v : Int32} (hk : kd k = (11, n0)) (hid : id = 154 ∨ id = 155) (h0 : (kd id).1 = 0) (h9 : kd 133 = (9, 0)) (hL : Low kd) (hsb : sbv 133 (M.1 133 0) ≠ id) (hv : v.toNatClampNeg = N ∧ ¬ v < 0) (hN : n0 < N ∧ N ≤ 70) (hm : imin (Int32.ofNat n0) v = Int32.ofNat n0) (hn0 : (Int32.ofNat n0).toNatClampNeg = n0 ∧ ¬ Int32.ofNat n0 < 0) (hne : v ≠ Int32.ofNat n0) (hfit : ∀ i, i < n0 → fits .byte (.int (M.1 k i)) = true) (n : Nat) :
    Met l yJ7_copyOf_9075b (Cond.code yJ7_copyOf_9075b cJ7_copyOf_9075b 3 (some (.array .byte)) :: WA) (rmO 2 1 N) (Pg G kd ad n [.ref (ad k), .int v] M) (Qc G kd ad n id N (cpy (zr M id) k id 0 0 n0)) 1 N (AS kd ad n) := by
  have hki : k ≠ id := fun e => by rw [e] at hk; rw [hk] at h0; cases h0
  refine g_bodyC (own := RJ7) (by decide) rfl ?_ (Nat.le_of_ble_eq_true rfl)
  intro p e s m args below meth c C _ H locs ls hI hl
  obtain ⟨hx, hb, hml, hr, hown, hts, hlk, hK, hap, hsx⟩ := C
  have hl : lv_has ls 3 [(0, .ref (ad k)), (1, .int v)] := hl
  refine lv_iload_n hx hb (dc tbJ7_copyOf_9075b_k 0 rfl) rfl (lv_at hl 1 rfl) ?_
  refine lv_aload_n hx hb (dc tbJ7_copyOf_9075b_k 1 rfl) rfl (lv_at hl 0 rfl) ?_
  refine g_alenB hx hb hK hI hk (v := Int32.ofNat n0) rfl (dc tbJ7_copyOf_9075b_k 2 rfl) ?_
  refine lv_icmp_ne (tgt := 14) hx hb (dc tbJ7_copyOf_9075b_k 3 rfl) rfl (fun c4 => ?_) (fun c4 => ?_)
  · refine lv_iload_n hx hb (dc tbJ7_copyOf_9075b_k 8 rfl) rfl (lv_at hl 1 rfl) ?_
    refine g_newb hx hb q_t1_73 hts hK hap hL hI hid h0 h9 hsb hv (by omega) ⟨Nat.le_of_ble_eq_true rfl, Nat.le_of_eq (Nat.zero_add N)⟩ dJ7_copyOf_9075b_15 (fun H1 hsz hI hap => ?_)
    have hE : Ext kd ad (setk kd id (11, N)) (adx ad id H.size) s.heap.size := Ext.new h0 hsz
    have ek : adx ad id H.size k = ad k := adx_o hki
    generalize adx ad id H.size = ad' at hI hap hE ek ⊢
    have hk' : setk kd id (11, N) k = (11, n0) := (setk_o hki).trans hk
    refine lv_astore_n (lv' := [(2, .ref (ad' id)), (0, .ref (ad k)), (1, .int v)]) hx hb (dc tbJ7_copyOf_9075b_k 9 rfl) rfl hl (by decide) rfl (fun ls hl => ?_)
    rw [← ek] at hl
    refine lv_aload_n hx hb (dc tbJ7_copyOf_9075b_k 10 rfl) rfl (lv_at hl 1 rfl) ?_
    refine lv_iconst (v := 0) hx hb (dc tbJ7_copyOf_9075b_k 11 rfl) ic_0 ?_
    refine lv_aload_n hx hb (dc tbJ7_copyOf_9075b_k 12 rfl) rfl (lv_at hl 0 rfl) ?_
    refine lv_iconst (v := 0) hx hb (dc tbJ7_copyOf_9075b_k 13 rfl) ic_0 ?_
    refine lv_aload_n hx hb (dc tbJ7_copyOf_9075b_k 14 rfl) rfl (lv_at hl 1 rfl) ?_
    refine g_alenB hx hb hK hI hk' (v := Int32.ofNat n0) rfl (dc tbJ7_copyOf_9075b_k 15 rfl) ?_
    refine lv_iload_n hx hb (dc tbJ7_copyOf_9075b_k 16 rfl) rfl (lv_at hl 2 rfl) ?_
    refine va_mmin hx hb (hml.trans hl.1.symm) hown (hts _ q_t4_22) (hts _ q_t2_200) (hts _ q_t1_22) (hts _ q_t2_201) (Nat.le_of_ble_eq_true rfl) (Nat.le_of_ble_eq_true rfl) (Nat.le_of_ble_eq_true rfl) (Nat.le_of_eq (Nat.zero_add N)) (dc tbJ7_copyOf_9075b_k 17 rfl) ?_
    refine lv_et (show (if _ then _ else _) = Int32.ofNat n0 from hm) ?_
    refine g_copyB hx hb (hml.trans hl.1.symm) hown (hts _ q_t4_23) (hts _ q_t3_89) (hts _ q_t3_88) (hts _ q_t1_20) hK hap hI hk' setk_s rfl rfl hn0 (Nat.le_refl _) (Nat.le_of_lt hN.1) (fun i hi => by rw [(zr_o (M := M) k hki).1]; exact hfit i hi) ⟨Nat.le_of_ble_eq_true rfl, Nat.le_of_ble_eq_true rfl⟩ (dc tbJ7_copyOf_9075b_k 18 rfl) rfl (fun H locs hI => ?_)
    refine lv_aload_n hx hb (dc tbJ7_copyOf_9075b_k 19 rfl) rfl (lv_at hl 0 rfl) ?_
    refine W.widen (k := 1) (n := N) (Nat.le_of_ble_eq_true rfl) (Nat.le_of_eq (Nat.zero_add N)) ?_
    exact W.aret hx hb hr (Or.inr ⟨_, rfl⟩) (Or.inr ⟨_, rfl⟩) (fun t ht _ => ⟨ad', rfl, hE, hap, by rw [ht]; exact hI.1, by rw [← hE.AS]; exact hI.2.F ht⟩) (fun q hq => by rw [← hE.AS]; exact hI.2.2.2 q hq) (dc tbJ7_copyOf_9075b_k 20 rfl) hlk
  · exact absurd c4 hne
theorem sb_up {g : Int32} (h : g = 0 ∨ g = 1) : (sbv 133 (g + 1) = 154 ∨ sbv 133 (g + 1) = 155) ∧ sbv 133 g ≠ sbv 133 (g + 1) ∧ (Int32.ofNat (sbn (g + 1))).toNatClampNeg = sbn (g + 1) ∧ ¬ Int32.ofNat (sbn (g + 1)) < 0 ∧ sbn g < sbn (g + 1) ∧ sbn (g + 1) ≤ 70 ∧ imin (Int32.ofNat (sbn g)) (Int32.ofNat (sbn (g + 1))) = Int32.ofNat (sbn g) ∧ (Int32.ofNat (sbn g)).toNatClampNeg = sbn g ∧ ¬ Int32.ofNat (sbn g) < 0 ∧ Int32.ofNat (sbn (g + 1)) ≠ Int32.ofNat (sbn g) ∧ sbv 133 (g + 1) ≠ 133 := by
  rcases h with rfl | rfl <;> decide
theorem Sb.up {kd : Nat → Nat × Nat} {g : Int32} (hS : Sb kd g) (h : g = 0 ∨ g = 1) : (kd (sbv 133 (g + 1))).1 = 0 ∧ Sb (setk kd (sbv 133 (g + 1)) (11, sbn (g + 1))) (g + 1) := by
  rcases h with rfl | rfl
  · have e : sbv 133 ((0 : Int32) + 1) = 154 := by decide
    have e2 : sbn ((0 : Int32) + 1) = 34 := by decide
    refine ⟨by rw [e]; exact (hS.2.2.1 rfl).1, ?_⟩
    unfold Sb
    rw [e, e2]
    exact ⟨(setk_o (by decide)).trans hS.1, setk_s, fun h => absurd h (by decide), fun _ => by rw [setk_o (by decide)]; exact (hS.2.2.1 rfl).2, by decide⟩
  · have e : sbv 133 ((1 : Int32) + 1) = 155 := by decide
    have e2 : sbn ((1 : Int32) + 1) = 70 := by decide
    refine ⟨by rw [e]; exact hS.2.2.2.1 rfl, ?_⟩
    unfold Sb
    rw [e, e2]
    exact ⟨(setk_o (by decide)).trans hS.1, setk_s, fun h => absurd h (by decide), fun h => absurd h (by decide), by decide⟩
def mJ5_ensureCapacityInternal_d00df (x1 : Int32) (M : Mem) : Option (Mem × Unit) := bnd (((Int32.ofNat (sbn (rd M 133 0))) >>> ((rd M 133 1) &&& 31))) (fun x2_10 => ite2 ((x1 - x2_10) ≤ 0) (some (M, ())) (cap (mJ5_newCapacity_0f7a4 x1 M) (fun r6 => chk (decide (rd M 133 0 = 0 ∨ rd M 133 0 = 1) && (decide (r6 <<< ((rd M 133 1) &&& 31) = Int32.ofNat (sbn (rd M 133 0 + 1))) && fitB (M.1 (sbv 133 (rd M 133 0))) (sbn (rd M 133 0)))) (bnd (wr (cpy (zr M (sbv 133 (rd M 133 0 + 1))) (sbv 133 (rd M 133 0)) (sbv 133 (rd M 133 0 + 1)) 0 0 (sbn (rd M 133 0))) 133 0 (rd M 133 0 + 1)) (fun M9 => some (M9, ()))))))
set_option maxHeartbeats 4000000 in
set_option maxRecDepth 100000 in
theorem tJ5_ensureCapacityInternal_d00df (l : Launch) {G : GT} {kd : Nat → Nat × Nat} {ad : Nat → Nat} {M : Mem} (hS : Sb kd (rd M 133 0)) (hLo : Low kd) {x1 : Int32} {MO : Mem} {vo : Unit} (hf : mJ5_ensureCapacityInternal_d00df x1 M = some (MO, vo)) (n : Nat) : Met l yJ5_ensureCapacityInternal_d00df (Cond.code yJ5_ensureCapacityInternal_d00df cJ5_ensureCapacityInternal_d00df 3 none :: WA) (rmO 3 1 70) (Pg G kd ad n [.ref (ad 133), .int x1] M) (Qr G kd ad n MO none) 1 70 (AS kd ad n) := by
  refine g_bodyR (own := RJ5) (by decide) rfl ?_ (Nat.le_of_ble_eq_true rfl)
  intro p e s m args below meth c C _ H locs ls hI hl
  obtain ⟨hx, hb, hml, hr, hown, hts, hlk, hK, hap, hsx⟩ := id C
  have hl : lv_has ls 3 [(0, .ref (ad 133)), (1, .int x1)] := hl
  unfold mJ5_ensureCapacityInternal_d00df at hf
  refine lv_aload_n hx hb (dc tbJ5_ensureCapacityInternal_d00df_k 0 rfl) rfl (lv_at hl 0 rfl) ?_
  refine ggSB_0 hx hb hts hown hK hI hS.1 q_t2_68 (dc tbJ5_ensureCapacityInternal_d00df_k 1 rfl) ?_
  refine g_alenB hx hb hK hI hS.2.1 (v := Int32.ofNat (sbn (rd M 133 0))) rfl (dc tbJ5_ensureCapacityInternal_d00df_k 2 rfl) ?_
  refine lv_aload_n hx hb (dc tbJ5_ensureCapacityInternal_d00df_k 3 rfl) rfl (lv_at hl 0 rfl) ?_
  refine ggSB_1 hx hb hts hown hK hI hS.1 q_t2_69 (dc tbJ5_ensureCapacityInternal_d00df_k 4 rfl) ?_
  refine lv_ishr hx hb (dc tbJ5_ensureCapacityInternal_d00df_k 5 rfl) ?_
  obtain ⟨x2_10, e2, hf⟩ := bnd_s hf
  refine lv_ei e2 ?_
  refine lv_istore_n (lv' := [(2, .int x2_10), (0, .ref (ad 133)), (1, .int x1)]) hx hb (dc tbJ5_ensureCapacityInternal_d00df_k 6 rfl) rfl hl (by decide) rfl (fun ls hl => ?_)
  refine lv_iload_n hx hb (dc tbJ5_ensureCapacityInternal_d00df_k 7 rfl) rfl (lv_at hl 2 rfl) ?_
  refine lv_iload_n hx hb (dc tbJ5_ensureCapacityInternal_d00df_k 8 rfl) rfl (lv_at hl 0 rfl) ?_
  refine lv_isub hx hb (dc tbJ5_ensureCapacityInternal_d00df_k 9 rfl) ?_
  refine lv_if_le (tgt := 38) hx hb (dc tbJ5_ensureCapacityInternal_d00df_k 10 rfl) rfl (fun c3 => ?_) (fun c3 => ?_)
  · have hf := ite_t c3 hf
    cases hf
    refine W.widen (k := 1) (n := 70) (Nat.zero_le _) (Nat.zero_le _) ?_
    exact g_vretR hx hb hr hlk Ext.refl hLo hS hap hI (dc tbJ5_ensureCapacityInternal_d00df_k 22 rfl)
  · have hf := ite_f c3 hf
    refine lv_aload_n hx hb (dc tbJ5_ensureCapacityInternal_d00df_k 11 rfl) rfl (lv_at hl 1 rfl) ?_
    refine lv_aload_n hx hb (dc tbJ5_ensureCapacityInternal_d00df_k 12 rfl) rfl (lv_at hl 1 rfl) ?_
    refine ggSB_0 hx hb hts hown hK hI hS.1 q_t2_68 (dc tbJ5_ensureCapacityInternal_d00df_k 13 rfl) ?_
    refine lv_aload_n hx hb (dc tbJ5_ensureCapacityInternal_d00df_k 14 rfl) rfl (lv_at hl 1 rfl) ?_
    refine lv_iload_n hx hb (dc tbJ5_ensureCapacityInternal_d00df_k 15 rfl) rfl (lv_at hl 2 rfl) ?_
    obtain ⟨r6, q5, hf⟩ := cap_s hf
    refine g_callUi (n := 1) hx hb hml hown hts hK hap hsx hI (tJ5_newCapacity_0f7a4 l  hS q5 H.size) q_t3_239 q_t10_26 q_t4_1 q_t1_7 q_t4_2 q_wk_1 (by decide +kernel) rfl rfl ⟨Nat.le_of_ble_eq_true rfl, Nat.le_of_ble_eq_true rfl⟩ hS.1 (by simp) rfl rfl rfl hl.1 rfl (Nat.le_of_ble_eq_true rfl) (dc tbJ5_ensureCapacityInternal_d00df_k 16 rfl) ⟨Nat.le_of_ble_eq_true rfl, Nat.le_of_ble_eq_true rfl⟩ (fun H locs hI => ?_)
    refine lv_aload_n hx hb (dc tbJ5_ensureCapacityInternal_d00df_k 17 rfl) rfl (lv_at hl 1 rfl) ?_
    refine ggSB_1 hx hb hts hown hK hI hS.1 q_t2_69 (dc tbJ5_ensureCapacityInternal_d00df_k 18 rfl) ?_
    refine lv_ishl hx hb (dc tbJ5_ensureCapacityInternal_d00df_k 19 rfl) ?_
    obtain ⟨h7, hf⟩ := chk_s hf
    rw [Bool.and_eq_true, Bool.and_eq_true] at h7
    obtain ⟨hg, hq, hft⟩ := h7
    have hg := of_decide_eq_true hg
    have hq := of_decide_eq_true hq
    obtain ⟨u1, u2, u3, u4, u5, u6, u7, u8, u9, u10, u11⟩ := sb_up hg
    obtain ⟨w1, w2⟩ := hS.up hg
    obtain ⟨M9, e9, hf⟩ := bnd_s hf
    refine lv_et hq ?_
    refine g_callSC (n := 2) hx hb hml hown hts hK hap hsx hI (tJ7_copyOf_9075b l hS.2.1 u1 w1 hS.1 hLo u2 ⟨u3, u4⟩ ⟨u5, u6⟩ u7 ⟨u8, u9⟩ u10 (fitB_s hft) H.size) ⟨q_t4_13, q_t1_27, q_t4_14, (by decide +kernel)⟩ q_t4_12 rfl rfl ⟨Nat.le_of_ble_eq_true rfl, Nat.le_of_ble_eq_true rfl⟩ rfl hl.1 rfl (Nat.le_of_ble_eq_true rfl) (dc tbJ5_ensureCapacityInternal_d00df_k 20 rfl) ⟨Nat.le_of_ble_eq_true rfl, by show 0 + 0 + sbn (rd M 133 0 + 1) ≤ 70; omega⟩ (fun ad1 H locs hE hap hI => ?_)
    have e133 : ad1 133 = ad 133 := (hE.1 133 (by rw [hS.1]; simp)).2
    rw [← e133]
    refine g_put hx hb hts inWJ4 tyJ4 tyJ4_ok nmJ4 hown hK hap hI w2.1 (by simp) rfl rfl 0 (by decide) ⟨rfl, rfl, rfl⟩ q_t2_68 rfl (ty := .array .byte) (by decide +kernel) rfl rfl (Nat.le_of_ble_eq_true rfl) (M' := M9) (by rw [e9, wr_s]; rfl) (by rw [e9]; exact wr_o) (dc tbJ5_ensureCapacityInternal_d00df_k 21 rfl) (fun H locs hI => ?_)
    have e0 : rd M9 133 0 = rd M 133 0 + 1 := by rw [e9]; unfold rd; rw [wr_s]; exact if_pos rfl
    cases hf
    refine W.widen (k := 1) (n := 70) (Nat.le_of_ble_eq_true rfl) (by show 0 + 0 + sbn (rd M 133 0 + 1) ≤ 70; omega) ?_
    exact g_vretR hx hb hr hlk hE (hLo.set) (by rw [e0]; exact w2) hap hI (dc tbJ5_ensureCapacityInternal_d00df_k 22 rfl)
end
/-! part 33e.sb2 -/
section
def mJ0_getBytes_840e7 (k0 : Nat) (k1 : Nat) (n1 : Nat) (x2 : Int32) (x3 : Int32) (M : Mem) : Option (Mem × Unit) := cap (mJ0_coder_7d493 k0 M) (fun r2 => ite2 (r2 = x3) (chk (!(decide ((x2 <<< (x3 &&& 31)) < 0)) && decide (((x2 <<< (x3 &&& 31))).toNatClampNeg + stLen k0 ≤ n1)) (bnd (cpS M k0 k1 ((x2 <<< (x3 &&& 31))).toNatClampNeg) (fun M5 => some (M5, ())))) (none))
set_option maxHeartbeats 4000000 in
set_option maxRecDepth 100000 in
theorem tJ0_getBytes_840e7 (l : Launch) {G : GT} {kd : Nat → Nat × Nat} {ad : Nat → Nat} {k0 : Nat} {k1 : Nat} {n1 : Nat} (hk0 : k0 < 12) (hk1 : kd k1 = (11, n1)) {x2 : Int32} {x3 : Int32} {M : Mem} {MO : Mem} {vo : Unit} (hf : mJ0_getBytes_840e7 k0 k1 n1 x2 x3 M = some (MO, vo)) (n : Nat) : Met l yJ0_getBytes_840e7 (Cond.code yJ0_getBytes_840e7 cJ0_getBytes_840e7 4 none :: WA) (rmO 1 0 0) (Pg G kd ad n [.ref (G.2.2 (100 + k0)), .ref (ad k1), .int x2, .int x3] M) (Qg G kd ad n MO none) 0 0 (AS kd ad n) := by
  refine g_body (own := RJ0) (by decide) rfl ?_ (Nat.le_of_ble_eq_true rfl)
  intro p e s m args below meth c C _ H locs ls hI hl
  obtain ⟨hx, hb, hml, hr, hown, hts, hlk, hK, hap, hsx⟩ := id C
  have hl : lv_has ls 4 [(0, .ref (G.2.2 (100 + k0))), (1, .ref (ad k1)), (2, .int x2), (3, .int x3)] := hl
  unfold mJ0_getBytes_840e7 at hf
  refine lv_aload_n hx hb (dc tbJ0_getBytes_840e7_k 0 rfl) rfl (lv_at hl 0 rfl) ?_
  obtain ⟨r2, q1, hf⟩ := cap_s hf
  refine g_callTi hx hb hml hown hts hK hap hsx hI (tJ0_coder_7d493 l hk0 q1 H.size) cv_J0_coder_7d493 q_t4_59 rfl rfl ⟨Nat.le_of_ble_eq_true rfl, Nat.le_of_ble_eq_true rfl⟩ hk0 rfl hl.1 rfl (Nat.le_of_ble_eq_true rfl) (dc tbJ0_getBytes_840e7_k 1 rfl) ⟨Nat.le_of_ble_eq_true rfl, Nat.le_of_ble_eq_true rfl⟩ (fun H locs hI => ?_)
  refine lv_iload_n hx hb (dc tbJ0_getBytes_840e7_k 2 rfl) rfl (lv_at hl 3 rfl) ?_
  refine lv_icmp_ne (tgt := 28) hx hb (dc tbJ0_getBytes_840e7_k 3 rfl) rfl (fun c4 => ?_) (fun c4 => ?_)
  · have hf := ite_f c4 hf
    refine lv_aload_n hx hb (dc tbJ0_getBytes_840e7_k 16 rfl) rfl (lv_at hl 0 rfl) ?_
    refine g_sval hx hb hown hts hsx hI hk0 q_t5_6 (dc tbJ0_getBytes_840e7_k 17 rfl) ?_
    refine lv_iconst (v := 0) hx hb (dc tbJ0_getBytes_840e7_k 18 rfl) ic_0 ?_
    refine lv_aload_n hx hb (dc tbJ0_getBytes_840e7_k 19 rfl) rfl (lv_at hl 1 rfl) ?_
    refine lv_iload_n hx hb (dc tbJ0_getBytes_840e7_k 20 rfl) rfl (lv_at hl 2 rfl) ?_
    refine lv_aload_n hx hb (dc tbJ0_getBytes_840e7_k 21 rfl) rfl (lv_at hl 0 rfl) ?_
    refine g_sval hx hb hown hts hsx hI hk0 q_t5_6 (dc tbJ0_getBytes_840e7_k 22 rfl) ?_
    refine g_svlen hx hb hsx hI hk0 (dc tbJ0_getBytes_840e7_k 23 rfl) ?_
    cases hf
  · have hf := ite_t c4 hf
    refine lv_aload_n hx hb (dc tbJ0_getBytes_840e7_k 4 rfl) rfl (lv_at hl 0 rfl) ?_
    refine g_sval hx hb hown hts hsx hI hk0 q_t5_6 (dc tbJ0_getBytes_840e7_k 5 rfl) ?_
    refine lv_iconst (v := 0) hx hb (dc tbJ0_getBytes_840e7_k 6 rfl) ic_0 ?_
    refine lv_aload_n hx hb (dc tbJ0_getBytes_840e7_k 7 rfl) rfl (lv_at hl 1 rfl) ?_
    refine lv_iload_n hx hb (dc tbJ0_getBytes_840e7_k 8 rfl) rfl (lv_at hl 2 rfl) ?_
    refine lv_iload_n hx hb (dc tbJ0_getBytes_840e7_k 9 rfl) rfl (lv_at hl 3 rfl) ?_
    refine lv_ishl hx hb (dc tbJ0_getBytes_840e7_k 10 rfl) ?_
    refine lv_aload_n hx hb (dc tbJ0_getBytes_840e7_k 11 rfl) rfl (lv_at hl 0 rfl) ?_
    refine g_sval hx hb hown hts hsx hI hk0 q_t5_6 (dc tbJ0_getBytes_840e7_k 12 rfl) ?_
    refine g_svlen hx hb hsx hI hk0 (dc tbJ0_getBytes_840e7_k 13 rfl) ?_
    obtain ⟨h7, hf⟩ := chk_s hf
    obtain ⟨M5, e6, hf⟩ := bnd_s hf
    refine g_copyS hx hb (hml.trans hl.1.symm) hown (hts _ q_t4_96) (hts _ q_t3_89) (hts _ q_t3_88) (hts _ q_t1_20) hK hap hsx hI hk0 hk1 h7 ⟨Nat.le_of_ble_eq_true rfl, Nat.le_of_ble_eq_true rfl⟩ (dc tbJ0_getBytes_840e7_k 14 rfl) e6 (fun H locs hI => ?_)
    refine lv_goto (tgt := 43) hx hb (dc tbJ0_getBytes_840e7_k 15 rfl) rfl ?_
    cases hf
    exact g_vret hx hb hr hlk hI (dc tbJ0_getBytes_840e7_k 25 rfl)
theorem cv_J0_getBytes_840e7 : cvF RJ0 yJ0_getBytes_840e7 cJ0_getBytes_840e7 4 none 3 := ⟨q_t4_93, q_t4_94, q_t1_9, q_t4_95, by decide +kernel⟩
def mJ5_inflateIfNeededFor_a7421 (k0 : Nat) (M : Mem) : Option Unit := ite2 ((1 : Int32) = 0) (some ()) (cap (mJ0_coder_7d493 k0 M) (fun r3 => ite2 ((rd M 133 1) = r3) (some ()) (none)))
set_option maxHeartbeats 4000000 in
set_option maxRecDepth 100000 in
theorem tJ5_inflateIfNeededFor_a7421 (l : Launch) {G : GT} {kd : Nat → Nat × Nat} {ad : Nat → Nat} {M : Mem} {k0 : Nat} (hk0 : k0 < 12) (hS : Sb kd (rd M 133 0)) {vo : Unit} (hf : mJ5_inflateIfNeededFor_a7421 k0 M = some vo) (n : Nat) : Met l yJ5_inflateIfNeededFor_a7421 (Cond.code yJ5_inflateIfNeededFor_a7421 cJ5_inflateIfNeededFor_a7421 2 none :: WA) (rmO 1 0 0) (Pg G kd ad n [.ref (ad 133), .ref (G.2.2 (100 + k0))] M) (Qg G kd ad n M none) 0 0 (AS kd ad n) := by
  refine g_body (own := RJ5) (by decide) rfl ?_ (Nat.le_of_ble_eq_true rfl)
  intro p e s m args below meth c C _ H locs ls hI hl
  obtain ⟨hx, hb, hml, hr, hown, hts, hlk, hK, hap, hsx⟩ := id C
  have hl : lv_has ls 2 [(0, .ref (ad 133)), (1, .ref (G.2.2 (100 + k0)))] := hl
  unfold mJ5_inflateIfNeededFor_a7421 at hf
  refine g_gscs hx hb hown hts hsx hI q_t2_59 (dc tbJ5_inflateIfNeededFor_a7421_k 0 rfl) ?_
  refine lv_if_eq (tgt := 21) hx hb (dc tbJ5_inflateIfNeededFor_a7421_k 1 rfl) rfl (fun c1 => ?_) (fun c1 => ?_)
  · have hf := ite_t c1 hf
    cases hf
    exact g_vret hx hb hr hlk hI (dc tbJ5_inflateIfNeededFor_a7421_k 9 rfl)
  · have hf := ite_f c1 hf
    refine lv_aload_n hx hb (dc tbJ5_inflateIfNeededFor_a7421_k 2 rfl) rfl (lv_at hl 0 rfl) ?_
    refine ggSB_1 hx hb hts hown hK hI hS.1 q_t2_69 (dc tbJ5_inflateIfNeededFor_a7421_k 3 rfl) ?_
    refine lv_aload_n hx hb (dc tbJ5_inflateIfNeededFor_a7421_k 4 rfl) rfl (lv_at hl 1 rfl) ?_
    obtain ⟨r3, q2, hf⟩ := cap_s hf
    refine g_callTi hx hb hml hown hts hK hap hsx hI (tJ0_coder_7d493 l hk0 q2 H.size) cv_J0_coder_7d493 q_t4_72 rfl rfl ⟨Nat.le_of_ble_eq_true rfl, Nat.le_of_ble_eq_true rfl⟩ hk0 rfl hl.1 rfl (Nat.le_of_ble_eq_true rfl) (dc tbJ5_inflateIfNeededFor_a7421_k 5 rfl) ⟨Nat.le_of_ble_eq_true rfl, Nat.le_of_ble_eq_true rfl⟩ (fun H locs hI => ?_)
    refine lv_icmp_eq (tgt := 21) hx hb (dc tbJ5_inflateIfNeededFor_a7421_k 6 rfl) rfl (fun c5 => ?_) (fun c5 => ?_)
    · have hf := ite_t c5 hf
      cases hf
      exact g_vret hx hb hr hlk hI (dc tbJ5_inflateIfNeededFor_a7421_k 9 rfl)
    · have hf := ite_f c5 hf
      refine lv_aload_n hx hb (dc tbJ5_inflateIfNeededFor_a7421_k 7 rfl) rfl (lv_at hl 0 rfl) ?_
      cases hf
def mJ5_putStringAt_47b60 (k0 : Nat) (x1 : Int32) (M : Mem) : Option (Mem × Unit) := cap (mJ5_inflateIfNeededFor_a7421 k0 M) (fun r2 => cal (mJ0_getBytes_840e7 k0 (sbv 133 (rd M 133 0)) (sbn (rd M 133 0)) x1 (rd M 133 1) M) (fun M7 _ => some (M7, ())))
set_option maxHeartbeats 4000000 in
set_option maxRecDepth 100000 in
theorem tJ5_putStringAt_47b60 (l : Launch) {G : GT} {kd : Nat → Nat × Nat} {ad : Nat → Nat} {M : Mem} {k0 : Nat} (hk0 : k0 < 12) (hS : Sb kd (rd M 133 0)) {x1 : Int32} {MO : Mem} {vo : Unit} (hf : mJ5_putStringAt_47b60 k0 x1 M = some (MO, vo)) (n : Nat) : Met l yJ5_putStringAt_47b60 (Cond.code yJ5_putStringAt_47b60 cJ5_putStringAt_47b60 3 none :: WA) (rmO 2 0 0) (Pg G kd ad n [.ref (ad 133), .int x1, .ref (G.2.2 (100 + k0))] M) (Qg G kd ad n MO none) 0 0 (AS kd ad n) := by
  refine g_body (own := RJ5) (by decide) rfl ?_ (Nat.le_of_ble_eq_true rfl)
  intro p e s m args below meth c C _ H locs ls hI hl
  obtain ⟨hx, hb, hml, hr, hown, hts, hlk, hK, hap, hsx⟩ := id C
  have hl : lv_has ls 3 [(0, .ref (ad 133)), (1, .int x1), (2, .ref (G.2.2 (100 + k0)))] := hl
  unfold mJ5_putStringAt_47b60 at hf
  refine lv_aload_n hx hb (dc tbJ5_putStringAt_47b60_k 0 rfl) rfl (lv_at hl 0 rfl) ?_
  refine lv_aload_n hx hb (dc tbJ5_putStringAt_47b60_k 1 rfl) rfl (lv_at hl 2 rfl) ?_
  obtain ⟨r2, q1, hf⟩ := cap_s hf
  refine g_callUv (n := 1) hx hb hml hown hts hK hap hsx hI (tJ5_inflateIfNeededFor_a7421 l hk0 hS q1 H.size) q_t4_68 q_t10_28 q_t4_70 q_t1_7 q_t4_71 q_wk_5 (by decide +kernel) rfl rfl ⟨Nat.le_of_ble_eq_true rfl, Nat.le_of_ble_eq_true rfl⟩ hS.1 (by simp) rfl rfl rfl hl.1 rfl (Nat.le_of_ble_eq_true rfl) (dc tbJ5_putStringAt_47b60_k 2 rfl) ⟨Nat.le_of_ble_eq_true rfl, Nat.le_of_ble_eq_true rfl⟩ (fun H locs hI => ?_)
  refine lv_aload_n hx hb (dc tbJ5_putStringAt_47b60_k 3 rfl) rfl (lv_at hl 2 rfl) ?_
  refine lv_aload_n hx hb (dc tbJ5_putStringAt_47b60_k 4 rfl) rfl (lv_at hl 0 rfl) ?_
  refine ggSB_0 hx hb hts hown hK hI hS.1 q_t2_68 (dc tbJ5_putStringAt_47b60_k 5 rfl) ?_
  refine lv_iload_n hx hb (dc tbJ5_putStringAt_47b60_k 6 rfl) rfl (lv_at hl 1 rfl) ?_
  refine lv_aload_n hx hb (dc tbJ5_putStringAt_47b60_k 7 rfl) rfl (lv_at hl 0 rfl) ?_
  refine ggSB_1 hx hb hts hown hK hI hS.1 q_t2_69 (dc tbJ5_putStringAt_47b60_k 8 rfl) ?_
  obtain ⟨M7, r6, q5, hf⟩ := cal_s hf
  refine g_callTv hx hb hml hown hts hK hap hsx hI (tJ0_getBytes_840e7 l hk0 hS.2.1 q5 H.size) cv_J0_getBytes_840e7 q_t4_92 rfl rfl ⟨Nat.le_of_ble_eq_true rfl, Nat.le_of_ble_eq_true rfl⟩ hk0 rfl hl.1 rfl (Nat.le_of_ble_eq_true rfl) (dc tbJ5_putStringAt_47b60_k 9 rfl) ⟨Nat.le_of_ble_eq_true rfl, Nat.le_of_ble_eq_true rfl⟩ (fun H locs hI => ?_)
  cases hf
  exact g_vret hx hb hr hlk hI (dc tbJ5_putStringAt_47b60_k 10 rfl)
def mJ5_append_3fe6f_b45 (g : Int32) (x1 : Int32) (M : Mem) : Option (Mem × Unit) := chk (decide (rd M 133 0 = g)) (cap (mJ5_isLatin1_aae02 M) (fun r10 => ite2 (r10 = 0) (chk (decide (rd M 133 0 = g)) (bnd (wr M 133 3 ((rd M 133 3) + (1 : Int32))) (fun M14 => none))) (none)))
set_option maxHeartbeats 4000000 in
set_option maxRecDepth 100000 in
theorem tJ5_append_3fe6f_b45 {p : Program} {l : Launch} {e : Env} {s : State} {m : MethodId} {args : Array Value} {below : List Frame} {meth : Method} {c : Code} {G : GT} {kd : Nat → Nat × Nat} {ad : Nat → Nat} (C : Cx p s m args meth c cJ5_append_3fe6f 2 (some (.object "java/lang/AbstractStringBuilder")) RJ5 G kd ad) {g : Int32} {kd0 : Nat → Nat × Nat} {ad0 : Nat → Nat} (hS : Sb kd g) (hL : Low kd) (hE : Ext kd0 ad0 kd ad s.heap.size) {MO : Mem} {vo : Unit}   : ∀ (x1 : Int32) (M : Mem), mJ5_append_3fe6f_b45  g x1 M = some (MO, vo) → At p l e (rmO 4 1 70) s m args below meth c 1 70 (MQ below (Qr G kd0 ad0 s.heap.size MO (some (.ref (ad 133)))) args s 1 70 (AS kd0 ad0 s.heap.size)) G kd ad 2 45 [(0, .ref (ad 133)), (1, .int x1)] [] M := by
  intro x1 M hf H locs ls hI hl
  obtain ⟨hx, hb, hml, hr, hown, hts, hlk, hK, hap, hsx⟩ := id C
  unfold mJ5_append_3fe6f_b45 at hf
  refine lv_aload_n hx hb (dc tbJ5_append_3fe6f_0_k 25 rfl) rfl (lv_at hl 0 rfl) ?_
  obtain ⟨h8, hf⟩ := chk_s hf
  obtain ⟨r10, q9, hf⟩ := cap_s hf
  refine g_callUi (n := 0) hx hb hml hown hts hK hap hsx hI (tJ5_isLatin1_aae02 l  (by rw [of_decide_eq_true h8]; exact hS) q9 H.size) q_t4_24 q_t4_26 q_t4_25 q_t1_7 q_t4_28 q_t4_27 (by decide +kernel) rfl rfl ⟨Nat.le_of_ble_eq_true rfl, Nat.le_of_ble_eq_true rfl⟩ hS.1 (by simp) rfl rfl rfl hl.1 rfl (Nat.le_of_ble_eq_true rfl) (dc tbJ5_append_3fe6f_0_k 26 rfl) ⟨Nat.le_of_ble_eq_true rfl, Nat.le_of_ble_eq_true rfl⟩ (fun H locs hI => ?_)
  refine lv_if_eq (tgt := 56) hx hb (dc tbJ5_append_3fe6f_0_k 27 rfl) rfl (fun c12 => ?_) (fun c12 => ?_)
  · have hf := ite_t c12 hf
    refine lv_aload_n hx hb (dc tbJ5_append_3fe6f_0_k 30 rfl) rfl (lv_at hl 0 rfl) ?_
    obtain ⟨h13, hf⟩ := chk_s hf
    refine ggSB_0 hx hb hts hown hK hI hS.1 q_t2_68 (dc tbJ5_append_3fe6f_0_k 31 rfl) ?_
    rw [of_decide_eq_true h13]
    refine lv_aload_n hx hb (dc tbJ5_append_3fe6f_0_k 32 rfl) rfl (lv_at hl 0 rfl) ?_
    refine lv_dup hx hb (dc tbJ5_append_3fe6f_0_k 33 rfl) rfl ?_
    refine ggSB_3 hx hb hts hown hK hI hS.1 q_t2_72 (dc tbJ5_append_3fe6f_0_k 34 rfl) ?_
    refine lv_dup_x1 hx hb (dc tbJ5_append_3fe6f_0_k 35 rfl) rfl rfl ?_
    refine lv_iconst (v := 1) hx hb (dc tbJ5_append_3fe6f_0_k 36 rfl) ic_1 ?_
    refine lv_iadd hx hb (dc tbJ5_append_3fe6f_0_k 37 rfl) ?_
    obtain ⟨M14, e15, hf⟩ := bnd_s hf
    refine gpSB_3 hx hb hts hown hK hap hI hS.1 q_t2_72 (dc tbJ5_append_3fe6f_0_k 38 rfl) e15 (fun H locs hI => ?_)
    refine lv_iload_n hx hb (dc tbJ5_append_3fe6f_0_k 39 rfl) rfl (lv_at hl 1 rfl) ?_
    cases hf
  · have hf := ite_f c12 hf
    refine lv_aload_n hx hb (dc tbJ5_append_3fe6f_0_k 28 rfl) rfl (lv_at hl 0 rfl) ?_
    cases hf
def mJ5_append_3fe6f (x1 : Int32) (M : Mem) : Option (Mem × Unit) := cal (mJ5_ensureCapacityInternal_d00df ((rd M 133 3) + (1 : Int32)) M) (fun M3 _ => cap (mJ5_isLatin1_aae02 M3) (fun r5 => ite2 (r5 = 0) (mJ5_append_3fe6f_b45  (rd M3 133 0) x1 M3) (cap (mJ1_canEncode_fc78d x1 M3) (fun r17 => ite2 (r17 = 0) (mJ5_append_3fe6f_b45  (rd M3 133 0) x1 M3) (bnd (wr M3 133 3 ((rd M3 133 3) + (1 : Int32))) (fun M21 => chk (okb (rd M3 133 3) (sbn (rd M3 133 0))) (bnd (wr M21 (sbv 133 (rd M3 133 0)) ((rd M3 133 3)).toNatClampNeg (vp_nar .byte (x1).toInt8.toInt32)) (fun M25 => chk (decide (rd M25 133 0 = rd M3 133 0)) (some (M25, ()))))))))))
set_option maxHeartbeats 4000000 in
set_option maxRecDepth 100000 in
theorem tJ5_append_3fe6f (l : Launch) {G : GT} {kd : Nat → Nat × Nat} {ad : Nat → Nat} {M : Mem} (hS : Sb kd (rd M 133 0)) (hL : Low kd) {x1 : Int32} {MO : Mem} {vo : Unit} (hf : mJ5_append_3fe6f  x1 M = some (MO, vo)) (n : Nat) : Met l yJ5_append_3fe6f (Cond.code yJ5_append_3fe6f cJ5_append_3fe6f 2 (some (.object "java/lang/AbstractStringBuilder")) :: WA) (rmO 4 1 70) (Pg G kd ad n [.ref (ad 133), .int x1] M) (Qr G kd ad n MO (some (.ref (ad 133)))) 1 70 (AS kd ad n) := by
  refine g_bodyR (own := RJ5) (by decide) rfl ?_ (Nat.le_of_ble_eq_true rfl)
  intro p e s m args below meth c C _ H locs ls hI hl
  obtain ⟨hx, hb, hml, hr, hown, hts, hlk, hK, hap, hsx⟩ := id C
  have hl : lv_has ls 2 [(0, .ref (ad 133)), (1, .int x1)] := hl
  have hE : Ext kd ad kd ad s.heap.size := Ext.refl
  unfold mJ5_append_3fe6f at hf
  refine lv_aload_n hx hb (dc tbJ5_append_3fe6f_0_k 0 rfl) rfl (lv_at hl 0 rfl) ?_
  refine lv_aload_n hx hb (dc tbJ5_append_3fe6f_0_k 1 rfl) rfl (lv_at hl 0 rfl) ?_
  refine ggSB_3 hx hb hts hown hK hI hS.1 q_t2_72 (dc tbJ5_append_3fe6f_0_k 2 rfl) ?_
  refine lv_iconst (v := 1) hx hb (dc tbJ5_append_3fe6f_0_k 3 rfl) ic_1 ?_
  refine lv_iadd hx hb (dc tbJ5_append_3fe6f_0_k 4 rfl) ?_
  obtain ⟨M3, r2, q1, hf⟩ := cal_s hf
  refine g_callURv (n := 1) hx hb hml hown hts hK hap hsx hI (tJ5_ensureCapacityInternal_d00df l  hS hL q1 H.size) q_t3_235 q_t10_25 q_t3_237 q_t1_7 q_t3_238 q_wk_0 (by decide +kernel) rfl rfl ⟨Nat.le_of_ble_eq_true rfl, Nat.le_of_ble_eq_true rfl⟩ hS.1 (by simp) rfl rfl rfl hl.1 rfl (Nat.le_of_ble_eq_true rfl) (dc tbJ5_append_3fe6f_0_k 5 rfl) ⟨Nat.le_of_ble_eq_true rfl, Nat.le_of_ble_eq_true rfl⟩ (fun kd1 ad1 H locs hE1 hL1 hS1 hap1 hI => ?_)
  have e0_ : ad1 133 = ad 133 := (hE1.1 133 (by rw [hS.1]; simp)).2
  have hl1 : lv_has ls 2 [(0, .ref (ad1 133)), (1, .int x1)] := by simp only [e0_]; exact hl
  try simp only [← e0_]
  have hE_ := hE.trans hE1 (Nat.le_refl _)
  have C_ := C.ext hE1 hap1
  clear hE1 e0_
  revert kd1 ad1
  intro kd ad hL hS hap hI hl  hE C
  obtain ⟨hx, hb, hml, hr, hown, hts, hlk, hK, hap, hsx⟩ := id C
  refine lv_aload_n hx hb (dc tbJ5_append_3fe6f_0_k 6 rfl) rfl (lv_at hl 0 rfl) ?_
  obtain ⟨r5, q4, hf⟩ := cap_s hf
  refine g_callUi (n := 0) hx hb hml hown hts hK hap hsx hI (tJ5_isLatin1_aae02 l  hS q4 H.size) q_t4_24 q_t4_26 q_t4_25 q_t1_7 q_t4_28 q_t4_27 (by decide +kernel) rfl rfl ⟨Nat.le_of_ble_eq_true rfl, Nat.le_of_ble_eq_true rfl⟩ hS.1 (by simp) rfl rfl rfl hl.1 rfl (Nat.le_of_ble_eq_true rfl) (dc tbJ5_append_3fe6f_0_k 7 rfl) ⟨Nat.le_of_ble_eq_true rfl, Nat.le_of_ble_eq_true rfl⟩ (fun H locs hI => ?_)
  refine lv_if_eq (tgt := 45) hx hb (dc tbJ5_append_3fe6f_0_k 8 rfl) rfl (fun c7 => ?_) (fun c7 => ?_)
  · have hf := ite_t c7 hf
    exact tJ5_append_3fe6f_b45 C hS hL hE x1 M3 hf _ _ _ hI (lv_sub hl [0, 1] rfl)
  · have hf := ite_f c7 hf
    refine lv_iload_n hx hb (dc tbJ5_append_3fe6f_0_k 9 rfl) rfl (lv_at hl 1 rfl) ?_
    obtain ⟨r17, q16, hf⟩ := cap_s hf
    refine g_callSi hx hb hml hown hts hK hap hsx hI (tJ1_canEncode_fc78d l  q16 H.size) cs_J1_canEncode_fc78d q_t5_79 rfl rfl ⟨Nat.le_of_ble_eq_true rfl, Nat.le_of_ble_eq_true rfl⟩ rfl hl.1 rfl (Nat.le_of_ble_eq_true rfl) (dc tbJ5_append_3fe6f_0_k 10 rfl) ⟨Nat.le_of_ble_eq_true rfl, Nat.le_of_ble_eq_true rfl⟩ (fun H locs hI => ?_)
    refine lv_if_eq (tgt := 45) hx hb (dc tbJ5_append_3fe6f_0_k 11 rfl) rfl (fun c19 => ?_) (fun c19 => ?_)
    · have hf := ite_t c19 hf
      exact tJ5_append_3fe6f_b45 C hS hL hE x1 M3 hf _ _ _ hI (lv_sub hl [0, 1] rfl)
    · have hf := ite_f c19 hf
      refine lv_aload_n hx hb (dc tbJ5_append_3fe6f_0_k 12 rfl) rfl (lv_at hl 0 rfl) ?_
      refine ggSB_0 hx hb hts hown hK hI hS.1 q_t2_68 (dc tbJ5_append_3fe6f_0_k 13 rfl) ?_
      refine lv_aload_n hx hb (dc tbJ5_append_3fe6f_0_k 14 rfl) rfl (lv_at hl 0 rfl) ?_
      refine lv_dup hx hb (dc tbJ5_append_3fe6f_0_k 15 rfl) rfl ?_
      refine ggSB_3 hx hb hts hown hK hI hS.1 q_t2_72 (dc tbJ5_append_3fe6f_0_k 16 rfl) ?_
      refine lv_dup_x1 hx hb (dc tbJ5_append_3fe6f_0_k 17 rfl) rfl rfl ?_
      refine lv_iconst (v := 1) hx hb (dc tbJ5_append_3fe6f_0_k 18 rfl) ic_1 ?_
      refine lv_iadd hx hb (dc tbJ5_append_3fe6f_0_k 19 rfl) ?_
      obtain ⟨M21, e22, hf⟩ := bnd_s hf
      refine gpSB_3 hx hb hts hown hK hap hI hS.1 q_t2_72 (dc tbJ5_append_3fe6f_0_k 20 rfl) e22 (fun H locs hI => ?_)
      refine lv_iload_n hx hb (dc tbJ5_append_3fe6f_0_k 21 rfl) rfl (lv_at hl 1 rfl) ?_
      refine lv_i2b hx hb (dc tbJ5_append_3fe6f_0_k 22 rfl) rfl ?_
      obtain ⟨h23, hf⟩ := chk_s hf
      obtain ⟨M25, e24, hf⟩ := bnd_s hf
      refine g_bast hx hb hK hap hI hS.2.1 (okb_in h23) (dc tbJ5_append_3fe6f_0_k 23 rfl) e24 (fun H locs hI => ?_)
      refine lv_goto (tgt := 75) hx hb (dc tbJ5_append_3fe6f_0_k 24 rfl) rfl ?_
      refine lv_aload_n hx hb (dc tbJ5_append_3fe6f_1_k 1 rfl) rfl (lv_at hl 0 rfl) ?_
      obtain ⟨h26, hf⟩ := chk_s hf
      rw [← of_decide_eq_true h26] at hS
      cases hf
      exact g_aretR hx hb hr (Or.inl ⟨_, rfl⟩) hlk hE hL hS hap hI (dc tbJ5_append_3fe6f_1_k 2 rfl)
def mJ5_append_c97b9 (x1 : Int32) (M : Mem) : Option (Mem × Unit) := bnd ((rd M 133 3)) (fun x2_4 => cap (mJ6_stringSize_0f7a4 x1 M) (fun r3 => bnd ((x2_4 + r3)) (fun x3_11 => cal (mJ5_ensureCapacityInternal_d00df x3_11 M) (fun M8 _ => cap (mJ5_isLatin1_aae02 M8) (fun r10 => ite2 (r10 = 0) (none) (cal (mJ6_getChars_ba4f3 (sbv 133 (rd M8 133 0)) (sbn (rd M8 133 0)) x1 x3_11 M8) (fun M17 r16 => bnd (wr M17 133 3 x3_11) (fun M18 => chk (decide (rd M18 133 0 = rd M8 133 0)) (some (M18, ()))))))))))
set_option maxHeartbeats 4000000 in
set_option maxRecDepth 100000 in
theorem tJ5_append_c97b9 (l : Launch) {G : GT} {kd : Nat → Nat × Nat} {ad : Nat → Nat} {M : Mem} (hS : Sb kd (rd M 133 0)) (hL : Low kd) {x1 : Int32} {MO : Mem} {vo : Unit} (hf : mJ5_append_c97b9  x1 M = some (MO, vo)) (n : Nat) : Met l yJ5_append_c97b9 (Cond.code yJ5_append_c97b9 cJ5_append_c97b9 4 (some (.object "java/lang/AbstractStringBuilder")) :: WA) (rmO 4 1 70) (Pg G kd ad n [.ref (ad 133), .int x1] M) (Qr G kd ad n MO (some (.ref (ad 133)))) 1 70 (AS kd ad n) := by
  refine g_bodyR (own := RJ5) (by decide) rfl ?_ (Nat.le_of_ble_eq_true rfl)
  intro p e s m args below meth c C _ H locs ls hI hl
  obtain ⟨hx, hb, hml, hr, hown, hts, hlk, hK, hap, hsx⟩ := id C
  have hl : lv_has ls 4 [(0, .ref (ad 133)), (1, .int x1)] := hl
  have hE : Ext kd ad kd ad s.heap.size := Ext.refl
  unfold mJ5_append_c97b9 at hf
  refine lv_aload_n hx hb (dc tbJ5_append_c97b9_k 0 rfl) rfl (lv_at hl 0 rfl) ?_
  refine ggSB_3 hx hb hts hown hK hI hS.1 q_t2_72 (dc tbJ5_append_c97b9_k 1 rfl) ?_
  obtain ⟨x2_4, e1, hf⟩ := bnd_s hf
  refine lv_ei e1 ?_
  refine lv_istore_n (lv' := [(2, .int x2_4), (0, .ref (ad 133)), (1, .int x1)]) hx hb (dc tbJ5_append_c97b9_k 2 rfl) rfl hl (by decide) rfl (fun ls hl => ?_)
  refine lv_iload_n hx hb (dc tbJ5_append_c97b9_k 3 rfl) rfl (lv_at hl 0 rfl) ?_
  refine lv_iload_n hx hb (dc tbJ5_append_c97b9_k 4 rfl) rfl (lv_at hl 2 rfl) ?_
  obtain ⟨r3, q2, hf⟩ := cap_s hf
  refine g_callSi hx hb hml hown hts hK hap hsx hI (tJ6_stringSize_0f7a4 l  q2 H.size) cs_J6_stringSize_0f7a4 q_t4_105 rfl rfl ⟨Nat.le_of_ble_eq_true rfl, Nat.le_of_ble_eq_true rfl⟩ rfl hl.1 rfl (Nat.le_of_ble_eq_true rfl) (dc tbJ5_append_c97b9_k 5 rfl) ⟨Nat.le_of_ble_eq_true rfl, Nat.le_of_ble_eq_true rfl⟩ (fun H locs hI => ?_)
  refine lv_iadd hx hb (dc tbJ5_append_c97b9_k 6 rfl) ?_
  obtain ⟨x3_11, e5, hf⟩ := bnd_s hf
  refine lv_ei e5 ?_
  refine lv_istore_n (lv' := [(3, .int x3_11), (2, .int x2_4), (0, .ref (ad 133)), (1, .int x1)]) hx hb (dc tbJ5_append_c97b9_k 7 rfl) rfl hl (by decide) rfl (fun ls hl => ?_)
  refine lv_aload_n hx hb (dc tbJ5_append_c97b9_k 8 rfl) rfl (lv_at hl 2 rfl) ?_
  refine lv_iload_n hx hb (dc tbJ5_append_c97b9_k 9 rfl) rfl (lv_at hl 0 rfl) ?_
  obtain ⟨M8, r7, q6, hf⟩ := cal_s hf
  refine g_callURv (n := 1) hx hb hml hown hts hK hap hsx hI (tJ5_ensureCapacityInternal_d00df l  hS hL q6 H.size) q_t3_235 q_t10_25 q_t3_237 q_t1_7 q_t3_238 q_wk_0 (by decide +kernel) rfl rfl ⟨Nat.le_of_ble_eq_true rfl, Nat.le_of_ble_eq_true rfl⟩ hS.1 (by simp) rfl rfl rfl hl.1 rfl (Nat.le_of_ble_eq_true rfl) (dc tbJ5_append_c97b9_k 10 rfl) ⟨Nat.le_of_ble_eq_true rfl, Nat.le_of_ble_eq_true rfl⟩ (fun kd1 ad1 H locs hE1 hL1 hS1 hap1 hI => ?_)
  have e0_ : ad1 133 = ad 133 := (hE1.1 133 (by rw [hS.1]; simp)).2
  have hl1 : lv_has ls 4 [(3, .int x3_11), (2, .int x2_4), (0, .ref (ad1 133)), (1, .int x1)] := by simp only [e0_]; exact hl
  try simp only [← e0_]
  have hE_ := hE.trans hE1 (Nat.le_refl _)
  have C_ := C.ext hE1 hap1
  clear hE1 e0_
  revert kd1 ad1
  intro kd ad hL hS hap hI hl  hE C
  obtain ⟨hx, hb, hml, hr, hown, hts, hlk, hK, hap, hsx⟩ := id C
  refine lv_aload_n hx hb (dc tbJ5_append_c97b9_k 11 rfl) rfl (lv_at hl 2 rfl) ?_
  obtain ⟨r10, q9, hf⟩ := cap_s hf
  refine g_callUi (n := 0) hx hb hml hown hts hK hap hsx hI (tJ5_isLatin1_aae02 l  hS q9 H.size) q_t4_24 q_t4_26 q_t4_25 q_t1_7 q_t4_28 q_t4_27 (by decide +kernel) rfl rfl ⟨Nat.le_of_ble_eq_true rfl, Nat.le_of_ble_eq_true rfl⟩ hS.1 (by simp) rfl rfl rfl hl.1 rfl (Nat.le_of_ble_eq_true rfl) (dc tbJ5_append_c97b9_k 12 rfl) ⟨Nat.le_of_ble_eq_true rfl, Nat.le_of_ble_eq_true rfl⟩ (fun H locs hI => ?_)
  refine lv_if_eq (tgt := 37) hx hb (dc tbJ5_append_c97b9_k 13 rfl) rfl (fun c12 => ?_) (fun c12 => ?_)
  · have hf := ite_t c12 hf
    refine lv_iload_n hx hb (dc tbJ5_append_c97b9_k 21 rfl) rfl (lv_at hl 3 rfl) ?_
    refine lv_iload_n hx hb (dc tbJ5_append_c97b9_k 22 rfl) rfl (lv_at hl 1 rfl) ?_
    refine lv_iload_n hx hb (dc tbJ5_append_c97b9_k 23 rfl) rfl (lv_at hl 0 rfl) ?_
    refine lv_aload_n hx hb (dc tbJ5_append_c97b9_k 24 rfl) rfl (lv_at hl 2 rfl) ?_
    refine ggSB_0 hx hb hts hown hK hI hS.1 q_t2_68 (dc tbJ5_append_c97b9_k 25 rfl) ?_
    cases hf
  · have hf := ite_f c12 hf
    refine lv_iload_n hx hb (dc tbJ5_append_c97b9_k 14 rfl) rfl (lv_at hl 3 rfl) ?_
    refine lv_iload_n hx hb (dc tbJ5_append_c97b9_k 15 rfl) rfl (lv_at hl 0 rfl) ?_
    refine lv_aload_n hx hb (dc tbJ5_append_c97b9_k 16 rfl) rfl (lv_at hl 2 rfl) ?_
    refine ggSB_0 hx hb hts hown hK hI hS.1 q_t2_68 (dc tbJ5_append_c97b9_k 17 rfl) ?_
    obtain ⟨M17, r16, q15, hf⟩ := cal_s hf
    refine g_callSi hx hb hml hown hts hK hap hsx hI (tJ6_getChars_ba4f3 l hS.2.1 q15 H.size) cs_J6_getChars_ba4f3 q_t4_108 rfl rfl ⟨Nat.le_of_ble_eq_true rfl, Nat.le_of_ble_eq_true rfl⟩ rfl hl.1 rfl (Nat.le_of_ble_eq_true rfl) (dc tbJ5_append_c97b9_k 18 rfl) ⟨Nat.le_of_ble_eq_true rfl, Nat.le_of_ble_eq_true rfl⟩ (fun H locs hI => ?_)
    refine lv_pop hx hb (dc tbJ5_append_c97b9_k 19 rfl) rfl ?_
    refine lv_goto (tgt := 48) hx hb (dc tbJ5_append_c97b9_k 20 rfl) rfl ?_
    refine lv_aload_n hx hb (dc tbJ5_append_c97b9_k 28 rfl) rfl (lv_at hl 2 rfl) ?_
    refine lv_iload_n hx hb (dc tbJ5_append_c97b9_k 29 rfl) rfl (lv_at hl 0 rfl) ?_
    obtain ⟨M18, e19, hf⟩ := bnd_s hf
    refine gpSB_3 hx hb hts hown hK hap hI hS.1 q_t2_72 (dc tbJ5_append_c97b9_k 30 rfl) e19 (fun H locs hI => ?_)
    refine lv_aload_n hx hb (dc tbJ5_append_c97b9_k 31 rfl) rfl (lv_at hl 2 rfl) ?_
    obtain ⟨h20, hf⟩ := chk_s hf
    rw [← of_decide_eq_true h20] at hS
    cases hf
    exact g_aretR hx hb hr (Or.inl ⟨_, rfl⟩) hlk hE hL hS hap hI (dc tbJ5_append_c97b9_k 32 rfl)
def mJ5_append_cf1ce (k0 : Nat) (M : Mem) : Option (Mem × Unit) := cap (mJ0_length_8abf5 k0 M) (fun r2 => cal (mJ5_ensureCapacityInternal_d00df ((rd M 133 3) + r2) M) (fun M6 _ => cal (mJ5_putStringAt_47b60 k0 (rd M6 133 3) M6) (fun M9 _ => bnd (wr M9 133 3 ((rd M9 133 3) + r2)) (fun M10 => chk (decide (rd M10 133 0 = rd M6 133 0)) (some (M10, ()))))))
set_option maxHeartbeats 4000000 in
set_option maxRecDepth 100000 in
theorem tJ5_append_cf1ce (l : Launch) {G : GT} {kd : Nat → Nat × Nat} {ad : Nat → Nat} {M : Mem} {k0 : Nat} (hk0 : k0 < 12) (hS : Sb kd (rd M 133 0)) (hL : Low kd) {MO : Mem} {vo : Unit} (hf : mJ5_append_cf1ce k0 M = some (MO, vo)) (n : Nat) : Met l yJ5_append_cf1ce (Cond.code yJ5_append_cf1ce cJ5_append_cf1ce 3 (some (.object "java/lang/AbstractStringBuilder")) :: WA) (rmO 4 1 70) (Pg G kd ad n [.ref (ad 133), .ref (G.2.2 (100 + k0))] M) (Qr G kd ad n MO (some (.ref (ad 133)))) 1 70 (AS kd ad n) := by
  refine g_bodyR (own := RJ5) (by decide) rfl ?_ (Nat.le_of_ble_eq_true rfl)
  intro p e s m args below meth c C _ H locs ls hI hl
  obtain ⟨hx, hb, hml, hr, hown, hts, hlk, hK, hap, hsx⟩ := id C
  have hl : lv_has ls 3 [(0, .ref (ad 133)), (1, .ref (G.2.2 (100 + k0)))] := hl
  have hE : Ext kd ad kd ad s.heap.size := Ext.refl
  unfold mJ5_append_cf1ce at hf
  refine lv_aload_n hx hb (dc tbJ5_append_cf1ce_k 0 rfl) rfl (lv_at hl 1 rfl) ?_
  refine lv_ifnonnull (tgt := 9) hx hb (dc tbJ5_append_cf1ce_k 1 rfl) rfl ?_
  refine lv_aload_n hx hb (dc tbJ5_append_cf1ce_k 5 rfl) rfl (lv_at hl 1 rfl) ?_
  obtain ⟨r2, q1, hf⟩ := cap_s hf
  refine g_callTi hx hb hml hown hts hK hap hsx hI (tJ0_length_8abf5 l hk0 q1 H.size) cv_J0_length_8abf5 q_t4_55 rfl rfl ⟨Nat.le_of_ble_eq_true rfl, Nat.le_of_ble_eq_true rfl⟩ hk0 rfl hl.1 rfl (Nat.le_of_ble_eq_true rfl) (dc tbJ5_append_cf1ce_k 6 rfl) ⟨Nat.le_of_ble_eq_true rfl, Nat.le_of_ble_eq_true rfl⟩ (fun H locs hI => ?_)
  refine lv_istore_n (lv' := [(2, .int r2), (0, .ref (ad 133)), (1, .ref (G.2.2 (100 + k0)))]) hx hb (dc tbJ5_append_cf1ce_k 7 rfl) rfl hl (by decide) rfl (fun ls hl => ?_)
  refine lv_aload_n hx hb (dc tbJ5_append_cf1ce_k 8 rfl) rfl (lv_at hl 1 rfl) ?_
  refine lv_aload_n hx hb (dc tbJ5_append_cf1ce_k 9 rfl) rfl (lv_at hl 1 rfl) ?_
  refine ggSB_3 hx hb hts hown hK hI hS.1 q_t2_72 (dc tbJ5_append_cf1ce_k 10 rfl) ?_
  refine lv_iload_n hx hb (dc tbJ5_append_cf1ce_k 11 rfl) rfl (lv_at hl 0 rfl) ?_
  refine lv_iadd hx hb (dc tbJ5_append_cf1ce_k 12 rfl) ?_
  obtain ⟨M6, r5, q4, hf⟩ := cal_s hf
  refine g_callURv (n := 1) hx hb hml hown hts hK hap hsx hI (tJ5_ensureCapacityInternal_d00df l  hS hL q4 H.size) q_t3_235 q_t10_25 q_t3_237 q_t1_7 q_t3_238 q_wk_0 (by decide +kernel) rfl rfl ⟨Nat.le_of_ble_eq_true rfl, Nat.le_of_ble_eq_true rfl⟩ hS.1 (by simp) rfl rfl rfl hl.1 rfl (Nat.le_of_ble_eq_true rfl) (dc tbJ5_append_cf1ce_k 13 rfl) ⟨Nat.le_of_ble_eq_true rfl, Nat.le_of_ble_eq_true rfl⟩ (fun kd1 ad1 H locs hE1 hL1 hS1 hap1 hI => ?_)
  have e0_ : ad1 133 = ad 133 := (hE1.1 133 (by rw [hS.1]; simp)).2
  have hl1 : lv_has ls 3 [(2, .int r2), (0, .ref (ad1 133)), (1, .ref (G.2.2 (100 + k0)))] := by simp only [e0_]; exact hl
  try simp only [← e0_]
  have hE_ := hE.trans hE1 (Nat.le_refl _)
  have C_ := C.ext hE1 hap1
  clear hE1 e0_
  revert kd1 ad1
  intro kd ad hL hS hap hI hl  hE C
  obtain ⟨hx, hb, hml, hr, hown, hts, hlk, hK, hap, hsx⟩ := id C
  refine lv_aload_n hx hb (dc tbJ5_append_cf1ce_k 14 rfl) rfl (lv_at hl 1 rfl) ?_
  refine lv_aload_n hx hb (dc tbJ5_append_cf1ce_k 15 rfl) rfl (lv_at hl 1 rfl) ?_
  refine ggSB_3 hx hb hts hown hK hI hS.1 q_t2_72 (dc tbJ5_append_cf1ce_k 16 rfl) ?_
  refine lv_aload_n hx hb (dc tbJ5_append_cf1ce_k 17 rfl) rfl (lv_at hl 2 rfl) ?_
  obtain ⟨M9, r8, q7, hf⟩ := cal_s hf
  refine g_callUv (n := 2) hx hb hml hown hts hK hap hsx hI (tJ5_putStringAt_47b60 l hk0 hS q7 H.size) q_t4_64 q_t10_27 q_t4_66 q_t1_7 q_t4_67 q_wk_3 (by decide +kernel) rfl rfl ⟨Nat.le_of_ble_eq_true rfl, Nat.le_of_ble_eq_true rfl⟩ hS.1 (by simp) rfl rfl rfl hl.1 rfl (Nat.le_of_ble_eq_true rfl) (dc tbJ5_append_cf1ce_k 18 rfl) ⟨Nat.le_of_ble_eq_true rfl, Nat.le_of_ble_eq_true rfl⟩ (fun H locs hI => ?_)
  refine lv_aload_n hx hb (dc tbJ5_append_cf1ce_k 19 rfl) rfl (lv_at hl 1 rfl) ?_
  refine lv_dup hx hb (dc tbJ5_append_cf1ce_k 20 rfl) rfl ?_
  refine ggSB_3 hx hb hts hown hK hI hS.1 q_t2_72 (dc tbJ5_append_cf1ce_k 21 rfl) ?_
  refine lv_iload_n hx hb (dc tbJ5_append_cf1ce_k 22 rfl) rfl (lv_at hl 0 rfl) ?_
  refine lv_iadd hx hb (dc tbJ5_append_cf1ce_k 23 rfl) ?_
  obtain ⟨M10, e11, hf⟩ := bnd_s hf
  refine gpSB_3 hx hb hts hown hK hap hI hS.1 q_t2_72 (dc tbJ5_append_cf1ce_k 24 rfl) e11 (fun H locs hI => ?_)
  refine lv_aload_n hx hb (dc tbJ5_append_cf1ce_k 25 rfl) rfl (lv_at hl 1 rfl) ?_
  obtain ⟨h12, hf⟩ := chk_s hf
  rw [← of_decide_eq_true h12] at hS
  cases hf
  exact g_aretR hx hb hr (Or.inl ⟨_, rfl⟩) hlk hE hL hS hap hI (dc tbJ5_append_cf1ce_k 26 rfl)
def mJ4_append_cf468 (x1 : Int32) (M : Mem) : Option (Mem × Unit) := cal (mJ5_append_3fe6f x1 M) (fun M3 _ => some (M3, ()))
set_option maxHeartbeats 4000000 in
set_option maxRecDepth 100000 in
theorem tJ4_append_cf468 (l : Launch) {G : GT} {kd : Nat → Nat × Nat} {ad : Nat → Nat} {M : Mem} (hS : Sb kd (rd M 133 0)) (hL : Low kd) {x1 : Int32} {MO : Mem} {vo : Unit} (hf : mJ4_append_cf468  x1 M = some (MO, vo)) (n : Nat) : Met l yJ4_append_cf468 (Cond.code yJ4_append_cf468 cJ4_append_cf468 2 (some (.object "java/lang/StringBuilder")) :: WA) (rmO 5 1 70) (Pg G kd ad n [.ref (ad 133), .int x1] M) (Qr G kd ad n MO (some (.ref (ad 133)))) 1 70 (AS kd ad n) := by
  refine g_bodyR (own := RJ4) (by decide) rfl ?_ (Nat.le_of_ble_eq_true rfl)
  intro p e s m args below meth c C _ H locs ls hI hl
  obtain ⟨hx, hb, hml, hr, hown, hts, hlk, hK, hap, hsx⟩ := id C
  have hl : lv_has ls 2 [(0, .ref (ad 133)), (1, .int x1)] := hl
  have hE : Ext kd ad kd ad s.heap.size := Ext.refl
  unfold mJ4_append_cf468 at hf
  refine lv_aload_n hx hb (dc tbJ4_append_cf468_k 0 rfl) rfl (lv_at hl 0 rfl) ?_
  refine lv_iload_n hx hb (dc tbJ4_append_cf468_k 1 rfl) rfl (lv_at hl 1 rfl) ?_
  obtain ⟨M3, r2, q1, hf⟩ := cal_s hf
  refine g_callSURa (n := 1) hx hb hml hown hts hK hap hsx hI (tJ5_append_3fe6f l  hS hL q1 H.size) q_t5_76 q_t10_32 q_t5_77 q_t1_7 q_t5_78 q_t2_81 (by decide +kernel) rfl rfl ⟨Nat.le_of_ble_eq_true rfl, Nat.le_of_ble_eq_true rfl⟩ hS.1 (by simp) rfl rfl rfl hl.1 rfl (Nat.le_of_ble_eq_true rfl) (dc tbJ4_append_cf468_k 2 rfl) ⟨Nat.le_of_ble_eq_true rfl, Nat.le_of_ble_eq_true rfl⟩ (fun kd1 ad1 H locs hE1 hL1 hS1 hap1 hI => ?_)
  have e0_ : ad1 133 = ad 133 := (hE1.1 133 (by rw [hS.1]; simp)).2
  have hl1 : lv_has ls 2 [(0, .ref (ad1 133)), (1, .int x1)] := by simp only [e0_]; exact hl
  try simp only [← e0_]
  have hE_ := hE.trans hE1 (Nat.le_refl _)
  have C_ := C.ext hE1 hap1
  clear hE1 e0_
  revert kd1 ad1
  intro kd ad hL hS hap hI hl  hE C
  obtain ⟨hx, hb, hml, hr, hown, hts, hlk, hK, hap, hsx⟩ := id C
  refine lv_pop hx hb (dc tbJ4_append_cf468_k 3 rfl) rfl ?_
  refine lv_aload_n hx hb (dc tbJ4_append_cf468_k 4 rfl) rfl (lv_at hl 0 rfl) ?_
  cases hf
  exact g_aretR hx hb hr (Or.inl ⟨_, rfl⟩) hlk hE hL hS hap hI (dc tbJ4_append_cf468_k 5 rfl)
theorem cv_J4_append_cf468 : cvF RJ4 yJ4_append_cf468 cJ4_append_cf468 2 (some (.object "java/lang/StringBuilder")) 1 := ⟨q_t5_73, q_t5_74, q_t1_8, q_t5_75, by decide +kernel⟩
def mJ4_append_bf812 (x1 : Int32) (M : Mem) : Option (Mem × Unit) := cal (mJ5_append_c97b9 x1 M) (fun M3 _ => some (M3, ()))
set_option maxHeartbeats 4000000 in
set_option maxRecDepth 100000 in
theorem tJ4_append_bf812 (l : Launch) {G : GT} {kd : Nat → Nat × Nat} {ad : Nat → Nat} {M : Mem} (hS : Sb kd (rd M 133 0)) (hL : Low kd) {x1 : Int32} {MO : Mem} {vo : Unit} (hf : mJ4_append_bf812  x1 M = some (MO, vo)) (n : Nat) : Met l yJ4_append_bf812 (Cond.code yJ4_append_bf812 cJ4_append_bf812 2 (some (.object "java/lang/StringBuilder")) :: WA) (rmO 5 1 70) (Pg G kd ad n [.ref (ad 133), .int x1] M) (Qr G kd ad n MO (some (.ref (ad 133)))) 1 70 (AS kd ad n) := by
  refine g_bodyR (own := RJ4) (by decide) rfl ?_ (Nat.le_of_ble_eq_true rfl)
  intro p e s m args below meth c C _ H locs ls hI hl
  obtain ⟨hx, hb, hml, hr, hown, hts, hlk, hK, hap, hsx⟩ := id C
  have hl : lv_has ls 2 [(0, .ref (ad 133)), (1, .int x1)] := hl
  have hE : Ext kd ad kd ad s.heap.size := Ext.refl
  unfold mJ4_append_bf812 at hf
  refine lv_aload_n hx hb (dc tbJ4_append_bf812_k 0 rfl) rfl (lv_at hl 0 rfl) ?_
  refine lv_iload_n hx hb (dc tbJ4_append_bf812_k 1 rfl) rfl (lv_at hl 1 rfl) ?_
  obtain ⟨M3, r2, q1, hf⟩ := cal_s hf
  refine g_callSURa (n := 1) hx hb hml hown hts hK hap hsx hI (tJ5_append_c97b9 l  hS hL q1 H.size) q_t4_102 q_t10_30 q_t4_103 q_t1_7 q_t4_104 q_t2_81 (by decide +kernel) rfl rfl ⟨Nat.le_of_ble_eq_true rfl, Nat.le_of_ble_eq_true rfl⟩ hS.1 (by simp) rfl rfl rfl hl.1 rfl (Nat.le_of_ble_eq_true rfl) (dc tbJ4_append_bf812_k 2 rfl) ⟨Nat.le_of_ble_eq_true rfl, Nat.le_of_ble_eq_true rfl⟩ (fun kd1 ad1 H locs hE1 hL1 hS1 hap1 hI => ?_)
  have e0_ : ad1 133 = ad 133 := (hE1.1 133 (by rw [hS.1]; simp)).2
  have hl1 : lv_has ls 2 [(0, .ref (ad1 133)), (1, .int x1)] := by simp only [e0_]; exact hl
  try simp only [← e0_]
  have hE_ := hE.trans hE1 (Nat.le_refl _)
  have C_ := C.ext hE1 hap1
  clear hE1 e0_
  revert kd1 ad1
  intro kd ad hL hS hap hI hl  hE C
  obtain ⟨hx, hb, hml, hr, hown, hts, hlk, hK, hap, hsx⟩ := id C
  refine lv_pop hx hb (dc tbJ4_append_bf812_k 3 rfl) rfl ?_
  refine lv_aload_n hx hb (dc tbJ4_append_bf812_k 4 rfl) rfl (lv_at hl 0 rfl) ?_
  cases hf
  exact g_aretR hx hb hr (Or.inl ⟨_, rfl⟩) hlk hE hL hS hap hI (dc tbJ4_append_bf812_k 5 rfl)
theorem cv_J4_append_bf812 : cvF RJ4 yJ4_append_bf812 cJ4_append_bf812 2 (some (.object "java/lang/StringBuilder")) 1 := ⟨q_t4_99, q_t4_100, q_t1_8, q_t4_101, by decide +kernel⟩
def mJ4_append_15ec4 (k0 : Nat) (M : Mem) : Option (Mem × Unit) := cal (mJ5_append_cf1ce k0 M) (fun M3 _ => some (M3, ()))
set_option maxHeartbeats 4000000 in
set_option maxRecDepth 100000 in
theorem tJ4_append_15ec4 (l : Launch) {G : GT} {kd : Nat → Nat × Nat} {ad : Nat → Nat} {M : Mem} {k0 : Nat} (hk0 : k0 < 12) (hS : Sb kd (rd M 133 0)) (hL : Low kd) {MO : Mem} {vo : Unit} (hf : mJ4_append_15ec4 k0 M = some (MO, vo)) (n : Nat) : Met l yJ4_append_15ec4 (Cond.code yJ4_append_15ec4 cJ4_append_15ec4 2 (some (.object "java/lang/StringBuilder")) :: WA) (rmO 5 1 70) (Pg G kd ad n [.ref (ad 133), .ref (G.2.2 (100 + k0))] M) (Qr G kd ad n MO (some (.ref (ad 133)))) 1 70 (AS kd ad n) := by
  refine g_bodyR (own := RJ4) (by decide) rfl ?_ (Nat.le_of_ble_eq_true rfl)
  intro p e s m args below meth c C _ H locs ls hI hl
  obtain ⟨hx, hb, hml, hr, hown, hts, hlk, hK, hap, hsx⟩ := id C
  have hl : lv_has ls 2 [(0, .ref (ad 133)), (1, .ref (G.2.2 (100 + k0)))] := hl
  have hE : Ext kd ad kd ad s.heap.size := Ext.refl
  unfold mJ4_append_15ec4 at hf
  refine lv_aload_n hx hb (dc tbJ4_append_15ec4_k 0 rfl) rfl (lv_at hl 0 rfl) ?_
  refine lv_aload_n hx hb (dc tbJ4_append_15ec4_k 1 rfl) rfl (lv_at hl 1 rfl) ?_
  obtain ⟨M3, r2, q1, hf⟩ := cal_s hf
  refine g_callSURa (n := 1) hx hb hml hown hts hK hap hsx hI (tJ5_append_cf1ce l hk0 hS hL q1 H.size) q_t3_228 q_t10_23 q_t3_229 q_t1_7 q_t3_230 q_t2_81 (by decide +kernel) rfl rfl ⟨Nat.le_of_ble_eq_true rfl, Nat.le_of_ble_eq_true rfl⟩ hS.1 (by simp) rfl rfl rfl hl.1 rfl (Nat.le_of_ble_eq_true rfl) (dc tbJ4_append_15ec4_k 2 rfl) ⟨Nat.le_of_ble_eq_true rfl, Nat.le_of_ble_eq_true rfl⟩ (fun kd1 ad1 H locs hE1 hL1 hS1 hap1 hI => ?_)
  have e0_ : ad1 133 = ad 133 := (hE1.1 133 (by rw [hS.1]; simp)).2
  have hl1 : lv_has ls 2 [(0, .ref (ad1 133)), (1, .ref (G.2.2 (100 + k0)))] := by simp only [e0_]; exact hl
  try simp only [← e0_]
  have hE_ := hE.trans hE1 (Nat.le_refl _)
  have C_ := C.ext hE1 hap1
  clear hE1 e0_
  revert kd1 ad1
  intro kd ad hL hS hap hI hl  hE C
  obtain ⟨hx, hb, hml, hr, hown, hts, hlk, hK, hap, hsx⟩ := id C
  refine lv_pop hx hb (dc tbJ4_append_15ec4_k 3 rfl) rfl ?_
  refine lv_aload_n hx hb (dc tbJ4_append_15ec4_k 4 rfl) rfl (lv_at hl 0 rfl) ?_
  cases hf
  exact g_aretR hx hb hr (Or.inl ⟨_, rfl⟩) hlk hE hL hS hap hI (dc tbJ4_append_15ec4_k 5 rfl)
theorem cv_J4_append_15ec4 : cvF RJ4 yJ4_append_15ec4 cJ4_append_15ec4 2 (some (.object "java/lang/StringBuilder")) 1 := ⟨q_t3_225, q_t3_226, q_t1_8, q_t3_227, by decide +kernel⟩
def mJ5_charAt_5068e (x1 : Int32) (M : Mem) : Option Int32 := bnd ((rd M 133 1)) (fun x2_4 => bnd ((imin (rd M 133 3) ((Int32.ofNat (sbn (rd M 133 0))) >>> (x2_4 &&& 31)))) (fun x4_21 => cap (mJ0_checkIndex_df160 x1 x4_21 M) (fun r5 => ite2 (x2_4 = 0) (chk (okb x1 (sbn (rd M 133 0))) (chk (isC ((((rd M (sbv 133 (rd M 133 0)) (x1).toNatClampNeg) &&& (255 : Int32))).toUInt32 % 65536).toInt32) (some ((((rd M (sbv 133 (rd M 133 0)) (x1).toNatClampNeg) &&& (255 : Int32))).toUInt32 % 65536).toInt32))) (none))))
set_option maxHeartbeats 4000000 in
set_option maxRecDepth 100000 in
theorem tJ5_charAt_5068e (l : Launch) {G : GT} {kd : Nat → Nat × Nat} {ad : Nat → Nat} {M : Mem} (hS : Sb kd (rd M 133 0)) {x1 : Int32} {vo : Int32} (hf : mJ5_charAt_5068e  x1 M = some vo) (n : Nat) : Met l yJ5_charAt_5068e (Cond.code yJ5_charAt_5068e cJ5_charAt_5068e 5 (some .char) :: WA) (rmO 2 0 0) (Pg G kd ad n [.ref (ad 133), .int x1] M) (Qg G kd ad n M (some (.int vo))) 0 0 (AS kd ad n) := by
  refine g_body (own := RJ5) (by decide) rfl ?_ (Nat.le_of_ble_eq_true rfl)
  intro p e s m args below meth c C _ H locs ls hI hl
  obtain ⟨hx, hb, hml, hr, hown, hts, hlk, hK, hap, hsx⟩ := id C
  have hl : lv_has ls 5 [(0, .ref (ad 133)), (1, .int x1)] := hl
  unfold mJ5_charAt_5068e at hf
  refine lv_aload_n hx hb (dc tbJ5_charAt_5068e_k 0 rfl) rfl (lv_at hl 0 rfl) ?_
  refine ggSB_1 hx hb hts hown hK hI hS.1 q_t2_69 (dc tbJ5_charAt_5068e_k 1 rfl) ?_
  obtain ⟨x2_4, e1, hf⟩ := bnd_s hf
  refine lv_ei e1 ?_
  refine lv_istore_n (lv' := [(2, .int x2_4), (0, .ref (ad 133)), (1, .int x1)]) hx hb (dc tbJ5_charAt_5068e_k 2 rfl) rfl hl (by decide) rfl (fun ls hl => ?_)
  refine lv_aload_n hx hb (dc tbJ5_charAt_5068e_k 3 rfl) rfl (lv_at hl 1 rfl) ?_
  refine ggSB_0 hx hb hts hown hK hI hS.1 q_t2_68 (dc tbJ5_charAt_5068e_k 4 rfl) ?_
  refine lv_astore_n (lv' := [(3, .ref (ad (sbv 133 (rd M 133 0)))), (2, .int x2_4), (0, .ref (ad 133)), (1, .int x1)]) hx hb (dc tbJ5_charAt_5068e_k 5 rfl) rfl hl (by decide) rfl (fun ls hl => ?_)
  refine lv_aload_n hx hb (dc tbJ5_charAt_5068e_k 6 rfl) rfl (lv_at hl 2 rfl) ?_
  refine ggSB_3 hx hb hts hown hK hI hS.1 q_t2_72 (dc tbJ5_charAt_5068e_k 7 rfl) ?_
  refine lv_aload_n hx hb (dc tbJ5_charAt_5068e_k 8 rfl) rfl (lv_at hl 0 rfl) ?_
  refine g_alenB hx hb hK hI hS.2.1 (v := Int32.ofNat (sbn (rd M 133 0))) rfl (dc tbJ5_charAt_5068e_k 9 rfl) ?_
  refine lv_iload_n hx hb (dc tbJ5_charAt_5068e_k 10 rfl) rfl (lv_at hl 1 rfl) ?_
  refine lv_ishr hx hb (dc tbJ5_charAt_5068e_k 11 rfl) ?_
  refine va_mmin hx hb (hml.trans hl.1.symm) hown (hts _ q_t7_56) (hts _ q_t2_200) (hts _ q_t1_22) (hts _ q_t2_201) (Nat.le_of_ble_eq_true rfl) (Nat.le_of_ble_eq_true rfl) (Nat.le_of_ble_eq_true rfl) (Nat.le_of_ble_eq_true rfl) (dc tbJ5_charAt_5068e_k 12 rfl) ?_
  refine lv_et (show (if _ then _ else _) = (imin (rd M 133 3) ((Int32.ofNat (sbn (rd M 133 0))) >>> (x2_4 &&& 31))) from rfl) ?_
  obtain ⟨x4_21, e3, hf⟩ := bnd_s hf
  refine lv_ei e3 ?_
  refine lv_istore (lv' := [(4, .int x4_21), (3, .ref (ad (sbv 133 (rd M 133 0)))), (2, .int x2_4), (0, .ref (ad 133)), (1, .int x1)]) hx hb (dc tbJ5_charAt_5068e_k 13 rfl) hl (by decide) rfl (fun ls hl => ?_)
  refine lv_iload_n hx hb (dc tbJ5_charAt_5068e_k 14 rfl) rfl (lv_at hl 4 rfl) ?_
  refine lv_iload hx hb (dc tbJ5_charAt_5068e_k 15 rfl) (lv_at hl 0 rfl) ?_
  obtain ⟨r5, q4, hf⟩ := cap_s hf
  refine g_callSv hx hb hml hown hts hK hap hsx hI (tJ0_checkIndex_df160 l  q4 H.size) cs_J0_checkIndex_df160 q_t7_57 rfl rfl ⟨Nat.le_of_ble_eq_true rfl, Nat.le_of_ble_eq_true rfl⟩ rfl hl.1 rfl (Nat.le_of_ble_eq_true rfl) (dc tbJ5_charAt_5068e_k 16 rfl) ⟨Nat.le_of_ble_eq_true rfl, Nat.le_of_ble_eq_true rfl⟩ (fun H locs hI => ?_)
  refine lv_iload_n hx hb (dc tbJ5_charAt_5068e_k 17 rfl) rfl (lv_at hl 2 rfl) ?_
  refine lv_if_ne (tgt := 42) hx hb (dc tbJ5_charAt_5068e_k 18 rfl) rfl (fun c7 => ?_) (fun c7 => ?_)
  · have hf := ite_f c7 hf
    refine lv_aload_n hx hb (dc tbJ5_charAt_5068e_k 26 rfl) rfl (lv_at hl 1 rfl) ?_
    refine lv_iload_n hx hb (dc tbJ5_charAt_5068e_k 27 rfl) rfl (lv_at hl 4 rfl) ?_
    cases hf
  · have hf := ite_t c7 hf
    refine lv_aload_n hx hb (dc tbJ5_charAt_5068e_k 19 rfl) rfl (lv_at hl 1 rfl) ?_
    refine lv_iload_n hx hb (dc tbJ5_charAt_5068e_k 20 rfl) rfl (lv_at hl 4 rfl) ?_
    obtain ⟨h8, hf⟩ := chk_s hf
    refine g_bald hx hb hK hI hS.2.1 (okb_in h8) (dc tbJ5_charAt_5068e_k 21 rfl) ?_
    refine lv_sipush (v := 255) hx hb (dc tbJ5_charAt_5068e_k 22 rfl) sp_255 ?_
    refine lv_iand hx hb (dc tbJ5_charAt_5068e_k 23 rfl) ?_
    refine lv_i2c hx hb (dc tbJ5_charAt_5068e_k 24 rfl) rfl ?_
    obtain ⟨h9, hf⟩ := chk_s hf
    cases hf
    exact g_zret hx hb hr hlk hI (isC_n h9) (dc tbJ5_charAt_5068e_k 25 rfl)
def mJ4_charAt_5068e (x1 : Int32) (M : Mem) : Option Int32 := cap (mJ5_charAt_5068e x1 M) (fun r2 => chk (isC r2) (some r2))
set_option maxHeartbeats 4000000 in
set_option maxRecDepth 100000 in
theorem tJ4_charAt_5068e (l : Launch) {G : GT} {kd : Nat → Nat × Nat} {ad : Nat → Nat} {M : Mem} (hS : Sb kd (rd M 133 0)) {x1 : Int32} {vo : Int32} (hf : mJ4_charAt_5068e  x1 M = some vo) (n : Nat) : Met l yJ4_charAt_5068e (Cond.code yJ4_charAt_5068e cJ4_charAt_5068e 2 (some .char) :: WA) (rmO 3 0 0) (Pg G kd ad n [.ref (ad 133), .int x1] M) (Qg G kd ad n M (some (.int vo))) 0 0 (AS kd ad n) := by
  refine g_body (own := RJ4) (by decide) rfl ?_ (Nat.le_of_ble_eq_true rfl)
  intro p e s m args below meth c C _ H locs ls hI hl
  obtain ⟨hx, hb, hml, hr, hown, hts, hlk, hK, hap, hsx⟩ := id C
  have hl : lv_has ls 2 [(0, .ref (ad 133)), (1, .int x1)] := hl
  unfold mJ4_charAt_5068e at hf
  refine lv_aload_n hx hb (dc tbJ4_charAt_5068e_k 0 rfl) rfl (lv_at hl 0 rfl) ?_
  refine lv_iload_n hx hb (dc tbJ4_charAt_5068e_k 1 rfl) rfl (lv_at hl 1 rfl) ?_
  obtain ⟨r2, q1, hf⟩ := cap_s hf
  refine g_callSUi (n := 1) hx hb hml hown hts hK hap hsx hI (tJ5_charAt_5068e l  hS q1 H.size) q_t7_53 q_t10_34 q_t7_54 q_t1_7 q_t7_55 q_t2_81 (by decide +kernel) rfl rfl ⟨Nat.le_of_ble_eq_true rfl, Nat.le_of_ble_eq_true rfl⟩ hS.1 (by simp) rfl rfl rfl hl.1 rfl (Nat.le_of_ble_eq_true rfl) (dc tbJ4_charAt_5068e_k 2 rfl) ⟨Nat.le_of_ble_eq_true rfl, Nat.le_of_ble_eq_true rfl⟩ (fun H locs hI => ?_)
  obtain ⟨h4, hf⟩ := chk_s hf
  cases hf
  exact g_zret hx hb hr hlk hI (isC_n h4) (dc tbJ4_charAt_5068e_k 3 rfl)
theorem cv_J4_charAt_5068e : cvF RJ4 yJ4_charAt_5068e cJ4_charAt_5068e 2 (some .char) 1 := ⟨q_t7_50, q_t7_51, q_t1_8, q_t7_52, by decide +kernel⟩
def mJ5_setLength_d00df (x1 : Int32) (M : Mem) : Option (Mem × Unit) := ite2 (0 ≤ x1) (cal (mJ5_ensureCapacityInternal_d00df x1 M) (fun M4 _ => ite2 (x1 ≤ (rd M4 133 3)) (ite2 ((rd M4 133 3) ≤ x1) (bnd (wr M4 133 3 x1) (fun M7 => chk (decide (rd M7 133 0 = rd M4 133 0)) (some (M7, ())))) (bnd (wr M4 133 2 (1 : Int32)) (fun M10 => bnd (wr M10 133 3 x1) (fun M12 => chk (decide (rd M12 133 0 = rd M4 133 0)) (some (M12, ())))))) (cap (mJ5_isLatin1_aae02 M4) (fun r16 => ite2 (r16 = 0) (none) (none))))) (none)
set_option maxHeartbeats 4000000 in
set_option maxRecDepth 100000 in
theorem tJ5_setLength_d00df (l : Launch) {G : GT} {kd : Nat → Nat × Nat} {ad : Nat → Nat} {M : Mem} (hS : Sb kd (rd M 133 0)) (hL : Low kd) {x1 : Int32} {MO : Mem} {vo : Unit} (hf : mJ5_setLength_d00df  x1 M = some (MO, vo)) (n : Nat) : Met l yJ5_setLength_d00df (Cond.code yJ5_setLength_d00df cJ5_setLength_d00df 2 none :: WA) (rmO 4 1 70) (Pg G kd ad n [.ref (ad 133), .int x1] M) (Qr G kd ad n MO none) 1 70 (AS kd ad n) := by
  refine g_bodyR (own := RJ5) (by decide) rfl ?_ (Nat.le_of_ble_eq_true rfl)
  intro p e s m args below meth c C _ H locs ls hI hl
  obtain ⟨hx, hb, hml, hr, hown, hts, hlk, hK, hap, hsx⟩ := id C
  have hl : lv_has ls 2 [(0, .ref (ad 133)), (1, .int x1)] := hl
  have hE : Ext kd ad kd ad s.heap.size := Ext.refl
  unfold mJ5_setLength_d00df at hf
  refine lv_iload_n hx hb (dc tbJ5_setLength_d00df_0_k 0 rfl) rfl (lv_at hl 1 rfl) ?_
  refine lv_if_ge (tgt := 13) hx hb (dc tbJ5_setLength_d00df_0_k 1 rfl) rfl (fun c1 => ?_) (fun c1 => ?_)
  · have hf := ite_t c1 hf
    refine lv_aload_n hx hb (dc tbJ5_setLength_d00df_0_k 7 rfl) rfl (lv_at hl 0 rfl) ?_
    refine lv_iload_n hx hb (dc tbJ5_setLength_d00df_0_k 8 rfl) rfl (lv_at hl 1 rfl) ?_
    obtain ⟨M4, r3, q2, hf⟩ := cal_s hf
    refine g_callURv (n := 1) hx hb hml hown hts hK hap hsx hI (tJ5_ensureCapacityInternal_d00df l  hS hL q2 H.size) q_t3_235 q_t10_25 q_t3_237 q_t1_7 q_t3_238 q_wk_0 (by decide +kernel) rfl rfl ⟨Nat.le_of_ble_eq_true rfl, Nat.le_of_ble_eq_true rfl⟩ hS.1 (by simp) rfl rfl rfl hl.1 rfl (Nat.le_of_ble_eq_true rfl) (dc tbJ5_setLength_d00df_0_k 9 rfl) ⟨Nat.le_of_ble_eq_true rfl, Nat.le_of_ble_eq_true rfl⟩ (fun kd1 ad1 H locs hE1 hL1 hS1 hap1 hI => ?_)
    have e0_ : ad1 133 = ad 133 := (hE1.1 133 (by rw [hS.1]; simp)).2
    have hl1 : lv_has ls 2 [(0, .ref (ad1 133)), (1, .int x1)] := by simp only [e0_]; exact hl
    try simp only [← e0_]
    have hE_ := hE.trans hE1 (Nat.le_refl _)
    have C_ := C.ext hE1 hap1
    clear hE1 e0_
    revert kd1 ad1
    intro kd ad hL hS hap hI hl  hE C
    obtain ⟨hx, hb, hml, hr, hown, hts, hlk, hK, hap, hsx⟩ := id C
    refine lv_aload_n hx hb (dc tbJ5_setLength_d00df_0_k 10 rfl) rfl (lv_at hl 0 rfl) ?_
    refine ggSB_3 hx hb hts hown hK hI hS.1 q_t2_72 (dc tbJ5_setLength_d00df_0_k 11 rfl) ?_
    refine lv_iload_n hx hb (dc tbJ5_setLength_d00df_0_k 12 rfl) rfl (lv_at hl 1 rfl) ?_
    refine lv_icmp_ge (tgt := 63) hx hb (dc tbJ5_setLength_d00df_0_k 13 rfl) rfl (fun c5 => ?_) (fun c5 => ?_)
    · have hf := ite_t c5 hf
      refine lv_aload_n hx hb (dc tbJ5_setLength_d00df_0_k 31 rfl) rfl (lv_at hl 0 rfl) ?_
      refine ggSB_3 hx hb hts hown hK hI hS.1 q_t2_72 (dc tbJ5_setLength_d00df_0_k 32 rfl) ?_
      refine lv_iload_n hx hb (dc tbJ5_setLength_d00df_0_k 33 rfl) rfl (lv_at hl 1 rfl) ?_
      refine lv_icmp_le (tgt := 76) hx hb (dc tbJ5_setLength_d00df_0_k 34 rfl) rfl (fun c6 => ?_) (fun c6 => ?_)
      · have hf := ite_t c6 hf
        refine lv_aload_n hx hb (dc tbJ5_setLength_d00df_0_k 38 rfl) rfl (lv_at hl 0 rfl) ?_
        refine lv_iload_n hx hb (dc tbJ5_setLength_d00df_0_k 39 rfl) rfl (lv_at hl 1 rfl) ?_
        obtain ⟨M7, e8, hf⟩ := bnd_s hf
        refine gpSB_3 hx hb hts hown hK hap hI hS.1 q_t2_72 (dc tbJ5_setLength_d00df_1_k 0 rfl) e8 (fun H locs hI => ?_)
        obtain ⟨h9, hf⟩ := chk_s hf
        rw [← of_decide_eq_true h9] at hS
        cases hf
        exact g_vretR hx hb hr hlk hE hL hS hap hI (dc tbJ5_setLength_d00df_1_k 1 rfl)
      · have hf := ite_f c6 hf
        refine lv_aload_n hx hb (dc tbJ5_setLength_d00df_0_k 35 rfl) rfl (lv_at hl 0 rfl) ?_
        refine lv_iconst (v := 1) hx hb (dc tbJ5_setLength_d00df_0_k 36 rfl) ic_1 ?_
        obtain ⟨M10, e11, hf⟩ := bnd_s hf
        refine gpSB_2 hx hb hts hown hK hap hI hS.1 q_t2_70 (dc tbJ5_setLength_d00df_0_k 37 rfl) rfl rfl e11 (fun H locs hI => ?_)
        refine lv_aload_n hx hb (dc tbJ5_setLength_d00df_0_k 38 rfl) rfl (lv_at hl 0 rfl) ?_
        refine lv_iload_n hx hb (dc tbJ5_setLength_d00df_0_k 39 rfl) rfl (lv_at hl 1 rfl) ?_
        obtain ⟨M12, e13, hf⟩ := bnd_s hf
        refine gpSB_3 hx hb hts hown hK hap hI hS.1 q_t2_72 (dc tbJ5_setLength_d00df_1_k 0 rfl) e13 (fun H locs hI => ?_)
        obtain ⟨h14, hf⟩ := chk_s hf
        rw [← of_decide_eq_true h14] at hS
        cases hf
        exact g_vretR hx hb hr hlk hE hL hS hap hI (dc tbJ5_setLength_d00df_1_k 1 rfl)
    · have hf := ite_f c5 hf
      refine lv_aload_n hx hb (dc tbJ5_setLength_d00df_0_k 14 rfl) rfl (lv_at hl 0 rfl) ?_
      obtain ⟨r16, q15, hf⟩ := cap_s hf
      refine g_callUi (n := 0) hx hb hml hown hts hK hap hsx hI (tJ5_isLatin1_aae02 l  hS q15 H.size) q_t4_24 q_t4_26 q_t4_25 q_t1_7 q_t4_28 q_t4_27 (by decide +kernel) rfl rfl ⟨Nat.le_of_ble_eq_true rfl, Nat.le_of_ble_eq_true rfl⟩ hS.1 (by simp) rfl rfl rfl hl.1 rfl (Nat.le_of_ble_eq_true rfl) (dc tbJ5_setLength_d00df_0_k 15 rfl) ⟨Nat.le_of_ble_eq_true rfl, Nat.le_of_ble_eq_true rfl⟩ (fun H locs hI => ?_)
      refine lv_if_eq (tgt := 48) hx hb (dc tbJ5_setLength_d00df_0_k 16 rfl) rfl (fun c18 => ?_) (fun c18 => ?_)
      · have hf := ite_t c18 hf
        refine lv_aload_n hx hb (dc tbJ5_setLength_d00df_0_k 24 rfl) rfl (lv_at hl 0 rfl) ?_
        refine ggSB_0 hx hb hts hown hK hI hS.1 q_t2_68 (dc tbJ5_setLength_d00df_0_k 25 rfl) ?_
        refine lv_aload_n hx hb (dc tbJ5_setLength_d00df_0_k 26 rfl) rfl (lv_at hl 0 rfl) ?_
        refine ggSB_3 hx hb hts hown hK hI hS.1 q_t2_72 (dc tbJ5_setLength_d00df_0_k 27 rfl) ?_
        refine lv_iload_n hx hb (dc tbJ5_setLength_d00df_0_k 28 rfl) rfl (lv_at hl 1 rfl) ?_
        cases hf
      · have hf := ite_f c18 hf
        refine lv_aload_n hx hb (dc tbJ5_setLength_d00df_0_k 17 rfl) rfl (lv_at hl 0 rfl) ?_
        refine ggSB_0 hx hb hts hown hK hI hS.1 q_t2_68 (dc tbJ5_setLength_d00df_0_k 18 rfl) ?_
        refine lv_aload_n hx hb (dc tbJ5_setLength_d00df_0_k 19 rfl) rfl (lv_at hl 0 rfl) ?_
        refine ggSB_3 hx hb hts hown hK hI hS.1 q_t2_72 (dc tbJ5_setLength_d00df_0_k 20 rfl) ?_
        refine lv_iload_n hx hb (dc tbJ5_setLength_d00df_0_k 21 rfl) rfl (lv_at hl 1 rfl) ?_
        cases hf
  · have hf := ite_f c1 hf
    cases hf
def mJ4_setLength_d00df (x1 : Int32) (M : Mem) : Option (Mem × Unit) := cal (mJ5_setLength_d00df x1 M) (fun M3 _ => some (M3, ()))
set_option maxHeartbeats 4000000 in
set_option maxRecDepth 100000 in
theorem tJ4_setLength_d00df (l : Launch) {G : GT} {kd : Nat → Nat × Nat} {ad : Nat → Nat} {M : Mem} (hS : Sb kd (rd M 133 0)) (hL : Low kd) {x1 : Int32} {MO : Mem} {vo : Unit} (hf : mJ4_setLength_d00df  x1 M = some (MO, vo)) (n : Nat) : Met l yJ4_setLength_d00df (Cond.code yJ4_setLength_d00df cJ4_setLength_d00df 2 none :: WA) (rmO 5 1 70) (Pg G kd ad n [.ref (ad 133), .int x1] M) (Qr G kd ad n MO none) 1 70 (AS kd ad n) := by
  refine g_bodyR (own := RJ4) (by decide) rfl ?_ (Nat.le_of_ble_eq_true rfl)
  intro p e s m args below meth c C _ H locs ls hI hl
  obtain ⟨hx, hb, hml, hr, hown, hts, hlk, hK, hap, hsx⟩ := id C
  have hl : lv_has ls 2 [(0, .ref (ad 133)), (1, .int x1)] := hl
  have hE : Ext kd ad kd ad s.heap.size := Ext.refl
  unfold mJ4_setLength_d00df at hf
  refine lv_aload_n hx hb (dc tbJ4_setLength_d00df_k 0 rfl) rfl (lv_at hl 0 rfl) ?_
  refine lv_iload_n hx hb (dc tbJ4_setLength_d00df_k 1 rfl) rfl (lv_at hl 1 rfl) ?_
  obtain ⟨M3, r2, q1, hf⟩ := cal_s hf
  refine g_callSURv (n := 1) hx hb hml hown hts hK hap hsx hI (tJ5_setLength_d00df l  hS hL q1 H.size) q_t3_213 q_t10_22 q_t3_214 q_t1_7 q_t3_215 q_t2_81 (by decide +kernel) rfl rfl ⟨Nat.le_of_ble_eq_true rfl, Nat.le_of_ble_eq_true rfl⟩ hS.1 (by simp) rfl rfl rfl hl.1 rfl (Nat.le_of_ble_eq_true rfl) (dc tbJ4_setLength_d00df_k 2 rfl) ⟨Nat.le_of_ble_eq_true rfl, Nat.le_of_ble_eq_true rfl⟩ (fun kd1 ad1 H locs hE1 hL1 hS1 hap1 hI => ?_)
  have e0_ : ad1 133 = ad 133 := (hE1.1 133 (by rw [hS.1]; simp)).2
  have hl1 : lv_has ls 2 [(0, .ref (ad1 133)), (1, .int x1)] := by simp only [e0_]; exact hl
  try simp only [← e0_]
  have hE_ := hE.trans hE1 (Nat.le_refl _)
  have C_ := C.ext hE1 hap1
  clear hE1 e0_
  revert kd1 ad1
  intro kd ad hL hS hap hI hl  hE C
  obtain ⟨hx, hb, hml, hr, hown, hts, hlk, hK, hap, hsx⟩ := id C
  cases hf
  exact g_vretR hx hb hr hlk hE hL hS hap hI (dc tbJ4_setLength_d00df_k 3 rfl)
theorem cv_J4_setLength_d00df : cvF RJ4 yJ4_setLength_d00df cJ4_setLength_d00df 2 none 1 := ⟨q_t3_210, q_t3_211, q_t1_8, q_t3_212, by decide +kernel⟩
def mJ5_length_8abf5 (M : Mem) : Option Int32 := some (rd M 133 3)
set_option maxHeartbeats 4000000 in
set_option maxRecDepth 100000 in
theorem tJ5_length_8abf5 (l : Launch) {G : GT} {kd : Nat → Nat × Nat} {ad : Nat → Nat} {M : Mem} (hS : Sb kd (rd M 133 0)) {vo : Int32} (hf : mJ5_length_8abf5  M = some vo) (n : Nat) : Met l yJ5_length_8abf5 (Cond.code yJ5_length_8abf5 cJ5_length_8abf5 1 (some .int) :: WA) (rmO 0 0 0) (Pg G kd ad n [.ref (ad 133)] M) (Qg G kd ad n M (some (.int vo))) 0 0 (AS kd ad n) := by
  refine g_body (own := RJ5) (by decide) rfl ?_ (Nat.le_of_ble_eq_true rfl)
  intro p e s m args below meth c C _ H locs ls hI hl
  obtain ⟨hx, hb, hml, hr, hown, hts, hlk, hK, hap, hsx⟩ := id C
  have hl : lv_has ls 1 [(0, .ref (ad 133))] := hl
  unfold mJ5_length_8abf5 at hf
  refine lv_aload_n hx hb (dc tbJ5_length_8abf5_k 0 rfl) rfl (lv_at hl 0 rfl) ?_
  refine ggSB_3 hx hb hts hown hK hI hS.1 q_t2_72 (dc tbJ5_length_8abf5_k 1 rfl) ?_
  cases hf
  exact g_iret hx hb hr hlk hI (dc tbJ5_length_8abf5_k 2 rfl)
def mJ4_length_8abf5 (M : Mem) : Option Int32 := cap (mJ5_length_8abf5 M) (fun r2 => some r2)
set_option maxHeartbeats 4000000 in
set_option maxRecDepth 100000 in
theorem tJ4_length_8abf5 (l : Launch) {G : GT} {kd : Nat → Nat × Nat} {ad : Nat → Nat} {M : Mem} (hS : Sb kd (rd M 133 0)) {vo : Int32} (hf : mJ4_length_8abf5  M = some vo) (n : Nat) : Met l yJ4_length_8abf5 (Cond.code yJ4_length_8abf5 cJ4_length_8abf5 1 (some .int) :: WA) (rmO 1 0 0) (Pg G kd ad n [.ref (ad 133)] M) (Qg G kd ad n M (some (.int vo))) 0 0 (AS kd ad n) := by
  refine g_body (own := RJ4) (by decide) rfl ?_ (Nat.le_of_ble_eq_true rfl)
  intro p e s m args below meth c C _ H locs ls hI hl
  obtain ⟨hx, hb, hml, hr, hown, hts, hlk, hK, hap, hsx⟩ := id C
  have hl : lv_has ls 1 [(0, .ref (ad 133))] := hl
  unfold mJ4_length_8abf5 at hf
  refine lv_aload_n hx hb (dc tbJ4_length_8abf5_k 0 rfl) rfl (lv_at hl 0 rfl) ?_
  obtain ⟨r2, q1, hf⟩ := cap_s hf
  refine g_callSUi (n := 0) hx hb hml hown hts hK hap hsx hI (tJ5_length_8abf5 l  hS q1 H.size) q_t4_147 q_t4_143 q_t4_142 q_t1_7 q_t4_148 q_t2_81 (by decide +kernel) rfl rfl ⟨Nat.le_of_ble_eq_true rfl, Nat.le_of_ble_eq_true rfl⟩ hS.1 (by simp) rfl rfl rfl hl.1 rfl (Nat.le_of_ble_eq_true rfl) (dc tbJ4_length_8abf5_k 1 rfl) ⟨Nat.le_of_ble_eq_true rfl, Nat.le_of_ble_eq_true rfl⟩ (fun H locs hI => ?_)
  cases hf
  exact g_iret hx hb hr hlk hI (dc tbJ4_length_8abf5_k 2 rfl)
theorem cv_J4_length_8abf5 : cvF RJ4 yJ4_length_8abf5 cJ4_length_8abf5 1 (some .int) 0 := ⟨q_t4_145, q_t10_33, q_t1_8, q_t4_146, by decide +kernel⟩
def mX6_writeBend_b22 (k0 : Nat) (g : Int32) (x1 : Int32) (y1 : Int32) (M : Mem) : Option (Mem × Unit) := chk (decide (rd M 133 0 = g)) (cal (mJ4_append_cf468 y1 M) (fun M8 _ => ite2 ((((rd M8 5 13) >>> (x1 &&& 31)) &&& (1 : Int32)) = 0) (some (M8, ())) (cal (mJ4_append_cf468 (42 : Int32) M8) (fun M12 _ => some (M12, ())))))
set_option maxHeartbeats 4000000 in
set_option maxRecDepth 100000 in
theorem tX6_writeBend_b22 {p : Program} {l : Launch} {e : Env} {s : State} {m : MethodId} {args : Array Value} {below : List Frame} {meth : Method} {c : Code} {G : GT} {kd : Nat → Nat × Nat} {ad : Nat → Nat} (C : Cx p s m args meth c cX6_writeBend 2 none RX6 G kd ad) {k0 : Nat} {g : Int32} {kd0 : Nat → Nat × Nat} {ad0 : Nat → Nat} (hk0 : kRoot kd k0) (hS : Sb kd g) (hL : Low kd) (hE : Ext kd0 ad0 kd ad s.heap.size) {MO : Mem} {vo : Unit}   : ∀ (x1 : Int32) (y1 : Int32) (M : Mem), mX6_writeBend_b22 k0 g x1 y1 M = some (MO, vo) → At p l e (rmO 6 2 140) s m args below meth c 0 0 (MQ below (Qr G kd0 ad0 s.heap.size MO none) args s 2 140 (AS kd0 ad0 s.heap.size)) G kd ad 2 22 [(0, .ref (ad k0)), (1, .int x1)] [.int y1, .ref (ad 133)] M := by
  intro x1 y1 M hf H locs ls hI hl
  obtain ⟨hx, hb, hml, hr, hown, hts, hlk, hK, hap, hsx⟩ := id C
  unfold mX6_writeBend_b22 at hf
  obtain ⟨h5, hf⟩ := chk_s hf
  obtain ⟨M8, r7, q6, hf⟩ := cal_s hf
  refine g_callVRa hx hb hml hown hts hK hap hsx hI (tJ4_append_cf468 l  (by rw [of_decide_eq_true h5]; exact hS) hL q6 H.size) cv_J4_append_cf468 q_t5_72 rfl rfl ⟨Nat.le_of_ble_eq_true rfl, Nat.le_of_ble_eq_true rfl⟩ hS.1 (by simp) rfl rfl rfl hl.1 rfl (Nat.le_of_ble_eq_true rfl) (dc tbX6_writeBend_k 10 rfl) ⟨Nat.le_of_ble_eq_true rfl, Nat.le_of_ble_eq_true rfl⟩ (fun kd1 ad1 H locs hE1 hL1 hS1 hap1 hI => ?_)
  have e0_ : ad1 133 = ad 133 := (hE1.1 133 (by rw [hS.1]; simp)).2
  have e1_ : ad1 k0 = ad k0 := (hE1.1 k0 (by rw [hk0.1]; simp)).2
  have hl1 : lv_has ls 2 [(0, .ref (ad1 k0)), (1, .int x1)] := by simp only [e0_, e1_]; exact hl
  try simp only [← e0_, ← e1_]
  have hk0_ := kRoot_ext hk0 hE1
  have hE_ := hE.trans hE1 (Nat.le_refl _)
  have C_ := C.ext hE1 hap1
  clear hE1 e0_ e1_
  revert kd1 ad1
  intro kd ad hL hS hap hI hl hk0 hE C
  obtain ⟨hx, hb, hml, hr, hown, hts, hlk, hK, hap, hsx⟩ := id C
  refine lv_pop hx hb (dc tbX6_writeBend_k 11 rfl) rfl ?_
  refine lv_aload_n hx hb (dc tbX6_writeBend_k 12 rfl) rfl (lv_at hl 0 rfl) ?_
  refine gg6_3 hx hb hts hown hK hI hk0.1 q_t2_85 (dc tbX6_writeBend_k 13 rfl) ?_
  refine gg1_13 hx hb hts hown hK hI hk0.2.2.2.1.1 q_t1_128 (dc tbX6_writeBend_k 14 rfl) ?_
  refine lv_iload_n hx hb (dc tbX6_writeBend_k 15 rfl) rfl (lv_at hl 1 rfl) ?_
  refine lv_ishr hx hb (dc tbX6_writeBend_k 16 rfl) ?_
  refine lv_iconst (v := 1) hx hb (dc tbX6_writeBend_k 17 rfl) ic_1 ?_
  refine lv_iand hx hb (dc tbX6_writeBend_k 18 rfl) ?_
  refine lv_if_eq (tgt := 50) hx hb (dc tbX6_writeBend_k 19 rfl) rfl (fun c9 => ?_) (fun c9 => ?_)
  · have hf := ite_t c9 hf
    cases hf
    refine W.widen (k := 2) (n := 140) (Nat.le_of_ble_eq_true rfl) (Nat.le_of_ble_eq_true rfl) ?_
    exact g_vretR hx hb hr hlk hE hL hS hap hI (dc tbX6_writeBend_k 25 rfl)
  · have hf := ite_f c9 hf
    refine lv_aload_n hx hb (dc tbX6_writeBend_k 20 rfl) rfl (lv_at hl 0 rfl) ?_
    refine gg6_8 hx hb hts hown hK hI hk0.1 q_t2_90 (dc tbX6_writeBend_k 21 rfl) ?_
    refine lv_bipush (v := 42) hx hb (dc tbX6_writeBend_k 22 rfl) bp_42 ?_
    obtain ⟨M12, r11, q10, hf⟩ := cal_s hf
    refine g_callVRa hx hb hml hown hts hK hap hsx hI (tJ4_append_cf468 l  hS hL q10 H.size) cv_J4_append_cf468 q_t5_72 rfl rfl ⟨Nat.le_of_ble_eq_true rfl, Nat.le_of_ble_eq_true rfl⟩ hS.1 (by simp) rfl rfl rfl hl.1 rfl (Nat.le_of_ble_eq_true rfl) (dc tbX6_writeBend_k 23 rfl) ⟨Nat.le_of_ble_eq_true rfl, Nat.le_of_ble_eq_true rfl⟩ (fun kd1 ad1 H locs hE1 hL1 hS1 hap1 hI => ?_)
    have e0_ : ad1 133 = ad 133 := (hE1.1 133 (by rw [hS.1]; simp)).2
    have e1_ : ad1 k0 = ad k0 := (hE1.1 k0 (by rw [hk0.1]; simp)).2
    have hl1 : lv_has ls 2 [(0, .ref (ad1 k0)), (1, .int x1)] := by simp only [e0_, e1_]; exact hl
    try simp only [← e0_, ← e1_]
    have hk0_ := kRoot_ext hk0 hE1
    have hE_ := hE.trans hE1 (Nat.le_refl _)
    have C_ := C.ext hE1 hap1
    clear hE1 e0_ e1_
    revert kd1 ad1
    intro kd ad hL hS hap hI hl hk0 hE C
    obtain ⟨hx, hb, hml, hr, hown, hts, hlk, hK, hap, hsx⟩ := id C
    refine lv_pop hx hb (dc tbX6_writeBend_k 24 rfl) rfl ?_
    cases hf
    exact g_vretR hx hb hr hlk hE hL hS hap hI (dc tbX6_writeBend_k 25 rfl)
def mX6_writeBend (k0 : Nat) (x1 : Int32) (M : Mem) : Option (Mem × Unit) := cap (mX1_goesUp 5 x1 M) (fun r2 => ite2 (r2 = 0) (mX6_writeBend_b22 k0 (rd M 133 0) x1 (118 : Int32) M) (mX6_writeBend_b22 k0 (rd M 133 0) x1 (94 : Int32) M))
set_option maxHeartbeats 4000000 in
set_option maxRecDepth 100000 in
theorem tX6_writeBend (l : Launch) {G : GT} {kd : Nat → Nat × Nat} {ad : Nat → Nat} {M : Mem} {k0 : Nat} (hk0 : kRoot kd k0) (hS : Sb kd (rd M 133 0)) (hL : Low kd) {x1 : Int32} {MO : Mem} {vo : Unit} (hf : mX6_writeBend k0 x1 M = some (MO, vo)) (n : Nat) : Met l yX6_writeBend (Cond.code yX6_writeBend cX6_writeBend 2 none :: WA) (rmO 6 2 140) (Pg G kd ad n [.ref (ad k0), .int x1] M) (Qr G kd ad n MO none) 2 140 (AS kd ad n) := by
  refine g_bodyR (own := RX6) (by decide) rfl ?_ (Nat.le_of_ble_eq_true rfl)
  intro p e s m args below meth c C _ H locs ls hI hl
  obtain ⟨hx, hb, hml, hr, hown, hts, hlk, hK, hap, hsx⟩ := id C
  have hl : lv_has ls 2 [(0, .ref (ad k0)), (1, .int x1)] := hl
  have hE : Ext kd ad kd ad s.heap.size := Ext.refl
  unfold mX6_writeBend at hf
  refine lv_aload_n hx hb (dc tbX6_writeBend_k 0 rfl) rfl (lv_at hl 0 rfl) ?_
  refine gg6_8 hx hb hts hown hK hI hk0.1 q_t2_90 (dc tbX6_writeBend_k 1 rfl) ?_
  refine lv_aload_n hx hb (dc tbX6_writeBend_k 2 rfl) rfl (lv_at hl 0 rfl) ?_
  refine gg6_3 hx hb hts hown hK hI hk0.1 q_t2_85 (dc tbX6_writeBend_k 3 rfl) ?_
  refine lv_iload_n hx hb (dc tbX6_writeBend_k 4 rfl) rfl (lv_at hl 1 rfl) ?_
  obtain ⟨r2, q1, hf⟩ := cap_s hf
  refine g_callVi hx hb hml hown hts hK hap hsx hI (tX1_goesUp l hk0.2.2.2.1 q1 H.size) cv_X1_goesUp q_t5_71 rfl rfl ⟨Nat.le_of_ble_eq_true rfl, Nat.le_of_ble_eq_true rfl⟩ hk0.2.2.2.1.1 (by simp) rfl rfl rfl hl.1 rfl (Nat.le_of_ble_eq_true rfl) (dc tbX6_writeBend_k 5 rfl) ⟨Nat.le_of_ble_eq_true rfl, Nat.le_of_ble_eq_true rfl⟩ (fun H locs hI => ?_)
  refine lv_if_eq (tgt := 20) hx hb (dc tbX6_writeBend_k 6 rfl) rfl (fun c4 => ?_) (fun c4 => ?_)
  · have hf := ite_t c4 hf
    refine lv_bipush (v := 118) hx hb (dc tbX6_writeBend_k 9 rfl) bp_118 ?_
    exact tX6_writeBend_b22 C hk0 hS hL hE x1 (118 : Int32) M hf _ _ _ hI (lv_sub hl [0, 1] rfl)
  · have hf := ite_f c4 hf
    refine lv_bipush (v := 94) hx hb (dc tbX6_writeBend_k 7 rfl) bp_94 ?_
    refine lv_goto (tgt := 22) hx hb (dc tbX6_writeBend_k 8 rfl) rfl ?_
    exact tX6_writeBend_b22 C hk0 hS hL hE x1 (94 : Int32) M hf _ _ _ hI (lv_sub hl [0, 1] rfl)
theorem cv_X6_writeBend : cvF RX6 yX6_writeBend cX6_writeBend 2 none 1 := ⟨q_t5_69, q_s2_2, q_t1_1, q_t5_70, by decide +kernel⟩
def mX6_write_b97 (k0 : Nat) (g : Int32) (M : Mem) : Option (Mem × Int32) := chk (decide (rd M 133 0 = g)) (cap (mJ4_length_8abf5 M) (fun r8 => chk (decide (rd M 133 0 = g)) (some (M, r8))))
set_option maxHeartbeats 4000000 in
set_option maxRecDepth 100000 in
theorem tX6_write_b97 {p : Program} {l : Launch} {e : Env} {s : State} {m : MethodId} {args : Array Value} {below : List Frame} {meth : Method} {c : Code} {G : GT} {kd : Nat → Nat × Nat} {ad : Nat → Nat} (C : Cx p s m args meth c cX6_write 2 (some .int) RX6 G kd ad) {k0 : Nat} {g : Int32} {kd0 : Nat → Nat × Nat} {ad0 : Nat → Nat} (hk0 : kRoot kd k0) (hS : Sb kd g) (hL : Low kd) (hE : Ext kd0 ad0 kd ad s.heap.size) {MO : Mem} {vo : Int32}   : ∀  (M : Mem), mX6_write_b97 k0 g M = some (MO, vo) → At p l e (rmO 7 30 2100) s m args below meth c 30 2100 (MQ below (Qr G kd0 ad0 s.heap.size MO (some (.int vo))) args s 30 2100 (AS kd0 ad0 s.heap.size)) G kd ad 2 97 [(0, .ref (ad k0))] [] M := by
  intro M hf H locs ls hI hl
  obtain ⟨hx, hb, hml, hr, hown, hts, hlk, hK, hap, hsx⟩ := id C
  unfold mX6_write_b97 at hf
  refine lv_aload_n hx hb (dc tbX6_write_1_k 8 rfl) rfl (lv_at hl 0 rfl) ?_
  refine gg6_8 hx hb hts hown hK hI hk0.1 q_t2_90 (dc tbX6_write_1_k 9 rfl) ?_
  obtain ⟨h6, hf⟩ := chk_s hf
  obtain ⟨r8, q7, hf⟩ := cap_s hf
  refine g_callVi hx hb hml hown hts hK hap hsx hI (tJ4_length_8abf5 l  (by rw [of_decide_eq_true h6]; exact hS) q7 H.size) cv_J4_length_8abf5 q_t5_97 rfl rfl ⟨Nat.le_of_ble_eq_true rfl, Nat.le_of_ble_eq_true rfl⟩ hS.1 (by simp) rfl rfl rfl hl.1 rfl (Nat.le_of_ble_eq_true rfl) (dc tbX6_write_1_k 10 rfl) ⟨Nat.le_of_ble_eq_true rfl, Nat.le_of_ble_eq_true rfl⟩ (fun H locs hI => ?_)
  obtain ⟨h10, hf⟩ := chk_s hf
  rw [← of_decide_eq_true h10] at hS
  cases hf
  exact g_iretR hx hb hr hlk hE hL hS hap hI (dc tbX6_write_1_k 11 rfl)
def mX6_write_b61 (k0 : Nat) (g : Int32) (M : Mem) : Option (Mem × Int32) := ite2 ((rd M 5 14) ≤ 0) (mX6_write_b97 k0 g M) (chk (decide (rd M 133 0 = g)) (cal (mJ4_append_15ec4 11 M) (fun M14 _ => cap (mX1_sumOfCosts 5 M14) (fun r16 => cal (mJ4_append_bf812 r16 M14) (fun M20 _ => mX6_write_b97 k0 (rd M20 133 0) M20)))))
set_option maxHeartbeats 4000000 in
set_option maxRecDepth 100000 in
theorem tX6_write_b61 {p : Program} {l : Launch} {e : Env} {s : State} {m : MethodId} {args : Array Value} {below : List Frame} {meth : Method} {c : Code} {G : GT} {kd : Nat → Nat × Nat} {ad : Nat → Nat} (C : Cx p s m args meth c cX6_write 2 (some .int) RX6 G kd ad) {k0 : Nat} {g : Int32} {kd0 : Nat → Nat × Nat} {ad0 : Nat → Nat} (hk0 : kRoot kd k0) (hS : Sb kd g) (hL : Low kd) (hE : Ext kd0 ad0 kd ad s.heap.size) {MO : Mem} {vo : Int32}   : ∀  (M : Mem), mX6_write_b61 k0 g M = some (MO, vo) → At p l e (rmO 7 30 2100) s m args below meth c 28 1960 (MQ below (Qr G kd0 ad0 s.heap.size MO (some (.int vo))) args s 30 2100 (AS kd0 ad0 s.heap.size)) G kd ad 2 61 [(0, .ref (ad k0))] [] M := by
  intro M hf H locs ls hI hl
  obtain ⟨hx, hb, hml, hr, hown, hts, hlk, hK, hap, hsx⟩ := id C
  unfold mX6_write_b61 at hf
  refine lv_aload_n hx hb (dc tbX6_write_0_k 32 rfl) rfl (lv_at hl 0 rfl) ?_
  refine gg6_3 hx hb hts hown hK hI hk0.1 q_t2_85 (dc tbX6_write_0_k 33 rfl) ?_
  refine gg1_14 hx hb hts hown hK hI hk0.2.2.2.1.1 q_t1_130 (dc tbX6_write_0_k 34 rfl) ?_
  refine lv_if_le (tgt := 97) hx hb (dc tbX6_write_0_k 35 rfl) rfl (fun c5 => ?_) (fun c5 => ?_)
  · have hf := ite_t c5 hf
    refine W.widen (k := 30) (n := 2100) (by exact Nat.le_of_ble_eq_true rfl) (by exact Nat.le_of_ble_eq_true rfl) ?_
    exact tX6_write_b97 C hk0 hS hL hE M hf _ _ _ hI (lv_sub hl [0] rfl)
  · have hf := ite_f c5 hf
    refine lv_aload_n hx hb (dc tbX6_write_0_k 36 rfl) rfl (lv_at hl 0 rfl) ?_
    refine gg6_8 hx hb hts hown hK hI hk0.1 q_t2_90 (dc tbX6_write_0_k 37 rfl) ?_
    refine g_ldcwS (List.mem_of_getElem? (i := 0) rfl) hx hb hown hsx (dc tbX6_write_0_k 38 rfl) ?_
    obtain ⟨h11, hf⟩ := chk_s hf
    obtain ⟨M14, r13, q12, hf⟩ := cal_s hf
    refine g_callVRa hx hb hml hown hts hK hap hsx hI (tJ4_append_15ec4 l (by decide) (by rw [of_decide_eq_true h11]; exact hS) hL q12 H.size) cv_J4_append_15ec4 q_t5_96 rfl rfl ⟨Nat.le_of_ble_eq_true rfl, Nat.le_of_ble_eq_true rfl⟩ hS.1 (by simp) rfl rfl rfl hl.1 rfl (Nat.le_of_ble_eq_true rfl) (dc tbX6_write_0_k 39 rfl) ⟨Nat.le_of_ble_eq_true rfl, Nat.le_of_ble_eq_true rfl⟩ (fun kd1 ad1 H locs hE1 hL1 hS1 hap1 hI => ?_)
    have e0_ : ad1 133 = ad 133 := (hE1.1 133 (by rw [hS.1]; simp)).2
    have e1_ : ad1 k0 = ad k0 := (hE1.1 k0 (by rw [hk0.1]; simp)).2
    have hl1 : lv_has ls 2 [(0, .ref (ad1 k0))] := by simp only [e0_, e1_]; exact hl
    try simp only [← e0_, ← e1_]
    have hk0_ := kRoot_ext hk0 hE1
    have hE_ := hE.trans hE1 (Nat.le_refl _)
    have C_ := C.ext hE1 hap1
    clear hE1 e0_ e1_
    revert kd1 ad1
    intro kd ad hL hS hap hI hl hk0 hE C
    obtain ⟨hx, hb, hml, hr, hown, hts, hlk, hK, hap, hsx⟩ := id C
    refine lv_pop hx hb (dc tbX6_write_1_k 0 rfl) rfl ?_
    refine lv_aload_n hx hb (dc tbX6_write_1_k 1 rfl) rfl (lv_at hl 0 rfl) ?_
    refine gg6_8 hx hb hts hown hK hI hk0.1 q_t2_90 (dc tbX6_write_1_k 2 rfl) ?_
    refine lv_aload_n hx hb (dc tbX6_write_1_k 3 rfl) rfl (lv_at hl 0 rfl) ?_
    refine gg6_3 hx hb hts hown hK hI hk0.1 q_t2_85 (dc tbX6_write_1_k 4 rfl) ?_
    obtain ⟨r16, q15, hf⟩ := cap_s hf
    refine g_callVi hx hb hml hown hts hK hap hsx hI (tX1_sumOfCosts l hk0.2.2.2.1 q15 H.size) cv_X1_sumOfCosts q_t3_12 rfl rfl ⟨Nat.le_of_ble_eq_true rfl, Nat.le_of_ble_eq_true rfl⟩ hk0.2.2.2.1.1 (by simp) rfl rfl rfl hl.1 rfl (Nat.le_of_ble_eq_true rfl) (dc tbX6_write_1_k 5 rfl) ⟨Nat.le_of_ble_eq_true rfl, Nat.le_of_ble_eq_true rfl⟩ (fun H locs hI => ?_)
    obtain ⟨M20, r19, q18, hf⟩ := cal_s hf
    refine g_callVRa hx hb hml hown hts hK hap hsx hI (tJ4_append_bf812 l  hS hL q18 H.size) cv_J4_append_bf812 q_t5_94 rfl rfl ⟨Nat.le_of_ble_eq_true rfl, Nat.le_of_ble_eq_true rfl⟩ hS.1 (by simp) rfl rfl rfl hl.1 rfl (Nat.le_of_ble_eq_true rfl) (dc tbX6_write_1_k 6 rfl) ⟨Nat.le_of_ble_eq_true rfl, Nat.le_of_ble_eq_true rfl⟩ (fun kd1 ad1 H locs hE1 hL1 hS1 hap1 hI => ?_)
    have e0_ : ad1 133 = ad 133 := (hE1.1 133 (by rw [hS.1]; simp)).2
    have e1_ : ad1 k0 = ad k0 := (hE1.1 k0 (by rw [hk0.1]; simp)).2
    have hl1 : lv_has ls 2 [(0, .ref (ad1 k0))] := by simp only [e0_, e1_]; exact hl
    try simp only [← e0_, ← e1_]
    have hk0_ := kRoot_ext hk0 hE1
    have hE_ := hE.trans hE1 (Nat.le_refl _)
    have C_ := C.ext hE1 hap1
    clear hE1 e0_ e1_
    revert kd1 ad1
    intro kd ad hL hS hap hI hl hk0 hE C
    obtain ⟨hx, hb, hml, hr, hown, hts, hlk, hK, hap, hsx⟩ := id C
    refine lv_pop hx hb (dc tbX6_write_1_k 7 rfl) rfl ?_
    refine W.widen (k := 30) (n := 2100) (by exact Nat.le_of_ble_eq_true rfl) (by exact Nat.le_of_ble_eq_true rfl) ?_
    exact tX6_write_b97 C hk0 hS hL hE M20 hf _ _ _ hI (lv_sub hl [0] rfl)
def mX6_write_b38 (k0 : Nat) (g : Int32) (ih10 : Int32 → Int32 → Mem → Option (Mem × Int32)) (x1 : Int32) (M : Mem) : Option (Mem × Int32) := chk (okb x1 9) (chk (decide (rd M 133 0 = g)) (cal (mJ4_append_bf812 (rd M (5 + 1) (x1).toNatClampNeg) M) (fun M27 _ => bnd (x1 + (1 : Int32)) (fun x1_55 => ih10 (rd M27 133 0) x1_55 M27))))
set_option maxHeartbeats 4000000 in
set_option maxRecDepth 100000 in
theorem tX6_write_b38 {p : Program} {l : Launch} {e : Env} {s : State} {m : MethodId} {args : Array Value} {below : List Frame} {meth : Method} {c : Code} {G : GT} {kd : Nat → Nat × Nat} {ad : Nat → Nat} (C : Cx p s m args meth c cX6_write 2 (some .int) RX6 G kd ad) {k0 : Nat} {g : Int32} {kd0 : Nat → Nat × Nat} {ad0 : Nat → Nat} (hk0 : kRoot kd k0) (hS : Sb kd g) (hL : Low kd) (hE : Ext kd0 ad0 kd ad s.heap.size) {MO : Mem} {vo : Int32} {ih10 : Int32 → Int32 → Mem → Option (Mem × Int32)} (hih10 : ∀ (kd : Nat → Nat × Nat) (ad : Nat → Nat) (C : Cx p s m args meth c cX6_write 2 (some .int) RX6 G kd ad) (hk0 : kRoot kd k0) (g : Int32) (hS : Sb kd g) (hL : Low kd) (hE : Ext kd0 ad0 kd ad s.heap.size), ∀ (x1 : Int32) (M : Mem), ih10 g x1 M = some (MO, vo) → At p l e (rmO 7 30 2100) s m args below meth c (3 * (x1).toNatClampNeg + 1) (210 * (x1).toNatClampNeg + 70) (MQ below (Qr G kd0 ad0 s.heap.size MO (some (.int vo))) args s 30 2100 (AS kd0 ad0 s.heap.size)) G kd ad 2 10 [(0, .ref (ad k0)), (1, .int x1)] [] M) : ∀ (x1 : Int32) (M : Mem), mX6_write_b38 k0 g ih10 x1 M = some (MO, vo) → At p l e (rmO 7 30 2100) s m args below meth c (3 * (x1).toNatClampNeg + 3) (210 * (x1).toNatClampNeg + 210) (MQ below (Qr G kd0 ad0 s.heap.size MO (some (.int vo))) args s 30 2100 (AS kd0 ad0 s.heap.size)) G kd ad 2 38 [(0, .ref (ad k0)), (1, .int x1)] [] M := by
  intro x1 M hf H locs ls hI hl
  obtain ⟨hx, hb, hml, hr, hown, hts, hlk, hK, hap, hsx⟩ := id C
  unfold mX6_write_b38 at hf
  refine lv_aload_n hx hb (dc tbX6_write_0_k 21 rfl) rfl (lv_at hl 0 rfl) ?_
  refine gg6_8 hx hb hts hown hK hI hk0.1 q_t2_90 (dc tbX6_write_0_k 22 rfl) ?_
  refine lv_aload_n hx hb (dc tbX6_write_0_k 23 rfl) rfl (lv_at hl 0 rfl) ?_
  refine gg6_3 hx hb hts hown hK hI hk0.1 q_t2_85 (dc tbX6_write_0_k 24 rfl) ?_
  refine gg1_1 hx hb hts hown hK hI hk0.2.2.2.1.1 q_t1_107 (dc tbX6_write_0_k 25 rfl) ?_
  refine lv_iload_n hx hb (dc tbX6_write_0_k 26 rfl) rfl (lv_at hl 1 rfl) ?_
  obtain ⟨h23, hf⟩ := chk_s hf
  refine g_iald hx hb hK hI hk0.2.2.2.1.2.1 (okb_in h23) (dc tbX6_write_0_k 27 rfl) ?_
  obtain ⟨h24, hf⟩ := chk_s hf
  obtain ⟨M27, r26, q25, hf⟩ := cal_s hf
  have n8 := i_n9 h23
  refine g_callVRa hx hb hml hown hts hK hap hsx hI (tJ4_append_bf812 l  (by rw [of_decide_eq_true h24]; exact hS) hL q25 H.size) cv_J4_append_bf812 q_t5_94 rfl rfl ⟨Nat.le_of_ble_eq_true rfl, Nat.le_of_ble_eq_true rfl⟩ hS.1 (by simp) rfl rfl rfl hl.1 rfl (Nat.le_of_ble_eq_true rfl) (dc tbX6_write_0_k 28 rfl) ⟨by show (3 * (x1).toNatClampNeg + 3) + 1 ≤ 30; omega, by show (210 * (x1).toNatClampNeg + 210) + 70 ≤ 2100; omega⟩ (fun kd1 ad1 H locs hE1 hL1 hS1 hap1 hI => ?_)
  have e0_ : ad1 133 = ad 133 := (hE1.1 133 (by rw [hS.1]; simp)).2
  have e1_ : ad1 k0 = ad k0 := (hE1.1 k0 (by rw [hk0.1]; simp)).2
  have hl1 : lv_has ls 2 [(0, .ref (ad1 k0)), (1, .int x1)] := by simp only [e0_, e1_]; exact hl
  try simp only [← e0_, ← e1_]
  have hk0_ := kRoot_ext hk0 hE1
  have hE_ := hE.trans hE1 (Nat.le_refl _)
  have C_ := C.ext hE1 hap1
  clear hE1 e0_ e1_
  revert kd1 ad1
  intro kd ad hL hS hap hI hl hk0 hE C
  obtain ⟨hx, hb, hml, hr, hown, hts, hlk, hK, hap, hsx⟩ := id C
  refine lv_pop hx hb (dc tbX6_write_0_k 29 rfl) rfl ?_
  obtain ⟨x1_55, e28, hf⟩ := bnd_s hf
  refine lv_iinc (v := x1_55) (lv' := [(1, .int x1_55), (0, .ref (ad k0))]) hx hb (dc tbX6_write_0_k 30 rfl) hl (k := 1) rfl (ii_e e28 ic_1) (by decide) rfl (fun ls hl => ?_)
  refine lv_goto (tgt := 10) hx hb (dc tbX6_write_0_k 31 rfl) rfl ?_
  have q9 : (x1_55).toNatClampNeg = (x1).toNatClampNeg + 1 := by rw [e28]; exact i_s9 h23
  refine W.widen (k := (3 * (x1_55).toNatClampNeg + 1)) (n := (210 * (x1_55).toNatClampNeg + 70)) (by omega) (by omega) ?_
  exact hih10 kd ad C hk0 (rd M27 133 0) hS hL hE x1_55 M27 hf _ _ _ hI (lv_sub hl [1, 0] rfl)
def mX6_write_b10 (k0 : Nat) (g : Int32) (ih10 : Int32 → Int32 → Mem → Option (Mem × Int32)) (x1 : Int32) (M : Mem) : Option (Mem × Int32) := chk (decide ((x1).toNatClampNeg ≤ 9)) (ite2 ((rd M 5 0) ≤ x1) (mX6_write_b61 k0 g M) (ite2 ((9 : Int32) ≤ x1) (mX6_write_b61 k0 g M) (ite2 (x1 ≤ 0) (mX6_write_b38 k0 g ih10 x1 M) (chk (decide (rd M 133 0 = g)) (cal (mX6_writeBend k0 (x1 - (1 : Int32)) M) (fun M32 _ => mX6_write_b38 k0 (rd M32 133 0) ih10 x1 M32))))))
set_option maxHeartbeats 4000000 in
set_option maxRecDepth 100000 in
theorem tX6_write_b10 {p : Program} {l : Launch} {e : Env} {s : State} {m : MethodId} {args : Array Value} {below : List Frame} {meth : Method} {c : Code} {G : GT} {kd : Nat → Nat × Nat} {ad : Nat → Nat} (C : Cx p s m args meth c cX6_write 2 (some .int) RX6 G kd ad) {k0 : Nat} {g : Int32} {kd0 : Nat → Nat × Nat} {ad0 : Nat → Nat} (hk0 : kRoot kd k0) (hS : Sb kd g) (hL : Low kd) (hE : Ext kd0 ad0 kd ad s.heap.size) {MO : Mem} {vo : Int32} {ih10 : Int32 → Int32 → Mem → Option (Mem × Int32)} (hih10 : ∀ (kd : Nat → Nat × Nat) (ad : Nat → Nat) (C : Cx p s m args meth c cX6_write 2 (some .int) RX6 G kd ad) (hk0 : kRoot kd k0) (g : Int32) (hS : Sb kd g) (hL : Low kd) (hE : Ext kd0 ad0 kd ad s.heap.size), ∀ (x1 : Int32) (M : Mem), ih10 g x1 M = some (MO, vo) → At p l e (rmO 7 30 2100) s m args below meth c (3 * (x1).toNatClampNeg + 1) (210 * (x1).toNatClampNeg + 70) (MQ below (Qr G kd0 ad0 s.heap.size MO (some (.int vo))) args s 30 2100 (AS kd0 ad0 s.heap.size)) G kd ad 2 10 [(0, .ref (ad k0)), (1, .int x1)] [] M) : ∀ (x1 : Int32) (M : Mem), mX6_write_b10 k0 g ih10 x1 M = some (MO, vo) → At p l e (rmO 7 30 2100) s m args below meth c (3 * (x1).toNatClampNeg + 1) (210 * (x1).toNatClampNeg + 70) (MQ below (Qr G kd0 ad0 s.heap.size MO (some (.int vo))) args s 30 2100 (AS kd0 ad0 s.heap.size)) G kd ad 2 10 [(0, .ref (ad k0)), (1, .int x1)] [] M := by
  intro x1 M hf H locs ls hI hl
  obtain ⟨hx, hb, hml, hr, hown, hts, hlk, hK, hap, hsx⟩ := id C
  unfold mX6_write_b10 at hf
  obtain ⟨hc9, hf⟩ := chk_s hf
  have hc9 := of_decide_eq_true hc9
  refine lv_iload_n hx hb (dc tbX6_write_0_k 6 rfl) rfl (lv_at hl 1 rfl) ?_
  refine lv_aload_n hx hb (dc tbX6_write_0_k 7 rfl) rfl (lv_at hl 0 rfl) ?_
  refine gg6_3 hx hb hts hown hK hI hk0.1 q_t2_85 (dc tbX6_write_0_k 8 rfl) ?_
  refine gg1_0 hx hb hts hown hK hI hk0.2.2.2.1.1 q_t1_104 (dc tbX6_write_0_k 9 rfl) ?_
  refine lv_icmp_ge (tgt := 61) hx hb (dc tbX6_write_0_k 10 rfl) rfl (fun c4 => ?_) (fun c4 => ?_)
  · have hf := ite_t c4 hf
    refine W.widen (k := 28) (n := 1960) (by omega) (by omega) ?_
    exact tX6_write_b61 C hk0 hS hL hE M hf _ _ _ hI (lv_sub hl [0] rfl)
  · have hf := ite_f c4 hf
    refine lv_iload_n hx hb (dc tbX6_write_0_k 11 rfl) rfl (lv_at hl 1 rfl) ?_
    refine lv_bipush (v := 9) hx hb (dc tbX6_write_0_k 12 rfl) bp_9 ?_
    refine lv_icmp_ge (tgt := 61) hx hb (dc tbX6_write_0_k 13 rfl) rfl (fun c21 => ?_) (fun c21 => ?_)
    · have hf := ite_t c21 hf
      refine W.widen (k := 28) (n := 1960) (by omega) (by omega) ?_
      exact tX6_write_b61 C hk0 hS hL hE M hf _ _ _ hI (lv_sub hl [0] rfl)
    · have hf := ite_f c21 hf
      refine lv_iload_n hx hb (dc tbX6_write_0_k 14 rfl) rfl (lv_at hl 1 rfl) ?_
      refine lv_if_le (tgt := 38) hx hb (dc tbX6_write_0_k 15 rfl) rfl (fun c22 => ?_) (fun c22 => ?_)
      · have hf := ite_t c22 hf
        refine W.widen (k := (3 * (x1).toNatClampNeg + 3)) (n := (210 * (x1).toNatClampNeg + 210)) (by omega) (by omega) ?_
        exact tX6_write_b38 C hk0 hS hL hE hih10 x1 M hf _ _ _ hI (lv_sub hl [0, 1] rfl)
      · have hf := ite_f c22 hf
        refine lv_aload_n hx hb (dc tbX6_write_0_k 16 rfl) rfl (lv_at hl 0 rfl) ?_
        refine lv_iload_n hx hb (dc tbX6_write_0_k 17 rfl) rfl (lv_at hl 1 rfl) ?_
        refine lv_iconst (v := 1) hx hb (dc tbX6_write_0_k 18 rfl) ic_1 ?_
        refine lv_isub hx hb (dc tbX6_write_0_k 19 rfl) ?_
        obtain ⟨h29, hf⟩ := chk_s hf
        obtain ⟨M32, r31, q30, hf⟩ := cal_s hf
        refine g_callVRv hx hb hml hown hts hK hap hsx hI (tX6_writeBend l hk0 (by rw [of_decide_eq_true h29]; exact hS) hL q30 H.size) cv_X6_writeBend q_t5_67 rfl rfl ⟨Nat.le_of_ble_eq_true rfl, Nat.le_of_ble_eq_true rfl⟩ hk0.1 (by simp) rfl rfl rfl hl.1 rfl (Nat.le_of_ble_eq_true rfl) (dc tbX6_write_0_k 20 rfl) ⟨by show (3 * (x1).toNatClampNeg + 1) + 2 ≤ 30; omega, by show (210 * (x1).toNatClampNeg + 70) + 140 ≤ 2100; omega⟩ (fun kd1 ad1 H locs hE1 hL1 hS1 hap1 hI => ?_)
        have e0_ : ad1 k0 = ad k0 := (hE1.1 k0 (by rw [hk0.1]; simp)).2
        have e9_ : ad1 133 = ad 133 := (hE1.1 133 (by rw [hS.1]; simp)).2
        have hl1 : lv_has ls 2 [(0, .ref (ad1 k0)), (1, .int x1)] := by simp only [e0_, e9_]; exact hl
        try simp only [← e0_, ← e9_]
        have hk0_ := kRoot_ext hk0 hE1
        have hE_ := hE.trans hE1 (Nat.le_refl _)
        have C_ := C.ext hE1 hap1
        clear hE1 e0_ e9_
        revert kd1 ad1
        intro kd ad hL hS hap hI hl hk0 hE C
        obtain ⟨hx, hb, hml, hr, hown, hts, hlk, hK, hap, hsx⟩ := id C
        refine W.widen (k := (3 * (x1).toNatClampNeg + 3)) (n := (210 * (x1).toNatClampNeg + 210)) (by omega) (by omega) ?_
        exact tX6_write_b38 C hk0 hS hL hE hih10 x1 M32 hf _ _ _ hI (lv_sub hl [0, 1] rfl)
def mX6_write_l10 (k0 : Nat) : Nat → Int32 → Int32 → Mem → Option (Mem × Int32)
  | 0 => fun _ _ _ => none
  | n + 1 => fun g x1 M => mX6_write_b10 k0 g (mX6_write_l10 k0 n) x1 M 
theorem tX6_write_l10 {p : Program} {l : Launch} {e : Env} {s : State} {m : MethodId} {args : Array Value} {below : List Frame} {meth : Method} {c : Code} {G : GT} {k0 : Nat} {kd0 : Nat → Nat × Nat} {ad0 : Nat → Nat} {MO : Mem} {vo : Int32} : ∀ (fuel : Nat) (kd : Nat → Nat × Nat) (ad : Nat → Nat) (C : Cx p s m args meth c cX6_write 2 (some .int) RX6 G kd ad) (hk0 : kRoot kd k0) (g : Int32) (hS : Sb kd g) (hL : Low kd) (hE : Ext kd0 ad0 kd ad s.heap.size) (x1 : Int32) (M : Mem), mX6_write_l10 k0 fuel g x1 M = some (MO, vo) → At p l e (rmO 7 30 2100) s m args below meth c (3 * (x1).toNatClampNeg + 1) (210 * (x1).toNatClampNeg + 70) (MQ below (Qr G kd0 ad0 s.heap.size MO (some (.int vo))) args s 30 2100 (AS kd0 ad0 s.heap.size)) G kd ad 2 10 [(0, .ref (ad k0)), (1, .int x1)] [] M := by
  intro fuel
  induction fuel with
  | zero => intro kd ad C hk0 g hS hL hE x1 M hf; cases hf
  | succ n IH => intro kd ad C hk0 g hS hL hE; exact tX6_write_b10 C hk0 hS hL hE IH
def mX6_write (k0 : Nat) (M : Mem) : Option (Mem × Int32) := cal (mJ4_setLength_d00df (0 : Int32) M) (fun M3 _ => mX6_write_l10 k0 5000 (rd M3 133 0) (0 : Int32) M3)
set_option maxHeartbeats 4000000 in
set_option maxRecDepth 100000 in
theorem tX6_write (l : Launch) {G : GT} {kd : Nat → Nat × Nat} {ad : Nat → Nat} {M : Mem} {k0 : Nat} (hk0 : kRoot kd k0) (hS : Sb kd (rd M 133 0)) (hL : Low kd) {MO : Mem} {vo : Int32} (hf : mX6_write k0 M = some (MO, vo)) (n : Nat) : Met l yX6_write (Cond.code yX6_write cX6_write 2 (some .int) :: WA) (rmO 7 30 2100) (Pg G kd ad n [.ref (ad k0)] M) (Qr G kd ad n MO (some (.int vo))) 30 2100 (AS kd ad n) := by
  refine g_bodyR (own := RX6) (by decide) rfl ?_ (Nat.le_of_ble_eq_true rfl)
  intro p e s m args below meth c C _ H locs ls hI hl
  obtain ⟨hx, hb, hml, hr, hown, hts, hlk, hK, hap, hsx⟩ := id C
  have hl : lv_has ls 2 [(0, .ref (ad k0))] := hl
  have hE : Ext kd ad kd ad s.heap.size := Ext.refl
  unfold mX6_write at hf
  refine lv_aload_n hx hb (dc tbX6_write_0_k 0 rfl) rfl (lv_at hl 0 rfl) ?_
  refine gg6_8 hx hb hts hown hK hI hk0.1 q_t2_90 (dc tbX6_write_0_k 1 rfl) ?_
  refine lv_iconst (v := 0) hx hb (dc tbX6_write_0_k 2 rfl) ic_0 ?_
  obtain ⟨M3, r2, q1, hf⟩ := cal_s hf
  refine g_callVRv hx hb hml hown hts hK hap hsx hI (tJ4_setLength_d00df l  hS hL q1 H.size) cv_J4_setLength_d00df q_t3_209 rfl rfl ⟨Nat.le_of_ble_eq_true rfl, Nat.le_of_ble_eq_true rfl⟩ hS.1 (by simp) rfl rfl rfl hl.1 rfl (Nat.le_of_ble_eq_true rfl) (dc tbX6_write_0_k 3 rfl) ⟨Nat.le_of_ble_eq_true rfl, Nat.le_of_ble_eq_true rfl⟩ (fun kd1 ad1 H locs hE1 hL1 hS1 hap1 hI => ?_)
  have e0_ : ad1 k0 = ad k0 := (hE1.1 k0 (by rw [hk0.1]; simp)).2
  have e9_ : ad1 133 = ad 133 := (hE1.1 133 (by rw [hS.1]; simp)).2
  have hl1 : lv_has ls 2 [(0, .ref (ad1 k0))] := by simp only [e0_, e9_]; exact hl
  try simp only [← e0_, ← e9_]
  have hk0_ := kRoot_ext hk0 hE1
  have hE_ := hE.trans hE1 (Nat.le_refl _)
  have C_ := C.ext hE1 hap1
  clear hE1 e0_ e9_
  revert kd1 ad1
  intro kd ad hL hS hap hI hl hk0 hE C
  obtain ⟨hx, hb, hml, hr, hown, hts, hlk, hK, hap, hsx⟩ := id C
  refine lv_iconst (v := 0) hx hb (dc tbX6_write_0_k 4 rfl) ic_0 ?_
  refine lv_istore_n (lv' := [(1, .int (0 : Int32)), (0, .ref (ad k0))]) hx hb (dc tbX6_write_0_k 5 rfl) rfl hl (by decide) rfl (fun ls hl => ?_)
  refine W.widen (k := (3 * ((0 : Int32)).toNatClampNeg + 1)) (n := (210 * ((0 : Int32)).toNatClampNeg + 70)) (by omega) (by omega) ?_
  exact tX6_write_l10 5000 kd ad C hk0 (rd M3 133 0) hS hL hE (0 : Int32) M3 hf _ _ _ hI (lv_sub hl [1, 0] rfl)
theorem cv_X6_write : cvF RX6 yX6_write cX6_write 2 (some .int) 0 := ⟨q_t3_206, q_t3_207, q_t1_1, q_t3_208, by decide +kernel⟩
def mX6_written_b15 (k0 : Nat) (g : Int32) (M : Mem) : Option (Mem × (Int32 ⊕ Nat)) := some (M, Sum.inr 1)
set_option maxHeartbeats 4000000 in
set_option maxRecDepth 100000 in
theorem tX6_written_b15 {p : Program} {l : Launch} {e : Env} {s : State} {m : MethodId} {args : Array Value} {below : List Frame} {meth : Method} {c : Code} {G : GT} {kd : Nat → Nat × Nat} {ad : Nat → Nat} (C : Cx p s m args meth c cX6_written 2 (some .char) RX6 G kd ad) (hst : l.stackTraces = false) (htb : ∀ x ∈ c.exceptionTable.toList, False) {k0 : Nat} {g : Int32} (hk0 : kRoot kd k0) (hS : Sb kd g) {MO : Mem} {vo : Int32 ⊕ Nat}   : ∀  (M : Mem), mX6_written_b15 k0 g M = some (MO, vo) → At p l e (rmO 4 1 6) s m args below meth c 0 0 (XQ G kd ad below args s MO (zi vo) 1 6) G kd ad 2 15 [] [] M := by
  intro M hf H locs ls hI hl
  obtain ⟨hx, hb, hml, hr, hown, hts, hlk, hK, hap, hsx⟩ := id C
  unfold mX6_written_b15 at hf
  cases hf
  exact x_throw (text := "there is no such character") (e9 := 1) true hx hb hst hml hown hts hlk hsx htb (by decide +kernel) fit_n q_t6_19 q_t1_21 (by decide +kernel) at_ioo nb_ioo gd_ioo_176 rfl hI hl.1 (dc tbX6_written_k 7 rfl) (dc tbX6_written_k 8 rfl) (dc tbX6_written_k 9 rfl) (dc tbX6_written_k 10 rfl) (dc tbX6_written_k 11 rfl) (Nat.le_of_ble_eq_true rfl) (Nat.le_of_ble_eq_true rfl) ⟨Nat.le_of_ble_eq_true rfl, Nat.le_of_ble_eq_true rfl⟩ (Nat.le_of_ble_eq_true rfl) (Nat.le_of_ble_eq_true rfl)
def mX6_written (k0 : Nat) (x1 : Int32) (M : Mem) : Option (Mem × (Int32 ⊕ Nat)) := ite2 (x1 < 0) (mX6_written_b15 k0 (rd M 133 0) M) (cap (mJ4_length_8abf5 M) (fun r3 => ite2 (x1 < r3) (cap (mJ4_charAt_5068e x1 M) (fun r7 => chk (isC r7) (some (M, Sum.inl r7)))) (mX6_written_b15 k0 (rd M 133 0) M)))
set_option maxHeartbeats 4000000 in
set_option maxRecDepth 100000 in
theorem tX6_written (l : Launch) (hst : l.stackTraces = false) {G : GT} {kd : Nat → Nat × Nat} {ad : Nat → Nat} {M : Mem} {k0 : Nat} (hk0 : kRoot kd k0) (hS : Sb kd (rd M 133 0)) {x1 : Int32} {MO : Mem} {vo : Int32 ⊕ Nat} (hf : mX6_written k0 x1 M = some (MO, vo)) (n : Nat) : vx_Met l yX6_written (Cond.code yX6_written cX6_written 2 (some .char) :: WA) (rmO 4 1 6) (Pg G kd ad n [.ref (ad k0), .int x1] M) (Qx G kd ad n MO (zi vo)) (Xx G kd ad n MO (zi vo)) 1 6 (AS kd ad n) := by
  refine g_bodyX (own := RX6) (by decide) rfl ?_ (Nat.le_of_ble_eq_true rfl)
  intro p e s m args below meth c C htb _ H locs ls hI hl
  obtain ⟨hx, hb, hml, hr, hown, hts, hlk, hK, hap, hsx⟩ := id C
  have hl : lv_has ls 2 [(0, .ref (ad k0)), (1, .int x1)] := hl
  unfold mX6_written at hf
  refine lv_iload_n hx hb (dc tbX6_written_k 0 rfl) rfl (lv_at hl 1 rfl) ?_
  refine lv_if_lt (tgt := 15) hx hb (dc tbX6_written_k 1 rfl) rfl (fun c1 => ?_) (fun c1 => ?_)
  · have hf := ite_t c1 hf
    exact tX6_written_b15 C hst htb hk0 hS M hf _ _ _ hI (lv_sub hl [] rfl)
  · have hf := ite_f c1 hf
    refine lv_iload_n hx hb (dc tbX6_written_k 2 rfl) rfl (lv_at hl 1 rfl) ?_
    refine lv_aload_n hx hb (dc tbX6_written_k 3 rfl) rfl (lv_at hl 0 rfl) ?_
    refine gg6_8 hx hb hts hown hK hI hk0.1 q_t2_90 (dc tbX6_written_k 4 rfl) ?_
    obtain ⟨r3, q2, hf⟩ := cap_s hf
    refine g_callVi hx hb hml hown hts hK hap hsx hI (tJ4_length_8abf5 l  hS q2 H.size) cv_J4_length_8abf5 q_t5_97 rfl rfl ⟨Nat.le_of_ble_eq_true rfl, Nat.le_of_ble_eq_true rfl⟩ hS.1 (by simp) rfl rfl rfl hl.1 rfl (Nat.le_of_ble_eq_true rfl) (dc tbX6_written_k 5 rfl) ⟨Nat.le_of_ble_eq_true rfl, Nat.le_of_ble_eq_true rfl⟩ (fun H locs hI => ?_)
    refine lv_icmp_lt (tgt := 26) hx hb (dc tbX6_written_k 6 rfl) rfl (fun c5 => ?_) (fun c5 => ?_)
    · have hf := ite_t c5 hf
      refine lv_aload_n hx hb (dc tbX6_written_k 12 rfl) rfl (lv_at hl 0 rfl) ?_
      refine gg6_8 hx hb hts hown hK hI hk0.1 q_t2_90 (dc tbX6_written_k 13 rfl) ?_
      refine lv_iload_n hx hb (dc tbX6_written_k 14 rfl) rfl (lv_at hl 1 rfl) ?_
      obtain ⟨r7, q6, hf⟩ := cap_s hf
      refine g_callVi hx hb hml hown hts hK hap hsx hI (tJ4_charAt_5068e l  hS q6 H.size) cv_J4_charAt_5068e q_t7_49 rfl rfl ⟨Nat.le_of_ble_eq_true rfl, Nat.le_of_ble_eq_true rfl⟩ hS.1 (by simp) rfl rfl rfl hl.1 rfl (Nat.le_of_ble_eq_true rfl) (dc tbX6_written_k 15 rfl) ⟨Nat.le_of_ble_eq_true rfl, Nat.le_of_ble_eq_true rfl⟩ (fun H locs hI => ?_)
      obtain ⟨h9, hf⟩ := chk_s hf
      cases hf
      refine W.widen (k := 1) (n := 6) (Nat.le_of_ble_eq_true rfl) (Nat.le_of_ble_eq_true rfl) ?_
      exact x_ret (g_zret hx hb hr hlk hI (isC_n h9) (dc tbX6_written_k 16 rfl))
    · have hf := ite_f c5 hf
      exact tX6_written_b15 C hst htb hk0 hS M hf _ _ _ hI (lv_sub hl [] rfl)
theorem cv_X6_written : cvF RX6 yX6_written cX6_written 2 (some .char) 1 := ⟨q_t7_45, q_t7_46, q_t1_1, q_t7_47, by decide +kernel⟩
end
/-! part 34.catch -/
section
/-! methods with a table of handlers -/
def Nc (s : State) : Prop := va_Nc "java/lang/IllegalArgumentException" "java/lang/IndexOutOfBoundsException" s ∧ va_Nc "java/lang/IllegalStateException" "java/lang/IndexOutOfBoundsException" s ∧ va_Nc "java/lang/IllegalStateException" "java/lang/IllegalArgumentException" s
theorem Nc.moved {u U : State} (hvm : u.vm.Alike U.vm) (h : Nc u) : Nc U := ⟨va_Nc.moved hvm h.1, va_Nc.moved hvm h.2.1, va_Nc.moved hvm h.2.2⟩
def Pn (G : GT) (kd : Nat → Nat × Nat) (ad : Nat → Nat) (sz : Nat) (av : List Value) (M : Mem) : Array Value → State → Prop := fun a U => Pg G kd ad sz av M a U ∧ Nc U
theorem pn_blind {G : GT} {kd : Nat → Nat × Nat} {ad : Nat → Nat} {sz : Nat} {av : List Value} {M : Mem} : FrameBlind (Pn G kd ad sz av M) := by
  intro a U g mk ⟨h1, h2⟩
  exact ⟨pg_blind a U g mk h1, Nc.moved (u := U) (U := U.calling g mk a) (Vm.Alike.refl U.vm) h2⟩
def calt {ρ β : Type} (x : Option (Mem × (ρ ⊕ Nat))) (k : Mem → ρ → Option β) (h : Mem → Nat → Option β) : Option β := match x with
  | none => none
  | some (M, .inl r) => k M r
  | some (M, .inr e) => h M e
theorem calt_s {ρ β : Type} {x : Option (Mem × (ρ ⊕ Nat))} {k : Mem → ρ → Option β} {h : Mem → Nat → Option β} {y : β} (hf : calt x k h = some y) : (∃ M r, x = some (M, .inl r) ∧ k M r = some y) ∨ ∃ M e, x = some (M, .inr e) ∧ h M e = some y := by
  match x, hf with
  | some (M, .inl r), hf => exact Or.inl ⟨M, r, rfl, hf⟩
  | some (M, .inr e), hf => exact Or.inr ⟨M, e, rfl, hf⟩
section GC
variable {p : Program} {l : Launch} {e : Env} {R : Room} {s : State} {m : MethodId} {args : Array Value} {below : List Frame} {meth : Method} {c : Code} {H : Heap} {locs : List Loc} {cells slots : Nat} {Q : State → Prop}
variable {cc : ByteArray} {pc : Nat} {ls : Array Slot} {rest : List Value} {G : GT} {kd : Nat → Nat × Nat} {ad : Nat → Nat} {M : Mem} {H0 : Heap}
theorem x_callC {st0 : List Value} {a : Array Value} {mc ms : Nat} {M' : Mem} {e9 : Nat} {own E : String} {hh : List (Nat × Nat × Nat × Nat)} (hr : vx_Run p l e R s m args below meth c H locs cells slots mc ms (F0 m pc ls st0) rest (Qx G kd ad H.size M' (.inr e9) a) (Xx G kd ad H.size M' (.inr e9)) (AS kd ad H.size)) (hI : Inv G kd ad s.heap M H locs)
    (hown : s.vm.findClass own = some m.cls) (hts : ∀ w ∈ WA, w.before args s = true) (hsx : Sx G (AS kd ad s.heap.size) s s.heap) (hE : exN e9 = E) (htb : c.exceptionTable.toList = tableOf hh) (pre : List ExceptionTableEntry) (x : ExceptionTableEntry) (suf : List ExceptionTableEntry) (hsplit : tableOf hh = pre ++ x :: suf)
    (hpass : ∀ z ∈ pre, z.catchType ≠ 0 ∧ ∃ nm : String, Cond.classLink own z.catchType nm ∈ WA ∧ va_Nc E nm s) (hx : covers x pc = true) (h0 : x.catchType ≠ 0) (hlink : Cond.classLink own x.catchType E ∈ WA) (hcast : Cond.castable E E ∈ sxW) {hp : Nat} (hhp : x.handlerPc = hp)
    (kk : ∀ (q : Nat) (H1 : Heap) (locs1 : List Loc), Inv G kd ad s.heap M' H1 locs1 → W p l e R s m args below meth c H1 locs1 (cells + mc) (slots + ms) Q (F0 m hp ls [.ref q])) : W p l e R s m args below meth c H locs cells slots Q (F0 m pc ls st0) := by
  subst hE; subst hhp
  intro T hT X
  rcases hr T hT X with ⟨v', st₀, t, T', L, h0, X', hL, e1, e2, ⟨v2, hz, -⟩, st⟩ | ⟨q, st₀, t, T', L, E, ce, h0', X', hL, e1, e2, ⟨e3, hz, hE, hw, hF⟩, hce, hcv, hcl, st⟩
  · cases hz
  · cases hz
    subst hE
    obtain ⟨k1, k2, k3⟩ := vx_keep h0' e1 hI.2 (fun q hq h => AS.old hq h) (fun q h => AS.mono hI.2.1 h) hL hF
    obtain ⟨t2, a1, b1⟩ := vx_catch (H := T'.heap) (rest := rest) (pc := pc) (ls := ls) hown pre x suf (htb.trans hsplit) (fun z hz => Or.inr (by obtain ⟨q1, nm, q2, q3⟩ := hpass z hz; exact ⟨q1, nm, hts _ q2, q3⟩)) hx h0 (hts _ hlink) (va_any (sxW_on _ hcast) (hsx.2.2.2.1.1 _ hcast)) (show T'.heap[q]? = some ce by rw [e1]; exact hce) hcv hcl (kk q T'.heap (locs ++ L) ⟨by rw [e1]; exact hw, k3⟩) T' rfl X'
    exact ⟨t2, st.trans a1, b1⟩
theorem g_bodyXH {y : MethodName} {bytes : ByteArray} {maxL mc ms n : Nat} {ret : Option FieldType} {own : String} {As : List Value} {M' : Mem} {z : Option Value ⊕ Nat} {d : Nat} {hh : List (Nat × Nat × Nat × Nat)} (hy : plainName y.cls = true) (hyo : y.cls = own)
    (body : ∀ p e s m args below meth c, Cx p s m args meth c bytes maxL ret own G kd ad → c.exceptionTable.toList = tableOf hh → Nc s → s.heap.size = n → At p l e (rmO d mc ms) s m args below meth c 0 0 (XQ G kd ad below args s M' z mc ms) G kd ad maxL 0 (lv_args 0 As) [] M) (hlen : (lg_sl As).length ≤ maxL) :
    vx_Met l y (Cond.codeWith y bytes maxL ret hh :: WA) (rmO d mc ms) (Pn G kd ad n As M) (Qx G kd ad n M' z) (Xx G kd ad n M' z) mc ms (AS kd ad n) := by
  refine vx_ofWH (cc := bytes) (maxL := maxL) (ret := ret) (hh := hh) hy rfl ?_
  intro p e s m args below meth c s₁ B hml hv
  obtain ⟨⟨rfl, hsz, hw, hap, hK, hsx⟩, hnc⟩ := hv
  have hts := atoms_spec (ws := Cond.codeWith y bytes maxL ret hh :: WA) B.pre
  have htb := vx_table (x := y) B (hts _ List.mem_cons_self)
  have hown : s.vm.findClass own = some m.cls := hyo ▸ findClass_of_methodNamed B.named
  subst hsz
  have hl := lv_entry As (n := maxL) hlen
  rw [lg_entry_eq]
  generalize (lg_sl As ++ List.replicate (maxL - (lg_sl As).length) Slot.unset).toArray = ls at hl ⊢
  exact body p e s m _ below meth c ⟨B.exec, B.bytes, hml, B.returns, hown, fun w h => hts w (List.mem_cons_of_mem _ h), B.notSynchronized, hK, hap, hsx⟩ htb hnc rfl _ _ ls ⟨hw, va_S.rf⟩ hl
/-- a static call of such a method -/
theorem g_runH {y : MethodName} {bytes : ByteArray} {maxL nL mc ms n index : Nat} {ret : Option FieldType} {rm : Room} {own : String} {As : List Value} {M' : Mem} {z : Option Value ⊕ Nat} {hh : List (Nat × Nat × Nat × Nat)} (hx : p.tables.exec = Jvm.exec) (hb : c.code = cc) (hml : c.maxLocals = nL) (hown : s.vm.findClass own = some m.cls) (hts : ∀ w ∈ WA, w.before args s = true) (hK : va_K G.1 vwCl (tyL G) s) (hap : Apt kd ad) (hsx : Sx G (AS kd ad s.heap.size) s s.heap) (hnc : Nc s) (hI : Inv G kd ad s.heap M H locs)
    (hM : vx_Met l y (Cond.codeWith y bytes maxL ret hh :: WA) rm (Pn G kd ad H.size As M) (Qx G kd ad H.size M' z) (Xx G kd ad H.size M' z) mc ms (AS kd ad H.size)) (hcs : Cond.static y ∈ WA ∧ Cond.initialized y.cls ∈ WA ∧ Cond.codeWith y bytes maxL ret hh ∈ WA ∧ (y.cls ≠ "java/lang/invoke/MethodHandle" ∧ y.cls ≠ "java/lang/invoke/VarHandle" ∧ (parseMethodDescriptor y.desc).map (fun d => d.parameters.length) = some n)) (hl : Cond.methodLink own index y ∈ WA) (hrc : rm.cells = mc) (hrs : rm.slots = ms) (hR : rm.frames + 1 ≤ R.frames ∧ 8 + (maxL + 11) + rm.locals ≤ R.locals)
    (hn : As.length = n) (hsize : ls.size = nL) {st : List Value} (hst : st = As.reverse ++ rest) (hW : (rest.map fun v => v.category).sum ≤ 8) (hdg : decode cc pc = .ok (.invokestatic index, 3)) (hf : cells + mc ≤ R.cells ∧ slots + ms ≤ R.slots) :
    vx_Run p l e R s m args below meth c H locs cells slots mc ms (F0 m pc ls st) rest (Qx G kd ad H.size M' z As.toArray) (Xx G kd ad H.size M' z) (AS kd ad H.size) := by
  subst hst
  obtain ⟨c1, c3, c4, c5⟩ := hcs
  have hG : GoodIn WA (va_wsS own index y (Cond.codeWith y bytes maxL ret hh :: WA)) := fun w h => by
    have : w ∈ WA := by
      rcases List.mem_append.mp h with h | h
      · simp only [List.mem_cons, List.not_mem_nil, or_false] at h
        rcases h with rfl | rfl | rfl
        · exact hl
        · exact c1
        · exact c3
      · exact (List.mem_cons.mp h).elim (fun q => by rw [q]; exact c4) id
    exact ⟨this, wa_good w this⟩
  exact vx_runSX (As := As) (rest := rest) ⟨hx, hb, hml, hown, hts⟩ hM (vx_cwSW n hts hG rfl hrc hrs c5 hR) ⟨pn_blind, fun U hU hW => ⟨pg_of hap hK hsx hI hU hW, hnc.moved hW.alike⟩⟩ rfl hn hsize rfl (lv_room hW) hdg hf
end GC
end
/-! part 35.words4 -/
section
theorem q_t1_0 : (Cond.initialized "SheetFolderLaw") ∈ WA := wa_q tbl_1 0 rfl rfl
theorem q_t5_99 : (Cond.static ⟨"SheetFolderLaw", "load", "(LSheetFolder;I[J)I"⟩) ∈ WA := wa_q tbl_5 99 rfl rfl
theorem q_t5_100 : (Cond.codeWith ⟨"SheetFolderLaw", "load", "(LSheetFolder;I[J)I"⟩ method_3_code 4 (some .int) [(0, 9, 12, 13)]) ∈ WA := wa_q tbl_5 100 rfl rfl
theorem q_t5_101 : (Cond.classLink "SheetFolderLaw" 13 "java/lang/IllegalArgumentException") ∈ WA := wa_q tbl_5 101 rfl rfl
theorem q_t5_102 : (Cond.methodLink "SheetFolderLaw" 7 ⟨"SheetFolder", "load", "(I)I"⟩) ∈ WA := wa_q tbl_5 102 rfl rfl
theorem q_t6_8 : (Cond.static ⟨"SheetFolderLaw", "leg", "(LSheetFolder;I[J)I"⟩) ∈ WA := wa_q tbl_6 8 rfl rfl
theorem q_t6_9 : (Cond.codeWith ⟨"SheetFolderLaw", "leg", "(LSheetFolder;I[J)I"⟩ method_4_code 4 (some .int) [(0, 9, 12, 18)]) ∈ WA := wa_q tbl_6 9 rfl rfl
theorem q_t6_10 : (Cond.classLink "SheetFolderLaw" 18 "java/lang/IndexOutOfBoundsException") ∈ WA := wa_q tbl_6 10 rfl rfl
theorem q_t6_11 : (Cond.methodLink "SheetFolderLaw" 15 ⟨"SheetFolder", "leg", "(I)I"⟩) ∈ WA := wa_q tbl_6 11 rfl rfl
theorem q_t6_33 : (Cond.static ⟨"SheetFolderLaw", "isUp", "(LSheetFolder;I[J)I"⟩) ∈ WA := wa_q tbl_6 33 rfl rfl
theorem q_t6_34 : (Cond.codeWith ⟨"SheetFolderLaw", "isUp", "(LSheetFolder;I[J)I"⟩ method_5_code 4 (some .int) [(0, 16, 19, 18)]) ∈ WA := wa_q tbl_6 34 rfl rfl
theorem q_t6_35 : (Cond.methodLink "SheetFolderLaw" 20 ⟨"SheetFolder", "isUp", "(I)Z"⟩) ∈ WA := wa_q tbl_6 35 rfl rfl
theorem q_t6_45 : (Cond.static ⟨"SheetFolderLaw", "linePlace", "(LSheetFolder;I[D)I"⟩) ∈ WA := wa_q tbl_6 45 rfl rfl
theorem q_t6_46 : (Cond.codeWith ⟨"SheetFolderLaw", "linePlace", "(LSheetFolder;I[D)I"⟩ method_6_code 4 (some .int) [(0, 8, 11, 18)]) ∈ WA := wa_q tbl_6 46 rfl rfl
theorem q_t6_47 : (Cond.methodLink "SheetFolderLaw" 24 ⟨"SheetFolder", "linePlace", "(I)D"⟩) ∈ WA := wa_q tbl_6 47 rfl rfl
theorem q_t6_53 : (Cond.static ⟨"SheetFolderLaw", "springBackFor", "(LSheetFolder;D[D)I"⟩) ∈ WA := wa_q tbl_6 53 rfl rfl
theorem q_t6_54 : (Cond.codeWith ⟨"SheetFolderLaw", "springBackFor", "(LSheetFolder;D[D)I"⟩ method_7_code 5 (some .int) [(0, 8, 11, 13)]) ∈ WA := wa_q tbl_6 54 rfl rfl
theorem q_t6_55 : (Cond.methodLink "SheetFolderLaw" 28 ⟨"SheetFolder", "springBackFor", "(D)D"⟩) ∈ WA := wa_q tbl_6 55 rfl rfl
theorem q_t6_62 : (Cond.static ⟨"SheetFolderLaw", "tool", "(LSheetFolder;II[J)I"⟩) ∈ WA := wa_q tbl_6 62 rfl rfl
theorem q_t6_63 : (Cond.codeWith ⟨"SheetFolderLaw", "tool", "(LSheetFolder;II[J)I"⟩ method_8_code 5 (some .int) [(0, 10, 13, 13)]) ∈ WA := wa_q tbl_6 63 rfl rfl
theorem q_t6_64 : (Cond.methodLink "SheetFolderLaw" 32 ⟨"SheetFolder", "tool", "(II)I"⟩) ∈ WA := wa_q tbl_6 64 rfl rfl
theorem q_t6_72 : (Cond.static ⟨"SheetFolderLaw", "finishedCorner", "(LSheetFolder;II[J)I"⟩) ∈ WA := wa_q tbl_6 72 rfl rfl
theorem q_t6_73 : (Cond.codeWith ⟨"SheetFolderLaw", "finishedCorner", "(LSheetFolder;II[J)I"⟩ method_9_code 5 (some .int) [(0, 10, 13, 18), (0, 10, 17, 13)]) ∈ WA := wa_q tbl_6 73 rfl rfl
theorem q_t6_74 : (Cond.methodLink "SheetFolderLaw" 36 ⟨"SheetFolder", "finishedCorner", "(II)I"⟩) ∈ WA := wa_q tbl_6 74 rfl rfl
theorem q_t6_83 : (Cond.static ⟨"SheetFolderLaw", "step", "(LSheetFolder;II[J)I"⟩) ∈ WA := wa_q tbl_6 83 rfl rfl
theorem q_t6_84 : (Cond.codeWith ⟨"SheetFolderLaw", "step", "(LSheetFolder;II[J)I"⟩ method_10_code 5 (some .int) [(0, 10, 13, 18), (0, 10, 17, 13)]) ∈ WA := wa_q tbl_6 84 rfl rfl
theorem q_t6_85 : (Cond.methodLink "SheetFolderLaw" 39 ⟨"SheetFolder", "step", "(II)I"⟩) ∈ WA := wa_q tbl_6 85 rfl rfl
theorem q_t6_91 : (Cond.static ⟨"SheetFolderLaw", "reason", "(LSheetFolder;II[J)I"⟩) ∈ WA := wa_q tbl_6 91 rfl rfl
theorem q_t6_92 : (Cond.codeWith ⟨"SheetFolderLaw", "reason", "(LSheetFolder;II[J)I"⟩ method_11_code 5 (some .int) [(0, 10, 13, 18), (0, 10, 17, 13)]) ∈ WA := wa_q tbl_6 92 rfl rfl
theorem q_t6_93 : (Cond.methodLink "SheetFolderLaw" 42 ⟨"SheetFolder", "reason", "(II)I"⟩) ∈ WA := wa_q tbl_6 93 rfl rfl
theorem q_t6_107 : (Cond.static ⟨"SheetFolderLaw", "gauge", "(LSheetFolder;II[J)I"⟩) ∈ WA := wa_q tbl_6 107 rfl rfl
theorem q_t6_108 : (Cond.codeWith ⟨"SheetFolderLaw", "gauge", "(LSheetFolder;II[J)I"⟩ method_12_code 5 (some .int) [(0, 10, 13, 18), (0, 10, 17, 13)]) ∈ WA := wa_q tbl_6 108 rfl rfl
theorem q_t6_109 : (Cond.methodLink "SheetFolderLaw" 45 ⟨"SheetFolder", "gauge", "(II)I"⟩) ∈ WA := wa_q tbl_6 109 rfl rfl
theorem q_t6_120 : (Cond.static ⟨"SheetFolderLaw", "corner", "(LSheetFolder;IIII[J)I"⟩) ∈ WA := wa_q tbl_6 120 rfl rfl
theorem q_t6_121 : (Cond.codeWith ⟨"SheetFolderLaw", "corner", "(LSheetFolder;IIII[J)I"⟩ method_13_code 7 (some .int) [(0, 14, 17, 18), (0, 14, 21, 13)]) ∈ WA := wa_q tbl_6 121 rfl rfl
theorem q_t6_122 : (Cond.methodLink "SheetFolderLaw" 48 ⟨"SheetFolder", "corner", "(IIII)I"⟩) ∈ WA := wa_q tbl_6 122 rfl rfl
theorem q_t6_127 : (Cond.static ⟨"SheetFolderLaw", "top", "(LSheetFolder;II[J)I"⟩) ∈ WA := wa_q tbl_6 127 rfl rfl
theorem q_t6_128 : (Cond.codeWith ⟨"SheetFolderLaw", "top", "(LSheetFolder;II[J)I"⟩ method_14_code 5 (some .int) [(0, 10, 13, 18), (0, 10, 17, 13)]) ∈ WA := wa_q tbl_6 128 rfl rfl
theorem q_t6_129 : (Cond.methodLink "SheetFolderLaw" 52 ⟨"SheetFolder", "top", "(II)I"⟩) ∈ WA := wa_q tbl_6 129 rfl rfl
theorem q_t6_138 : (Cond.static ⟨"SheetFolderLaw", "hitting", "(LSheetFolder;II[J)I"⟩) ∈ WA := wa_q tbl_6 138 rfl rfl
theorem q_t6_139 : (Cond.codeWith ⟨"SheetFolderLaw", "hitting", "(LSheetFolder;II[J)I"⟩ method_15_code 5 (some .int) [(0, 10, 13, 18), (0, 10, 17, 13)]) ∈ WA := wa_q tbl_6 139 rfl rfl
theorem q_t6_140 : (Cond.methodLink "SheetFolderLaw" 55 ⟨"SheetFolder", "hitting", "(II)I"⟩) ∈ WA := wa_q tbl_6 140 rfl rfl
theorem q_t6_146 : (Cond.static ⟨"SheetFolderLaw", "refused", "(LSheetFolder;I[J)I"⟩) ∈ WA := wa_q tbl_6 146 rfl rfl
theorem q_t6_147 : (Cond.codeWith ⟨"SheetFolderLaw", "refused", "(LSheetFolder;I[J)I"⟩ method_16_code 4 (some .int) [(0, 9, 12, 13)]) ∈ WA := wa_q tbl_6 147 rfl rfl
theorem q_t6_148 : (Cond.methodLink "SheetFolderLaw" 58 ⟨"SheetFolder", "refused", "(I)I"⟩) ∈ WA := wa_q tbl_6 148 rfl rfl
theorem q_t6_154 : (Cond.static ⟨"SheetFolderLaw", "costOf", "(LSheetFolder;II[J)I"⟩) ∈ WA := wa_q tbl_6 154 rfl rfl
theorem q_t6_155 : (Cond.codeWith ⟨"SheetFolderLaw", "costOf", "(LSheetFolder;II[J)I"⟩ method_17_code 5 (some .int) [(0, 10, 13, 18), (0, 10, 17, 13)]) ∈ WA := wa_q tbl_6 155 rfl rfl
theorem q_t6_156 : (Cond.methodLink "SheetFolderLaw" 61 ⟨"SheetFolder", "costOf", "(II)I"⟩) ∈ WA := wa_q tbl_6 156 rfl rfl
theorem q_t6_168 : (Cond.static ⟨"SheetFolderLaw", "planned", "(LSheetFolder;I[J)I"⟩) ∈ WA := wa_q tbl_6 168 rfl rfl
theorem q_t6_169 : (Cond.codeWith ⟨"SheetFolderLaw", "planned", "(LSheetFolder;I[J)I"⟩ method_18_code 4 (some .int) [(0, 9, 12, 18)]) ∈ WA := wa_q tbl_6 169 rfl rfl
theorem q_t6_170 : (Cond.methodLink "SheetFolderLaw" 64 ⟨"SheetFolder", "planned", "(I)I"⟩) ∈ WA := wa_q tbl_6 170 rfl rfl
theorem q_t6_176 : (Cond.static ⟨"SheetFolderLaw", "ordersWith", "(LSheetFolder;II[J)I"⟩) ∈ WA := wa_q tbl_6 176 rfl rfl
theorem q_t6_177 : (Cond.codeWith ⟨"SheetFolderLaw", "ordersWith", "(LSheetFolder;II[J)I"⟩ method_19_code 5 (some .int) [(0, 9, 12, 18), (0, 9, 16, 13)]) ∈ WA := wa_q tbl_6 177 rfl rfl
theorem q_t6_178 : (Cond.methodLink "SheetFolderLaw" 67 ⟨"SheetFolder", "ordersWith", "(II)J"⟩) ∈ WA := wa_q tbl_6 178 rfl rfl
theorem q_t6_183 : (Cond.static ⟨"SheetFolderLaw", "costIfTurned", "(LSheetFolder;I[J)I"⟩) ∈ WA := wa_q tbl_6 183 rfl rfl
theorem q_t6_184 : (Cond.codeWith ⟨"SheetFolderLaw", "costIfTurned", "(LSheetFolder;I[J)I"⟩ method_20_code 4 (some .int) [(0, 9, 12, 18), (0, 9, 15, 74)]) ∈ WA := wa_q tbl_6 184 rfl rfl
theorem q_t6_185 : (Cond.classLink "SheetFolderLaw" 74 "java/lang/IllegalStateException") ∈ WA := wa_q tbl_6 185 rfl rfl
theorem q_t6_186 : (Cond.methodLink "SheetFolderLaw" 71 ⟨"SheetFolder", "costIfTurned", "(I)I"⟩) ∈ WA := wa_q tbl_6 186 rfl rfl
theorem q_t6_211 : (Cond.static ⟨"SheetFolderLaw", "fold", "(LSheetFolder;II[J)I"⟩) ∈ WA := wa_q tbl_6 211 rfl rfl
theorem q_t6_212 : (Cond.codeWith ⟨"SheetFolderLaw", "fold", "(LSheetFolder;II[J)I"⟩ method_21_code 5 (some .int) [(0, 10, 13, 18), (0, 10, 17, 13), (0, 10, 21, 74)]) ∈ WA := wa_q tbl_6 212 rfl rfl
theorem q_t6_213 : (Cond.methodLink "SheetFolderLaw" 76 ⟨"SheetFolder", "fold", "(II)I"⟩) ∈ WA := wa_q tbl_6 213 rfl rfl
theorem q_t6_227 : (Cond.static ⟨"SheetFolderLaw", "foldNext", "(LSheetFolder;[J)I"⟩) ∈ WA := wa_q tbl_6 227 rfl rfl
theorem q_t6_228 : (Cond.codeWith ⟨"SheetFolderLaw", "foldNext", "(LSheetFolder;[J)I"⟩ method_22_code 3 (some .int) [(0, 8, 11, 74)]) ∈ WA := wa_q tbl_6 228 rfl rfl
theorem q_t6_229 : (Cond.methodLink "SheetFolderLaw" 79 ⟨"SheetFolder", "foldNext", "()I"⟩) ∈ WA := wa_q tbl_6 229 rfl rfl
theorem q_t6_235 : (Cond.static ⟨"SheetFolderLaw", "setLeg", "(LSheetFolder;II[J)I"⟩) ∈ WA := wa_q tbl_6 235 rfl rfl
theorem q_t6_236 : (Cond.codeWith ⟨"SheetFolderLaw", "setLeg", "(LSheetFolder;II[J)I"⟩ method_23_code 5 (some .int) [(0, 10, 13, 18), (0, 10, 17, 13), (0, 10, 21, 74)]) ∈ WA := wa_q tbl_6 236 rfl rfl
theorem q_t6_237 : (Cond.methodLink "SheetFolderLaw" 83 ⟨"SheetFolder", "setLeg", "(II)I"⟩) ∈ WA := wa_q tbl_6 237 rfl rfl
theorem q_t7_5 : (Cond.static ⟨"SheetFolderLaw", "setDirection", "(LSheetFolder;IZ[J)I"⟩) ∈ WA := wa_q tbl_7 5 rfl rfl
theorem q_t7_6 : (Cond.codeWith ⟨"SheetFolderLaw", "setDirection", "(LSheetFolder;IZ[J)I"⟩ method_24_code 5 (some .int) [(0, 17, 20, 18), (0, 17, 24, 74)]) ∈ WA := wa_q tbl_7 6 rfl rfl
theorem q_t7_7 : (Cond.methodLink "SheetFolderLaw" 86 ⟨"SheetFolder", "setDirection", "(IZ)Z"⟩) ∈ WA := wa_q tbl_7 7 rfl rfl
theorem q_t7_12 : (Cond.static ⟨"SheetFolderLaw", "setTool", "(LSheetFolder;III[J)I"⟩) ∈ WA := wa_q tbl_7 12 rfl rfl
theorem q_t7_13 : (Cond.codeWith ⟨"SheetFolderLaw", "setTool", "(LSheetFolder;III[J)I"⟩ method_25_code 6 (some .int) [(0, 12, 15, 13)]) ∈ WA := wa_q tbl_7 13 rfl rfl
theorem q_t7_14 : (Cond.methodLink "SheetFolderLaw" 90 ⟨"SheetFolder", "setTool", "(III)I"⟩) ∈ WA := wa_q tbl_7 14 rfl rfl
theorem q_t7_22 : (Cond.static ⟨"SheetFolderLaw", "setSheet", "(LSheetFolder;III[J)I"⟩) ∈ WA := wa_q tbl_7 22 rfl rfl
theorem q_t7_23 : (Cond.codeWith ⟨"SheetFolderLaw", "setSheet", "(LSheetFolder;III[J)I"⟩ method_26_code 6 (some .int) [(0, 12, 15, 13)]) ∈ WA := wa_q tbl_7 23 rfl rfl
theorem q_t7_24 : (Cond.methodLink "SheetFolderLaw" 94 ⟨"SheetFolder", "setSheet", "(III)I"⟩) ∈ WA := wa_q tbl_7 24 rfl rfl
theorem q_t7_32 : (Cond.static ⟨"SheetFolderLaw", "setCost", "(LSheetFolder;III[J)I"⟩) ∈ WA := wa_q tbl_7 32 rfl rfl
theorem q_t7_33 : (Cond.codeWith ⟨"SheetFolderLaw", "setCost", "(LSheetFolder;III[J)I"⟩ method_27_code 6 (some .int) [(0, 12, 15, 13)]) ∈ WA := wa_q tbl_7 33 rfl rfl
theorem q_t7_34 : (Cond.methodLink "SheetFolderLaw" 97 ⟨"SheetFolder", "setCost", "(III)I"⟩) ∈ WA := wa_q tbl_7 34 rfl rfl
theorem q_t7_42 : (Cond.static ⟨"SheetFolderLaw", "written", "(LSheetFolder;I[J)I"⟩) ∈ WA := wa_q tbl_7 42 rfl rfl
theorem q_t7_43 : (Cond.codeWith ⟨"SheetFolderLaw", "written", "(LSheetFolder;I[J)I"⟩ method_28_code 4 (some .int) [(0, 9, 12, 18)]) ∈ WA := wa_q tbl_7 43 rfl rfl
theorem q_t7_44 : (Cond.methodLink "SheetFolderLaw" 100 ⟨"SheetFolder", "written", "(I)C"⟩) ∈ WA := wa_q tbl_7 44 rfl rfl
end
/-! part 36.helpers -/
section
def mL_load (k0 : Nat) (k1 : Nat) (x1 : Int32) (M : Mem) : Option (Mem × (Int32 ⊕ Nat)) := calt (mX6_load k0 x1 M) (fun M3 r2 => chk (okb (0 : Int32) 1) (bnd (wl M3 k1 ((0 : Int32)).toNatClampNeg (r2).toInt64) (fun M7 => some (M7, Sum.inl (0 : Int32))))) (fun M3 e4 => ite2 (e4 = 0) (some (M3, Sum.inl (1 : Int32))) (none))
set_option maxHeartbeats 4000000 in
set_option maxRecDepth 100000 in
theorem tL_load (l : Launch) (hst : l.stackTraces = false) {G : GT} {kd : Nat → Nat × Nat} {ad : Nat → Nat} {k0 : Nat} {k1 : Nat} (hk0 : kRoot kd k0) (hk1 : kd k1 = (13, 1)) {x1 : Int32} {M : Mem} {MO : Mem} {vo : Int32 ⊕ Nat} (hf : mL_load k0 k1 x1 M = some (MO, vo)) (n : Nat) : vx_Met l yL_load (Cond.codeWith yL_load cL_load 4 (some .int) [(0, 9, 12, 13)] :: WA) (rmO 9 1 6) (Pn G kd ad n [.ref (ad k0), .int x1, .ref (ad k1)] M) (Qx G kd ad n MO (zi vo)) (Xx G kd ad n MO (zi vo)) 1 6 (AS kd ad n) := by
  refine g_bodyXH (own := RL) (by decide) rfl ?_ (Nat.le_of_ble_eq_true rfl)
  intro p e s m args below meth c C htb hnc _ H locs ls hI hl
  obtain ⟨hx, hb, hml, hr, hown, hts, hlk, hK, hap, hsx⟩ := id C
  have hl : lv_has ls 4 [(0, .ref (ad k0)), (1, .int x1), (2, .ref (ad k1))] := hl
  unfold mL_load at hf
  refine lv_aload_n hx hb (dc tbL_load_k 0 rfl) rfl (lv_at hl 2 rfl) ?_
  refine lv_iconst (v := 0) hx hb (dc tbL_load_k 1 rfl) ic_0 ?_
  refine lv_aload_n hx hb (dc tbL_load_k 2 rfl) rfl (lv_at hl 0 rfl) ?_
  refine lv_iload_n hx hb (dc tbL_load_k 3 rfl) rfl (lv_at hl 1 rfl) ?_
  rcases calt_s hf with ⟨M3, r2, q1, hf⟩ | ⟨M3, e4, q1, hf⟩
  · refine x_callRi (g_runXV hx hb hml hown hts hK hap hsx hI (tX6_load l hst hk0 q1 H.size) cv_X6_load q_t5_102 rfl rfl ⟨Nat.le_of_ble_eq_true rfl, Nat.le_of_ble_eq_true rfl⟩ hk0.1 (by simp) rfl rfl rfl hl.1 rfl (Nat.le_of_ble_eq_true rfl) (dc tbL_load_k 4 rfl) ⟨Nat.le_of_ble_eq_true rfl, Nat.le_of_ble_eq_true rfl⟩) hI (fun H locs hI => ?_)
    refine lv_i2l hx hb (dc tbL_load_k 5 rfl) rfl ?_
    obtain ⟨h5, hf⟩ := chk_s hf
    obtain ⟨M7, e6, hf⟩ := bnd_s hf
    refine g_last hx hb hK hap hI hk1 (okb_in h5) (dc tbL_load_k 6 rfl) e6 (fun H locs hI => ?_)
    refine lv_goto (tgt := 15) hx hb (dc tbL_load_k 7 rfl) rfl ?_
    refine lv_iconst (v := 0) hx hb (dc tbL_load_k 11 rfl) ic_0 ?_
    cases hf
    exact x_ret (g_iret hx hb hr hlk hI (dc tbL_load_k 12 rfl))
  · refine by_c (c := e4 = 0) (fun c8 => ?_) (fun c8 => ?_)
    · have hf := ite_t c8 hf
      subst c8
      refine x_callC (E := "java/lang/IllegalArgumentException") (g_runXV hx hb hml hown hts hK hap hsx hI (tX6_load l hst hk0 q1 H.size) cv_X6_load q_t5_102 rfl rfl ⟨Nat.le_of_ble_eq_true rfl, Nat.le_of_ble_eq_true rfl⟩ hk0.1 (by simp) rfl rfl rfl hl.1 rfl (Nat.le_of_ble_eq_true rfl) (dc tbL_load_k 4 rfl) ⟨Nat.le_of_ble_eq_true rfl, Nat.le_of_ble_eq_true rfl⟩) hI hown hts hsx rfl htb [] ⟨0, 9, 12, 13⟩ [] rfl (fun _ h => absurd h List.not_mem_nil) (by decide) (by decide) q_t5_101 (by decide +kernel) rfl (fun qx H locs hI => ?_)
      refine lv_astore_n (lv' := [(3, .ref qx), (0, .ref (ad k0)), (1, .int x1), (2, .ref (ad k1))]) hx hb (dc tbL_load_k 8 rfl) rfl hl (by decide) rfl (fun ls hl => ?_)
      refine lv_iconst (v := 1) hx hb (dc tbL_load_k 9 rfl) ic_1 ?_
      cases hf
      exact x_ret (g_iret hx hb hr hlk hI (dc tbL_load_k 10 rfl))
    · have hf := ite_f c8 hf
      cases hf
theorem ch_L_load : Cond.static yL_load ∈ WA ∧ Cond.initialized yL_load.cls ∈ WA ∧ Cond.codeWith yL_load cL_load 4 (some .int) [(0, 9, 12, 13)] ∈ WA ∧ (yL_load.cls ≠ "java/lang/invoke/MethodHandle" ∧ yL_load.cls ≠ "java/lang/invoke/VarHandle" ∧ (parseMethodDescriptor yL_load.desc).map (fun d => d.parameters.length) = some 3) := ⟨q_t5_99, q_t1_0, q_t5_100, by decide +kernel⟩
def mL_leg (k0 : Nat) (k1 : Nat) (x1 : Int32) (M : Mem) : Option (Mem × (Int32 ⊕ Nat)) := calt (mX6_leg k0 x1 M) (fun M3 r2 => chk (okb (0 : Int32) 1) (bnd (wl M3 k1 ((0 : Int32)).toNatClampNeg (r2).toInt64) (fun M7 => some (M7, Sum.inl (0 : Int32))))) (fun M3 e4 => ite2 (e4 = 1) (some (M3, Sum.inl (1 : Int32))) (none))
set_option maxHeartbeats 4000000 in
set_option maxRecDepth 100000 in
theorem tL_leg (l : Launch) (hst : l.stackTraces = false) {G : GT} {kd : Nat → Nat × Nat} {ad : Nat → Nat} {k0 : Nat} {k1 : Nat} (hk0 : kRoot kd k0) (hk1 : kd k1 = (13, 1)) {x1 : Int32} {M : Mem} {MO : Mem} {vo : Int32 ⊕ Nat} (hf : mL_leg k0 k1 x1 M = some (MO, vo)) (n : Nat) : vx_Met l yL_leg (Cond.codeWith yL_leg cL_leg 4 (some .int) [(0, 9, 12, 18)] :: WA) (rmO 2 1 6) (Pn G kd ad n [.ref (ad k0), .int x1, .ref (ad k1)] M) (Qx G kd ad n MO (zi vo)) (Xx G kd ad n MO (zi vo)) 1 6 (AS kd ad n) := by
  refine g_bodyXH (own := RL) (by decide) rfl ?_ (Nat.le_of_ble_eq_true rfl)
  intro p e s m args below meth c C htb hnc _ H locs ls hI hl
  obtain ⟨hx, hb, hml, hr, hown, hts, hlk, hK, hap, hsx⟩ := id C
  have hl : lv_has ls 4 [(0, .ref (ad k0)), (1, .int x1), (2, .ref (ad k1))] := hl
  unfold mL_leg at hf
  refine lv_aload_n hx hb (dc tbL_leg_k 0 rfl) rfl (lv_at hl 2 rfl) ?_
  refine lv_iconst (v := 0) hx hb (dc tbL_leg_k 1 rfl) ic_0 ?_
  refine lv_aload_n hx hb (dc tbL_leg_k 2 rfl) rfl (lv_at hl 0 rfl) ?_
  refine lv_iload_n hx hb (dc tbL_leg_k 3 rfl) rfl (lv_at hl 1 rfl) ?_
  rcases calt_s hf with ⟨M3, r2, q1, hf⟩ | ⟨M3, e4, q1, hf⟩
  · refine x_callRi (g_runXV hx hb hml hown hts hK hap hsx hI (tX6_leg l hst hk0 q1 H.size) cv_X6_leg q_t6_11 rfl rfl ⟨Nat.le_of_ble_eq_true rfl, Nat.le_of_ble_eq_true rfl⟩ hk0.1 (by simp) rfl rfl rfl hl.1 rfl (Nat.le_of_ble_eq_true rfl) (dc tbL_leg_k 4 rfl) ⟨Nat.le_of_ble_eq_true rfl, Nat.le_of_ble_eq_true rfl⟩) hI (fun H locs hI => ?_)
    refine lv_i2l hx hb (dc tbL_leg_k 5 rfl) rfl ?_
    obtain ⟨h5, hf⟩ := chk_s hf
    obtain ⟨M7, e6, hf⟩ := bnd_s hf
    refine g_last hx hb hK hap hI hk1 (okb_in h5) (dc tbL_leg_k 6 rfl) e6 (fun H locs hI => ?_)
    refine lv_goto (tgt := 15) hx hb (dc tbL_leg_k 7 rfl) rfl ?_
    refine lv_iconst (v := 0) hx hb (dc tbL_leg_k 11 rfl) ic_0 ?_
    cases hf
    exact x_ret (g_iret hx hb hr hlk hI (dc tbL_leg_k 12 rfl))
  · refine by_c (c := e4 = 1) (fun c8 => ?_) (fun c8 => ?_)
    · have hf := ite_t c8 hf
      subst c8
      refine x_callC (E := "java/lang/IndexOutOfBoundsException") (g_runXV hx hb hml hown hts hK hap hsx hI (tX6_leg l hst hk0 q1 H.size) cv_X6_leg q_t6_11 rfl rfl ⟨Nat.le_of_ble_eq_true rfl, Nat.le_of_ble_eq_true rfl⟩ hk0.1 (by simp) rfl rfl rfl hl.1 rfl (Nat.le_of_ble_eq_true rfl) (dc tbL_leg_k 4 rfl) ⟨Nat.le_of_ble_eq_true rfl, Nat.le_of_ble_eq_true rfl⟩) hI hown hts hsx rfl htb [] ⟨0, 9, 12, 18⟩ [] rfl (fun _ h => absurd h List.not_mem_nil) (by decide) (by decide) q_t6_10 (by decide +kernel) rfl (fun qx H locs hI => ?_)
      refine lv_astore_n (lv' := [(3, .ref qx), (0, .ref (ad k0)), (1, .int x1), (2, .ref (ad k1))]) hx hb (dc tbL_leg_k 8 rfl) rfl hl (by decide) rfl (fun ls hl => ?_)
      refine lv_iconst (v := 1) hx hb (dc tbL_leg_k 9 rfl) ic_1 ?_
      cases hf
      exact x_ret (g_iret hx hb hr hlk hI (dc tbL_leg_k 10 rfl))
    · have hf := ite_f c8 hf
      cases hf
theorem ch_L_leg : Cond.static yL_leg ∈ WA ∧ Cond.initialized yL_leg.cls ∈ WA ∧ Cond.codeWith yL_leg cL_leg 4 (some .int) [(0, 9, 12, 18)] ∈ WA ∧ (yL_leg.cls ≠ "java/lang/invoke/MethodHandle" ∧ yL_leg.cls ≠ "java/lang/invoke/VarHandle" ∧ (parseMethodDescriptor yL_leg.desc).map (fun d => d.parameters.length) = some 3) := ⟨q_t6_8, q_t1_0, q_t6_9, by decide +kernel⟩
def mL_isUp_b15 (k0 : Nat) (k1 : Nat) (y1 : Int32) (y2 : Int64) (M : Mem) : Option (Mem × (Int32 ⊕ Nat)) := chk (okb y1 1) (bnd (wl M k1 (y1).toNatClampNeg y2) (fun M8 => some (M8, Sum.inl (0 : Int32))))
set_option maxHeartbeats 4000000 in
set_option maxRecDepth 100000 in
theorem tL_isUp_b15 {p : Program} {l : Launch} {e : Env} {s : State} {m : MethodId} {args : Array Value} {below : List Frame} {meth : Method} {c : Code} {G : GT} {kd : Nat → Nat × Nat} {ad : Nat → Nat} (C : Cx p s m args meth c cL_isUp 4 (some .int) RL G kd ad) (hst : l.stackTraces = false) (htb : c.exceptionTable.toList = tableOf [(0, 16, 19, 18)]) (hnc : Nc s) {k0 : Nat} {k1 : Nat} (hk0 : kRoot kd k0) (hk1 : kd k1 = (13, 1)) {MO : Mem} {vo : Int32 ⊕ Nat}   : ∀ (y1 : Int32) (y2 : Int64) (M : Mem), mL_isUp_b15 k0 k1 y1 y2 M = some (MO, vo) → At p l e (rmO 3 1 6) s m args below meth c 1 6 (XQ G kd ad below args s MO (zi vo) 1 6) G kd ad 4 15 [] [.long y2, .int y1, .ref (ad k1)] M := by
  intro y1 y2 M hf H locs ls hI hl
  obtain ⟨hx, hb, hml, hr, hown, hts, hlk, hK, hap, hsx⟩ := id C
  unfold mL_isUp_b15 at hf
  obtain ⟨h6, hf⟩ := chk_s hf
  obtain ⟨M8, e7, hf⟩ := bnd_s hf
  refine g_last hx hb hK hap hI hk1 (okb_in h6) (dc tbL_isUp_k 9 rfl) e7 (fun H locs hI => ?_)
  refine lv_goto (tgt := 22) hx hb (dc tbL_isUp_k 10 rfl) rfl ?_
  refine lv_iconst (v := 0) hx hb (dc tbL_isUp_k 14 rfl) ic_0 ?_
  cases hf
  exact x_ret (g_iret hx hb hr hlk hI (dc tbL_isUp_k 15 rfl))
def mL_isUp (k0 : Nat) (k1 : Nat) (x1 : Int32) (M : Mem) : Option (Mem × (Int32 ⊕ Nat)) := calt (mX6_isUp k0 x1 M) (fun M3 r2 => ite2 (r2 = 0) (mL_isUp_b15 k0 k1 (0 : Int32) (0 : Int64) M3) (mL_isUp_b15 k0 k1 (0 : Int32) (1 : Int64) M3)) (fun M3 e4 => ite2 (e4 = 1) (some (M3, Sum.inl (1 : Int32))) (none))
set_option maxHeartbeats 4000000 in
set_option maxRecDepth 100000 in
theorem tL_isUp (l : Launch) (hst : l.stackTraces = false) {G : GT} {kd : Nat → Nat × Nat} {ad : Nat → Nat} {k0 : Nat} {k1 : Nat} (hk0 : kRoot kd k0) (hk1 : kd k1 = (13, 1)) {x1 : Int32} {M : Mem} {MO : Mem} {vo : Int32 ⊕ Nat} (hf : mL_isUp k0 k1 x1 M = some (MO, vo)) (n : Nat) : vx_Met l yL_isUp (Cond.codeWith yL_isUp cL_isUp 4 (some .int) [(0, 16, 19, 18)] :: WA) (rmO 3 1 6) (Pn G kd ad n [.ref (ad k0), .int x1, .ref (ad k1)] M) (Qx G kd ad n MO (zi vo)) (Xx G kd ad n MO (zi vo)) 1 6 (AS kd ad n) := by
  refine g_bodyXH (own := RL) (by decide) rfl ?_ (Nat.le_of_ble_eq_true rfl)
  intro p e s m args below meth c C htb hnc _ H locs ls hI hl
  obtain ⟨hx, hb, hml, hr, hown, hts, hlk, hK, hap, hsx⟩ := id C
  have hl : lv_has ls 4 [(0, .ref (ad k0)), (1, .int x1), (2, .ref (ad k1))] := hl
  unfold mL_isUp at hf
  refine lv_aload_n hx hb (dc tbL_isUp_k 0 rfl) rfl (lv_at hl 2 rfl) ?_
  refine lv_iconst (v := 0) hx hb (dc tbL_isUp_k 1 rfl) ic_0 ?_
  refine lv_aload_n hx hb (dc tbL_isUp_k 2 rfl) rfl (lv_at hl 0 rfl) ?_
  refine lv_iload_n hx hb (dc tbL_isUp_k 3 rfl) rfl (lv_at hl 1 rfl) ?_
  rcases calt_s hf with ⟨M3, r2, q1, hf⟩ | ⟨M3, e4, q1, hf⟩
  · refine x_callRi (g_runXV hx hb hml hown hts hK hap hsx hI (tX6_isUp l hst hk0 q1 H.size) cv_X6_isUp q_t6_35 rfl rfl ⟨Nat.le_of_ble_eq_true rfl, Nat.le_of_ble_eq_true rfl⟩ hk0.1 (by simp) rfl rfl rfl hl.1 rfl (Nat.le_of_ble_eq_true rfl) (dc tbL_isUp_k 4 rfl) ⟨Nat.le_of_ble_eq_true rfl, Nat.le_of_ble_eq_true rfl⟩) hI (fun H locs hI => ?_)
    refine lv_if_eq (tgt := 14) hx hb (dc tbL_isUp_k 5 rfl) rfl (fun c5 => ?_) (fun c5 => ?_)
    · have hf := ite_t c5 hf
      refine lv_lconst (v := 0) hx hb (dc tbL_isUp_k 8 rfl) (by decide) ?_
      exact tL_isUp_b15 C hst htb hnc hk0 hk1 (0 : Int32) (0 : Int64) M3 hf _ _ _ hI (lv_sub hl [] rfl)
    · have hf := ite_f c5 hf
      refine lv_lconst (v := 1) hx hb (dc tbL_isUp_k 6 rfl) (by decide) ?_
      refine lv_goto (tgt := 15) hx hb (dc tbL_isUp_k 7 rfl) rfl ?_
      exact tL_isUp_b15 C hst htb hnc hk0 hk1 (0 : Int32) (1 : Int64) M3 hf _ _ _ hI (lv_sub hl [] rfl)
  · refine by_c (c := e4 = 1) (fun c9 => ?_) (fun c9 => ?_)
    · have hf := ite_t c9 hf
      subst c9
      refine x_callC (E := "java/lang/IndexOutOfBoundsException") (g_runXV hx hb hml hown hts hK hap hsx hI (tX6_isUp l hst hk0 q1 H.size) cv_X6_isUp q_t6_35 rfl rfl ⟨Nat.le_of_ble_eq_true rfl, Nat.le_of_ble_eq_true rfl⟩ hk0.1 (by simp) rfl rfl rfl hl.1 rfl (Nat.le_of_ble_eq_true rfl) (dc tbL_isUp_k 4 rfl) ⟨Nat.le_of_ble_eq_true rfl, Nat.le_of_ble_eq_true rfl⟩) hI hown hts hsx rfl htb [] ⟨0, 16, 19, 18⟩ [] rfl (fun _ h => absurd h List.not_mem_nil) (by decide) (by decide) q_t6_10 (by decide +kernel) rfl (fun qx H locs hI => ?_)
      refine lv_astore_n (lv' := [(3, .ref qx), (0, .ref (ad k0)), (1, .int x1), (2, .ref (ad k1))]) hx hb (dc tbL_isUp_k 11 rfl) rfl hl (by decide) rfl (fun ls hl => ?_)
      refine lv_iconst (v := 1) hx hb (dc tbL_isUp_k 12 rfl) ic_1 ?_
      cases hf
      exact x_ret (g_iret hx hb hr hlk hI (dc tbL_isUp_k 13 rfl))
    · have hf := ite_f c9 hf
      cases hf
theorem ch_L_isUp : Cond.static yL_isUp ∈ WA ∧ Cond.initialized yL_isUp.cls ∈ WA ∧ Cond.codeWith yL_isUp cL_isUp 4 (some .int) [(0, 16, 19, 18)] ∈ WA ∧ (yL_isUp.cls ≠ "java/lang/invoke/MethodHandle" ∧ yL_isUp.cls ≠ "java/lang/invoke/VarHandle" ∧ (parseMethodDescriptor yL_isUp.desc).map (fun d => d.parameters.length) = some 3) := ⟨q_t6_33, q_t1_0, q_t6_34, by decide +kernel⟩
def mL_linePlace (k0 : Nat) (k1 : Nat) (x1 : Int32) (M : Mem) : Option (Mem × (Int32 ⊕ Nat)) := calt (mX6_linePlace k0 x1 M) (fun M3 r2 => chk (okb (0 : Int32) 1) (bnd (wd M3 k1 ((0 : Int32)).toNatClampNeg r2) (fun M7 => some (M7, Sum.inl (0 : Int32))))) (fun M3 e4 => ite2 (e4 = 1) (some (M3, Sum.inl (1 : Int32))) (none))
set_option maxHeartbeats 4000000 in
set_option maxRecDepth 100000 in
theorem tL_linePlace (l : Launch) (hst : l.stackTraces = false) {G : GT} {kd : Nat → Nat × Nat} {ad : Nat → Nat} {k0 : Nat} {k1 : Nat} (hk0 : kRoot kd k0) (hk1 : kd k1 = (14, 1)) {x1 : Int32} {M : Mem} {MO : Mem} {vo : Int32 ⊕ Nat} (hf : mL_linePlace k0 k1 x1 M = some (MO, vo)) (n : Nat) : vx_Met l yL_linePlace (Cond.codeWith yL_linePlace cL_linePlace 4 (some .int) [(0, 8, 11, 18)] :: WA) (rmO 3 1 6) (Pn G kd ad n [.ref (ad k0), .int x1, .ref (ad k1)] M) (Qx G kd ad n MO (zi vo)) (Xx G kd ad n MO (zi vo)) 1 6 (AS kd ad n) := by
  refine g_bodyXH (own := RL) (by decide) rfl ?_ (Nat.le_of_ble_eq_true rfl)
  intro p e s m args below meth c C htb hnc _ H locs ls hI hl
  obtain ⟨hx, hb, hml, hr, hown, hts, hlk, hK, hap, hsx⟩ := id C
  have hl : lv_has ls 4 [(0, .ref (ad k0)), (1, .int x1), (2, .ref (ad k1))] := hl
  unfold mL_linePlace at hf
  refine lv_aload_n hx hb (dc tbL_linePlace_k 0 rfl) rfl (lv_at hl 2 rfl) ?_
  refine lv_iconst (v := 0) hx hb (dc tbL_linePlace_k 1 rfl) ic_0 ?_
  refine lv_aload_n hx hb (dc tbL_linePlace_k 2 rfl) rfl (lv_at hl 0 rfl) ?_
  refine lv_iload_n hx hb (dc tbL_linePlace_k 3 rfl) rfl (lv_at hl 1 rfl) ?_
  rcases calt_s hf with ⟨M3, r2, q1, hf⟩ | ⟨M3, e4, q1, hf⟩
  · refine x_callRd (g_runXV hx hb hml hown hts hK hap hsx hI (tX6_linePlace l hst hk0 q1 H.size) cv_X6_linePlace q_t6_47 rfl rfl ⟨Nat.le_of_ble_eq_true rfl, Nat.le_of_ble_eq_true rfl⟩ hk0.1 (by simp) rfl rfl rfl hl.1 rfl (Nat.le_of_ble_eq_true rfl) (dc tbL_linePlace_k 4 rfl) ⟨Nat.le_of_ble_eq_true rfl, Nat.le_of_ble_eq_true rfl⟩) hI (fun H locs hI => ?_)
    obtain ⟨h5, hf⟩ := chk_s hf
    obtain ⟨M7, e6, hf⟩ := bnd_s hf
    refine g_dast hx hb hK hap hI hk1 (okb_in h5) (dc tbL_linePlace_k 5 rfl) e6 (fun H locs hI => ?_)
    refine lv_goto (tgt := 14) hx hb (dc tbL_linePlace_k 6 rfl) rfl ?_
    refine lv_iconst (v := 0) hx hb (dc tbL_linePlace_k 10 rfl) ic_0 ?_
    cases hf
    exact x_ret (g_iret hx hb hr hlk hI (dc tbL_linePlace_k 11 rfl))
  · refine by_c (c := e4 = 1) (fun c8 => ?_) (fun c8 => ?_)
    · have hf := ite_t c8 hf
      subst c8
      refine x_callC (E := "java/lang/IndexOutOfBoundsException") (g_runXV hx hb hml hown hts hK hap hsx hI (tX6_linePlace l hst hk0 q1 H.size) cv_X6_linePlace q_t6_47 rfl rfl ⟨Nat.le_of_ble_eq_true rfl, Nat.le_of_ble_eq_true rfl⟩ hk0.1 (by simp) rfl rfl rfl hl.1 rfl (Nat.le_of_ble_eq_true rfl) (dc tbL_linePlace_k 4 rfl) ⟨Nat.le_of_ble_eq_true rfl, Nat.le_of_ble_eq_true rfl⟩) hI hown hts hsx rfl htb [] ⟨0, 8, 11, 18⟩ [] rfl (fun _ h => absurd h List.not_mem_nil) (by decide) (by decide) q_t6_10 (by decide +kernel) rfl (fun qx H locs hI => ?_)
      refine lv_astore_n (lv' := [(3, .ref qx), (0, .ref (ad k0)), (1, .int x1), (2, .ref (ad k1))]) hx hb (dc tbL_linePlace_k 7 rfl) rfl hl (by decide) rfl (fun ls hl => ?_)
      refine lv_iconst (v := 1) hx hb (dc tbL_linePlace_k 8 rfl) ic_1 ?_
      cases hf
      exact x_ret (g_iret hx hb hr hlk hI (dc tbL_linePlace_k 9 rfl))
    · have hf := ite_f c8 hf
      cases hf
theorem ch_L_linePlace : Cond.static yL_linePlace ∈ WA ∧ Cond.initialized yL_linePlace.cls ∈ WA ∧ Cond.codeWith yL_linePlace cL_linePlace 4 (some .int) [(0, 8, 11, 18)] ∈ WA ∧ (yL_linePlace.cls ≠ "java/lang/invoke/MethodHandle" ∧ yL_linePlace.cls ≠ "java/lang/invoke/VarHandle" ∧ (parseMethodDescriptor yL_linePlace.desc).map (fun d => d.parameters.length) = some 3) := ⟨q_t6_45, q_t1_0, q_t6_46, by decide +kernel⟩
def mL_springBackFor (k0 : Nat) (k1 : Nat) (x1 : UInt64) (M : Mem) : Option (Mem × (Int32 ⊕ Nat)) := calt (mX6_springBackFor k0 x1 M) (fun M3 r2 => chk (okb (0 : Int32) 1) (bnd (wd M3 k1 ((0 : Int32)).toNatClampNeg r2) (fun M7 => some (M7, Sum.inl (0 : Int32))))) (fun M3 e4 => ite2 (e4 = 0) (some (M3, Sum.inl (1 : Int32))) (none))
set_option maxHeartbeats 4000000 in
set_option maxRecDepth 100000 in
theorem tL_springBackFor (l : Launch) (hst : l.stackTraces = false) {G : GT} {kd : Nat → Nat × Nat} {ad : Nat → Nat} {k0 : Nat} {k1 : Nat} (hk0 : kRoot kd k0) (hk1 : kd k1 = (14, 1)) {x1 : UInt64} {M : Mem} {MO : Mem} {vo : Int32 ⊕ Nat} (hf : mL_springBackFor k0 k1 x1 M = some (MO, vo)) (n : Nat) : vx_Met l yL_springBackFor (Cond.codeWith yL_springBackFor cL_springBackFor 5 (some .int) [(0, 8, 11, 13)] :: WA) (rmO 3 1 6) (Pn G kd ad n [.ref (ad k0), .double x1, .ref (ad k1)] M) (Qx G kd ad n MO (zi vo)) (Xx G kd ad n MO (zi vo)) 1 6 (AS kd ad n) := by
  refine g_bodyXH (own := RL) (by decide) rfl ?_ (Nat.le_of_ble_eq_true rfl)
  intro p e s m args below meth c C htb hnc _ H locs ls hI hl
  obtain ⟨hx, hb, hml, hr, hown, hts, hlk, hK, hap, hsx⟩ := id C
  have hl : lv_has ls 5 [(0, .ref (ad k0)), (1, .double x1), (3, .ref (ad k1))] := hl
  unfold mL_springBackFor at hf
  refine lv_aload_n hx hb (dc tbL_springBackFor_k 0 rfl) rfl (lv_at hl 2 rfl) ?_
  refine lv_iconst (v := 0) hx hb (dc tbL_springBackFor_k 1 rfl) ic_0 ?_
  refine lv_aload_n hx hb (dc tbL_springBackFor_k 2 rfl) rfl (lv_at hl 0 rfl) ?_
  refine lv_dload_n hx hb (dc tbL_springBackFor_k 3 rfl) rfl (lv_at hl 1 rfl) ?_
  rcases calt_s hf with ⟨M3, r2, q1, hf⟩ | ⟨M3, e4, q1, hf⟩
  · refine x_callRd (g_runXV hx hb hml hown hts hK hap hsx hI (tX6_springBackFor l hst hk0 q1 H.size) cv_X6_springBackFor q_t6_55 rfl rfl ⟨Nat.le_of_ble_eq_true rfl, Nat.le_of_ble_eq_true rfl⟩ hk0.1 (by simp) rfl rfl rfl hl.1 rfl (Nat.le_of_ble_eq_true rfl) (dc tbL_springBackFor_k 4 rfl) ⟨Nat.le_of_ble_eq_true rfl, Nat.le_of_ble_eq_true rfl⟩) hI (fun H locs hI => ?_)
    obtain ⟨h5, hf⟩ := chk_s hf
    obtain ⟨M7, e6, hf⟩ := bnd_s hf
    refine g_dast hx hb hK hap hI hk1 (okb_in h5) (dc tbL_springBackFor_k 5 rfl) e6 (fun H locs hI => ?_)
    refine lv_goto (tgt := 15) hx hb (dc tbL_springBackFor_k 6 rfl) rfl ?_
    refine lv_iconst (v := 0) hx hb (dc tbL_springBackFor_k 10 rfl) ic_0 ?_
    cases hf
    exact x_ret (g_iret hx hb hr hlk hI (dc tbL_springBackFor_k 11 rfl))
  · refine by_c (c := e4 = 0) (fun c8 => ?_) (fun c8 => ?_)
    · have hf := ite_t c8 hf
      subst c8
      refine x_callC (E := "java/lang/IllegalArgumentException") (g_runXV hx hb hml hown hts hK hap hsx hI (tX6_springBackFor l hst hk0 q1 H.size) cv_X6_springBackFor q_t6_55 rfl rfl ⟨Nat.le_of_ble_eq_true rfl, Nat.le_of_ble_eq_true rfl⟩ hk0.1 (by simp) rfl rfl rfl hl.1 rfl (Nat.le_of_ble_eq_true rfl) (dc tbL_springBackFor_k 4 rfl) ⟨Nat.le_of_ble_eq_true rfl, Nat.le_of_ble_eq_true rfl⟩) hI hown hts hsx rfl htb [] ⟨0, 8, 11, 13⟩ [] rfl (fun _ h => absurd h List.not_mem_nil) (by decide) (by decide) q_t5_101 (by decide +kernel) rfl (fun qx H locs hI => ?_)
      refine lv_astore (lv' := [(4, .ref qx), (0, .ref (ad k0)), (1, .double x1), (3, .ref (ad k1))]) hx hb (dc tbL_springBackFor_k 7 rfl) hl (by decide) rfl (fun ls hl => ?_)
      refine lv_iconst (v := 1) hx hb (dc tbL_springBackFor_k 8 rfl) ic_1 ?_
      cases hf
      exact x_ret (g_iret hx hb hr hlk hI (dc tbL_springBackFor_k 9 rfl))
    · have hf := ite_f c8 hf
      cases hf
theorem ch_L_springBackFor : Cond.static yL_springBackFor ∈ WA ∧ Cond.initialized yL_springBackFor.cls ∈ WA ∧ Cond.codeWith yL_springBackFor cL_springBackFor 5 (some .int) [(0, 8, 11, 13)] ∈ WA ∧ (yL_springBackFor.cls ≠ "java/lang/invoke/MethodHandle" ∧ yL_springBackFor.cls ≠ "java/lang/invoke/VarHandle" ∧ (parseMethodDescriptor yL_springBackFor.desc).map (fun d => d.parameters.length) = some 3) := ⟨q_t6_53, q_t1_0, q_t6_54, by decide +kernel⟩
def mL_tool (k0 : Nat) (k1 : Nat) (x1 : Int32) (x2 : Int32) (M : Mem) : Option (Mem × (Int32 ⊕ Nat)) := calt (mX6_tool k0 x1 x2 M) (fun M3 r2 => chk (okb (0 : Int32) 1) (bnd (wl M3 k1 ((0 : Int32)).toNatClampNeg (r2).toInt64) (fun M7 => some (M7, Sum.inl (0 : Int32))))) (fun M3 e4 => ite2 (e4 = 0) (some (M3, Sum.inl (1 : Int32))) (none))
set_option maxHeartbeats 4000000 in
set_option maxRecDepth 100000 in
theorem tL_tool (l : Launch) (hst : l.stackTraces = false) {G : GT} {kd : Nat → Nat × Nat} {ad : Nat → Nat} {k0 : Nat} {k1 : Nat} (hk0 : kRoot kd k0) (hk1 : kd k1 = (13, 1)) {x1 : Int32} {x2 : Int32} {M : Mem} {MO : Mem} {vo : Int32 ⊕ Nat} (hf : mL_tool k0 k1 x1 x2 M = some (MO, vo)) (n : Nat) : vx_Met l yL_tool (Cond.codeWith yL_tool cL_tool 5 (some .int) [(0, 10, 13, 13)] :: WA) (rmO 2 1 6) (Pn G kd ad n [.ref (ad k0), .int x1, .int x2, .ref (ad k1)] M) (Qx G kd ad n MO (zi vo)) (Xx G kd ad n MO (zi vo)) 1 6 (AS kd ad n) := by
  refine g_bodyXH (own := RL) (by decide) rfl ?_ (Nat.le_of_ble_eq_true rfl)
  intro p e s m args below meth c C htb hnc _ H locs ls hI hl
  obtain ⟨hx, hb, hml, hr, hown, hts, hlk, hK, hap, hsx⟩ := id C
  have hl : lv_has ls 5 [(0, .ref (ad k0)), (1, .int x1), (2, .int x2), (3, .ref (ad k1))] := hl
  unfold mL_tool at hf
  refine lv_aload_n hx hb (dc tbL_tool_k 0 rfl) rfl (lv_at hl 3 rfl) ?_
  refine lv_iconst (v := 0) hx hb (dc tbL_tool_k 1 rfl) ic_0 ?_
  refine lv_aload_n hx hb (dc tbL_tool_k 2 rfl) rfl (lv_at hl 0 rfl) ?_
  refine lv_iload_n hx hb (dc tbL_tool_k 3 rfl) rfl (lv_at hl 1 rfl) ?_
  refine lv_iload_n hx hb (dc tbL_tool_k 4 rfl) rfl (lv_at hl 2 rfl) ?_
  rcases calt_s hf with ⟨M3, r2, q1, hf⟩ | ⟨M3, e4, q1, hf⟩
  · refine x_callRi (g_runXV hx hb hml hown hts hK hap hsx hI (tX6_tool l hst hk0 q1 H.size) cv_X6_tool q_t6_64 rfl rfl ⟨Nat.le_of_ble_eq_true rfl, Nat.le_of_ble_eq_true rfl⟩ hk0.1 (by simp) rfl rfl rfl hl.1 rfl (Nat.le_of_ble_eq_true rfl) (dc tbL_tool_k 5 rfl) ⟨Nat.le_of_ble_eq_true rfl, Nat.le_of_ble_eq_true rfl⟩) hI (fun H locs hI => ?_)
    refine lv_i2l hx hb (dc tbL_tool_k 6 rfl) rfl ?_
    obtain ⟨h5, hf⟩ := chk_s hf
    obtain ⟨M7, e6, hf⟩ := bnd_s hf
    refine g_last hx hb hK hap hI hk1 (okb_in h5) (dc tbL_tool_k 7 rfl) e6 (fun H locs hI => ?_)
    refine lv_goto (tgt := 17) hx hb (dc tbL_tool_k 8 rfl) rfl ?_
    refine lv_iconst (v := 0) hx hb (dc tbL_tool_k 12 rfl) ic_0 ?_
    cases hf
    exact x_ret (g_iret hx hb hr hlk hI (dc tbL_tool_k 13 rfl))
  · refine by_c (c := e4 = 0) (fun c8 => ?_) (fun c8 => ?_)
    · have hf := ite_t c8 hf
      subst c8
      refine x_callC (E := "java/lang/IllegalArgumentException") (g_runXV hx hb hml hown hts hK hap hsx hI (tX6_tool l hst hk0 q1 H.size) cv_X6_tool q_t6_64 rfl rfl ⟨Nat.le_of_ble_eq_true rfl, Nat.le_of_ble_eq_true rfl⟩ hk0.1 (by simp) rfl rfl rfl hl.1 rfl (Nat.le_of_ble_eq_true rfl) (dc tbL_tool_k 5 rfl) ⟨Nat.le_of_ble_eq_true rfl, Nat.le_of_ble_eq_true rfl⟩) hI hown hts hsx rfl htb [] ⟨0, 10, 13, 13⟩ [] rfl (fun _ h => absurd h List.not_mem_nil) (by decide) (by decide) q_t5_101 (by decide +kernel) rfl (fun qx H locs hI => ?_)
      refine lv_astore (lv' := [(4, .ref qx), (0, .ref (ad k0)), (1, .int x1), (2, .int x2), (3, .ref (ad k1))]) hx hb (dc tbL_tool_k 9 rfl) hl (by decide) rfl (fun ls hl => ?_)
      refine lv_iconst (v := 1) hx hb (dc tbL_tool_k 10 rfl) ic_1 ?_
      cases hf
      exact x_ret (g_iret hx hb hr hlk hI (dc tbL_tool_k 11 rfl))
    · have hf := ite_f c8 hf
      cases hf
theorem ch_L_tool : Cond.static yL_tool ∈ WA ∧ Cond.initialized yL_tool.cls ∈ WA ∧ Cond.codeWith yL_tool cL_tool 5 (some .int) [(0, 10, 13, 13)] ∈ WA ∧ (yL_tool.cls ≠ "java/lang/invoke/MethodHandle" ∧ yL_tool.cls ≠ "java/lang/invoke/VarHandle" ∧ (parseMethodDescriptor yL_tool.desc).map (fun d => d.parameters.length) = some 4) := ⟨q_t6_62, q_t1_0, q_t6_63, by decide +kernel⟩
def mL_finishedCorner (k0 : Nat) (k1 : Nat) (x1 : Int32) (x2 : Int32) (M : Mem) : Option (Mem × (Int32 ⊕ Nat)) := calt (mX6_finishedCorner k0 x1 x2 M) (fun M3 r2 => chk (okb (0 : Int32) 1) (bnd (wl M3 k1 ((0 : Int32)).toNatClampNeg (r2).toInt64) (fun M7 => some (M7, Sum.inl (0 : Int32))))) (fun M3 e4 => ite2 (e4 = 1) (some (M3, Sum.inl (1 : Int32))) (ite2 (e4 = 0) (some (M3, Sum.inl (2 : Int32))) (none)))
set_option maxHeartbeats 4000000 in
set_option maxRecDepth 100000 in
theorem tL_finishedCorner (l : Launch) (hst : l.stackTraces = false) {G : GT} {kd : Nat → Nat × Nat} {ad : Nat → Nat} {k0 : Nat} {k1 : Nat} (hk0 : kRoot kd k0) (hk1 : kd k1 = (13, 1)) {x1 : Int32} {x2 : Int32} {M : Mem} {MO : Mem} {vo : Int32 ⊕ Nat} (hf : mL_finishedCorner k0 k1 x1 x2 M = some (MO, vo)) (n : Nat) : vx_Met l yL_finishedCorner (Cond.codeWith yL_finishedCorner cL_finishedCorner 5 (some .int) [(0, 10, 13, 18), (0, 10, 17, 13)] :: WA) (rmO 4 2 12) (Pn G kd ad n [.ref (ad k0), .int x1, .int x2, .ref (ad k1)] M) (Qx G kd ad n MO (zi vo)) (Xx G kd ad n MO (zi vo)) 2 12 (AS kd ad n) := by
  refine g_bodyXH (own := RL) (by decide) rfl ?_ (Nat.le_of_ble_eq_true rfl)
  intro p e s m args below meth c C htb hnc _ H locs ls hI hl
  obtain ⟨hx, hb, hml, hr, hown, hts, hlk, hK, hap, hsx⟩ := id C
  have hl : lv_has ls 5 [(0, .ref (ad k0)), (1, .int x1), (2, .int x2), (3, .ref (ad k1))] := hl
  unfold mL_finishedCorner at hf
  refine lv_aload_n hx hb (dc tbL_finishedCorner_k 0 rfl) rfl (lv_at hl 3 rfl) ?_
  refine lv_iconst (v := 0) hx hb (dc tbL_finishedCorner_k 1 rfl) ic_0 ?_
  refine lv_aload_n hx hb (dc tbL_finishedCorner_k 2 rfl) rfl (lv_at hl 0 rfl) ?_
  refine lv_iload_n hx hb (dc tbL_finishedCorner_k 3 rfl) rfl (lv_at hl 1 rfl) ?_
  refine lv_iload_n hx hb (dc tbL_finishedCorner_k 4 rfl) rfl (lv_at hl 2 rfl) ?_
  rcases calt_s hf with ⟨M3, r2, q1, hf⟩ | ⟨M3, e4, q1, hf⟩
  · refine x_callRi (g_runXV hx hb hml hown hts hK hap hsx hI (tX6_finishedCorner l hst hk0 q1 H.size) cv_X6_finishedCorner q_t6_74 rfl rfl ⟨Nat.le_of_ble_eq_true rfl, Nat.le_of_ble_eq_true rfl⟩ hk0.1 (by simp) rfl rfl rfl hl.1 rfl (Nat.le_of_ble_eq_true rfl) (dc tbL_finishedCorner_k 5 rfl) ⟨Nat.le_of_ble_eq_true rfl, Nat.le_of_ble_eq_true rfl⟩) hI (fun H locs hI => ?_)
    refine lv_i2l hx hb (dc tbL_finishedCorner_k 6 rfl) rfl ?_
    obtain ⟨h5, hf⟩ := chk_s hf
    obtain ⟨M7, e6, hf⟩ := bnd_s hf
    refine g_last hx hb hK hap hI hk1 (okb_in h5) (dc tbL_finishedCorner_k 7 rfl) e6 (fun H locs hI => ?_)
    refine lv_goto (tgt := 21) hx hb (dc tbL_finishedCorner_k 8 rfl) rfl ?_
    refine lv_iconst (v := 0) hx hb (dc tbL_finishedCorner_k 15 rfl) ic_0 ?_
    cases hf
    exact x_ret (g_iret hx hb hr hlk hI (dc tbL_finishedCorner_k 16 rfl))
  · refine by_c (c := e4 = 1) (fun c8 => ?_) (fun c8 => ?_)
    · have hf := ite_t c8 hf
      subst c8
      refine x_callC (E := "java/lang/IndexOutOfBoundsException") (g_runXV hx hb hml hown hts hK hap hsx hI (tX6_finishedCorner l hst hk0 q1 H.size) cv_X6_finishedCorner q_t6_74 rfl rfl ⟨Nat.le_of_ble_eq_true rfl, Nat.le_of_ble_eq_true rfl⟩ hk0.1 (by simp) rfl rfl rfl hl.1 rfl (Nat.le_of_ble_eq_true rfl) (dc tbL_finishedCorner_k 5 rfl) ⟨Nat.le_of_ble_eq_true rfl, Nat.le_of_ble_eq_true rfl⟩) hI hown hts hsx rfl htb [] ⟨0, 10, 13, 18⟩ [⟨0, 10, 17, 13⟩] rfl (fun _ h => absurd h List.not_mem_nil) (by decide) (by decide) q_t6_10 (by decide +kernel) rfl (fun qx H locs hI => ?_)
      refine lv_astore (lv' := [(4, .ref qx), (0, .ref (ad k0)), (1, .int x1), (2, .int x2), (3, .ref (ad k1))]) hx hb (dc tbL_finishedCorner_k 9 rfl) hl (by decide) rfl (fun ls hl => ?_)
      refine lv_iconst (v := 1) hx hb (dc tbL_finishedCorner_k 10 rfl) ic_1 ?_
      cases hf
      exact x_ret (g_iret hx hb hr hlk hI (dc tbL_finishedCorner_k 11 rfl))
    · have hf := ite_f c8 hf
      refine by_c (c := e4 = 0) (fun c9 => ?_) (fun c9 => ?_)
      · have hf := ite_t c9 hf
        subst c9
        refine x_callC (E := "java/lang/IllegalArgumentException") (g_runXV hx hb hml hown hts hK hap hsx hI (tX6_finishedCorner l hst hk0 q1 H.size) cv_X6_finishedCorner q_t6_74 rfl rfl ⟨Nat.le_of_ble_eq_true rfl, Nat.le_of_ble_eq_true rfl⟩ hk0.1 (by simp) rfl rfl rfl hl.1 rfl (Nat.le_of_ble_eq_true rfl) (dc tbL_finishedCorner_k 5 rfl) ⟨Nat.le_of_ble_eq_true rfl, Nat.le_of_ble_eq_true rfl⟩) hI hown hts hsx rfl htb [⟨0, 10, 13, 18⟩] ⟨0, 10, 17, 13⟩ [] rfl (List.forall_mem_cons.mpr ⟨⟨by decide, "java/lang/IndexOutOfBoundsException", q_t6_10, hnc.1⟩, fun _ h => absurd h List.not_mem_nil⟩) (by decide) (by decide) q_t5_101 (by decide +kernel) rfl (fun qx H locs hI => ?_)
        refine lv_astore (lv' := [(4, .ref qx), (0, .ref (ad k0)), (1, .int x1), (2, .int x2), (3, .ref (ad k1))]) hx hb (dc tbL_finishedCorner_k 12 rfl) hl (by decide) rfl (fun ls hl => ?_)
        refine lv_iconst (v := 2) hx hb (dc tbL_finishedCorner_k 13 rfl) ic_2 ?_
        cases hf
        exact x_ret (g_iret hx hb hr hlk hI (dc tbL_finishedCorner_k 14 rfl))
      · have hf := ite_f c9 hf
        cases hf
theorem ch_L_finishedCorner : Cond.static yL_finishedCorner ∈ WA ∧ Cond.initialized yL_finishedCorner.cls ∈ WA ∧ Cond.codeWith yL_finishedCorner cL_finishedCorner 5 (some .int) [(0, 10, 13, 18), (0, 10, 17, 13)] ∈ WA ∧ (yL_finishedCorner.cls ≠ "java/lang/invoke/MethodHandle" ∧ yL_finishedCorner.cls ≠ "java/lang/invoke/VarHandle" ∧ (parseMethodDescriptor yL_finishedCorner.desc).map (fun d => d.parameters.length) = some 4) := ⟨q_t6_72, q_t1_0, q_t6_73, by decide +kernel⟩
def mL_step (k0 : Nat) (k1 : Nat) (x1 : Int32) (x2 : Int32) (M : Mem) : Option (Mem × (Int32 ⊕ Nat)) := calt (mX6_step k0 x1 x2 M) (fun M3 r2 => chk (okb (0 : Int32) 1) (bnd (wl M3 k1 ((0 : Int32)).toNatClampNeg (r2).toInt64) (fun M7 => some (M7, Sum.inl (0 : Int32))))) (fun M3 e4 => ite2 (e4 = 1) (some (M3, Sum.inl (1 : Int32))) (ite2 (e4 = 0) (some (M3, Sum.inl (2 : Int32))) (none)))
set_option maxHeartbeats 4000000 in
set_option maxRecDepth 100000 in
theorem tL_step (l : Launch) (hst : l.stackTraces = false) {G : GT} {kd : Nat → Nat × Nat} {ad : Nat → Nat} {k0 : Nat} {k1 : Nat} (hk0 : kRoot kd k0) (hk1 : kd k1 = (13, 1)) {x1 : Int32} {x2 : Int32} {M : Mem} {MO : Mem} {vo : Int32 ⊕ Nat} (hf : mL_step k0 k1 x1 x2 M = some (MO, vo)) (n : Nat) : vx_Met l yL_step (Cond.codeWith yL_step cL_step 5 (some .int) [(0, 10, 13, 18), (0, 10, 17, 13)] :: WA) (rmO 2 2 12) (Pn G kd ad n [.ref (ad k0), .int x1, .int x2, .ref (ad k1)] M) (Qx G kd ad n MO (zi vo)) (Xx G kd ad n MO (zi vo)) 2 12 (AS kd ad n) := by
  refine g_bodyXH (own := RL) (by decide) rfl ?_ (Nat.le_of_ble_eq_true rfl)
  intro p e s m args below meth c C htb hnc _ H locs ls hI hl
  obtain ⟨hx, hb, hml, hr, hown, hts, hlk, hK, hap, hsx⟩ := id C
  have hl : lv_has ls 5 [(0, .ref (ad k0)), (1, .int x1), (2, .int x2), (3, .ref (ad k1))] := hl
  unfold mL_step at hf
  refine lv_aload_n hx hb (dc tbL_step_k 0 rfl) rfl (lv_at hl 3 rfl) ?_
  refine lv_iconst (v := 0) hx hb (dc tbL_step_k 1 rfl) ic_0 ?_
  refine lv_aload_n hx hb (dc tbL_step_k 2 rfl) rfl (lv_at hl 0 rfl) ?_
  refine lv_iload_n hx hb (dc tbL_step_k 3 rfl) rfl (lv_at hl 1 rfl) ?_
  refine lv_iload_n hx hb (dc tbL_step_k 4 rfl) rfl (lv_at hl 2 rfl) ?_
  rcases calt_s hf with ⟨M3, r2, q1, hf⟩ | ⟨M3, e4, q1, hf⟩
  · refine x_callRi (g_runXV hx hb hml hown hts hK hap hsx hI (tX6_step l hst hk0 q1 H.size) cv_X6_step q_t6_85 rfl rfl ⟨Nat.le_of_ble_eq_true rfl, Nat.le_of_ble_eq_true rfl⟩ hk0.1 (by simp) rfl rfl rfl hl.1 rfl (Nat.le_of_ble_eq_true rfl) (dc tbL_step_k 5 rfl) ⟨Nat.le_of_ble_eq_true rfl, Nat.le_of_ble_eq_true rfl⟩) hI (fun H locs hI => ?_)
    refine lv_i2l hx hb (dc tbL_step_k 6 rfl) rfl ?_
    obtain ⟨h5, hf⟩ := chk_s hf
    obtain ⟨M7, e6, hf⟩ := bnd_s hf
    refine g_last hx hb hK hap hI hk1 (okb_in h5) (dc tbL_step_k 7 rfl) e6 (fun H locs hI => ?_)
    refine lv_goto (tgt := 21) hx hb (dc tbL_step_k 8 rfl) rfl ?_
    refine lv_iconst (v := 0) hx hb (dc tbL_step_k 15 rfl) ic_0 ?_
    cases hf
    exact x_ret (g_iret hx hb hr hlk hI (dc tbL_step_k 16 rfl))
  · refine by_c (c := e4 = 1) (fun c8 => ?_) (fun c8 => ?_)
    · have hf := ite_t c8 hf
      subst c8
      refine x_callC (E := "java/lang/IndexOutOfBoundsException") (g_runXV hx hb hml hown hts hK hap hsx hI (tX6_step l hst hk0 q1 H.size) cv_X6_step q_t6_85 rfl rfl ⟨Nat.le_of_ble_eq_true rfl, Nat.le_of_ble_eq_true rfl⟩ hk0.1 (by simp) rfl rfl rfl hl.1 rfl (Nat.le_of_ble_eq_true rfl) (dc tbL_step_k 5 rfl) ⟨Nat.le_of_ble_eq_true rfl, Nat.le_of_ble_eq_true rfl⟩) hI hown hts hsx rfl htb [] ⟨0, 10, 13, 18⟩ [⟨0, 10, 17, 13⟩] rfl (fun _ h => absurd h List.not_mem_nil) (by decide) (by decide) q_t6_10 (by decide +kernel) rfl (fun qx H locs hI => ?_)
      refine lv_astore (lv' := [(4, .ref qx), (0, .ref (ad k0)), (1, .int x1), (2, .int x2), (3, .ref (ad k1))]) hx hb (dc tbL_step_k 9 rfl) hl (by decide) rfl (fun ls hl => ?_)
      refine lv_iconst (v := 1) hx hb (dc tbL_step_k 10 rfl) ic_1 ?_
      cases hf
      exact x_ret (g_iret hx hb hr hlk hI (dc tbL_step_k 11 rfl))
    · have hf := ite_f c8 hf
      refine by_c (c := e4 = 0) (fun c9 => ?_) (fun c9 => ?_)
      · have hf := ite_t c9 hf
        subst c9
        refine x_callC (E := "java/lang/IllegalArgumentException") (g_runXV hx hb hml hown hts hK hap hsx hI (tX6_step l hst hk0 q1 H.size) cv_X6_step q_t6_85 rfl rfl ⟨Nat.le_of_ble_eq_true rfl, Nat.le_of_ble_eq_true rfl⟩ hk0.1 (by simp) rfl rfl rfl hl.1 rfl (Nat.le_of_ble_eq_true rfl) (dc tbL_step_k 5 rfl) ⟨Nat.le_of_ble_eq_true rfl, Nat.le_of_ble_eq_true rfl⟩) hI hown hts hsx rfl htb [⟨0, 10, 13, 18⟩] ⟨0, 10, 17, 13⟩ [] rfl (List.forall_mem_cons.mpr ⟨⟨by decide, "java/lang/IndexOutOfBoundsException", q_t6_10, hnc.1⟩, fun _ h => absurd h List.not_mem_nil⟩) (by decide) (by decide) q_t5_101 (by decide +kernel) rfl (fun qx H locs hI => ?_)
        refine lv_astore (lv' := [(4, .ref qx), (0, .ref (ad k0)), (1, .int x1), (2, .int x2), (3, .ref (ad k1))]) hx hb (dc tbL_step_k 12 rfl) hl (by decide) rfl (fun ls hl => ?_)
        refine lv_iconst (v := 2) hx hb (dc tbL_step_k 13 rfl) ic_2 ?_
        cases hf
        exact x_ret (g_iret hx hb hr hlk hI (dc tbL_step_k 14 rfl))
      · have hf := ite_f c9 hf
        cases hf
theorem ch_L_step : Cond.static yL_step ∈ WA ∧ Cond.initialized yL_step.cls ∈ WA ∧ Cond.codeWith yL_step cL_step 5 (some .int) [(0, 10, 13, 18), (0, 10, 17, 13)] ∈ WA ∧ (yL_step.cls ≠ "java/lang/invoke/MethodHandle" ∧ yL_step.cls ≠ "java/lang/invoke/VarHandle" ∧ (parseMethodDescriptor yL_step.desc).map (fun d => d.parameters.length) = some 4) := ⟨q_t6_83, q_t1_0, q_t6_84, by decide +kernel⟩
def mL_reason (k0 : Nat) (k1 : Nat) (x1 : Int32) (x2 : Int32) (M : Mem) : Option (Mem × (Int32 ⊕ Nat)) := calt (mX6_reason k0 x1 x2 M) (fun M3 r2 => chk (okb (0 : Int32) 1) (bnd (wl M3 k1 ((0 : Int32)).toNatClampNeg (r2).toInt64) (fun M7 => some (M7, Sum.inl (0 : Int32))))) (fun M3 e4 => ite2 (e4 = 1) (some (M3, Sum.inl (1 : Int32))) (ite2 (e4 = 0) (some (M3, Sum.inl (2 : Int32))) (none)))
set_option maxHeartbeats 4000000 in
set_option maxRecDepth 100000 in
theorem tL_reason (l : Launch) (hst : l.stackTraces = false) {G : GT} {kd : Nat → Nat × Nat} {ad : Nat → Nat} {k0 : Nat} {k1 : Nat} (hk0 : kRoot kd k0) (hk1 : kd k1 = (13, 1)) {x1 : Int32} {x2 : Int32} {M : Mem} {MO : Mem} {vo : Int32 ⊕ Nat} (hf : mL_reason k0 k1 x1 x2 M = some (MO, vo)) (n : Nat) : vx_Met l yL_reason (Cond.codeWith yL_reason cL_reason 5 (some .int) [(0, 10, 13, 18), (0, 10, 17, 13)] :: WA) (rmO 5 2 12) (Pn G kd ad n [.ref (ad k0), .int x1, .int x2, .ref (ad k1)] M) (Qx G kd ad n MO (zi vo)) (Xx G kd ad n MO (zi vo)) 2 12 (AS kd ad n) := by
  refine g_bodyXH (own := RL) (by decide) rfl ?_ (Nat.le_of_ble_eq_true rfl)
  intro p e s m args below meth c C htb hnc _ H locs ls hI hl
  obtain ⟨hx, hb, hml, hr, hown, hts, hlk, hK, hap, hsx⟩ := id C
  have hl : lv_has ls 5 [(0, .ref (ad k0)), (1, .int x1), (2, .int x2), (3, .ref (ad k1))] := hl
  unfold mL_reason at hf
  refine lv_aload_n hx hb (dc tbL_reason_k 0 rfl) rfl (lv_at hl 3 rfl) ?_
  refine lv_iconst (v := 0) hx hb (dc tbL_reason_k 1 rfl) ic_0 ?_
  refine lv_aload_n hx hb (dc tbL_reason_k 2 rfl) rfl (lv_at hl 0 rfl) ?_
  refine lv_iload_n hx hb (dc tbL_reason_k 3 rfl) rfl (lv_at hl 1 rfl) ?_
  refine lv_iload_n hx hb (dc tbL_reason_k 4 rfl) rfl (lv_at hl 2 rfl) ?_
  rcases calt_s hf with ⟨M3, r2, q1, hf⟩ | ⟨M3, e4, q1, hf⟩
  · refine x_callRi (g_runXV hx hb hml hown hts hK hap hsx hI (tX6_reason l hst hk0 q1 H.size) cv_X6_reason q_t6_93 rfl rfl ⟨Nat.le_of_ble_eq_true rfl, Nat.le_of_ble_eq_true rfl⟩ hk0.1 (by simp) rfl rfl rfl hl.1 rfl (Nat.le_of_ble_eq_true rfl) (dc tbL_reason_k 5 rfl) ⟨Nat.le_of_ble_eq_true rfl, Nat.le_of_ble_eq_true rfl⟩) hI (fun H locs hI => ?_)
    refine lv_i2l hx hb (dc tbL_reason_k 6 rfl) rfl ?_
    obtain ⟨h5, hf⟩ := chk_s hf
    obtain ⟨M7, e6, hf⟩ := bnd_s hf
    refine g_last hx hb hK hap hI hk1 (okb_in h5) (dc tbL_reason_k 7 rfl) e6 (fun H locs hI => ?_)
    refine lv_goto (tgt := 21) hx hb (dc tbL_reason_k 8 rfl) rfl ?_
    refine lv_iconst (v := 0) hx hb (dc tbL_reason_k 15 rfl) ic_0 ?_
    cases hf
    exact x_ret (g_iret hx hb hr hlk hI (dc tbL_reason_k 16 rfl))
  · refine by_c (c := e4 = 1) (fun c8 => ?_) (fun c8 => ?_)
    · have hf := ite_t c8 hf
      subst c8
      refine x_callC (E := "java/lang/IndexOutOfBoundsException") (g_runXV hx hb hml hown hts hK hap hsx hI (tX6_reason l hst hk0 q1 H.size) cv_X6_reason q_t6_93 rfl rfl ⟨Nat.le_of_ble_eq_true rfl, Nat.le_of_ble_eq_true rfl⟩ hk0.1 (by simp) rfl rfl rfl hl.1 rfl (Nat.le_of_ble_eq_true rfl) (dc tbL_reason_k 5 rfl) ⟨Nat.le_of_ble_eq_true rfl, Nat.le_of_ble_eq_true rfl⟩) hI hown hts hsx rfl htb [] ⟨0, 10, 13, 18⟩ [⟨0, 10, 17, 13⟩] rfl (fun _ h => absurd h List.not_mem_nil) (by decide) (by decide) q_t6_10 (by decide +kernel) rfl (fun qx H locs hI => ?_)
      refine lv_astore (lv' := [(4, .ref qx), (0, .ref (ad k0)), (1, .int x1), (2, .int x2), (3, .ref (ad k1))]) hx hb (dc tbL_reason_k 9 rfl) hl (by decide) rfl (fun ls hl => ?_)
      refine lv_iconst (v := 1) hx hb (dc tbL_reason_k 10 rfl) ic_1 ?_
      cases hf
      exact x_ret (g_iret hx hb hr hlk hI (dc tbL_reason_k 11 rfl))
    · have hf := ite_f c8 hf
      refine by_c (c := e4 = 0) (fun c9 => ?_) (fun c9 => ?_)
      · have hf := ite_t c9 hf
        subst c9
        refine x_callC (E := "java/lang/IllegalArgumentException") (g_runXV hx hb hml hown hts hK hap hsx hI (tX6_reason l hst hk0 q1 H.size) cv_X6_reason q_t6_93 rfl rfl ⟨Nat.le_of_ble_eq_true rfl, Nat.le_of_ble_eq_true rfl⟩ hk0.1 (by simp) rfl rfl rfl hl.1 rfl (Nat.le_of_ble_eq_true rfl) (dc tbL_reason_k 5 rfl) ⟨Nat.le_of_ble_eq_true rfl, Nat.le_of_ble_eq_true rfl⟩) hI hown hts hsx rfl htb [⟨0, 10, 13, 18⟩] ⟨0, 10, 17, 13⟩ [] rfl (List.forall_mem_cons.mpr ⟨⟨by decide, "java/lang/IndexOutOfBoundsException", q_t6_10, hnc.1⟩, fun _ h => absurd h List.not_mem_nil⟩) (by decide) (by decide) q_t5_101 (by decide +kernel) rfl (fun qx H locs hI => ?_)
        refine lv_astore (lv' := [(4, .ref qx), (0, .ref (ad k0)), (1, .int x1), (2, .int x2), (3, .ref (ad k1))]) hx hb (dc tbL_reason_k 12 rfl) hl (by decide) rfl (fun ls hl => ?_)
        refine lv_iconst (v := 2) hx hb (dc tbL_reason_k 13 rfl) ic_2 ?_
        cases hf
        exact x_ret (g_iret hx hb hr hlk hI (dc tbL_reason_k 14 rfl))
      · have hf := ite_f c9 hf
        cases hf
theorem ch_L_reason : Cond.static yL_reason ∈ WA ∧ Cond.initialized yL_reason.cls ∈ WA ∧ Cond.codeWith yL_reason cL_reason 5 (some .int) [(0, 10, 13, 18), (0, 10, 17, 13)] ∈ WA ∧ (yL_reason.cls ≠ "java/lang/invoke/MethodHandle" ∧ yL_reason.cls ≠ "java/lang/invoke/VarHandle" ∧ (parseMethodDescriptor yL_reason.desc).map (fun d => d.parameters.length) = some 4) := ⟨q_t6_91, q_t1_0, q_t6_92, by decide +kernel⟩
def mL_gauge (k0 : Nat) (k1 : Nat) (x1 : Int32) (x2 : Int32) (M : Mem) : Option (Mem × (Int32 ⊕ Nat)) := calt (mX6_gauge k0 x1 x2 M) (fun M3 r2 => chk (okb (0 : Int32) 1) (bnd (wl M3 k1 ((0 : Int32)).toNatClampNeg (r2).toInt64) (fun M7 => some (M7, Sum.inl (0 : Int32))))) (fun M3 e4 => ite2 (e4 = 1) (some (M3, Sum.inl (1 : Int32))) (ite2 (e4 = 0) (some (M3, Sum.inl (2 : Int32))) (none)))
set_option maxHeartbeats 4000000 in
set_option maxRecDepth 100000 in
theorem tL_gauge (l : Launch) (hst : l.stackTraces = false) {G : GT} {kd : Nat → Nat × Nat} {ad : Nat → Nat} {k0 : Nat} {k1 : Nat} (hk0 : kRoot kd k0) (hk1 : kd k1 = (13, 1)) {x1 : Int32} {x2 : Int32} {M : Mem} {MO : Mem} {vo : Int32 ⊕ Nat} (hf : mL_gauge k0 k1 x1 x2 M = some (MO, vo)) (n : Nat) : vx_Met l yL_gauge (Cond.codeWith yL_gauge cL_gauge 5 (some .int) [(0, 10, 13, 18), (0, 10, 17, 13)] :: WA) (rmO 4 2 12) (Pn G kd ad n [.ref (ad k0), .int x1, .int x2, .ref (ad k1)] M) (Qx G kd ad n MO (zi vo)) (Xx G kd ad n MO (zi vo)) 2 12 (AS kd ad n) := by
  refine g_bodyXH (own := RL) (by decide) rfl ?_ (Nat.le_of_ble_eq_true rfl)
  intro p e s m args below meth c C htb hnc _ H locs ls hI hl
  obtain ⟨hx, hb, hml, hr, hown, hts, hlk, hK, hap, hsx⟩ := id C
  have hl : lv_has ls 5 [(0, .ref (ad k0)), (1, .int x1), (2, .int x2), (3, .ref (ad k1))] := hl
  unfold mL_gauge at hf
  refine lv_aload_n hx hb (dc tbL_gauge_k 0 rfl) rfl (lv_at hl 3 rfl) ?_
  refine lv_iconst (v := 0) hx hb (dc tbL_gauge_k 1 rfl) ic_0 ?_
  refine lv_aload_n hx hb (dc tbL_gauge_k 2 rfl) rfl (lv_at hl 0 rfl) ?_
  refine lv_iload_n hx hb (dc tbL_gauge_k 3 rfl) rfl (lv_at hl 1 rfl) ?_
  refine lv_iload_n hx hb (dc tbL_gauge_k 4 rfl) rfl (lv_at hl 2 rfl) ?_
  rcases calt_s hf with ⟨M3, r2, q1, hf⟩ | ⟨M3, e4, q1, hf⟩
  · refine x_callRi (g_runXV hx hb hml hown hts hK hap hsx hI (tX6_gauge l hst hk0 q1 H.size) cv_X6_gauge q_t6_109 rfl rfl ⟨Nat.le_of_ble_eq_true rfl, Nat.le_of_ble_eq_true rfl⟩ hk0.1 (by simp) rfl rfl rfl hl.1 rfl (Nat.le_of_ble_eq_true rfl) (dc tbL_gauge_k 5 rfl) ⟨Nat.le_of_ble_eq_true rfl, Nat.le_of_ble_eq_true rfl⟩) hI (fun H locs hI => ?_)
    refine lv_i2l hx hb (dc tbL_gauge_k 6 rfl) rfl ?_
    obtain ⟨h5, hf⟩ := chk_s hf
    obtain ⟨M7, e6, hf⟩ := bnd_s hf
    refine g_last hx hb hK hap hI hk1 (okb_in h5) (dc tbL_gauge_k 7 rfl) e6 (fun H locs hI => ?_)
    refine lv_goto (tgt := 21) hx hb (dc tbL_gauge_k 8 rfl) rfl ?_
    refine lv_iconst (v := 0) hx hb (dc tbL_gauge_k 15 rfl) ic_0 ?_
    cases hf
    exact x_ret (g_iret hx hb hr hlk hI (dc tbL_gauge_k 16 rfl))
  · refine by_c (c := e4 = 1) (fun c8 => ?_) (fun c8 => ?_)
    · have hf := ite_t c8 hf
      subst c8
      refine x_callC (E := "java/lang/IndexOutOfBoundsException") (g_runXV hx hb hml hown hts hK hap hsx hI (tX6_gauge l hst hk0 q1 H.size) cv_X6_gauge q_t6_109 rfl rfl ⟨Nat.le_of_ble_eq_true rfl, Nat.le_of_ble_eq_true rfl⟩ hk0.1 (by simp) rfl rfl rfl hl.1 rfl (Nat.le_of_ble_eq_true rfl) (dc tbL_gauge_k 5 rfl) ⟨Nat.le_of_ble_eq_true rfl, Nat.le_of_ble_eq_true rfl⟩) hI hown hts hsx rfl htb [] ⟨0, 10, 13, 18⟩ [⟨0, 10, 17, 13⟩] rfl (fun _ h => absurd h List.not_mem_nil) (by decide) (by decide) q_t6_10 (by decide +kernel) rfl (fun qx H locs hI => ?_)
      refine lv_astore (lv' := [(4, .ref qx), (0, .ref (ad k0)), (1, .int x1), (2, .int x2), (3, .ref (ad k1))]) hx hb (dc tbL_gauge_k 9 rfl) hl (by decide) rfl (fun ls hl => ?_)
      refine lv_iconst (v := 1) hx hb (dc tbL_gauge_k 10 rfl) ic_1 ?_
      cases hf
      exact x_ret (g_iret hx hb hr hlk hI (dc tbL_gauge_k 11 rfl))
    · have hf := ite_f c8 hf
      refine by_c (c := e4 = 0) (fun c9 => ?_) (fun c9 => ?_)
      · have hf := ite_t c9 hf
        subst c9
        refine x_callC (E := "java/lang/IllegalArgumentException") (g_runXV hx hb hml hown hts hK hap hsx hI (tX6_gauge l hst hk0 q1 H.size) cv_X6_gauge q_t6_109 rfl rfl ⟨Nat.le_of_ble_eq_true rfl, Nat.le_of_ble_eq_true rfl⟩ hk0.1 (by simp) rfl rfl rfl hl.1 rfl (Nat.le_of_ble_eq_true rfl) (dc tbL_gauge_k 5 rfl) ⟨Nat.le_of_ble_eq_true rfl, Nat.le_of_ble_eq_true rfl⟩) hI hown hts hsx rfl htb [⟨0, 10, 13, 18⟩] ⟨0, 10, 17, 13⟩ [] rfl (List.forall_mem_cons.mpr ⟨⟨by decide, "java/lang/IndexOutOfBoundsException", q_t6_10, hnc.1⟩, fun _ h => absurd h List.not_mem_nil⟩) (by decide) (by decide) q_t5_101 (by decide +kernel) rfl (fun qx H locs hI => ?_)
        refine lv_astore (lv' := [(4, .ref qx), (0, .ref (ad k0)), (1, .int x1), (2, .int x2), (3, .ref (ad k1))]) hx hb (dc tbL_gauge_k 12 rfl) hl (by decide) rfl (fun ls hl => ?_)
        refine lv_iconst (v := 2) hx hb (dc tbL_gauge_k 13 rfl) ic_2 ?_
        cases hf
        exact x_ret (g_iret hx hb hr hlk hI (dc tbL_gauge_k 14 rfl))
      · have hf := ite_f c9 hf
        cases hf
theorem ch_L_gauge : Cond.static yL_gauge ∈ WA ∧ Cond.initialized yL_gauge.cls ∈ WA ∧ Cond.codeWith yL_gauge cL_gauge 5 (some .int) [(0, 10, 13, 18), (0, 10, 17, 13)] ∈ WA ∧ (yL_gauge.cls ≠ "java/lang/invoke/MethodHandle" ∧ yL_gauge.cls ≠ "java/lang/invoke/VarHandle" ∧ (parseMethodDescriptor yL_gauge.desc).map (fun d => d.parameters.length) = some 4) := ⟨q_t6_107, q_t1_0, q_t6_108, by decide +kernel⟩
def mL_corner (k0 : Nat) (k1 : Nat) (x1 : Int32) (x2 : Int32) (x3 : Int32) (x4 : Int32) (M : Mem) : Option (Mem × (Int32 ⊕ Nat)) := calt (mX6_corner k0 x1 x2 x3 x4 M) (fun M3 r2 => chk (okb (0 : Int32) 1) (bnd (wl M3 k1 ((0 : Int32)).toNatClampNeg (r2).toInt64) (fun M7 => some (M7, Sum.inl (0 : Int32))))) (fun M3 e4 => ite2 (e4 = 1) (some (M3, Sum.inl (1 : Int32))) (ite2 (e4 = 0) (some (M3, Sum.inl (2 : Int32))) (none)))
set_option maxHeartbeats 4000000 in
set_option maxRecDepth 100000 in
theorem tL_corner (l : Launch) (hst : l.stackTraces = false) {G : GT} {kd : Nat → Nat × Nat} {ad : Nat → Nat} {k0 : Nat} {k1 : Nat} (hk0 : kRoot kd k0) (hk1 : kd k1 = (13, 1)) {x1 : Int32} {x2 : Int32} {x3 : Int32} {x4 : Int32} {M : Mem} {MO : Mem} {vo : Int32 ⊕ Nat} (hf : mL_corner k0 k1 x1 x2 x3 x4 M = some (MO, vo)) (n : Nat) : vx_Met l yL_corner (Cond.codeWith yL_corner cL_corner 7 (some .int) [(0, 14, 17, 18), (0, 14, 21, 13)] :: WA) (rmO 3 4 24) (Pn G kd ad n [.ref (ad k0), .int x1, .int x2, .int x3, .int x4, .ref (ad k1)] M) (Qx G kd ad n MO (zi vo)) (Xx G kd ad n MO (zi vo)) 4 24 (AS kd ad n) := by
  refine g_bodyXH (own := RL) (by decide) rfl ?_ (Nat.le_of_ble_eq_true rfl)
  intro p e s m args below meth c C htb hnc _ H locs ls hI hl
  obtain ⟨hx, hb, hml, hr, hown, hts, hlk, hK, hap, hsx⟩ := id C
  have hl : lv_has ls 7 [(0, .ref (ad k0)), (1, .int x1), (2, .int x2), (3, .int x3), (4, .int x4), (5, .ref (ad k1))] := hl
  unfold mL_corner at hf
  refine lv_aload hx hb (dc tbL_corner_k 0 rfl) (lv_at hl 5 rfl) ?_
  refine lv_iconst (v := 0) hx hb (dc tbL_corner_k 1 rfl) ic_0 ?_
  refine lv_aload_n hx hb (dc tbL_corner_k 2 rfl) rfl (lv_at hl 0 rfl) ?_
  refine lv_iload_n hx hb (dc tbL_corner_k 3 rfl) rfl (lv_at hl 1 rfl) ?_
  refine lv_iload_n hx hb (dc tbL_corner_k 4 rfl) rfl (lv_at hl 2 rfl) ?_
  refine lv_iload_n hx hb (dc tbL_corner_k 5 rfl) rfl (lv_at hl 3 rfl) ?_
  refine lv_iload hx hb (dc tbL_corner_k 6 rfl) (lv_at hl 4 rfl) ?_
  rcases calt_s hf with ⟨M3, r2, q1, hf⟩ | ⟨M3, e4, q1, hf⟩
  · refine x_callRi (g_runXV hx hb hml hown hts hK hap hsx hI (tX6_corner l hst hk0 q1 H.size) cv_X6_corner q_t6_122 rfl rfl ⟨Nat.le_of_ble_eq_true rfl, Nat.le_of_ble_eq_true rfl⟩ hk0.1 (by simp) rfl rfl rfl hl.1 rfl (Nat.le_of_ble_eq_true rfl) (dc tbL_corner_k 7 rfl) ⟨Nat.le_of_ble_eq_true rfl, Nat.le_of_ble_eq_true rfl⟩) hI (fun H locs hI => ?_)
    refine lv_i2l hx hb (dc tbL_corner_k 8 rfl) rfl ?_
    obtain ⟨h5, hf⟩ := chk_s hf
    obtain ⟨M7, e6, hf⟩ := bnd_s hf
    refine g_last hx hb hK hap hI hk1 (okb_in h5) (dc tbL_corner_k 9 rfl) e6 (fun H locs hI => ?_)
    refine lv_goto (tgt := 25) hx hb (dc tbL_corner_k 10 rfl) rfl ?_
    refine lv_iconst (v := 0) hx hb (dc tbL_corner_k 17 rfl) ic_0 ?_
    cases hf
    exact x_ret (g_iret hx hb hr hlk hI (dc tbL_corner_k 18 rfl))
  · refine by_c (c := e4 = 1) (fun c8 => ?_) (fun c8 => ?_)
    · have hf := ite_t c8 hf
      subst c8
      refine x_callC (E := "java/lang/IndexOutOfBoundsException") (g_runXV hx hb hml hown hts hK hap hsx hI (tX6_corner l hst hk0 q1 H.size) cv_X6_corner q_t6_122 rfl rfl ⟨Nat.le_of_ble_eq_true rfl, Nat.le_of_ble_eq_true rfl⟩ hk0.1 (by simp) rfl rfl rfl hl.1 rfl (Nat.le_of_ble_eq_true rfl) (dc tbL_corner_k 7 rfl) ⟨Nat.le_of_ble_eq_true rfl, Nat.le_of_ble_eq_true rfl⟩) hI hown hts hsx rfl htb [] ⟨0, 14, 17, 18⟩ [⟨0, 14, 21, 13⟩] rfl (fun _ h => absurd h List.not_mem_nil) (by decide) (by decide) q_t6_10 (by decide +kernel) rfl (fun qx H locs hI => ?_)
      refine lv_astore (lv' := [(6, .ref qx), (0, .ref (ad k0)), (1, .int x1), (2, .int x2), (3, .int x3), (4, .int x4), (5, .ref (ad k1))]) hx hb (dc tbL_corner_k 11 rfl) hl (by decide) rfl (fun ls hl => ?_)
      refine lv_iconst (v := 1) hx hb (dc tbL_corner_k 12 rfl) ic_1 ?_
      cases hf
      exact x_ret (g_iret hx hb hr hlk hI (dc tbL_corner_k 13 rfl))
    · have hf := ite_f c8 hf
      refine by_c (c := e4 = 0) (fun c9 => ?_) (fun c9 => ?_)
      · have hf := ite_t c9 hf
        subst c9
        refine x_callC (E := "java/lang/IllegalArgumentException") (g_runXV hx hb hml hown hts hK hap hsx hI (tX6_corner l hst hk0 q1 H.size) cv_X6_corner q_t6_122 rfl rfl ⟨Nat.le_of_ble_eq_true rfl, Nat.le_of_ble_eq_true rfl⟩ hk0.1 (by simp) rfl rfl rfl hl.1 rfl (Nat.le_of_ble_eq_true rfl) (dc tbL_corner_k 7 rfl) ⟨Nat.le_of_ble_eq_true rfl, Nat.le_of_ble_eq_true rfl⟩) hI hown hts hsx rfl htb [⟨0, 14, 17, 18⟩] ⟨0, 14, 21, 13⟩ [] rfl (List.forall_mem_cons.mpr ⟨⟨by decide, "java/lang/IndexOutOfBoundsException", q_t6_10, hnc.1⟩, fun _ h => absurd h List.not_mem_nil⟩) (by decide) (by decide) q_t5_101 (by decide +kernel) rfl (fun qx H locs hI => ?_)
        refine lv_astore (lv' := [(6, .ref qx), (0, .ref (ad k0)), (1, .int x1), (2, .int x2), (3, .int x3), (4, .int x4), (5, .ref (ad k1))]) hx hb (dc tbL_corner_k 14 rfl) hl (by decide) rfl (fun ls hl => ?_)
        refine lv_iconst (v := 2) hx hb (dc tbL_corner_k 15 rfl) ic_2 ?_
        cases hf
        exact x_ret (g_iret hx hb hr hlk hI (dc tbL_corner_k 16 rfl))
      · have hf := ite_f c9 hf
        cases hf
theorem ch_L_corner : Cond.static yL_corner ∈ WA ∧ Cond.initialized yL_corner.cls ∈ WA ∧ Cond.codeWith yL_corner cL_corner 7 (some .int) [(0, 14, 17, 18), (0, 14, 21, 13)] ∈ WA ∧ (yL_corner.cls ≠ "java/lang/invoke/MethodHandle" ∧ yL_corner.cls ≠ "java/lang/invoke/VarHandle" ∧ (parseMethodDescriptor yL_corner.desc).map (fun d => d.parameters.length) = some 6) := ⟨q_t6_120, q_t1_0, q_t6_121, by decide +kernel⟩
def mL_top (k0 : Nat) (k1 : Nat) (x1 : Int32) (x2 : Int32) (M : Mem) : Option (Mem × (Int32 ⊕ Nat)) := calt (mX6_top k0 x1 x2 M) (fun M3 r2 => chk (okb (0 : Int32) 1) (bnd (wl M3 k1 ((0 : Int32)).toNatClampNeg (r2).toInt64) (fun M7 => some (M7, Sum.inl (0 : Int32))))) (fun M3 e4 => ite2 (e4 = 1) (some (M3, Sum.inl (1 : Int32))) (ite2 (e4 = 0) (some (M3, Sum.inl (2 : Int32))) (none)))
set_option maxHeartbeats 4000000 in
set_option maxRecDepth 100000 in
theorem tL_top (l : Launch) (hst : l.stackTraces = false) {G : GT} {kd : Nat → Nat × Nat} {ad : Nat → Nat} {k0 : Nat} {k1 : Nat} (hk0 : kRoot kd k0) (hk1 : kd k1 = (13, 1)) {x1 : Int32} {x2 : Int32} {M : Mem} {MO : Mem} {vo : Int32 ⊕ Nat} (hf : mL_top k0 k1 x1 x2 M = some (MO, vo)) (n : Nat) : vx_Met l yL_top (Cond.codeWith yL_top cL_top 5 (some .int) [(0, 10, 13, 18), (0, 10, 17, 13)] :: WA) (rmO 4 2 12) (Pn G kd ad n [.ref (ad k0), .int x1, .int x2, .ref (ad k1)] M) (Qx G kd ad n MO (zi vo)) (Xx G kd ad n MO (zi vo)) 2 12 (AS kd ad n) := by
  refine g_bodyXH (own := RL) (by decide) rfl ?_ (Nat.le_of_ble_eq_true rfl)
  intro p e s m args below meth c C htb hnc _ H locs ls hI hl
  obtain ⟨hx, hb, hml, hr, hown, hts, hlk, hK, hap, hsx⟩ := id C
  have hl : lv_has ls 5 [(0, .ref (ad k0)), (1, .int x1), (2, .int x2), (3, .ref (ad k1))] := hl
  unfold mL_top at hf
  refine lv_aload_n hx hb (dc tbL_top_k 0 rfl) rfl (lv_at hl 3 rfl) ?_
  refine lv_iconst (v := 0) hx hb (dc tbL_top_k 1 rfl) ic_0 ?_
  refine lv_aload_n hx hb (dc tbL_top_k 2 rfl) rfl (lv_at hl 0 rfl) ?_
  refine lv_iload_n hx hb (dc tbL_top_k 3 rfl) rfl (lv_at hl 1 rfl) ?_
  refine lv_iload_n hx hb (dc tbL_top_k 4 rfl) rfl (lv_at hl 2 rfl) ?_
  rcases calt_s hf with ⟨M3, r2, q1, hf⟩ | ⟨M3, e4, q1, hf⟩
  · refine x_callRi (g_runXV hx hb hml hown hts hK hap hsx hI (tX6_top l hst hk0 q1 H.size) cv_X6_top q_t6_129 rfl rfl ⟨Nat.le_of_ble_eq_true rfl, Nat.le_of_ble_eq_true rfl⟩ hk0.1 (by simp) rfl rfl rfl hl.1 rfl (Nat.le_of_ble_eq_true rfl) (dc tbL_top_k 5 rfl) ⟨Nat.le_of_ble_eq_true rfl, Nat.le_of_ble_eq_true rfl⟩) hI (fun H locs hI => ?_)
    refine lv_i2l hx hb (dc tbL_top_k 6 rfl) rfl ?_
    obtain ⟨h5, hf⟩ := chk_s hf
    obtain ⟨M7, e6, hf⟩ := bnd_s hf
    refine g_last hx hb hK hap hI hk1 (okb_in h5) (dc tbL_top_k 7 rfl) e6 (fun H locs hI => ?_)
    refine lv_goto (tgt := 21) hx hb (dc tbL_top_k 8 rfl) rfl ?_
    refine lv_iconst (v := 0) hx hb (dc tbL_top_k 15 rfl) ic_0 ?_
    cases hf
    exact x_ret (g_iret hx hb hr hlk hI (dc tbL_top_k 16 rfl))
  · refine by_c (c := e4 = 1) (fun c8 => ?_) (fun c8 => ?_)
    · have hf := ite_t c8 hf
      subst c8
      refine x_callC (E := "java/lang/IndexOutOfBoundsException") (g_runXV hx hb hml hown hts hK hap hsx hI (tX6_top l hst hk0 q1 H.size) cv_X6_top q_t6_129 rfl rfl ⟨Nat.le_of_ble_eq_true rfl, Nat.le_of_ble_eq_true rfl⟩ hk0.1 (by simp) rfl rfl rfl hl.1 rfl (Nat.le_of_ble_eq_true rfl) (dc tbL_top_k 5 rfl) ⟨Nat.le_of_ble_eq_true rfl, Nat.le_of_ble_eq_true rfl⟩) hI hown hts hsx rfl htb [] ⟨0, 10, 13, 18⟩ [⟨0, 10, 17, 13⟩] rfl (fun _ h => absurd h List.not_mem_nil) (by decide) (by decide) q_t6_10 (by decide +kernel) rfl (fun qx H locs hI => ?_)
      refine lv_astore (lv' := [(4, .ref qx), (0, .ref (ad k0)), (1, .int x1), (2, .int x2), (3, .ref (ad k1))]) hx hb (dc tbL_top_k 9 rfl) hl (by decide) rfl (fun ls hl => ?_)
      refine lv_iconst (v := 1) hx hb (dc tbL_top_k 10 rfl) ic_1 ?_
      cases hf
      exact x_ret (g_iret hx hb hr hlk hI (dc tbL_top_k 11 rfl))
    · have hf := ite_f c8 hf
      refine by_c (c := e4 = 0) (fun c9 => ?_) (fun c9 => ?_)
      · have hf := ite_t c9 hf
        subst c9
        refine x_callC (E := "java/lang/IllegalArgumentException") (g_runXV hx hb hml hown hts hK hap hsx hI (tX6_top l hst hk0 q1 H.size) cv_X6_top q_t6_129 rfl rfl ⟨Nat.le_of_ble_eq_true rfl, Nat.le_of_ble_eq_true rfl⟩ hk0.1 (by simp) rfl rfl rfl hl.1 rfl (Nat.le_of_ble_eq_true rfl) (dc tbL_top_k 5 rfl) ⟨Nat.le_of_ble_eq_true rfl, Nat.le_of_ble_eq_true rfl⟩) hI hown hts hsx rfl htb [⟨0, 10, 13, 18⟩] ⟨0, 10, 17, 13⟩ [] rfl (List.forall_mem_cons.mpr ⟨⟨by decide, "java/lang/IndexOutOfBoundsException", q_t6_10, hnc.1⟩, fun _ h => absurd h List.not_mem_nil⟩) (by decide) (by decide) q_t5_101 (by decide +kernel) rfl (fun qx H locs hI => ?_)
        refine lv_astore (lv' := [(4, .ref qx), (0, .ref (ad k0)), (1, .int x1), (2, .int x2), (3, .ref (ad k1))]) hx hb (dc tbL_top_k 12 rfl) hl (by decide) rfl (fun ls hl => ?_)
        refine lv_iconst (v := 2) hx hb (dc tbL_top_k 13 rfl) ic_2 ?_
        cases hf
        exact x_ret (g_iret hx hb hr hlk hI (dc tbL_top_k 14 rfl))
      · have hf := ite_f c9 hf
        cases hf
theorem ch_L_top : Cond.static yL_top ∈ WA ∧ Cond.initialized yL_top.cls ∈ WA ∧ Cond.codeWith yL_top cL_top 5 (some .int) [(0, 10, 13, 18), (0, 10, 17, 13)] ∈ WA ∧ (yL_top.cls ≠ "java/lang/invoke/MethodHandle" ∧ yL_top.cls ≠ "java/lang/invoke/VarHandle" ∧ (parseMethodDescriptor yL_top.desc).map (fun d => d.parameters.length) = some 4) := ⟨q_t6_127, q_t1_0, q_t6_128, by decide +kernel⟩
def mL_hitting (k0 : Nat) (k1 : Nat) (x1 : Int32) (x2 : Int32) (M : Mem) : Option (Mem × (Int32 ⊕ Nat)) := calt (mX6_hitting k0 x1 x2 M) (fun M3 r2 => chk (okb (0 : Int32) 1) (bnd (wl M3 k1 ((0 : Int32)).toNatClampNeg (r2).toInt64) (fun M7 => some (M7, Sum.inl (0 : Int32))))) (fun M3 e4 => ite2 (e4 = 1) (some (M3, Sum.inl (1 : Int32))) (ite2 (e4 = 0) (some (M3, Sum.inl (2 : Int32))) (none)))
set_option maxHeartbeats 4000000 in
set_option maxRecDepth 100000 in
theorem tL_hitting (l : Launch) (hst : l.stackTraces = false) {G : GT} {kd : Nat → Nat × Nat} {ad : Nat → Nat} {k0 : Nat} {k1 : Nat} (hk0 : kRoot kd k0) (hk1 : kd k1 = (13, 1)) {x1 : Int32} {x2 : Int32} {M : Mem} {MO : Mem} {vo : Int32 ⊕ Nat} (hf : mL_hitting k0 k1 x1 x2 M = some (MO, vo)) (n : Nat) : vx_Met l yL_hitting (Cond.codeWith yL_hitting cL_hitting 5 (some .int) [(0, 10, 13, 18), (0, 10, 17, 13)] :: WA) (rmO 4 2 12) (Pn G kd ad n [.ref (ad k0), .int x1, .int x2, .ref (ad k1)] M) (Qx G kd ad n MO (zi vo)) (Xx G kd ad n MO (zi vo)) 2 12 (AS kd ad n) := by
  refine g_bodyXH (own := RL) (by decide) rfl ?_ (Nat.le_of_ble_eq_true rfl)
  intro p e s m args below meth c C htb hnc _ H locs ls hI hl
  obtain ⟨hx, hb, hml, hr, hown, hts, hlk, hK, hap, hsx⟩ := id C
  have hl : lv_has ls 5 [(0, .ref (ad k0)), (1, .int x1), (2, .int x2), (3, .ref (ad k1))] := hl
  unfold mL_hitting at hf
  refine lv_aload_n hx hb (dc tbL_hitting_k 0 rfl) rfl (lv_at hl 3 rfl) ?_
  refine lv_iconst (v := 0) hx hb (dc tbL_hitting_k 1 rfl) ic_0 ?_
  refine lv_aload_n hx hb (dc tbL_hitting_k 2 rfl) rfl (lv_at hl 0 rfl) ?_
  refine lv_iload_n hx hb (dc tbL_hitting_k 3 rfl) rfl (lv_at hl 1 rfl) ?_
  refine lv_iload_n hx hb (dc tbL_hitting_k 4 rfl) rfl (lv_at hl 2 rfl) ?_
  rcases calt_s hf with ⟨M3, r2, q1, hf⟩ | ⟨M3, e4, q1, hf⟩
  · refine x_callRi (g_runXV hx hb hml hown hts hK hap hsx hI (tX6_hitting l hst hk0 q1 H.size) cv_X6_hitting q_t6_140 rfl rfl ⟨Nat.le_of_ble_eq_true rfl, Nat.le_of_ble_eq_true rfl⟩ hk0.1 (by simp) rfl rfl rfl hl.1 rfl (Nat.le_of_ble_eq_true rfl) (dc tbL_hitting_k 5 rfl) ⟨Nat.le_of_ble_eq_true rfl, Nat.le_of_ble_eq_true rfl⟩) hI (fun H locs hI => ?_)
    refine lv_i2l hx hb (dc tbL_hitting_k 6 rfl) rfl ?_
    obtain ⟨h5, hf⟩ := chk_s hf
    obtain ⟨M7, e6, hf⟩ := bnd_s hf
    refine g_last hx hb hK hap hI hk1 (okb_in h5) (dc tbL_hitting_k 7 rfl) e6 (fun H locs hI => ?_)
    refine lv_goto (tgt := 21) hx hb (dc tbL_hitting_k 8 rfl) rfl ?_
    refine lv_iconst (v := 0) hx hb (dc tbL_hitting_k 15 rfl) ic_0 ?_
    cases hf
    exact x_ret (g_iret hx hb hr hlk hI (dc tbL_hitting_k 16 rfl))
  · refine by_c (c := e4 = 1) (fun c8 => ?_) (fun c8 => ?_)
    · have hf := ite_t c8 hf
      subst c8
      refine x_callC (E := "java/lang/IndexOutOfBoundsException") (g_runXV hx hb hml hown hts hK hap hsx hI (tX6_hitting l hst hk0 q1 H.size) cv_X6_hitting q_t6_140 rfl rfl ⟨Nat.le_of_ble_eq_true rfl, Nat.le_of_ble_eq_true rfl⟩ hk0.1 (by simp) rfl rfl rfl hl.1 rfl (Nat.le_of_ble_eq_true rfl) (dc tbL_hitting_k 5 rfl) ⟨Nat.le_of_ble_eq_true rfl, Nat.le_of_ble_eq_true rfl⟩) hI hown hts hsx rfl htb [] ⟨0, 10, 13, 18⟩ [⟨0, 10, 17, 13⟩] rfl (fun _ h => absurd h List.not_mem_nil) (by decide) (by decide) q_t6_10 (by decide +kernel) rfl (fun qx H locs hI => ?_)
      refine lv_astore (lv' := [(4, .ref qx), (0, .ref (ad k0)), (1, .int x1), (2, .int x2), (3, .ref (ad k1))]) hx hb (dc tbL_hitting_k 9 rfl) hl (by decide) rfl (fun ls hl => ?_)
      refine lv_iconst (v := 1) hx hb (dc tbL_hitting_k 10 rfl) ic_1 ?_
      cases hf
      exact x_ret (g_iret hx hb hr hlk hI (dc tbL_hitting_k 11 rfl))
    · have hf := ite_f c8 hf
      refine by_c (c := e4 = 0) (fun c9 => ?_) (fun c9 => ?_)
      · have hf := ite_t c9 hf
        subst c9
        refine x_callC (E := "java/lang/IllegalArgumentException") (g_runXV hx hb hml hown hts hK hap hsx hI (tX6_hitting l hst hk0 q1 H.size) cv_X6_hitting q_t6_140 rfl rfl ⟨Nat.le_of_ble_eq_true rfl, Nat.le_of_ble_eq_true rfl⟩ hk0.1 (by simp) rfl rfl rfl hl.1 rfl (Nat.le_of_ble_eq_true rfl) (dc tbL_hitting_k 5 rfl) ⟨Nat.le_of_ble_eq_true rfl, Nat.le_of_ble_eq_true rfl⟩) hI hown hts hsx rfl htb [⟨0, 10, 13, 18⟩] ⟨0, 10, 17, 13⟩ [] rfl (List.forall_mem_cons.mpr ⟨⟨by decide, "java/lang/IndexOutOfBoundsException", q_t6_10, hnc.1⟩, fun _ h => absurd h List.not_mem_nil⟩) (by decide) (by decide) q_t5_101 (by decide +kernel) rfl (fun qx H locs hI => ?_)
        refine lv_astore (lv' := [(4, .ref qx), (0, .ref (ad k0)), (1, .int x1), (2, .int x2), (3, .ref (ad k1))]) hx hb (dc tbL_hitting_k 12 rfl) hl (by decide) rfl (fun ls hl => ?_)
        refine lv_iconst (v := 2) hx hb (dc tbL_hitting_k 13 rfl) ic_2 ?_
        cases hf
        exact x_ret (g_iret hx hb hr hlk hI (dc tbL_hitting_k 14 rfl))
      · have hf := ite_f c9 hf
        cases hf
theorem ch_L_hitting : Cond.static yL_hitting ∈ WA ∧ Cond.initialized yL_hitting.cls ∈ WA ∧ Cond.codeWith yL_hitting cL_hitting 5 (some .int) [(0, 10, 13, 18), (0, 10, 17, 13)] ∈ WA ∧ (yL_hitting.cls ≠ "java/lang/invoke/MethodHandle" ∧ yL_hitting.cls ≠ "java/lang/invoke/VarHandle" ∧ (parseMethodDescriptor yL_hitting.desc).map (fun d => d.parameters.length) = some 4) := ⟨q_t6_138, q_t1_0, q_t6_139, by decide +kernel⟩
def mL_refused (k0 : Nat) (k1 : Nat) (x1 : Int32) (M : Mem) : Option (Mem × (Int32 ⊕ Nat)) := calt (mX6_refused k0 x1 M) (fun M3 r2 => chk (okb (0 : Int32) 1) (bnd (wl M3 k1 ((0 : Int32)).toNatClampNeg (r2).toInt64) (fun M7 => some (M7, Sum.inl (0 : Int32))))) (fun M3 e4 => ite2 (e4 = 0) (some (M3, Sum.inl (1 : Int32))) (none))
set_option maxHeartbeats 4000000 in
set_option maxRecDepth 100000 in
theorem tL_refused (l : Launch) (hst : l.stackTraces = false) {G : GT} {kd : Nat → Nat × Nat} {ad : Nat → Nat} {k0 : Nat} {k1 : Nat} (hk0 : kRoot kd k0) (hk1 : kd k1 = (13, 1)) {x1 : Int32} {M : Mem} {MO : Mem} {vo : Int32 ⊕ Nat} (hf : mL_refused k0 k1 x1 M = some (MO, vo)) (n : Nat) : vx_Met l yL_refused (Cond.codeWith yL_refused cL_refused 4 (some .int) [(0, 9, 12, 13)] :: WA) (rmO 5 1 6) (Pn G kd ad n [.ref (ad k0), .int x1, .ref (ad k1)] M) (Qx G kd ad n MO (zi vo)) (Xx G kd ad n MO (zi vo)) 1 6 (AS kd ad n) := by
  refine g_bodyXH (own := RL) (by decide) rfl ?_ (Nat.le_of_ble_eq_true rfl)
  intro p e s m args below meth c C htb hnc _ H locs ls hI hl
  obtain ⟨hx, hb, hml, hr, hown, hts, hlk, hK, hap, hsx⟩ := id C
  have hl : lv_has ls 4 [(0, .ref (ad k0)), (1, .int x1), (2, .ref (ad k1))] := hl
  unfold mL_refused at hf
  refine lv_aload_n hx hb (dc tbL_refused_k 0 rfl) rfl (lv_at hl 2 rfl) ?_
  refine lv_iconst (v := 0) hx hb (dc tbL_refused_k 1 rfl) ic_0 ?_
  refine lv_aload_n hx hb (dc tbL_refused_k 2 rfl) rfl (lv_at hl 0 rfl) ?_
  refine lv_iload_n hx hb (dc tbL_refused_k 3 rfl) rfl (lv_at hl 1 rfl) ?_
  rcases calt_s hf with ⟨M3, r2, q1, hf⟩ | ⟨M3, e4, q1, hf⟩
  · refine x_callRi (g_runXV hx hb hml hown hts hK hap hsx hI (tX6_refused l hst hk0 q1 H.size) cv_X6_refused q_t6_148 rfl rfl ⟨Nat.le_of_ble_eq_true rfl, Nat.le_of_ble_eq_true rfl⟩ hk0.1 (by simp) rfl rfl rfl hl.1 rfl (Nat.le_of_ble_eq_true rfl) (dc tbL_refused_k 4 rfl) ⟨Nat.le_of_ble_eq_true rfl, Nat.le_of_ble_eq_true rfl⟩) hI (fun H locs hI => ?_)
    refine lv_i2l hx hb (dc tbL_refused_k 5 rfl) rfl ?_
    obtain ⟨h5, hf⟩ := chk_s hf
    obtain ⟨M7, e6, hf⟩ := bnd_s hf
    refine g_last hx hb hK hap hI hk1 (okb_in h5) (dc tbL_refused_k 6 rfl) e6 (fun H locs hI => ?_)
    refine lv_goto (tgt := 15) hx hb (dc tbL_refused_k 7 rfl) rfl ?_
    refine lv_iconst (v := 0) hx hb (dc tbL_refused_k 11 rfl) ic_0 ?_
    cases hf
    exact x_ret (g_iret hx hb hr hlk hI (dc tbL_refused_k 12 rfl))
  · refine by_c (c := e4 = 0) (fun c8 => ?_) (fun c8 => ?_)
    · have hf := ite_t c8 hf
      subst c8
      refine x_callC (E := "java/lang/IllegalArgumentException") (g_runXV hx hb hml hown hts hK hap hsx hI (tX6_refused l hst hk0 q1 H.size) cv_X6_refused q_t6_148 rfl rfl ⟨Nat.le_of_ble_eq_true rfl, Nat.le_of_ble_eq_true rfl⟩ hk0.1 (by simp) rfl rfl rfl hl.1 rfl (Nat.le_of_ble_eq_true rfl) (dc tbL_refused_k 4 rfl) ⟨Nat.le_of_ble_eq_true rfl, Nat.le_of_ble_eq_true rfl⟩) hI hown hts hsx rfl htb [] ⟨0, 9, 12, 13⟩ [] rfl (fun _ h => absurd h List.not_mem_nil) (by decide) (by decide) q_t5_101 (by decide +kernel) rfl (fun qx H locs hI => ?_)
      refine lv_astore_n (lv' := [(3, .ref qx), (0, .ref (ad k0)), (1, .int x1), (2, .ref (ad k1))]) hx hb (dc tbL_refused_k 8 rfl) rfl hl (by decide) rfl (fun ls hl => ?_)
      refine lv_iconst (v := 1) hx hb (dc tbL_refused_k 9 rfl) ic_1 ?_
      cases hf
      exact x_ret (g_iret hx hb hr hlk hI (dc tbL_refused_k 10 rfl))
    · have hf := ite_f c8 hf
      cases hf
theorem ch_L_refused : Cond.static yL_refused ∈ WA ∧ Cond.initialized yL_refused.cls ∈ WA ∧ Cond.codeWith yL_refused cL_refused 4 (some .int) [(0, 9, 12, 13)] ∈ WA ∧ (yL_refused.cls ≠ "java/lang/invoke/MethodHandle" ∧ yL_refused.cls ≠ "java/lang/invoke/VarHandle" ∧ (parseMethodDescriptor yL_refused.desc).map (fun d => d.parameters.length) = some 3) := ⟨q_t6_146, q_t1_0, q_t6_147, by decide +kernel⟩
def mL_costOf (k0 : Nat) (k1 : Nat) (x1 : Int32) (x2 : Int32) (M : Mem) : Option (Mem × (Int32 ⊕ Nat)) := calt (mX6_costOf k0 x1 x2 M) (fun M3 r2 => chk (okb (0 : Int32) 1) (bnd (wl M3 k1 ((0 : Int32)).toNatClampNeg (r2).toInt64) (fun M7 => some (M7, Sum.inl (0 : Int32))))) (fun M3 e4 => ite2 (e4 = 1) (some (M3, Sum.inl (1 : Int32))) (ite2 (e4 = 0) (some (M3, Sum.inl (2 : Int32))) (none)))
set_option maxHeartbeats 4000000 in
set_option maxRecDepth 100000 in
theorem tL_costOf (l : Launch) (hst : l.stackTraces = false) {G : GT} {kd : Nat → Nat × Nat} {ad : Nat → Nat} {k0 : Nat} {k1 : Nat} (hk0 : kRoot kd k0) (hk1 : kd k1 = (13, 1)) {x1 : Int32} {x2 : Int32} {M : Mem} {MO : Mem} {vo : Int32 ⊕ Nat} (hf : mL_costOf k0 k1 x1 x2 M = some (MO, vo)) (n : Nat) : vx_Met l yL_costOf (Cond.codeWith yL_costOf cL_costOf 5 (some .int) [(0, 10, 13, 18), (0, 10, 17, 13)] :: WA) (rmO 5 2 12) (Pn G kd ad n [.ref (ad k0), .int x1, .int x2, .ref (ad k1)] M) (Qx G kd ad n MO (zi vo)) (Xx G kd ad n MO (zi vo)) 2 12 (AS kd ad n) := by
  refine g_bodyXH (own := RL) (by decide) rfl ?_ (Nat.le_of_ble_eq_true rfl)
  intro p e s m args below meth c C htb hnc _ H locs ls hI hl
  obtain ⟨hx, hb, hml, hr, hown, hts, hlk, hK, hap, hsx⟩ := id C
  have hl : lv_has ls 5 [(0, .ref (ad k0)), (1, .int x1), (2, .int x2), (3, .ref (ad k1))] := hl
  unfold mL_costOf at hf
  refine lv_aload_n hx hb (dc tbL_costOf_k 0 rfl) rfl (lv_at hl 3 rfl) ?_
  refine lv_iconst (v := 0) hx hb (dc tbL_costOf_k 1 rfl) ic_0 ?_
  refine lv_aload_n hx hb (dc tbL_costOf_k 2 rfl) rfl (lv_at hl 0 rfl) ?_
  refine lv_iload_n hx hb (dc tbL_costOf_k 3 rfl) rfl (lv_at hl 1 rfl) ?_
  refine lv_iload_n hx hb (dc tbL_costOf_k 4 rfl) rfl (lv_at hl 2 rfl) ?_
  rcases calt_s hf with ⟨M3, r2, q1, hf⟩ | ⟨M3, e4, q1, hf⟩
  · refine x_callRi (g_runXV hx hb hml hown hts hK hap hsx hI (tX6_costOf l hst hk0 q1 H.size) cv_X6_costOf q_t6_156 rfl rfl ⟨Nat.le_of_ble_eq_true rfl, Nat.le_of_ble_eq_true rfl⟩ hk0.1 (by simp) rfl rfl rfl hl.1 rfl (Nat.le_of_ble_eq_true rfl) (dc tbL_costOf_k 5 rfl) ⟨Nat.le_of_ble_eq_true rfl, Nat.le_of_ble_eq_true rfl⟩) hI (fun H locs hI => ?_)
    refine lv_i2l hx hb (dc tbL_costOf_k 6 rfl) rfl ?_
    obtain ⟨h5, hf⟩ := chk_s hf
    obtain ⟨M7, e6, hf⟩ := bnd_s hf
    refine g_last hx hb hK hap hI hk1 (okb_in h5) (dc tbL_costOf_k 7 rfl) e6 (fun H locs hI => ?_)
    refine lv_goto (tgt := 21) hx hb (dc tbL_costOf_k 8 rfl) rfl ?_
    refine lv_iconst (v := 0) hx hb (dc tbL_costOf_k 15 rfl) ic_0 ?_
    cases hf
    exact x_ret (g_iret hx hb hr hlk hI (dc tbL_costOf_k 16 rfl))
  · refine by_c (c := e4 = 1) (fun c8 => ?_) (fun c8 => ?_)
    · have hf := ite_t c8 hf
      subst c8
      refine x_callC (E := "java/lang/IndexOutOfBoundsException") (g_runXV hx hb hml hown hts hK hap hsx hI (tX6_costOf l hst hk0 q1 H.size) cv_X6_costOf q_t6_156 rfl rfl ⟨Nat.le_of_ble_eq_true rfl, Nat.le_of_ble_eq_true rfl⟩ hk0.1 (by simp) rfl rfl rfl hl.1 rfl (Nat.le_of_ble_eq_true rfl) (dc tbL_costOf_k 5 rfl) ⟨Nat.le_of_ble_eq_true rfl, Nat.le_of_ble_eq_true rfl⟩) hI hown hts hsx rfl htb [] ⟨0, 10, 13, 18⟩ [⟨0, 10, 17, 13⟩] rfl (fun _ h => absurd h List.not_mem_nil) (by decide) (by decide) q_t6_10 (by decide +kernel) rfl (fun qx H locs hI => ?_)
      refine lv_astore (lv' := [(4, .ref qx), (0, .ref (ad k0)), (1, .int x1), (2, .int x2), (3, .ref (ad k1))]) hx hb (dc tbL_costOf_k 9 rfl) hl (by decide) rfl (fun ls hl => ?_)
      refine lv_iconst (v := 1) hx hb (dc tbL_costOf_k 10 rfl) ic_1 ?_
      cases hf
      exact x_ret (g_iret hx hb hr hlk hI (dc tbL_costOf_k 11 rfl))
    · have hf := ite_f c8 hf
      refine by_c (c := e4 = 0) (fun c9 => ?_) (fun c9 => ?_)
      · have hf := ite_t c9 hf
        subst c9
        refine x_callC (E := "java/lang/IllegalArgumentException") (g_runXV hx hb hml hown hts hK hap hsx hI (tX6_costOf l hst hk0 q1 H.size) cv_X6_costOf q_t6_156 rfl rfl ⟨Nat.le_of_ble_eq_true rfl, Nat.le_of_ble_eq_true rfl⟩ hk0.1 (by simp) rfl rfl rfl hl.1 rfl (Nat.le_of_ble_eq_true rfl) (dc tbL_costOf_k 5 rfl) ⟨Nat.le_of_ble_eq_true rfl, Nat.le_of_ble_eq_true rfl⟩) hI hown hts hsx rfl htb [⟨0, 10, 13, 18⟩] ⟨0, 10, 17, 13⟩ [] rfl (List.forall_mem_cons.mpr ⟨⟨by decide, "java/lang/IndexOutOfBoundsException", q_t6_10, hnc.1⟩, fun _ h => absurd h List.not_mem_nil⟩) (by decide) (by decide) q_t5_101 (by decide +kernel) rfl (fun qx H locs hI => ?_)
        refine lv_astore (lv' := [(4, .ref qx), (0, .ref (ad k0)), (1, .int x1), (2, .int x2), (3, .ref (ad k1))]) hx hb (dc tbL_costOf_k 12 rfl) hl (by decide) rfl (fun ls hl => ?_)
        refine lv_iconst (v := 2) hx hb (dc tbL_costOf_k 13 rfl) ic_2 ?_
        cases hf
        exact x_ret (g_iret hx hb hr hlk hI (dc tbL_costOf_k 14 rfl))
      · have hf := ite_f c9 hf
        cases hf
theorem ch_L_costOf : Cond.static yL_costOf ∈ WA ∧ Cond.initialized yL_costOf.cls ∈ WA ∧ Cond.codeWith yL_costOf cL_costOf 5 (some .int) [(0, 10, 13, 18), (0, 10, 17, 13)] ∈ WA ∧ (yL_costOf.cls ≠ "java/lang/invoke/MethodHandle" ∧ yL_costOf.cls ≠ "java/lang/invoke/VarHandle" ∧ (parseMethodDescriptor yL_costOf.desc).map (fun d => d.parameters.length) = some 4) := ⟨q_t6_154, q_t1_0, q_t6_155, by decide +kernel⟩
def mL_planned (k0 : Nat) (k1 : Nat) (x1 : Int32) (M : Mem) : Option (Mem × (Int32 ⊕ Nat)) := calt (mX6_planned k0 x1 M) (fun M3 r2 => chk (okb (0 : Int32) 1) (bnd (wl M3 k1 ((0 : Int32)).toNatClampNeg (r2).toInt64) (fun M7 => some (M7, Sum.inl (0 : Int32))))) (fun M3 e4 => ite2 (e4 = 1) (some (M3, Sum.inl (1 : Int32))) (none))
set_option maxHeartbeats 4000000 in
set_option maxRecDepth 100000 in
theorem tL_planned (l : Launch) (hst : l.stackTraces = false) {G : GT} {kd : Nat → Nat × Nat} {ad : Nat → Nat} {k0 : Nat} {k1 : Nat} (hk0 : kRoot kd k0) (hk1 : kd k1 = (13, 1)) {x1 : Int32} {M : Mem} {MO : Mem} {vo : Int32 ⊕ Nat} (hf : mL_planned k0 k1 x1 M = some (MO, vo)) (n : Nat) : vx_Met l yL_planned (Cond.codeWith yL_planned cL_planned 4 (some .int) [(0, 9, 12, 18)] :: WA) (rmO 8 1 6) (Pn G kd ad n [.ref (ad k0), .int x1, .ref (ad k1)] M) (Qx G kd ad n MO (zi vo)) (Xx G kd ad n MO (zi vo)) 1 6 (AS kd ad n) := by
  refine g_bodyXH (own := RL) (by decide) rfl ?_ (Nat.le_of_ble_eq_true rfl)
  intro p e s m args below meth c C htb hnc _ H locs ls hI hl
  obtain ⟨hx, hb, hml, hr, hown, hts, hlk, hK, hap, hsx⟩ := id C
  have hl : lv_has ls 4 [(0, .ref (ad k0)), (1, .int x1), (2, .ref (ad k1))] := hl
  unfold mL_planned at hf
  refine lv_aload_n hx hb (dc tbL_planned_k 0 rfl) rfl (lv_at hl 2 rfl) ?_
  refine lv_iconst (v := 0) hx hb (dc tbL_planned_k 1 rfl) ic_0 ?_
  refine lv_aload_n hx hb (dc tbL_planned_k 2 rfl) rfl (lv_at hl 0 rfl) ?_
  refine lv_iload_n hx hb (dc tbL_planned_k 3 rfl) rfl (lv_at hl 1 rfl) ?_
  rcases calt_s hf with ⟨M3, r2, q1, hf⟩ | ⟨M3, e4, q1, hf⟩
  · refine x_callRi (g_runXV hx hb hml hown hts hK hap hsx hI (tX6_planned l hst hk0 q1 H.size) cv_X6_planned q_t6_170 rfl rfl ⟨Nat.le_of_ble_eq_true rfl, Nat.le_of_ble_eq_true rfl⟩ hk0.1 (by simp) rfl rfl rfl hl.1 rfl (Nat.le_of_ble_eq_true rfl) (dc tbL_planned_k 4 rfl) ⟨Nat.le_of_ble_eq_true rfl, Nat.le_of_ble_eq_true rfl⟩) hI (fun H locs hI => ?_)
    refine lv_i2l hx hb (dc tbL_planned_k 5 rfl) rfl ?_
    obtain ⟨h5, hf⟩ := chk_s hf
    obtain ⟨M7, e6, hf⟩ := bnd_s hf
    refine g_last hx hb hK hap hI hk1 (okb_in h5) (dc tbL_planned_k 6 rfl) e6 (fun H locs hI => ?_)
    refine lv_goto (tgt := 15) hx hb (dc tbL_planned_k 7 rfl) rfl ?_
    refine lv_iconst (v := 0) hx hb (dc tbL_planned_k 11 rfl) ic_0 ?_
    cases hf
    exact x_ret (g_iret hx hb hr hlk hI (dc tbL_planned_k 12 rfl))
  · refine by_c (c := e4 = 1) (fun c8 => ?_) (fun c8 => ?_)
    · have hf := ite_t c8 hf
      subst c8
      refine x_callC (E := "java/lang/IndexOutOfBoundsException") (g_runXV hx hb hml hown hts hK hap hsx hI (tX6_planned l hst hk0 q1 H.size) cv_X6_planned q_t6_170 rfl rfl ⟨Nat.le_of_ble_eq_true rfl, Nat.le_of_ble_eq_true rfl⟩ hk0.1 (by simp) rfl rfl rfl hl.1 rfl (Nat.le_of_ble_eq_true rfl) (dc tbL_planned_k 4 rfl) ⟨Nat.le_of_ble_eq_true rfl, Nat.le_of_ble_eq_true rfl⟩) hI hown hts hsx rfl htb [] ⟨0, 9, 12, 18⟩ [] rfl (fun _ h => absurd h List.not_mem_nil) (by decide) (by decide) q_t6_10 (by decide +kernel) rfl (fun qx H locs hI => ?_)
      refine lv_astore_n (lv' := [(3, .ref qx), (0, .ref (ad k0)), (1, .int x1), (2, .ref (ad k1))]) hx hb (dc tbL_planned_k 8 rfl) rfl hl (by decide) rfl (fun ls hl => ?_)
      refine lv_iconst (v := 1) hx hb (dc tbL_planned_k 9 rfl) ic_1 ?_
      cases hf
      exact x_ret (g_iret hx hb hr hlk hI (dc tbL_planned_k 10 rfl))
    · have hf := ite_f c8 hf
      cases hf
theorem ch_L_planned : Cond.static yL_planned ∈ WA ∧ Cond.initialized yL_planned.cls ∈ WA ∧ Cond.codeWith yL_planned cL_planned 4 (some .int) [(0, 9, 12, 18)] ∈ WA ∧ (yL_planned.cls ≠ "java/lang/invoke/MethodHandle" ∧ yL_planned.cls ≠ "java/lang/invoke/VarHandle" ∧ (parseMethodDescriptor yL_planned.desc).map (fun d => d.parameters.length) = some 3) := ⟨q_t6_168, q_t1_0, q_t6_169, by decide +kernel⟩
def mL_ordersWith (k0 : Nat) (k1 : Nat) (x1 : Int32) (x2 : Int32) (M : Mem) : Option (Mem × (Int32 ⊕ Nat)) := calt (mX6_ordersWith k0 x1 x2 M) (fun M3 r2 => chk (okb (0 : Int32) 1) (bnd (wl M3 k1 ((0 : Int32)).toNatClampNeg r2) (fun M7 => some (M7, Sum.inl (0 : Int32))))) (fun M3 e4 => ite2 (e4 = 1) (some (M3, Sum.inl (1 : Int32))) (ite2 (e4 = 0) (some (M3, Sum.inl (2 : Int32))) (none)))
set_option maxHeartbeats 4000000 in
set_option maxRecDepth 100000 in
theorem tL_ordersWith (l : Launch) (hst : l.stackTraces = false) {G : GT} {kd : Nat → Nat × Nat} {ad : Nat → Nat} {k0 : Nat} {k1 : Nat} (hk0 : kRoot kd k0) (hk1 : kd k1 = (13, 1)) {x1 : Int32} {x2 : Int32} {M : Mem} {MO : Mem} {vo : Int32 ⊕ Nat} (hf : mL_ordersWith k0 k1 x1 x2 M = some (MO, vo)) (n : Nat) : vx_Met l yL_ordersWith (Cond.codeWith yL_ordersWith cL_ordersWith 5 (some .int) [(0, 9, 12, 18), (0, 9, 16, 13)] :: WA) (rmO 8 2 12) (Pn G kd ad n [.ref (ad k0), .int x1, .int x2, .ref (ad k1)] M) (Qx G kd ad n MO (zi vo)) (Xx G kd ad n MO (zi vo)) 2 12 (AS kd ad n) := by
  refine g_bodyXH (own := RL) (by decide) rfl ?_ (Nat.le_of_ble_eq_true rfl)
  intro p e s m args below meth c C htb hnc _ H locs ls hI hl
  obtain ⟨hx, hb, hml, hr, hown, hts, hlk, hK, hap, hsx⟩ := id C
  have hl : lv_has ls 5 [(0, .ref (ad k0)), (1, .int x1), (2, .int x2), (3, .ref (ad k1))] := hl
  unfold mL_ordersWith at hf
  refine lv_aload_n hx hb (dc tbL_ordersWith_k 0 rfl) rfl (lv_at hl 3 rfl) ?_
  refine lv_iconst (v := 0) hx hb (dc tbL_ordersWith_k 1 rfl) ic_0 ?_
  refine lv_aload_n hx hb (dc tbL_ordersWith_k 2 rfl) rfl (lv_at hl 0 rfl) ?_
  refine lv_iload_n hx hb (dc tbL_ordersWith_k 3 rfl) rfl (lv_at hl 1 rfl) ?_
  refine lv_iload_n hx hb (dc tbL_ordersWith_k 4 rfl) rfl (lv_at hl 2 rfl) ?_
  rcases calt_s hf with ⟨M3, r2, q1, hf⟩ | ⟨M3, e4, q1, hf⟩
  · refine x_callRl (g_runXV hx hb hml hown hts hK hap hsx hI (tX6_ordersWith l hst hk0 q1 H.size) cv_X6_ordersWith q_t6_178 rfl rfl ⟨Nat.le_of_ble_eq_true rfl, Nat.le_of_ble_eq_true rfl⟩ hk0.1 (by simp) rfl rfl rfl hl.1 rfl (Nat.le_of_ble_eq_true rfl) (dc tbL_ordersWith_k 5 rfl) ⟨Nat.le_of_ble_eq_true rfl, Nat.le_of_ble_eq_true rfl⟩) hI (fun H locs hI => ?_)
    obtain ⟨h5, hf⟩ := chk_s hf
    obtain ⟨M7, e6, hf⟩ := bnd_s hf
    refine g_last hx hb hK hap hI hk1 (okb_in h5) (dc tbL_ordersWith_k 6 rfl) e6 (fun H locs hI => ?_)
    refine lv_goto (tgt := 20) hx hb (dc tbL_ordersWith_k 7 rfl) rfl ?_
    refine lv_iconst (v := 0) hx hb (dc tbL_ordersWith_k 14 rfl) ic_0 ?_
    cases hf
    exact x_ret (g_iret hx hb hr hlk hI (dc tbL_ordersWith_k 15 rfl))
  · refine by_c (c := e4 = 1) (fun c8 => ?_) (fun c8 => ?_)
    · have hf := ite_t c8 hf
      subst c8
      refine x_callC (E := "java/lang/IndexOutOfBoundsException") (g_runXV hx hb hml hown hts hK hap hsx hI (tX6_ordersWith l hst hk0 q1 H.size) cv_X6_ordersWith q_t6_178 rfl rfl ⟨Nat.le_of_ble_eq_true rfl, Nat.le_of_ble_eq_true rfl⟩ hk0.1 (by simp) rfl rfl rfl hl.1 rfl (Nat.le_of_ble_eq_true rfl) (dc tbL_ordersWith_k 5 rfl) ⟨Nat.le_of_ble_eq_true rfl, Nat.le_of_ble_eq_true rfl⟩) hI hown hts hsx rfl htb [] ⟨0, 9, 12, 18⟩ [⟨0, 9, 16, 13⟩] rfl (fun _ h => absurd h List.not_mem_nil) (by decide) (by decide) q_t6_10 (by decide +kernel) rfl (fun qx H locs hI => ?_)
      refine lv_astore (lv' := [(4, .ref qx), (0, .ref (ad k0)), (1, .int x1), (2, .int x2), (3, .ref (ad k1))]) hx hb (dc tbL_ordersWith_k 8 rfl) hl (by decide) rfl (fun ls hl => ?_)
      refine lv_iconst (v := 1) hx hb (dc tbL_ordersWith_k 9 rfl) ic_1 ?_
      cases hf
      exact x_ret (g_iret hx hb hr hlk hI (dc tbL_ordersWith_k 10 rfl))
    · have hf := ite_f c8 hf
      refine by_c (c := e4 = 0) (fun c9 => ?_) (fun c9 => ?_)
      · have hf := ite_t c9 hf
        subst c9
        refine x_callC (E := "java/lang/IllegalArgumentException") (g_runXV hx hb hml hown hts hK hap hsx hI (tX6_ordersWith l hst hk0 q1 H.size) cv_X6_ordersWith q_t6_178 rfl rfl ⟨Nat.le_of_ble_eq_true rfl, Nat.le_of_ble_eq_true rfl⟩ hk0.1 (by simp) rfl rfl rfl hl.1 rfl (Nat.le_of_ble_eq_true rfl) (dc tbL_ordersWith_k 5 rfl) ⟨Nat.le_of_ble_eq_true rfl, Nat.le_of_ble_eq_true rfl⟩) hI hown hts hsx rfl htb [⟨0, 9, 12, 18⟩] ⟨0, 9, 16, 13⟩ [] rfl (List.forall_mem_cons.mpr ⟨⟨by decide, "java/lang/IndexOutOfBoundsException", q_t6_10, hnc.1⟩, fun _ h => absurd h List.not_mem_nil⟩) (by decide) (by decide) q_t5_101 (by decide +kernel) rfl (fun qx H locs hI => ?_)
        refine lv_astore (lv' := [(4, .ref qx), (0, .ref (ad k0)), (1, .int x1), (2, .int x2), (3, .ref (ad k1))]) hx hb (dc tbL_ordersWith_k 11 rfl) hl (by decide) rfl (fun ls hl => ?_)
        refine lv_iconst (v := 2) hx hb (dc tbL_ordersWith_k 12 rfl) ic_2 ?_
        cases hf
        exact x_ret (g_iret hx hb hr hlk hI (dc tbL_ordersWith_k 13 rfl))
      · have hf := ite_f c9 hf
        cases hf
theorem ch_L_ordersWith : Cond.static yL_ordersWith ∈ WA ∧ Cond.initialized yL_ordersWith.cls ∈ WA ∧ Cond.codeWith yL_ordersWith cL_ordersWith 5 (some .int) [(0, 9, 12, 18), (0, 9, 16, 13)] ∈ WA ∧ (yL_ordersWith.cls ≠ "java/lang/invoke/MethodHandle" ∧ yL_ordersWith.cls ≠ "java/lang/invoke/VarHandle" ∧ (parseMethodDescriptor yL_ordersWith.desc).map (fun d => d.parameters.length) = some 4) := ⟨q_t6_176, q_t1_0, q_t6_177, by decide +kernel⟩
def mL_costIfTurned (k0 : Nat) (k1 : Nat) (x1 : Int32) (M : Mem) : Option (Mem × (Int32 ⊕ Nat)) := calt (mX6_costIfTurned k0 x1 M) (fun M3 r2 => chk (okb (0 : Int32) 1) (bnd (wl M3 k1 ((0 : Int32)).toNatClampNeg (r2).toInt64) (fun M7 => some (M7, Sum.inl (0 : Int32))))) (fun M3 e4 => ite2 (e4 = 1) (some (M3, Sum.inl (1 : Int32))) (ite2 (e4 = 2) (some (M3, Sum.inl (2 : Int32))) (none)))
set_option maxHeartbeats 4000000 in
set_option maxRecDepth 100000 in
theorem tL_costIfTurned (l : Launch) (hst : l.stackTraces = false) {G : GT} {kd : Nat → Nat × Nat} {ad : Nat → Nat} {k0 : Nat} {k1 : Nat} (hk0 : kRoot kd k0) (hk1 : kd k1 = (13, 1)) {x1 : Int32} {M : Mem} {MO : Mem} {vo : Int32 ⊕ Nat} (hf : mL_costIfTurned k0 k1 x1 M = some (MO, vo)) (n : Nat) : vx_Met l yL_costIfTurned (Cond.codeWith yL_costIfTurned cL_costIfTurned 4 (some .int) [(0, 9, 12, 18), (0, 9, 15, 74)] :: WA) (rmO 8 2 12) (Pn G kd ad n [.ref (ad k0), .int x1, .ref (ad k1)] M) (Qx G kd ad n MO (zi vo)) (Xx G kd ad n MO (zi vo)) 2 12 (AS kd ad n) := by
  refine g_bodyXH (own := RL) (by decide) rfl ?_ (Nat.le_of_ble_eq_true rfl)
  intro p e s m args below meth c C htb hnc _ H locs ls hI hl
  obtain ⟨hx, hb, hml, hr, hown, hts, hlk, hK, hap, hsx⟩ := id C
  have hl : lv_has ls 4 [(0, .ref (ad k0)), (1, .int x1), (2, .ref (ad k1))] := hl
  unfold mL_costIfTurned at hf
  refine lv_aload_n hx hb (dc tbL_costIfTurned_k 0 rfl) rfl (lv_at hl 2 rfl) ?_
  refine lv_iconst (v := 0) hx hb (dc tbL_costIfTurned_k 1 rfl) ic_0 ?_
  refine lv_aload_n hx hb (dc tbL_costIfTurned_k 2 rfl) rfl (lv_at hl 0 rfl) ?_
  refine lv_iload_n hx hb (dc tbL_costIfTurned_k 3 rfl) rfl (lv_at hl 1 rfl) ?_
  rcases calt_s hf with ⟨M3, r2, q1, hf⟩ | ⟨M3, e4, q1, hf⟩
  · refine x_callRi (g_runXV hx hb hml hown hts hK hap hsx hI (tX6_costIfTurned l hst hk0 q1 H.size) cv_X6_costIfTurned q_t6_186 rfl rfl ⟨Nat.le_of_ble_eq_true rfl, Nat.le_of_ble_eq_true rfl⟩ hk0.1 (by simp) rfl rfl rfl hl.1 rfl (Nat.le_of_ble_eq_true rfl) (dc tbL_costIfTurned_k 4 rfl) ⟨Nat.le_of_ble_eq_true rfl, Nat.le_of_ble_eq_true rfl⟩) hI (fun H locs hI => ?_)
    refine lv_i2l hx hb (dc tbL_costIfTurned_k 5 rfl) rfl ?_
    obtain ⟨h5, hf⟩ := chk_s hf
    obtain ⟨M7, e6, hf⟩ := bnd_s hf
    refine g_last hx hb hK hap hI hk1 (okb_in h5) (dc tbL_costIfTurned_k 6 rfl) e6 (fun H locs hI => ?_)
    refine lv_goto (tgt := 18) hx hb (dc tbL_costIfTurned_k 7 rfl) rfl ?_
    refine lv_iconst (v := 0) hx hb (dc tbL_costIfTurned_k 14 rfl) ic_0 ?_
    cases hf
    exact x_ret (g_iret hx hb hr hlk hI (dc tbL_costIfTurned_k 15 rfl))
  · refine by_c (c := e4 = 1) (fun c8 => ?_) (fun c8 => ?_)
    · have hf := ite_t c8 hf
      subst c8
      refine x_callC (E := "java/lang/IndexOutOfBoundsException") (g_runXV hx hb hml hown hts hK hap hsx hI (tX6_costIfTurned l hst hk0 q1 H.size) cv_X6_costIfTurned q_t6_186 rfl rfl ⟨Nat.le_of_ble_eq_true rfl, Nat.le_of_ble_eq_true rfl⟩ hk0.1 (by simp) rfl rfl rfl hl.1 rfl (Nat.le_of_ble_eq_true rfl) (dc tbL_costIfTurned_k 4 rfl) ⟨Nat.le_of_ble_eq_true rfl, Nat.le_of_ble_eq_true rfl⟩) hI hown hts hsx rfl htb [] ⟨0, 9, 12, 18⟩ [⟨0, 9, 15, 74⟩] rfl (fun _ h => absurd h List.not_mem_nil) (by decide) (by decide) q_t6_10 (by decide +kernel) rfl (fun qx H locs hI => ?_)
      refine lv_astore_n (lv' := [(3, .ref qx), (0, .ref (ad k0)), (1, .int x1), (2, .ref (ad k1))]) hx hb (dc tbL_costIfTurned_k 8 rfl) rfl hl (by decide) rfl (fun ls hl => ?_)
      refine lv_iconst (v := 1) hx hb (dc tbL_costIfTurned_k 9 rfl) ic_1 ?_
      cases hf
      exact x_ret (g_iret hx hb hr hlk hI (dc tbL_costIfTurned_k 10 rfl))
    · have hf := ite_f c8 hf
      refine by_c (c := e4 = 2) (fun c9 => ?_) (fun c9 => ?_)
      · have hf := ite_t c9 hf
        subst c9
        refine x_callC (E := "java/lang/IllegalStateException") (g_runXV hx hb hml hown hts hK hap hsx hI (tX6_costIfTurned l hst hk0 q1 H.size) cv_X6_costIfTurned q_t6_186 rfl rfl ⟨Nat.le_of_ble_eq_true rfl, Nat.le_of_ble_eq_true rfl⟩ hk0.1 (by simp) rfl rfl rfl hl.1 rfl (Nat.le_of_ble_eq_true rfl) (dc tbL_costIfTurned_k 4 rfl) ⟨Nat.le_of_ble_eq_true rfl, Nat.le_of_ble_eq_true rfl⟩) hI hown hts hsx rfl htb [⟨0, 9, 12, 18⟩] ⟨0, 9, 15, 74⟩ [] rfl (List.forall_mem_cons.mpr ⟨⟨by decide, "java/lang/IndexOutOfBoundsException", q_t6_10, hnc.2.1⟩, fun _ h => absurd h List.not_mem_nil⟩) (by decide) (by decide) q_t6_185 (by decide +kernel) rfl (fun qx H locs hI => ?_)
        refine lv_astore_n (lv' := [(3, .ref qx), (0, .ref (ad k0)), (1, .int x1), (2, .ref (ad k1))]) hx hb (dc tbL_costIfTurned_k 11 rfl) rfl hl (by decide) rfl (fun ls hl => ?_)
        refine lv_iconst (v := 2) hx hb (dc tbL_costIfTurned_k 12 rfl) ic_2 ?_
        cases hf
        exact x_ret (g_iret hx hb hr hlk hI (dc tbL_costIfTurned_k 13 rfl))
      · have hf := ite_f c9 hf
        cases hf
theorem ch_L_costIfTurned : Cond.static yL_costIfTurned ∈ WA ∧ Cond.initialized yL_costIfTurned.cls ∈ WA ∧ Cond.codeWith yL_costIfTurned cL_costIfTurned 4 (some .int) [(0, 9, 12, 18), (0, 9, 15, 74)] ∈ WA ∧ (yL_costIfTurned.cls ≠ "java/lang/invoke/MethodHandle" ∧ yL_costIfTurned.cls ≠ "java/lang/invoke/VarHandle" ∧ (parseMethodDescriptor yL_costIfTurned.desc).map (fun d => d.parameters.length) = some 3) := ⟨q_t6_183, q_t1_0, q_t6_184, by decide +kernel⟩
def mL_fold (k0 : Nat) (k1 : Nat) (x1 : Int32) (x2 : Int32) (M : Mem) : Option (Mem × (Int32 ⊕ Nat)) := calt (mX6_fold k0 x1 x2 M) (fun M3 r2 => chk (okb (0 : Int32) 1) (bnd (wl M3 k1 ((0 : Int32)).toNatClampNeg (r2).toInt64) (fun M7 => some (M7, Sum.inl (0 : Int32))))) (fun M3 e4 => ite2 (e4 = 1) (some (M3, Sum.inl (1 : Int32))) (ite2 (e4 = 0) (some (M3, Sum.inl (2 : Int32))) (ite2 (e4 = 2) (some (M3, Sum.inl (3 : Int32))) (none))))
set_option maxHeartbeats 4000000 in
set_option maxRecDepth 100000 in
theorem tL_fold (l : Launch) (hst : l.stackTraces = false) {G : GT} {kd : Nat → Nat × Nat} {ad : Nat → Nat} {k0 : Nat} {k1 : Nat} (hk0 : kRoot kd k0) (hk1 : kd k1 = (13, 1)) {x1 : Int32} {x2 : Int32} {M : Mem} {MO : Mem} {vo : Int32 ⊕ Nat} (hf : mL_fold k0 k1 x1 x2 M = some (MO, vo)) (n : Nat) : vx_Met l yL_fold (Cond.codeWith yL_fold cL_fold 5 (some .int) [(0, 10, 13, 18), (0, 10, 17, 13), (0, 10, 21, 74)] :: WA) (rmO 6 3 18) (Pn G kd ad n [.ref (ad k0), .int x1, .int x2, .ref (ad k1)] M) (Qx G kd ad n MO (zi vo)) (Xx G kd ad n MO (zi vo)) 3 18 (AS kd ad n) := by
  refine g_bodyXH (own := RL) (by decide) rfl ?_ (Nat.le_of_ble_eq_true rfl)
  intro p e s m args below meth c C htb hnc _ H locs ls hI hl
  obtain ⟨hx, hb, hml, hr, hown, hts, hlk, hK, hap, hsx⟩ := id C
  have hl : lv_has ls 5 [(0, .ref (ad k0)), (1, .int x1), (2, .int x2), (3, .ref (ad k1))] := hl
  unfold mL_fold at hf
  refine lv_aload_n hx hb (dc tbL_fold_k 0 rfl) rfl (lv_at hl 3 rfl) ?_
  refine lv_iconst (v := 0) hx hb (dc tbL_fold_k 1 rfl) ic_0 ?_
  refine lv_aload_n hx hb (dc tbL_fold_k 2 rfl) rfl (lv_at hl 0 rfl) ?_
  refine lv_iload_n hx hb (dc tbL_fold_k 3 rfl) rfl (lv_at hl 1 rfl) ?_
  refine lv_iload_n hx hb (dc tbL_fold_k 4 rfl) rfl (lv_at hl 2 rfl) ?_
  rcases calt_s hf with ⟨M3, r2, q1, hf⟩ | ⟨M3, e4, q1, hf⟩
  · refine x_callRi (g_runXV hx hb hml hown hts hK hap hsx hI (tX6_fold l hst hk0 q1 H.size) cv_X6_fold q_t6_213 rfl rfl ⟨Nat.le_of_ble_eq_true rfl, Nat.le_of_ble_eq_true rfl⟩ hk0.1 (by simp) rfl rfl rfl hl.1 rfl (Nat.le_of_ble_eq_true rfl) (dc tbL_fold_k 5 rfl) ⟨Nat.le_of_ble_eq_true rfl, Nat.le_of_ble_eq_true rfl⟩) hI (fun H locs hI => ?_)
    refine lv_i2l hx hb (dc tbL_fold_k 6 rfl) rfl ?_
    obtain ⟨h5, hf⟩ := chk_s hf
    obtain ⟨M7, e6, hf⟩ := bnd_s hf
    refine g_last hx hb hK hap hI hk1 (okb_in h5) (dc tbL_fold_k 7 rfl) e6 (fun H locs hI => ?_)
    refine lv_goto (tgt := 25) hx hb (dc tbL_fold_k 8 rfl) rfl ?_
    refine lv_iconst (v := 0) hx hb (dc tbL_fold_k 18 rfl) ic_0 ?_
    cases hf
    exact x_ret (g_iret hx hb hr hlk hI (dc tbL_fold_k 19 rfl))
  · refine by_c (c := e4 = 1) (fun c8 => ?_) (fun c8 => ?_)
    · have hf := ite_t c8 hf
      subst c8
      refine x_callC (E := "java/lang/IndexOutOfBoundsException") (g_runXV hx hb hml hown hts hK hap hsx hI (tX6_fold l hst hk0 q1 H.size) cv_X6_fold q_t6_213 rfl rfl ⟨Nat.le_of_ble_eq_true rfl, Nat.le_of_ble_eq_true rfl⟩ hk0.1 (by simp) rfl rfl rfl hl.1 rfl (Nat.le_of_ble_eq_true rfl) (dc tbL_fold_k 5 rfl) ⟨Nat.le_of_ble_eq_true rfl, Nat.le_of_ble_eq_true rfl⟩) hI hown hts hsx rfl htb [] ⟨0, 10, 13, 18⟩ [⟨0, 10, 17, 13⟩, ⟨0, 10, 21, 74⟩] rfl (fun _ h => absurd h List.not_mem_nil) (by decide) (by decide) q_t6_10 (by decide +kernel) rfl (fun qx H locs hI => ?_)
      refine lv_astore (lv' := [(4, .ref qx), (0, .ref (ad k0)), (1, .int x1), (2, .int x2), (3, .ref (ad k1))]) hx hb (dc tbL_fold_k 9 rfl) hl (by decide) rfl (fun ls hl => ?_)
      refine lv_iconst (v := 1) hx hb (dc tbL_fold_k 10 rfl) ic_1 ?_
      cases hf
      exact x_ret (g_iret hx hb hr hlk hI (dc tbL_fold_k 11 rfl))
    · have hf := ite_f c8 hf
      refine by_c (c := e4 = 0) (fun c9 => ?_) (fun c9 => ?_)
      · have hf := ite_t c9 hf
        subst c9
        refine x_callC (E := "java/lang/IllegalArgumentException") (g_runXV hx hb hml hown hts hK hap hsx hI (tX6_fold l hst hk0 q1 H.size) cv_X6_fold q_t6_213 rfl rfl ⟨Nat.le_of_ble_eq_true rfl, Nat.le_of_ble_eq_true rfl⟩ hk0.1 (by simp) rfl rfl rfl hl.1 rfl (Nat.le_of_ble_eq_true rfl) (dc tbL_fold_k 5 rfl) ⟨Nat.le_of_ble_eq_true rfl, Nat.le_of_ble_eq_true rfl⟩) hI hown hts hsx rfl htb [⟨0, 10, 13, 18⟩] ⟨0, 10, 17, 13⟩ [⟨0, 10, 21, 74⟩] rfl (List.forall_mem_cons.mpr ⟨⟨by decide, "java/lang/IndexOutOfBoundsException", q_t6_10, hnc.1⟩, fun _ h => absurd h List.not_mem_nil⟩) (by decide) (by decide) q_t5_101 (by decide +kernel) rfl (fun qx H locs hI => ?_)
        refine lv_astore (lv' := [(4, .ref qx), (0, .ref (ad k0)), (1, .int x1), (2, .int x2), (3, .ref (ad k1))]) hx hb (dc tbL_fold_k 12 rfl) hl (by decide) rfl (fun ls hl => ?_)
        refine lv_iconst (v := 2) hx hb (dc tbL_fold_k 13 rfl) ic_2 ?_
        cases hf
        exact x_ret (g_iret hx hb hr hlk hI (dc tbL_fold_k 14 rfl))
      · have hf := ite_f c9 hf
        refine by_c (c := e4 = 2) (fun c10 => ?_) (fun c10 => ?_)
        · have hf := ite_t c10 hf
          subst c10
          refine x_callC (E := "java/lang/IllegalStateException") (g_runXV hx hb hml hown hts hK hap hsx hI (tX6_fold l hst hk0 q1 H.size) cv_X6_fold q_t6_213 rfl rfl ⟨Nat.le_of_ble_eq_true rfl, Nat.le_of_ble_eq_true rfl⟩ hk0.1 (by simp) rfl rfl rfl hl.1 rfl (Nat.le_of_ble_eq_true rfl) (dc tbL_fold_k 5 rfl) ⟨Nat.le_of_ble_eq_true rfl, Nat.le_of_ble_eq_true rfl⟩) hI hown hts hsx rfl htb [⟨0, 10, 13, 18⟩, ⟨0, 10, 17, 13⟩] ⟨0, 10, 21, 74⟩ [] rfl (List.forall_mem_cons.mpr ⟨⟨by decide, "java/lang/IndexOutOfBoundsException", q_t6_10, hnc.2.1⟩, List.forall_mem_cons.mpr ⟨⟨by decide, "java/lang/IllegalArgumentException", q_t5_101, hnc.2.2⟩, fun _ h => absurd h List.not_mem_nil⟩⟩) (by decide) (by decide) q_t6_185 (by decide +kernel) rfl (fun qx H locs hI => ?_)
          refine lv_astore (lv' := [(4, .ref qx), (0, .ref (ad k0)), (1, .int x1), (2, .int x2), (3, .ref (ad k1))]) hx hb (dc tbL_fold_k 15 rfl) hl (by decide) rfl (fun ls hl => ?_)
          refine lv_iconst (v := 3) hx hb (dc tbL_fold_k 16 rfl) ic_3 ?_
          cases hf
          exact x_ret (g_iret hx hb hr hlk hI (dc tbL_fold_k 17 rfl))
        · have hf := ite_f c10 hf
          cases hf
theorem ch_L_fold : Cond.static yL_fold ∈ WA ∧ Cond.initialized yL_fold.cls ∈ WA ∧ Cond.codeWith yL_fold cL_fold 5 (some .int) [(0, 10, 13, 18), (0, 10, 17, 13), (0, 10, 21, 74)] ∈ WA ∧ (yL_fold.cls ≠ "java/lang/invoke/MethodHandle" ∧ yL_fold.cls ≠ "java/lang/invoke/VarHandle" ∧ (parseMethodDescriptor yL_fold.desc).map (fun d => d.parameters.length) = some 4) := ⟨q_t6_211, q_t1_0, q_t6_212, by decide +kernel⟩
def mL_foldNext (k0 : Nat) (k1 : Nat) (M : Mem) : Option (Mem × (Int32 ⊕ Nat)) := calt (mX6_foldNext k0 M) (fun M3 r2 => chk (okb (0 : Int32) 1) (bnd (wl M3 k1 ((0 : Int32)).toNatClampNeg (r2).toInt64) (fun M7 => some (M7, Sum.inl (0 : Int32))))) (fun M3 e4 => ite2 (e4 = 2) (some (M3, Sum.inl (1 : Int32))) (none))
set_option maxHeartbeats 4000000 in
set_option maxRecDepth 100000 in
theorem tL_foldNext (l : Launch) (hst : l.stackTraces = false) {G : GT} {kd : Nat → Nat × Nat} {ad : Nat → Nat} {k0 : Nat} {k1 : Nat} (hk0 : kRoot kd k0) (hk1 : kd k1 = (13, 1)) {M : Mem} {MO : Mem} {vo : Int32 ⊕ Nat} (hf : mL_foldNext k0 k1 M = some (MO, vo)) (n : Nat) : vx_Met l yL_foldNext (Cond.codeWith yL_foldNext cL_foldNext 3 (some .int) [(0, 8, 11, 74)] :: WA) (rmO 8 1 6) (Pn G kd ad n [.ref (ad k0), .ref (ad k1)] M) (Qx G kd ad n MO (zi vo)) (Xx G kd ad n MO (zi vo)) 1 6 (AS kd ad n) := by
  refine g_bodyXH (own := RL) (by decide) rfl ?_ (Nat.le_of_ble_eq_true rfl)
  intro p e s m args below meth c C htb hnc _ H locs ls hI hl
  obtain ⟨hx, hb, hml, hr, hown, hts, hlk, hK, hap, hsx⟩ := id C
  have hl : lv_has ls 3 [(0, .ref (ad k0)), (1, .ref (ad k1))] := hl
  unfold mL_foldNext at hf
  refine lv_aload_n hx hb (dc tbL_foldNext_k 0 rfl) rfl (lv_at hl 1 rfl) ?_
  refine lv_iconst (v := 0) hx hb (dc tbL_foldNext_k 1 rfl) ic_0 ?_
  refine lv_aload_n hx hb (dc tbL_foldNext_k 2 rfl) rfl (lv_at hl 0 rfl) ?_
  rcases calt_s hf with ⟨M3, r2, q1, hf⟩ | ⟨M3, e4, q1, hf⟩
  · refine x_callRi (g_runXV hx hb hml hown hts hK hap hsx hI (tX6_foldNext l hst hk0 q1 H.size) cv_X6_foldNext q_t6_229 rfl rfl ⟨Nat.le_of_ble_eq_true rfl, Nat.le_of_ble_eq_true rfl⟩ hk0.1 (by simp) rfl rfl rfl hl.1 rfl (Nat.le_of_ble_eq_true rfl) (dc tbL_foldNext_k 3 rfl) ⟨Nat.le_of_ble_eq_true rfl, Nat.le_of_ble_eq_true rfl⟩) hI (fun H locs hI => ?_)
    refine lv_i2l hx hb (dc tbL_foldNext_k 4 rfl) rfl ?_
    obtain ⟨h5, hf⟩ := chk_s hf
    obtain ⟨M7, e6, hf⟩ := bnd_s hf
    refine g_last hx hb hK hap hI hk1 (okb_in h5) (dc tbL_foldNext_k 5 rfl) e6 (fun H locs hI => ?_)
    refine lv_goto (tgt := 14) hx hb (dc tbL_foldNext_k 6 rfl) rfl ?_
    refine lv_iconst (v := 0) hx hb (dc tbL_foldNext_k 10 rfl) ic_0 ?_
    cases hf
    exact x_ret (g_iret hx hb hr hlk hI (dc tbL_foldNext_k 11 rfl))
  · refine by_c (c := e4 = 2) (fun c8 => ?_) (fun c8 => ?_)
    · have hf := ite_t c8 hf
      subst c8
      refine x_callC (E := "java/lang/IllegalStateException") (g_runXV hx hb hml hown hts hK hap hsx hI (tX6_foldNext l hst hk0 q1 H.size) cv_X6_foldNext q_t6_229 rfl rfl ⟨Nat.le_of_ble_eq_true rfl, Nat.le_of_ble_eq_true rfl⟩ hk0.1 (by simp) rfl rfl rfl hl.1 rfl (Nat.le_of_ble_eq_true rfl) (dc tbL_foldNext_k 3 rfl) ⟨Nat.le_of_ble_eq_true rfl, Nat.le_of_ble_eq_true rfl⟩) hI hown hts hsx rfl htb [] ⟨0, 8, 11, 74⟩ [] rfl (fun _ h => absurd h List.not_mem_nil) (by decide) (by decide) q_t6_185 (by decide +kernel) rfl (fun qx H locs hI => ?_)
      refine lv_astore_n (lv' := [(2, .ref qx), (0, .ref (ad k0)), (1, .ref (ad k1))]) hx hb (dc tbL_foldNext_k 7 rfl) rfl hl (by decide) rfl (fun ls hl => ?_)
      refine lv_iconst (v := 1) hx hb (dc tbL_foldNext_k 8 rfl) ic_1 ?_
      cases hf
      exact x_ret (g_iret hx hb hr hlk hI (dc tbL_foldNext_k 9 rfl))
    · have hf := ite_f c8 hf
      cases hf
theorem ch_L_foldNext : Cond.static yL_foldNext ∈ WA ∧ Cond.initialized yL_foldNext.cls ∈ WA ∧ Cond.codeWith yL_foldNext cL_foldNext 3 (some .int) [(0, 8, 11, 74)] ∈ WA ∧ (yL_foldNext.cls ≠ "java/lang/invoke/MethodHandle" ∧ yL_foldNext.cls ≠ "java/lang/invoke/VarHandle" ∧ (parseMethodDescriptor yL_foldNext.desc).map (fun d => d.parameters.length) = some 2) := ⟨q_t6_227, q_t1_0, q_t6_228, by decide +kernel⟩
def mL_setLeg (k0 : Nat) (k1 : Nat) (x1 : Int32) (x2 : Int32) (M : Mem) : Option (Mem × (Int32 ⊕ Nat)) := calt (mX6_setLeg k0 x1 x2 M) (fun M3 r2 => chk (okb (0 : Int32) 1) (bnd (wl M3 k1 ((0 : Int32)).toNatClampNeg (r2).toInt64) (fun M7 => some (M7, Sum.inl (0 : Int32))))) (fun M3 e4 => ite2 (e4 = 1) (some (M3, Sum.inl (1 : Int32))) (ite2 (e4 = 0) (some (M3, Sum.inl (2 : Int32))) (ite2 (e4 = 2) (some (M3, Sum.inl (3 : Int32))) (none))))
set_option maxHeartbeats 4000000 in
set_option maxRecDepth 100000 in
theorem tL_setLeg (l : Launch) (hst : l.stackTraces = false) {G : GT} {kd : Nat → Nat × Nat} {ad : Nat → Nat} {k0 : Nat} {k1 : Nat} (hk0 : kRoot kd k0) (hk1 : kd k1 = (13, 1)) {x1 : Int32} {x2 : Int32} {M : Mem} {MO : Mem} {vo : Int32 ⊕ Nat} (hf : mL_setLeg k0 k1 x1 x2 M = some (MO, vo)) (n : Nat) : vx_Met l yL_setLeg (Cond.codeWith yL_setLeg cL_setLeg 5 (some .int) [(0, 10, 13, 18), (0, 10, 17, 13), (0, 10, 21, 74)] :: WA) (rmO 4 3 18) (Pn G kd ad n [.ref (ad k0), .int x1, .int x2, .ref (ad k1)] M) (Qx G kd ad n MO (zi vo)) (Xx G kd ad n MO (zi vo)) 3 18 (AS kd ad n) := by
  refine g_bodyXH (own := RL) (by decide) rfl ?_ (Nat.le_of_ble_eq_true rfl)
  intro p e s m args below meth c C htb hnc _ H locs ls hI hl
  obtain ⟨hx, hb, hml, hr, hown, hts, hlk, hK, hap, hsx⟩ := id C
  have hl : lv_has ls 5 [(0, .ref (ad k0)), (1, .int x1), (2, .int x2), (3, .ref (ad k1))] := hl
  unfold mL_setLeg at hf
  refine lv_aload_n hx hb (dc tbL_setLeg_k 0 rfl) rfl (lv_at hl 3 rfl) ?_
  refine lv_iconst (v := 0) hx hb (dc tbL_setLeg_k 1 rfl) ic_0 ?_
  refine lv_aload_n hx hb (dc tbL_setLeg_k 2 rfl) rfl (lv_at hl 0 rfl) ?_
  refine lv_iload_n hx hb (dc tbL_setLeg_k 3 rfl) rfl (lv_at hl 1 rfl) ?_
  refine lv_iload_n hx hb (dc tbL_setLeg_k 4 rfl) rfl (lv_at hl 2 rfl) ?_
  rcases calt_s hf with ⟨M3, r2, q1, hf⟩ | ⟨M3, e4, q1, hf⟩
  · refine x_callRi (g_runXV hx hb hml hown hts hK hap hsx hI (tX6_setLeg l hst hk0 q1 H.size) cv_X6_setLeg q_t6_237 rfl rfl ⟨Nat.le_of_ble_eq_true rfl, Nat.le_of_ble_eq_true rfl⟩ hk0.1 (by simp) rfl rfl rfl hl.1 rfl (Nat.le_of_ble_eq_true rfl) (dc tbL_setLeg_k 5 rfl) ⟨Nat.le_of_ble_eq_true rfl, Nat.le_of_ble_eq_true rfl⟩) hI (fun H locs hI => ?_)
    refine lv_i2l hx hb (dc tbL_setLeg_k 6 rfl) rfl ?_
    obtain ⟨h5, hf⟩ := chk_s hf
    obtain ⟨M7, e6, hf⟩ := bnd_s hf
    refine g_last hx hb hK hap hI hk1 (okb_in h5) (dc tbL_setLeg_k 7 rfl) e6 (fun H locs hI => ?_)
    refine lv_goto (tgt := 25) hx hb (dc tbL_setLeg_k 8 rfl) rfl ?_
    refine lv_iconst (v := 0) hx hb (dc tbL_setLeg_k 18 rfl) ic_0 ?_
    cases hf
    exact x_ret (g_iret hx hb hr hlk hI (dc tbL_setLeg_k 19 rfl))
  · refine by_c (c := e4 = 1) (fun c8 => ?_) (fun c8 => ?_)
    · have hf := ite_t c8 hf
      subst c8
      refine x_callC (E := "java/lang/IndexOutOfBoundsException") (g_runXV hx hb hml hown hts hK hap hsx hI (tX6_setLeg l hst hk0 q1 H.size) cv_X6_setLeg q_t6_237 rfl rfl ⟨Nat.le_of_ble_eq_true rfl, Nat.le_of_ble_eq_true rfl⟩ hk0.1 (by simp) rfl rfl rfl hl.1 rfl (Nat.le_of_ble_eq_true rfl) (dc tbL_setLeg_k 5 rfl) ⟨Nat.le_of_ble_eq_true rfl, Nat.le_of_ble_eq_true rfl⟩) hI hown hts hsx rfl htb [] ⟨0, 10, 13, 18⟩ [⟨0, 10, 17, 13⟩, ⟨0, 10, 21, 74⟩] rfl (fun _ h => absurd h List.not_mem_nil) (by decide) (by decide) q_t6_10 (by decide +kernel) rfl (fun qx H locs hI => ?_)
      refine lv_astore (lv' := [(4, .ref qx), (0, .ref (ad k0)), (1, .int x1), (2, .int x2), (3, .ref (ad k1))]) hx hb (dc tbL_setLeg_k 9 rfl) hl (by decide) rfl (fun ls hl => ?_)
      refine lv_iconst (v := 1) hx hb (dc tbL_setLeg_k 10 rfl) ic_1 ?_
      cases hf
      exact x_ret (g_iret hx hb hr hlk hI (dc tbL_setLeg_k 11 rfl))
    · have hf := ite_f c8 hf
      refine by_c (c := e4 = 0) (fun c9 => ?_) (fun c9 => ?_)
      · have hf := ite_t c9 hf
        subst c9
        refine x_callC (E := "java/lang/IllegalArgumentException") (g_runXV hx hb hml hown hts hK hap hsx hI (tX6_setLeg l hst hk0 q1 H.size) cv_X6_setLeg q_t6_237 rfl rfl ⟨Nat.le_of_ble_eq_true rfl, Nat.le_of_ble_eq_true rfl⟩ hk0.1 (by simp) rfl rfl rfl hl.1 rfl (Nat.le_of_ble_eq_true rfl) (dc tbL_setLeg_k 5 rfl) ⟨Nat.le_of_ble_eq_true rfl, Nat.le_of_ble_eq_true rfl⟩) hI hown hts hsx rfl htb [⟨0, 10, 13, 18⟩] ⟨0, 10, 17, 13⟩ [⟨0, 10, 21, 74⟩] rfl (List.forall_mem_cons.mpr ⟨⟨by decide, "java/lang/IndexOutOfBoundsException", q_t6_10, hnc.1⟩, fun _ h => absurd h List.not_mem_nil⟩) (by decide) (by decide) q_t5_101 (by decide +kernel) rfl (fun qx H locs hI => ?_)
        refine lv_astore (lv' := [(4, .ref qx), (0, .ref (ad k0)), (1, .int x1), (2, .int x2), (3, .ref (ad k1))]) hx hb (dc tbL_setLeg_k 12 rfl) hl (by decide) rfl (fun ls hl => ?_)
        refine lv_iconst (v := 2) hx hb (dc tbL_setLeg_k 13 rfl) ic_2 ?_
        cases hf
        exact x_ret (g_iret hx hb hr hlk hI (dc tbL_setLeg_k 14 rfl))
      · have hf := ite_f c9 hf
        refine by_c (c := e4 = 2) (fun c10 => ?_) (fun c10 => ?_)
        · have hf := ite_t c10 hf
          subst c10
          refine x_callC (E := "java/lang/IllegalStateException") (g_runXV hx hb hml hown hts hK hap hsx hI (tX6_setLeg l hst hk0 q1 H.size) cv_X6_setLeg q_t6_237 rfl rfl ⟨Nat.le_of_ble_eq_true rfl, Nat.le_of_ble_eq_true rfl⟩ hk0.1 (by simp) rfl rfl rfl hl.1 rfl (Nat.le_of_ble_eq_true rfl) (dc tbL_setLeg_k 5 rfl) ⟨Nat.le_of_ble_eq_true rfl, Nat.le_of_ble_eq_true rfl⟩) hI hown hts hsx rfl htb [⟨0, 10, 13, 18⟩, ⟨0, 10, 17, 13⟩] ⟨0, 10, 21, 74⟩ [] rfl (List.forall_mem_cons.mpr ⟨⟨by decide, "java/lang/IndexOutOfBoundsException", q_t6_10, hnc.2.1⟩, List.forall_mem_cons.mpr ⟨⟨by decide, "java/lang/IllegalArgumentException", q_t5_101, hnc.2.2⟩, fun _ h => absurd h List.not_mem_nil⟩⟩) (by decide) (by decide) q_t6_185 (by decide +kernel) rfl (fun qx H locs hI => ?_)
          refine lv_astore (lv' := [(4, .ref qx), (0, .ref (ad k0)), (1, .int x1), (2, .int x2), (3, .ref (ad k1))]) hx hb (dc tbL_setLeg_k 15 rfl) hl (by decide) rfl (fun ls hl => ?_)
          refine lv_iconst (v := 3) hx hb (dc tbL_setLeg_k 16 rfl) ic_3 ?_
          cases hf
          exact x_ret (g_iret hx hb hr hlk hI (dc tbL_setLeg_k 17 rfl))
        · have hf := ite_f c10 hf
          cases hf
theorem ch_L_setLeg : Cond.static yL_setLeg ∈ WA ∧ Cond.initialized yL_setLeg.cls ∈ WA ∧ Cond.codeWith yL_setLeg cL_setLeg 5 (some .int) [(0, 10, 13, 18), (0, 10, 17, 13), (0, 10, 21, 74)] ∈ WA ∧ (yL_setLeg.cls ≠ "java/lang/invoke/MethodHandle" ∧ yL_setLeg.cls ≠ "java/lang/invoke/VarHandle" ∧ (parseMethodDescriptor yL_setLeg.desc).map (fun d => d.parameters.length) = some 4) := ⟨q_t6_235, q_t1_0, q_t6_236, by decide +kernel⟩
def mL_setDirection_b16 (k0 : Nat) (k1 : Nat) (y1 : Int32) (y2 : Int64) (M : Mem) : Option (Mem × (Int32 ⊕ Nat)) := chk (okb y1 1) (bnd (wl M k1 (y1).toNatClampNeg y2) (fun M8 => some (M8, Sum.inl (0 : Int32))))
set_option maxHeartbeats 4000000 in
set_option maxRecDepth 100000 in
theorem tL_setDirection_b16 {p : Program} {l : Launch} {e : Env} {s : State} {m : MethodId} {args : Array Value} {below : List Frame} {meth : Method} {c : Code} {G : GT} {kd : Nat → Nat × Nat} {ad : Nat → Nat} (C : Cx p s m args meth c cL_setDirection 5 (some .int) RL G kd ad) (hst : l.stackTraces = false) (htb : c.exceptionTable.toList = tableOf [(0, 17, 20, 18), (0, 17, 24, 74)]) (hnc : Nc s) {k0 : Nat} {k1 : Nat} (hk0 : kRoot kd k0) (hk1 : kd k1 = (13, 1)) {MO : Mem} {vo : Int32 ⊕ Nat}   : ∀ (y1 : Int32) (y2 : Int64) (M : Mem), mL_setDirection_b16 k0 k1 y1 y2 M = some (MO, vo) → At p l e (rmO 4 2 12) s m args below meth c 2 12 (XQ G kd ad below args s MO (zi vo) 2 12) G kd ad 5 16 [] [.long y2, .int y1, .ref (ad k1)] M := by
  intro y1 y2 M hf H locs ls hI hl
  obtain ⟨hx, hb, hml, hr, hown, hts, hlk, hK, hap, hsx⟩ := id C
  unfold mL_setDirection_b16 at hf
  obtain ⟨h6, hf⟩ := chk_s hf
  obtain ⟨M8, e7, hf⟩ := bnd_s hf
  refine g_last hx hb hK hap hI hk1 (okb_in h6) (dc tbL_setDirection_k 10 rfl) e7 (fun H locs hI => ?_)
  refine lv_goto (tgt := 28) hx hb (dc tbL_setDirection_k 11 rfl) rfl ?_
  refine lv_iconst (v := 0) hx hb (dc tbL_setDirection_k 18 rfl) ic_0 ?_
  cases hf
  exact x_ret (g_iret hx hb hr hlk hI (dc tbL_setDirection_k 19 rfl))
def mL_setDirection (k0 : Nat) (k1 : Nat) (x1 : Int32) (x2 : Int32) (M : Mem) : Option (Mem × (Int32 ⊕ Nat)) := calt (mX6_setDirection k0 x1 x2 M) (fun M3 r2 => ite2 (r2 = 0) (mL_setDirection_b16 k0 k1 (0 : Int32) (0 : Int64) M3) (mL_setDirection_b16 k0 k1 (0 : Int32) (1 : Int64) M3)) (fun M3 e4 => ite2 (e4 = 1) (some (M3, Sum.inl (1 : Int32))) (ite2 (e4 = 2) (some (M3, Sum.inl (2 : Int32))) (none)))
set_option maxHeartbeats 4000000 in
set_option maxRecDepth 100000 in
theorem tL_setDirection (l : Launch) (hst : l.stackTraces = false) {G : GT} {kd : Nat → Nat × Nat} {ad : Nat → Nat} {k0 : Nat} {k1 : Nat} (hk0 : kRoot kd k0) (hk1 : kd k1 = (13, 1)) {x1 : Int32} {x2 : Int32} {M : Mem} {MO : Mem} {vo : Int32 ⊕ Nat} (hf : mL_setDirection k0 k1 x1 x2 M = some (MO, vo)) (n : Nat) : vx_Met l yL_setDirection (Cond.codeWith yL_setDirection cL_setDirection 5 (some .int) [(0, 17, 20, 18), (0, 17, 24, 74)] :: WA) (rmO 4 2 12) (Pn G kd ad n [.ref (ad k0), .int x1, .int x2, .ref (ad k1)] M) (Qx G kd ad n MO (zi vo)) (Xx G kd ad n MO (zi vo)) 2 12 (AS kd ad n) := by
  refine g_bodyXH (own := RL) (by decide) rfl ?_ (Nat.le_of_ble_eq_true rfl)
  intro p e s m args below meth c C htb hnc _ H locs ls hI hl
  obtain ⟨hx, hb, hml, hr, hown, hts, hlk, hK, hap, hsx⟩ := id C
  have hl : lv_has ls 5 [(0, .ref (ad k0)), (1, .int x1), (2, .int x2), (3, .ref (ad k1))] := hl
  unfold mL_setDirection at hf
  refine lv_aload_n hx hb (dc tbL_setDirection_k 0 rfl) rfl (lv_at hl 3 rfl) ?_
  refine lv_iconst (v := 0) hx hb (dc tbL_setDirection_k 1 rfl) ic_0 ?_
  refine lv_aload_n hx hb (dc tbL_setDirection_k 2 rfl) rfl (lv_at hl 0 rfl) ?_
  refine lv_iload_n hx hb (dc tbL_setDirection_k 3 rfl) rfl (lv_at hl 1 rfl) ?_
  refine lv_iload_n hx hb (dc tbL_setDirection_k 4 rfl) rfl (lv_at hl 2 rfl) ?_
  rcases calt_s hf with ⟨M3, r2, q1, hf⟩ | ⟨M3, e4, q1, hf⟩
  · refine x_callRi (g_runXV hx hb hml hown hts hK hap hsx hI (tX6_setDirection l hst hk0 q1 H.size) cv_X6_setDirection q_t7_7 rfl rfl ⟨Nat.le_of_ble_eq_true rfl, Nat.le_of_ble_eq_true rfl⟩ hk0.1 (by simp) rfl rfl rfl hl.1 rfl (Nat.le_of_ble_eq_true rfl) (dc tbL_setDirection_k 5 rfl) ⟨Nat.le_of_ble_eq_true rfl, Nat.le_of_ble_eq_true rfl⟩) hI (fun H locs hI => ?_)
    refine lv_if_eq (tgt := 15) hx hb (dc tbL_setDirection_k 6 rfl) rfl (fun c5 => ?_) (fun c5 => ?_)
    · have hf := ite_t c5 hf
      refine lv_lconst (v := 0) hx hb (dc tbL_setDirection_k 9 rfl) (by decide) ?_
      exact tL_setDirection_b16 C hst htb hnc hk0 hk1 (0 : Int32) (0 : Int64) M3 hf _ _ _ hI (lv_sub hl [] rfl)
    · have hf := ite_f c5 hf
      refine lv_lconst (v := 1) hx hb (dc tbL_setDirection_k 7 rfl) (by decide) ?_
      refine lv_goto (tgt := 16) hx hb (dc tbL_setDirection_k 8 rfl) rfl ?_
      exact tL_setDirection_b16 C hst htb hnc hk0 hk1 (0 : Int32) (1 : Int64) M3 hf _ _ _ hI (lv_sub hl [] rfl)
  · refine by_c (c := e4 = 1) (fun c9 => ?_) (fun c9 => ?_)
    · have hf := ite_t c9 hf
      subst c9
      refine x_callC (E := "java/lang/IndexOutOfBoundsException") (g_runXV hx hb hml hown hts hK hap hsx hI (tX6_setDirection l hst hk0 q1 H.size) cv_X6_setDirection q_t7_7 rfl rfl ⟨Nat.le_of_ble_eq_true rfl, Nat.le_of_ble_eq_true rfl⟩ hk0.1 (by simp) rfl rfl rfl hl.1 rfl (Nat.le_of_ble_eq_true rfl) (dc tbL_setDirection_k 5 rfl) ⟨Nat.le_of_ble_eq_true rfl, Nat.le_of_ble_eq_true rfl⟩) hI hown hts hsx rfl htb [] ⟨0, 17, 20, 18⟩ [⟨0, 17, 24, 74⟩] rfl (fun _ h => absurd h List.not_mem_nil) (by decide) (by decide) q_t6_10 (by decide +kernel) rfl (fun qx H locs hI => ?_)
      refine lv_astore (lv' := [(4, .ref qx), (0, .ref (ad k0)), (1, .int x1), (2, .int x2), (3, .ref (ad k1))]) hx hb (dc tbL_setDirection_k 12 rfl) hl (by decide) rfl (fun ls hl => ?_)
      refine lv_iconst (v := 1) hx hb (dc tbL_setDirection_k 13 rfl) ic_1 ?_
      cases hf
      exact x_ret (g_iret hx hb hr hlk hI (dc tbL_setDirection_k 14 rfl))
    · have hf := ite_f c9 hf
      refine by_c (c := e4 = 2) (fun c10 => ?_) (fun c10 => ?_)
      · have hf := ite_t c10 hf
        subst c10
        refine x_callC (E := "java/lang/IllegalStateException") (g_runXV hx hb hml hown hts hK hap hsx hI (tX6_setDirection l hst hk0 q1 H.size) cv_X6_setDirection q_t7_7 rfl rfl ⟨Nat.le_of_ble_eq_true rfl, Nat.le_of_ble_eq_true rfl⟩ hk0.1 (by simp) rfl rfl rfl hl.1 rfl (Nat.le_of_ble_eq_true rfl) (dc tbL_setDirection_k 5 rfl) ⟨Nat.le_of_ble_eq_true rfl, Nat.le_of_ble_eq_true rfl⟩) hI hown hts hsx rfl htb [⟨0, 17, 20, 18⟩] ⟨0, 17, 24, 74⟩ [] rfl (List.forall_mem_cons.mpr ⟨⟨by decide, "java/lang/IndexOutOfBoundsException", q_t6_10, hnc.2.1⟩, fun _ h => absurd h List.not_mem_nil⟩) (by decide) (by decide) q_t6_185 (by decide +kernel) rfl (fun qx H locs hI => ?_)
        refine lv_astore (lv' := [(4, .ref qx), (0, .ref (ad k0)), (1, .int x1), (2, .int x2), (3, .ref (ad k1))]) hx hb (dc tbL_setDirection_k 15 rfl) hl (by decide) rfl (fun ls hl => ?_)
        refine lv_iconst (v := 2) hx hb (dc tbL_setDirection_k 16 rfl) ic_2 ?_
        cases hf
        exact x_ret (g_iret hx hb hr hlk hI (dc tbL_setDirection_k 17 rfl))
      · have hf := ite_f c10 hf
        cases hf
theorem ch_L_setDirection : Cond.static yL_setDirection ∈ WA ∧ Cond.initialized yL_setDirection.cls ∈ WA ∧ Cond.codeWith yL_setDirection cL_setDirection 5 (some .int) [(0, 17, 20, 18), (0, 17, 24, 74)] ∈ WA ∧ (yL_setDirection.cls ≠ "java/lang/invoke/MethodHandle" ∧ yL_setDirection.cls ≠ "java/lang/invoke/VarHandle" ∧ (parseMethodDescriptor yL_setDirection.desc).map (fun d => d.parameters.length) = some 4) := ⟨q_t7_5, q_t1_0, q_t7_6, by decide +kernel⟩
def mL_setTool (k0 : Nat) (k1 : Nat) (x1 : Int32) (x2 : Int32) (x3 : Int32) (M : Mem) : Option (Mem × (Int32 ⊕ Nat)) := calt (mX6_setTool k0 x1 x2 x3 M) (fun M3 r2 => chk (okb (0 : Int32) 1) (bnd (wl M3 k1 ((0 : Int32)).toNatClampNeg (r2).toInt64) (fun M7 => some (M7, Sum.inl (0 : Int32))))) (fun M3 e4 => ite2 (e4 = 0) (some (M3, Sum.inl (1 : Int32))) (none))
set_option maxHeartbeats 4000000 in
set_option maxRecDepth 100000 in
theorem tL_setTool (l : Launch) (hst : l.stackTraces = false) {G : GT} {kd : Nat → Nat × Nat} {ad : Nat → Nat} {k0 : Nat} {k1 : Nat} (hk0 : kRoot kd k0) (hk1 : kd k1 = (13, 1)) {x1 : Int32} {x2 : Int32} {x3 : Int32} {M : Mem} {MO : Mem} {vo : Int32 ⊕ Nat} (hf : mL_setTool k0 k1 x1 x2 x3 M = some (MO, vo)) (n : Nat) : vx_Met l yL_setTool (Cond.codeWith yL_setTool cL_setTool 6 (some .int) [(0, 12, 15, 13)] :: WA) (rmO 4 1 6) (Pn G kd ad n [.ref (ad k0), .int x1, .int x2, .int x3, .ref (ad k1)] M) (Qx G kd ad n MO (zi vo)) (Xx G kd ad n MO (zi vo)) 1 6 (AS kd ad n) := by
  refine g_bodyXH (own := RL) (by decide) rfl ?_ (Nat.le_of_ble_eq_true rfl)
  intro p e s m args below meth c C htb hnc _ H locs ls hI hl
  obtain ⟨hx, hb, hml, hr, hown, hts, hlk, hK, hap, hsx⟩ := id C
  have hl : lv_has ls 6 [(0, .ref (ad k0)), (1, .int x1), (2, .int x2), (3, .int x3), (4, .ref (ad k1))] := hl
  unfold mL_setTool at hf
  refine lv_aload hx hb (dc tbL_setTool_k 0 rfl) (lv_at hl 4 rfl) ?_
  refine lv_iconst (v := 0) hx hb (dc tbL_setTool_k 1 rfl) ic_0 ?_
  refine lv_aload_n hx hb (dc tbL_setTool_k 2 rfl) rfl (lv_at hl 0 rfl) ?_
  refine lv_iload_n hx hb (dc tbL_setTool_k 3 rfl) rfl (lv_at hl 1 rfl) ?_
  refine lv_iload_n hx hb (dc tbL_setTool_k 4 rfl) rfl (lv_at hl 2 rfl) ?_
  refine lv_iload_n hx hb (dc tbL_setTool_k 5 rfl) rfl (lv_at hl 3 rfl) ?_
  rcases calt_s hf with ⟨M3, r2, q1, hf⟩ | ⟨M3, e4, q1, hf⟩
  · refine x_callRi (g_runXV hx hb hml hown hts hK hap hsx hI (tX6_setTool l hst hk0 q1 H.size) cv_X6_setTool q_t7_14 rfl rfl ⟨Nat.le_of_ble_eq_true rfl, Nat.le_of_ble_eq_true rfl⟩ hk0.1 (by simp) rfl rfl rfl hl.1 rfl (Nat.le_of_ble_eq_true rfl) (dc tbL_setTool_k 6 rfl) ⟨Nat.le_of_ble_eq_true rfl, Nat.le_of_ble_eq_true rfl⟩) hI (fun H locs hI => ?_)
    refine lv_i2l hx hb (dc tbL_setTool_k 7 rfl) rfl ?_
    obtain ⟨h5, hf⟩ := chk_s hf
    obtain ⟨M7, e6, hf⟩ := bnd_s hf
    refine g_last hx hb hK hap hI hk1 (okb_in h5) (dc tbL_setTool_k 8 rfl) e6 (fun H locs hI => ?_)
    refine lv_goto (tgt := 19) hx hb (dc tbL_setTool_k 9 rfl) rfl ?_
    refine lv_iconst (v := 0) hx hb (dc tbL_setTool_k 13 rfl) ic_0 ?_
    cases hf
    exact x_ret (g_iret hx hb hr hlk hI (dc tbL_setTool_k 14 rfl))
  · refine by_c (c := e4 = 0) (fun c8 => ?_) (fun c8 => ?_)
    · have hf := ite_t c8 hf
      subst c8
      refine x_callC (E := "java/lang/IllegalArgumentException") (g_runXV hx hb hml hown hts hK hap hsx hI (tX6_setTool l hst hk0 q1 H.size) cv_X6_setTool q_t7_14 rfl rfl ⟨Nat.le_of_ble_eq_true rfl, Nat.le_of_ble_eq_true rfl⟩ hk0.1 (by simp) rfl rfl rfl hl.1 rfl (Nat.le_of_ble_eq_true rfl) (dc tbL_setTool_k 6 rfl) ⟨Nat.le_of_ble_eq_true rfl, Nat.le_of_ble_eq_true rfl⟩) hI hown hts hsx rfl htb [] ⟨0, 12, 15, 13⟩ [] rfl (fun _ h => absurd h List.not_mem_nil) (by decide) (by decide) q_t5_101 (by decide +kernel) rfl (fun qx H locs hI => ?_)
      refine lv_astore (lv' := [(5, .ref qx), (0, .ref (ad k0)), (1, .int x1), (2, .int x2), (3, .int x3), (4, .ref (ad k1))]) hx hb (dc tbL_setTool_k 10 rfl) hl (by decide) rfl (fun ls hl => ?_)
      refine lv_iconst (v := 1) hx hb (dc tbL_setTool_k 11 rfl) ic_1 ?_
      cases hf
      exact x_ret (g_iret hx hb hr hlk hI (dc tbL_setTool_k 12 rfl))
    · have hf := ite_f c8 hf
      cases hf
theorem ch_L_setTool : Cond.static yL_setTool ∈ WA ∧ Cond.initialized yL_setTool.cls ∈ WA ∧ Cond.codeWith yL_setTool cL_setTool 6 (some .int) [(0, 12, 15, 13)] ∈ WA ∧ (yL_setTool.cls ≠ "java/lang/invoke/MethodHandle" ∧ yL_setTool.cls ≠ "java/lang/invoke/VarHandle" ∧ (parseMethodDescriptor yL_setTool.desc).map (fun d => d.parameters.length) = some 5) := ⟨q_t7_12, q_t1_0, q_t7_13, by decide +kernel⟩
def mL_setSheet (k0 : Nat) (k1 : Nat) (x1 : Int32) (x2 : Int32) (x3 : Int32) (M : Mem) : Option (Mem × (Int32 ⊕ Nat)) := calt (mX6_setSheet k0 x1 x2 x3 M) (fun M3 r2 => chk (okb (0 : Int32) 1) (bnd (wl M3 k1 ((0 : Int32)).toNatClampNeg (r2).toInt64) (fun M7 => some (M7, Sum.inl (0 : Int32))))) (fun M3 e4 => ite2 (e4 = 0) (some (M3, Sum.inl (1 : Int32))) (none))
set_option maxHeartbeats 4000000 in
set_option maxRecDepth 100000 in
theorem tL_setSheet (l : Launch) (hst : l.stackTraces = false) {G : GT} {kd : Nat → Nat × Nat} {ad : Nat → Nat} {k0 : Nat} {k1 : Nat} (hk0 : kRoot kd k0) (hk1 : kd k1 = (13, 1)) {x1 : Int32} {x2 : Int32} {x3 : Int32} {M : Mem} {MO : Mem} {vo : Int32 ⊕ Nat} (hf : mL_setSheet k0 k1 x1 x2 x3 M = some (MO, vo)) (n : Nat) : vx_Met l yL_setSheet (Cond.codeWith yL_setSheet cL_setSheet 6 (some .int) [(0, 12, 15, 13)] :: WA) (rmO 4 1 6) (Pn G kd ad n [.ref (ad k0), .int x1, .int x2, .int x3, .ref (ad k1)] M) (Qx G kd ad n MO (zi vo)) (Xx G kd ad n MO (zi vo)) 1 6 (AS kd ad n) := by
  refine g_bodyXH (own := RL) (by decide) rfl ?_ (Nat.le_of_ble_eq_true rfl)
  intro p e s m args below meth c C htb hnc _ H locs ls hI hl
  obtain ⟨hx, hb, hml, hr, hown, hts, hlk, hK, hap, hsx⟩ := id C
  have hl : lv_has ls 6 [(0, .ref (ad k0)), (1, .int x1), (2, .int x2), (3, .int x3), (4, .ref (ad k1))] := hl
  unfold mL_setSheet at hf
  refine lv_aload hx hb (dc tbL_setSheet_k 0 rfl) (lv_at hl 4 rfl) ?_
  refine lv_iconst (v := 0) hx hb (dc tbL_setSheet_k 1 rfl) ic_0 ?_
  refine lv_aload_n hx hb (dc tbL_setSheet_k 2 rfl) rfl (lv_at hl 0 rfl) ?_
  refine lv_iload_n hx hb (dc tbL_setSheet_k 3 rfl) rfl (lv_at hl 1 rfl) ?_
  refine lv_iload_n hx hb (dc tbL_setSheet_k 4 rfl) rfl (lv_at hl 2 rfl) ?_
  refine lv_iload_n hx hb (dc tbL_setSheet_k 5 rfl) rfl (lv_at hl 3 rfl) ?_
  rcases calt_s hf with ⟨M3, r2, q1, hf⟩ | ⟨M3, e4, q1, hf⟩
  · refine x_callRi (g_runXV hx hb hml hown hts hK hap hsx hI (tX6_setSheet l hst hk0 q1 H.size) cv_X6_setSheet q_t7_24 rfl rfl ⟨Nat.le_of_ble_eq_true rfl, Nat.le_of_ble_eq_true rfl⟩ hk0.1 (by simp) rfl rfl rfl hl.1 rfl (Nat.le_of_ble_eq_true rfl) (dc tbL_setSheet_k 6 rfl) ⟨Nat.le_of_ble_eq_true rfl, Nat.le_of_ble_eq_true rfl⟩) hI (fun H locs hI => ?_)
    refine lv_i2l hx hb (dc tbL_setSheet_k 7 rfl) rfl ?_
    obtain ⟨h5, hf⟩ := chk_s hf
    obtain ⟨M7, e6, hf⟩ := bnd_s hf
    refine g_last hx hb hK hap hI hk1 (okb_in h5) (dc tbL_setSheet_k 8 rfl) e6 (fun H locs hI => ?_)
    refine lv_goto (tgt := 19) hx hb (dc tbL_setSheet_k 9 rfl) rfl ?_
    refine lv_iconst (v := 0) hx hb (dc tbL_setSheet_k 13 rfl) ic_0 ?_
    cases hf
    exact x_ret (g_iret hx hb hr hlk hI (dc tbL_setSheet_k 14 rfl))
  · refine by_c (c := e4 = 0) (fun c8 => ?_) (fun c8 => ?_)
    · have hf := ite_t c8 hf
      subst c8
      refine x_callC (E := "java/lang/IllegalArgumentException") (g_runXV hx hb hml hown hts hK hap hsx hI (tX6_setSheet l hst hk0 q1 H.size) cv_X6_setSheet q_t7_24 rfl rfl ⟨Nat.le_of_ble_eq_true rfl, Nat.le_of_ble_eq_true rfl⟩ hk0.1 (by simp) rfl rfl rfl hl.1 rfl (Nat.le_of_ble_eq_true rfl) (dc tbL_setSheet_k 6 rfl) ⟨Nat.le_of_ble_eq_true rfl, Nat.le_of_ble_eq_true rfl⟩) hI hown hts hsx rfl htb [] ⟨0, 12, 15, 13⟩ [] rfl (fun _ h => absurd h List.not_mem_nil) (by decide) (by decide) q_t5_101 (by decide +kernel) rfl (fun qx H locs hI => ?_)
      refine lv_astore (lv' := [(5, .ref qx), (0, .ref (ad k0)), (1, .int x1), (2, .int x2), (3, .int x3), (4, .ref (ad k1))]) hx hb (dc tbL_setSheet_k 10 rfl) hl (by decide) rfl (fun ls hl => ?_)
      refine lv_iconst (v := 1) hx hb (dc tbL_setSheet_k 11 rfl) ic_1 ?_
      cases hf
      exact x_ret (g_iret hx hb hr hlk hI (dc tbL_setSheet_k 12 rfl))
    · have hf := ite_f c8 hf
      cases hf
theorem ch_L_setSheet : Cond.static yL_setSheet ∈ WA ∧ Cond.initialized yL_setSheet.cls ∈ WA ∧ Cond.codeWith yL_setSheet cL_setSheet 6 (some .int) [(0, 12, 15, 13)] ∈ WA ∧ (yL_setSheet.cls ≠ "java/lang/invoke/MethodHandle" ∧ yL_setSheet.cls ≠ "java/lang/invoke/VarHandle" ∧ (parseMethodDescriptor yL_setSheet.desc).map (fun d => d.parameters.length) = some 5) := ⟨q_t7_22, q_t1_0, q_t7_23, by decide +kernel⟩
def mL_setCost (k0 : Nat) (k1 : Nat) (x1 : Int32) (x2 : Int32) (x3 : Int32) (M : Mem) : Option (Mem × (Int32 ⊕ Nat)) := calt (mX6_setCost k0 x1 x2 x3 M) (fun M3 r2 => chk (okb (0 : Int32) 1) (bnd (wl M3 k1 ((0 : Int32)).toNatClampNeg (r2).toInt64) (fun M7 => some (M7, Sum.inl (0 : Int32))))) (fun M3 e4 => ite2 (e4 = 0) (some (M3, Sum.inl (1 : Int32))) (none))
set_option maxHeartbeats 4000000 in
set_option maxRecDepth 100000 in
theorem tL_setCost (l : Launch) (hst : l.stackTraces = false) {G : GT} {kd : Nat → Nat × Nat} {ad : Nat → Nat} {k0 : Nat} {k1 : Nat} (hk0 : kRoot kd k0) (hk1 : kd k1 = (13, 1)) {x1 : Int32} {x2 : Int32} {x3 : Int32} {M : Mem} {MO : Mem} {vo : Int32 ⊕ Nat} (hf : mL_setCost k0 k1 x1 x2 x3 M = some (MO, vo)) (n : Nat) : vx_Met l yL_setCost (Cond.codeWith yL_setCost cL_setCost 6 (some .int) [(0, 12, 15, 13)] :: WA) (rmO 4 1 6) (Pn G kd ad n [.ref (ad k0), .int x1, .int x2, .int x3, .ref (ad k1)] M) (Qx G kd ad n MO (zi vo)) (Xx G kd ad n MO (zi vo)) 1 6 (AS kd ad n) := by
  refine g_bodyXH (own := RL) (by decide) rfl ?_ (Nat.le_of_ble_eq_true rfl)
  intro p e s m args below meth c C htb hnc _ H locs ls hI hl
  obtain ⟨hx, hb, hml, hr, hown, hts, hlk, hK, hap, hsx⟩ := id C
  have hl : lv_has ls 6 [(0, .ref (ad k0)), (1, .int x1), (2, .int x2), (3, .int x3), (4, .ref (ad k1))] := hl
  unfold mL_setCost at hf
  refine lv_aload hx hb (dc tbL_setCost_k 0 rfl) (lv_at hl 4 rfl) ?_
  refine lv_iconst (v := 0) hx hb (dc tbL_setCost_k 1 rfl) ic_0 ?_
  refine lv_aload_n hx hb (dc tbL_setCost_k 2 rfl) rfl (lv_at hl 0 rfl) ?_
  refine lv_iload_n hx hb (dc tbL_setCost_k 3 rfl) rfl (lv_at hl 1 rfl) ?_
  refine lv_iload_n hx hb (dc tbL_setCost_k 4 rfl) rfl (lv_at hl 2 rfl) ?_
  refine lv_iload_n hx hb (dc tbL_setCost_k 5 rfl) rfl (lv_at hl 3 rfl) ?_
  rcases calt_s hf with ⟨M3, r2, q1, hf⟩ | ⟨M3, e4, q1, hf⟩
  · refine x_callRi (g_runXV hx hb hml hown hts hK hap hsx hI (tX6_setCost l hst hk0 q1 H.size) cv_X6_setCost q_t7_34 rfl rfl ⟨Nat.le_of_ble_eq_true rfl, Nat.le_of_ble_eq_true rfl⟩ hk0.1 (by simp) rfl rfl rfl hl.1 rfl (Nat.le_of_ble_eq_true rfl) (dc tbL_setCost_k 6 rfl) ⟨Nat.le_of_ble_eq_true rfl, Nat.le_of_ble_eq_true rfl⟩) hI (fun H locs hI => ?_)
    refine lv_i2l hx hb (dc tbL_setCost_k 7 rfl) rfl ?_
    obtain ⟨h5, hf⟩ := chk_s hf
    obtain ⟨M7, e6, hf⟩ := bnd_s hf
    refine g_last hx hb hK hap hI hk1 (okb_in h5) (dc tbL_setCost_k 8 rfl) e6 (fun H locs hI => ?_)
    refine lv_goto (tgt := 19) hx hb (dc tbL_setCost_k 9 rfl) rfl ?_
    refine lv_iconst (v := 0) hx hb (dc tbL_setCost_k 13 rfl) ic_0 ?_
    cases hf
    exact x_ret (g_iret hx hb hr hlk hI (dc tbL_setCost_k 14 rfl))
  · refine by_c (c := e4 = 0) (fun c8 => ?_) (fun c8 => ?_)
    · have hf := ite_t c8 hf
      subst c8
      refine x_callC (E := "java/lang/IllegalArgumentException") (g_runXV hx hb hml hown hts hK hap hsx hI (tX6_setCost l hst hk0 q1 H.size) cv_X6_setCost q_t7_34 rfl rfl ⟨Nat.le_of_ble_eq_true rfl, Nat.le_of_ble_eq_true rfl⟩ hk0.1 (by simp) rfl rfl rfl hl.1 rfl (Nat.le_of_ble_eq_true rfl) (dc tbL_setCost_k 6 rfl) ⟨Nat.le_of_ble_eq_true rfl, Nat.le_of_ble_eq_true rfl⟩) hI hown hts hsx rfl htb [] ⟨0, 12, 15, 13⟩ [] rfl (fun _ h => absurd h List.not_mem_nil) (by decide) (by decide) q_t5_101 (by decide +kernel) rfl (fun qx H locs hI => ?_)
      refine lv_astore (lv' := [(5, .ref qx), (0, .ref (ad k0)), (1, .int x1), (2, .int x2), (3, .int x3), (4, .ref (ad k1))]) hx hb (dc tbL_setCost_k 10 rfl) hl (by decide) rfl (fun ls hl => ?_)
      refine lv_iconst (v := 1) hx hb (dc tbL_setCost_k 11 rfl) ic_1 ?_
      cases hf
      exact x_ret (g_iret hx hb hr hlk hI (dc tbL_setCost_k 12 rfl))
    · have hf := ite_f c8 hf
      cases hf
theorem ch_L_setCost : Cond.static yL_setCost ∈ WA ∧ Cond.initialized yL_setCost.cls ∈ WA ∧ Cond.codeWith yL_setCost cL_setCost 6 (some .int) [(0, 12, 15, 13)] ∈ WA ∧ (yL_setCost.cls ≠ "java/lang/invoke/MethodHandle" ∧ yL_setCost.cls ≠ "java/lang/invoke/VarHandle" ∧ (parseMethodDescriptor yL_setCost.desc).map (fun d => d.parameters.length) = some 5) := ⟨q_t7_32, q_t1_0, q_t7_33, by decide +kernel⟩
def mL_written (k0 : Nat) (k1 : Nat) (x1 : Int32) (M : Mem) : Option (Mem × (Int32 ⊕ Nat)) := calt (mX6_written k0 x1 M) (fun M3 r2 => chk (okb (0 : Int32) 1) (bnd (wl M3 k1 ((0 : Int32)).toNatClampNeg (r2).toInt64) (fun M7 => some (M7, Sum.inl (0 : Int32))))) (fun M3 e4 => ite2 (e4 = 1) (some (M3, Sum.inl (1 : Int32))) (none))
set_option maxHeartbeats 4000000 in
set_option maxRecDepth 100000 in
theorem tL_written (l : Launch) (hst : l.stackTraces = false) {G : GT} {kd : Nat → Nat × Nat} {ad : Nat → Nat} {M : Mem} {k0 : Nat} {k1 : Nat} (hk0 : kRoot kd k0) (hk1 : kd k1 = (13, 1)) (hS : Sb kd (rd M 133 0)) {x1 : Int32} {MO : Mem} {vo : Int32 ⊕ Nat} (hf : mL_written k0 k1 x1 M = some (MO, vo)) (n : Nat) : vx_Met l yL_written (Cond.codeWith yL_written cL_written 4 (some .int) [(0, 9, 12, 18)] :: WA) (rmO 5 1 6) (Pn G kd ad n [.ref (ad k0), .int x1, .ref (ad k1)] M) (Qx G kd ad n MO (zi vo)) (Xx G kd ad n MO (zi vo)) 1 6 (AS kd ad n) := by
  refine g_bodyXH (own := RL) (by decide) rfl ?_ (Nat.le_of_ble_eq_true rfl)
  intro p e s m args below meth c C htb hnc _ H locs ls hI hl
  obtain ⟨hx, hb, hml, hr, hown, hts, hlk, hK, hap, hsx⟩ := id C
  have hl : lv_has ls 4 [(0, .ref (ad k0)), (1, .int x1), (2, .ref (ad k1))] := hl
  unfold mL_written at hf
  refine lv_aload_n hx hb (dc tbL_written_k 0 rfl) rfl (lv_at hl 2 rfl) ?_
  refine lv_iconst (v := 0) hx hb (dc tbL_written_k 1 rfl) ic_0 ?_
  refine lv_aload_n hx hb (dc tbL_written_k 2 rfl) rfl (lv_at hl 0 rfl) ?_
  refine lv_iload_n hx hb (dc tbL_written_k 3 rfl) rfl (lv_at hl 1 rfl) ?_
  rcases calt_s hf with ⟨M3, r2, q1, hf⟩ | ⟨M3, e4, q1, hf⟩
  · refine x_callRi (g_runXV hx hb hml hown hts hK hap hsx hI (tX6_written l hst hk0 hS q1 H.size) cv_X6_written q_t7_44 rfl rfl ⟨Nat.le_of_ble_eq_true rfl, Nat.le_of_ble_eq_true rfl⟩ hk0.1 (by simp) rfl rfl rfl hl.1 rfl (Nat.le_of_ble_eq_true rfl) (dc tbL_written_k 4 rfl) ⟨Nat.le_of_ble_eq_true rfl, Nat.le_of_ble_eq_true rfl⟩) hI (fun H locs hI => ?_)
    refine lv_i2l hx hb (dc tbL_written_k 5 rfl) rfl ?_
    obtain ⟨h5, hf⟩ := chk_s hf
    obtain ⟨M7, e6, hf⟩ := bnd_s hf
    refine g_last hx hb hK hap hI hk1 (okb_in h5) (dc tbL_written_k 6 rfl) e6 (fun H locs hI => ?_)
    refine lv_goto (tgt := 15) hx hb (dc tbL_written_k 7 rfl) rfl ?_
    refine lv_iconst (v := 0) hx hb (dc tbL_written_k 11 rfl) ic_0 ?_
    cases hf
    exact x_ret (g_iret hx hb hr hlk hI (dc tbL_written_k 12 rfl))
  · refine by_c (c := e4 = 1) (fun c8 => ?_) (fun c8 => ?_)
    · have hf := ite_t c8 hf
      subst c8
      refine x_callC (E := "java/lang/IndexOutOfBoundsException") (g_runXV hx hb hml hown hts hK hap hsx hI (tX6_written l hst hk0 hS q1 H.size) cv_X6_written q_t7_44 rfl rfl ⟨Nat.le_of_ble_eq_true rfl, Nat.le_of_ble_eq_true rfl⟩ hk0.1 (by simp) rfl rfl rfl hl.1 rfl (Nat.le_of_ble_eq_true rfl) (dc tbL_written_k 4 rfl) ⟨Nat.le_of_ble_eq_true rfl, Nat.le_of_ble_eq_true rfl⟩) hI hown hts hsx rfl htb [] ⟨0, 9, 12, 18⟩ [] rfl (fun _ h => absurd h List.not_mem_nil) (by decide) (by decide) q_t6_10 (by decide +kernel) rfl (fun qx H locs hI => ?_)
      refine lv_astore_n (lv' := [(3, .ref qx), (0, .ref (ad k0)), (1, .int x1), (2, .ref (ad k1))]) hx hb (dc tbL_written_k 8 rfl) rfl hl (by decide) rfl (fun ls hl => ?_)
      refine lv_iconst (v := 1) hx hb (dc tbL_written_k 9 rfl) ic_1 ?_
      cases hf
      exact x_ret (g_iret hx hb hr hlk hI (dc tbL_written_k 10 rfl))
    · have hf := ite_f c8 hf
      cases hf
theorem ch_L_written : Cond.static yL_written ∈ WA ∧ Cond.initialized yL_written.cls ∈ WA ∧ Cond.codeWith yL_written cL_written 4 (some .int) [(0, 9, 12, 18)] ∈ WA ∧ (yL_written.cls ≠ "java/lang/invoke/MethodHandle" ∧ yL_written.cls ≠ "java/lang/invoke/VarHandle" ∧ (parseMethodDescriptor yL_written.desc).map (fun d => d.parameters.length) = some 3) := ⟨q_t7_42, q_t1_0, q_t7_43, by decide +kernel⟩
end
/-! part 37.lawlayer -/
section
/-! the law's two worlds: the class with the law's two rows, the reference -/
def calh {ρ β : Type} (x : Option (Mem × (ρ ⊕ Nat))) (k : Mem → ρ → Option β) : Option β := match x with
  | none => none
  | some (M, .inl r) => k M r
  | some (_, .inr _) => none
theorem calh_s {ρ β : Type} {x : Option (Mem × (ρ ⊕ Nat))} {k : Mem → ρ → Option β} {y : β} (hf : calh x k = some y) : ∃ M r, x = some (M, .inl r) ∧ k M r = some y := by
  match x, hf with
  | some (M, .inl r), hf => exact ⟨M, r, rfl, hf⟩
def apart2 (kd kd' : Nat → Nat × Nat) (ad ad' : Nat → Nat) : Prop := ∀ k k', (kd k).1 ≠ 0 → (kd' k').1 ≠ 0 → ad k ≠ ad' k'
section LW
variable {p : Program} {l : Launch} {e : Env} {R : Room} {s : State} {m : MethodId} {args : Array Value} {below : List Frame} {meth : Method} {c : Code} {H : Heap} {locs : List Loc} {cells slots : Nat} {Q : State → Prop}
variable {cc : ByteArray} {pc : Nat} {ls : Array Slot} {rest : List Value} {G : GT} {kd kd' : Nat → Nat × Nat} {ad ad' : Nat → Nat} {M N : Mem} {H0 : Heap}
theorem Inv.other (hA : AS kd ad s.heap.size = AS kd' ad' s.heap.size) (hdis : apart2 kd kd' ad ad') (hI' : Inv G kd' ad' s.heap N H locs) {H1 : Heap} {locs1 : List Loc} (k2 : ∀ q : Nat, q < H.size → ¬ AS kd ad H.size q → H1[q]? = H[q]?) (k3 : va_S (AS kd ad s.heap.size) s.heap H1 locs1) : Inv G kd' ad' s.heap N H1 locs1 :=
  ⟨hI'.1.kept (fun k hk => k2 _ (hI'.1.lt hk) (fun h => h.elim (fun ⟨k', h1, h2⟩ => hdis k' k h1 hk h2.symm) (fun z => absurd (hI'.1.lt hk) (Nat.not_lt.mpr z)))), hA ▸ k3⟩
theorem l_call {st0 : List Value} {a : Array Value} {mc ms : Nat} {M' : Mem} {v : Option Value} (hr : va_Run p l e R s m args below meth c H locs cells slots mc ms (F0 m pc ls st0) rest (Qg G kd ad H.size M' v a) (AS kd ad H.size)) (hI : Inv G kd ad s.heap M H locs) (hJ : Inv G kd' ad' s.heap N H locs) (hA : AS kd ad s.heap.size = AS kd' ad' s.heap.size) (hdis : apart2 kd kd' ad ad')
    (kk : ∀ (H1 : Heap) (locs1 : List Loc), Inv G kd ad s.heap M' H1 locs1 → Inv G kd' ad' s.heap N H1 locs1 → W p l e R s m args below meth c H1 locs1 (cells + mc) (slots + ms) Q (F0 m (pc + 3) ls (v.toList ++ rest))) : W p l e R s m args below meth c H locs cells slots Q (F0 m pc ls st0) := by
  intro T hT X
  obtain ⟨v', st₀, t, T', L, h0, X', hL, e1, e2, ⟨hv, hw, hF⟩, st⟩ := hr T hT X
  cases hv
  obtain ⟨k1, k2, k3⟩ := vx_keep h0 e1 hI.2 (fun q hq h => AS.old hq h) (fun q h => AS.mono hI.2.1 h) hL hF
  obtain ⟨t2, a1, b1⟩ := kk T'.heap (locs ++ L) ⟨by rw [e1]; exact hw, k3⟩ (hJ.other hA hdis k2 k3) T' rfl X'
  exact ⟨t2, st t2 a1, b1⟩
theorem l_callH {st0 : List Value} {a : Array Value} {mc ms : Nat} {M' : Mem} {r : Int32} (hr : vx_Run p l e R s m args below meth c H locs cells slots mc ms (F0 m pc ls st0) rest (Qx G kd ad H.size M' (.inl (some (.int r))) a) (Xx G kd ad H.size M' (.inl (some (.int r)))) (AS kd ad H.size)) (hI : Inv G kd ad s.heap M H locs) (hJ : Inv G kd' ad' s.heap N H locs) (hA : AS kd ad s.heap.size = AS kd' ad' s.heap.size) (hdis : apart2 kd kd' ad ad')
    (kk : ∀ (H1 : Heap) (locs1 : List Loc), Inv G kd ad s.heap M' H1 locs1 → Inv G kd' ad' s.heap N H1 locs1 → W p l e R s m args below meth c H1 locs1 (cells + mc) (slots + ms) Q (F0 m (pc + 3) ls (.int r :: rest))) : W p l e R s m args below meth c H locs cells slots Q (F0 m pc ls st0) := by
  intro T hT X
  rcases hr T hT X with ⟨v', st₀, t, T', L, h0, X', hL, e1, e2, ⟨v2, hz, hv, hw, hF⟩, st⟩ | ⟨q, st₀, t, T', L, E, ce, h0, X', hL, e1, e2, ⟨e3, hz, -⟩, -⟩
  · cases hz
    cases hv
    obtain ⟨k1, k2, k3⟩ := vx_keep h0 e1 hI.2 (fun q hq h => AS.old hq h) (fun q h => AS.mono hI.2.1 h) hL hF
    obtain ⟨t2, a1, b1⟩ := kk T'.heap (locs ++ L) ⟨by rw [e1]; exact hw, k3⟩ (hJ.other hA hdis k2 k3) T' rfl X'
    exact ⟨t2, st t2 a1, b1⟩
  · cases hz
theorem g_runV {b : Nat} {y : MethodName} {bytes : ByteArray} {maxL nL mc ms n index : Nat} {ret : Option FieldType} {rm : Room} {own C : String} {As : List Value} {M' : Mem} {v : Option Value} (hx : p.tables.exec = Jvm.exec) (hb : c.code = cc) (hml : c.maxLocals = nL) (hown : s.vm.findClass own = some m.cls) (hts : ∀ w ∈ WA, w.before args s = true) (hK : va_K G.1 vwCl (tyL G) s) (hap : Apt kd ad) (hsx : Sx G (AS kd ad s.heap.size) s s.heap) (hI : Inv G kd ad s.heap M H locs)
    (hM : Met l y (Cond.code y bytes maxL ret :: WA) rm (Pg G kd ad H.size (.ref (ad b) :: As) M) (Qg G kd ad H.size M' v) mc ms (AS kd ad H.size)) (hcv : cvF C y bytes maxL ret n) (hl : Cond.methodLink own index y ∈ WA) (hrc : rm.cells = mc) (hrs : rm.slots = ms) (hR : rm.frames + 1 ≤ R.frames ∧ 8 + (maxL + 11) + rm.locals ≤ R.locals)
    {ci : Nat} {q : Nat × Nat} {fs : List Value} {T : u_T} {N9 : Nat} (hk : kd b = q) (hq : q.1 ≠ 0) (he : ent ad G.2.1 q b (M.1 b) (M.2.1 b) (M.2.2 b) = .inr (ci, fs)) (hc : vwCl[ci]? = some (C, T, N9))
    (hn : As.length = n) (hsize : ls.size = nL) {st : List Value} (hst : st = As.reverse ++ .ref (ad b) :: rest) (hW : (rest.map fun v => v.category).sum ≤ 8) (hdg : decode cc pc = .ok (.invokevirtual index, 3)) (hf : cells + mc ≤ R.cells ∧ slots + ms ≤ R.slots) :
    va_Run p l e R s m args below meth c H locs cells slots mc ms (F0 m pc ls st) rest (Qg G kd ad H.size M' v (Value.ref (ad b) :: As).toArray) (AS kd ad H.size) := by
  subst hst
  obtain ⟨c1, c2, c3, c4, c5⟩ := hcv
  have hG : GoodIn WA (wsV own index C y (Cond.code y bytes maxL ret :: WA)) := fun w h => by
    have : w ∈ WA := by
      rcases List.mem_append.mp h with h | h
      · simp only [List.mem_cons, List.not_mem_nil, or_false] at h
        rcases h with rfl | rfl | rfl | rfl
        · exact hl
        · exact c1
        · exact c2
        · exact c3
      · exact ws_good c4 w h
    exact ⟨this, wa_good w this⟩
  exact va_runV (C := C) (b := ad b) (As := As) (rest := rest) ⟨hx, hb, hml, hown, hts⟩ hM (cwV n hts hG rfl hrc hrs c5 hR) ⟨pg_blind, va_recv hK (va_P1 (hI.at hk hq he)) hc (q0 := 0) rfl, fun U hU hW => pg_of hap hK hsx hI hU hW⟩ rfl hn hsize rfl (lv_room hW) hdg hf
theorem g_runVR {b : Nat} {y : MethodName} {bytes : ByteArray} {maxL nL mc ms n index : Nat} {ret : Option FieldType} {rm : Room} {own C : String} {As : List Value} {M' : Mem} {v : Option Value} (hx : p.tables.exec = Jvm.exec) (hb : c.code = cc) (hml : c.maxLocals = nL) (hown : s.vm.findClass own = some m.cls) (hts : ∀ w ∈ WA, w.before args s = true) (hK : va_K G.1 vwCl (tyL G) s) (hap : Apt kd ad) (hsx : Sx G (AS kd ad s.heap.size) s s.heap) (hI : Inv G kd ad s.heap M H locs)
    (hM : Met l y (Cond.code y bytes maxL ret :: WA) rm (Pg G kd ad H.size (.ref (ad b) :: As) M) (Qr G kd ad H.size M' v) mc ms (AS kd ad H.size)) (hcv : cvF C y bytes maxL ret n) (hl : Cond.methodLink own index y ∈ WA) (hrc : rm.cells = mc) (hrs : rm.slots = ms) (hR : rm.frames + 1 ≤ R.frames ∧ 8 + (maxL + 11) + rm.locals ≤ R.locals)
    {ci : Nat} {q : Nat × Nat} {fs : List Value} {T : u_T} {N9 : Nat} (hk : kd b = q) (hq : q.1 ≠ 0) (he : ent ad G.2.1 q b (M.1 b) (M.2.1 b) (M.2.2 b) = .inr (ci, fs)) (hc : vwCl[ci]? = some (C, T, N9))
    (hn : As.length = n) (hsize : ls.size = nL) {st : List Value} (hst : st = As.reverse ++ .ref (ad b) :: rest) (hW : (rest.map fun v => v.category).sum ≤ 8) (hdg : decode cc pc = .ok (.invokevirtual index, 3)) (hf : cells + mc ≤ R.cells ∧ slots + ms ≤ R.slots) :
    va_Run p l e R s m args below meth c H locs cells slots mc ms (F0 m pc ls st) rest (Qr G kd ad H.size M' v (Value.ref (ad b) :: As).toArray) (AS kd ad H.size) := by
  subst hst
  obtain ⟨c1, c2, c3, c4, c5⟩ := hcv
  have hG : GoodIn WA (wsV own index C y (Cond.code y bytes maxL ret :: WA)) := fun w h => by
    have : w ∈ WA := by
      rcases List.mem_append.mp h with h | h
      · simp only [List.mem_cons, List.not_mem_nil, or_false] at h
        rcases h with rfl | rfl | rfl | rfl
        · exact hl
        · exact c1
        · exact c2
        · exact c3
      · exact ws_good c4 w h
    exact ⟨this, wa_good w this⟩
  exact va_runV (C := C) (b := ad b) (As := As) (rest := rest) ⟨hx, hb, hml, hown, hts⟩ hM (cwV n hts hG rfl hrc hrs c5 hR) ⟨pg_blind, va_recv hK (va_P1 (hI.at hk hq he)) hc (q0 := 0) rfl, fun U hU hW => pg_of hap hK hsx hI hU hW⟩ rfl hn hsize rfl (lv_room hW) hdg hf
theorem l_calli {st0 : List Value} {a : Array Value} {mc ms : Nat} {M' : Mem} {r : Int32} (hr : va_Run p l e R s m args below meth c H locs cells slots mc ms (F0 m pc ls st0) rest (Qg G kd ad H.size M' (some (.int r)) a) (AS kd ad H.size)) (hI : Inv G kd ad s.heap M H locs) (hJ : Inv G kd' ad' s.heap N H locs) (hA : AS kd ad s.heap.size = AS kd' ad' s.heap.size) (hdis : apart2 kd kd' ad ad')
    (kk : ∀ (H1 : Heap) (locs1 : List Loc), Inv G kd ad s.heap M' H1 locs1 → Inv G kd' ad' s.heap N H1 locs1 → W p l e R s m args below meth c H1 locs1 (cells + mc) (slots + ms) Q (F0 m (pc + 3) ls (.int r :: rest))) : W p l e R s m args below meth c H locs cells slots Q (F0 m pc ls st0) := l_call hr hI hJ hA hdis kk
theorem l_calll {st0 : List Value} {a : Array Value} {mc ms : Nat} {M' : Mem} {r : Int64} (hr : va_Run p l e R s m args below meth c H locs cells slots mc ms (F0 m pc ls st0) rest (Qg G kd ad H.size M' (some (.long r)) a) (AS kd ad H.size)) (hI : Inv G kd ad s.heap M H locs) (hJ : Inv G kd' ad' s.heap N H locs) (hA : AS kd ad s.heap.size = AS kd' ad' s.heap.size) (hdis : apart2 kd kd' ad ad')
    (kk : ∀ (H1 : Heap) (locs1 : List Loc), Inv G kd ad s.heap M' H1 locs1 → Inv G kd' ad' s.heap N H1 locs1 → W p l e R s m args below meth c H1 locs1 (cells + mc) (slots + ms) Q (F0 m (pc + 3) ls (.long r :: rest))) : W p l e R s m args below meth c H locs cells slots Q (F0 m pc ls st0) := l_call hr hI hJ hA hdis kk
theorem l_calld {st0 : List Value} {a : Array Value} {mc ms : Nat} {M' : Mem} {r : UInt64} (hr : va_Run p l e R s m args below meth c H locs cells slots mc ms (F0 m pc ls st0) rest (Qg G kd ad H.size M' (some (.double r)) a) (AS kd ad H.size)) (hI : Inv G kd ad s.heap M H locs) (hJ : Inv G kd' ad' s.heap N H locs) (hA : AS kd ad s.heap.size = AS kd' ad' s.heap.size) (hdis : apart2 kd kd' ad ad')
    (kk : ∀ (H1 : Heap) (locs1 : List Loc), Inv G kd ad s.heap M' H1 locs1 → Inv G kd' ad' s.heap N H1 locs1 → W p l e R s m args below meth c H1 locs1 (cells + mc) (slots + ms) Q (F0 m (pc + 3) ls (.double r :: rest))) : W p l e R s m args below meth c H locs cells slots Q (F0 m pc ls st0) := l_call hr hI hJ hA hdis kk
theorem l_callR {st0 : List Value} {a : Array Value} {mc ms : Nat} {M' : Mem} {v : Option Value} (hr : va_Run p l e R s m args below meth c H locs cells slots mc ms (F0 m pc ls st0) rest (Qr G kd ad H.size M' v a) (AS kd ad H.size)) (hI : Inv G kd ad s.heap M H locs) (hJ : Inv G kd' ad' s.heap N H locs) (hA : AS kd ad s.heap.size = AS kd' ad' s.heap.size) (hdis : apart2 kd kd' ad ad')
    (kk : ∀ (kd1 : Nat → Nat × Nat) (ad1 : Nat → Nat) (H1 : Heap) (locs1 : List Loc), Ext kd ad kd1 ad1 s.heap.size → Low kd1 → Sb kd1 (rd M' 133 0) → Apt kd1 ad1 → apart2 kd1 kd' ad1 ad' → Inv G kd1 ad1 s.heap M' H1 locs1 → Inv G kd' ad' s.heap N H1 locs1 → W p l e R s m args below meth c H1 locs1 (cells + mc) (slots + ms) Q (F0 m (pc + 3) ls (v.toList ++ rest))) : W p l e R s m args below meth c H locs cells slots Q (F0 m pc ls st0) := by
  intro T hT X
  obtain ⟨v', st₀, t, T', L, h0, X', hL, e1, e2, ⟨hv, ⟨kd1, ad1, hE, hLw, hSb, hAp, hw⟩, hF⟩, st⟩ := hr T hT X
  cases hv
  obtain ⟨k1, k2, k3⟩ := vx_keep h0 e1 hI.2 (fun q hq h => AS.old hq h) (fun q h => AS.mono hI.2.1 h) hL (by rw [← h0] at hF; rw [h0] at hF; exact hF)
  have hE' := hE.le hI.2.1
  have hd1 : apart2 kd1 kd' ad1 ad' := fun k k' h1 h2 he => by
    by_cases ho : (kd k).1 = 0
    · have := hE.2 k ho h1
      have := hJ.1.lt h2
      omega
    · rw [(hE.1 k ho).2] at he
      exact hdis k k' ho h2 he
  obtain ⟨t2, a1, b1⟩ := kk kd1 ad1 T'.heap (locs ++ L) hE' hLw hSb hAp hd1 ⟨by rw [e1]; exact hw, by rw [hE'.AS]; exact k3⟩ (hJ.other hA hdis k2 k3) T' rfl X'
  exact ⟨t2, st t2 a1, b1⟩
theorem l_sld {b L : Nat} {xs : Nat → Int32} (hx : p.tables.exec = Jvm.exec) (hb : c.code = cc) (hX : va_X b L xs s s.heap) (hbl : b < s.heap.size) (hbA : ¬ AS kd ad s.heap.size b) (hI : Inv G kd ad s.heap M H locs) {i a : Int32} (hin : vp_in i L) (hv : xs i.toNatClampNeg = a) (hdg : decode cc pc = .ok (.iaload, 1))
    (kk : W p l e R s m args below meth c H locs cells slots Q (F0 m (pc + 1) ls (.int a :: rest))) : W p l e R s m args below meth c H locs cells slots Q (F0 m pc ls (.int i :: .ref b :: rest)) := by
  subst hv
  exact va_sld hx hb hX hbl hbA hI.2 hin hdg kk
end LW
/-- the script's row of six at i -/
def Sc (xs : Nat → Int32) (L : Nat) (i a0 a1 a2 a3 a4 a5 : Int32) : Prop := (vp_in i L ∧ xs i.toNatClampNeg = a0) ∧ (vp_in (i + 1) L ∧ xs (i + 1).toNatClampNeg = a1) ∧ (vp_in (i + 2) L ∧ xs (i + 2).toNatClampNeg = a2) ∧ (vp_in (i + 3) L ∧ xs (i + 3).toNatClampNeg = a3) ∧ (vp_in (i + 4) L ∧ xs (i + 4).toNatClampNeg = a4) ∧ (vp_in (i + 5) L ∧ xs (i + 5).toNatClampNeg = a5)
/-- what holds all through the law's body: the class's world (kd, ad) grows, the reference's (kd', ad') stays -/
def Lx (p : Program) (l : Launch) (s : State) (m : MethodId) (args : Array Value) (meth : Method) (c : Code) (b L : Nat) (xs : Nat → Int32) (G : GT) (kd kd' : Nat → Nat × Nat) (ad ad' : Nat → Nat) : Prop :=
  p.tables.exec = Jvm.exec ∧ c.code = code ∧ c.maxLocals = 10 ∧ s.vm.findClass RL = some m.cls ∧ (∀ w ∈ WA, w.before args s = true) ∧ va_K G.1 vwCl (tyL G) s ∧ Apt kd ad ∧ Apt kd' ad' ∧ Sx G (AS kd ad s.heap.size) s s.heap ∧ Sx G (AS kd' ad' s.heap.size) s s.heap ∧ Nc s ∧ l.stackTraces = false ∧ AS kd ad s.heap.size = AS kd' ad' s.heap.size ∧ apart2 kd kd' ad ad' ∧ apart2 kd' kd ad' ad ∧ va_X b L xs s s.heap ∧ b < s.heap.size ∧ ¬ AS kd ad s.heap.size b ∧ kRoot kd 0 ∧ Low kd ∧ kd 152 = (13, 1) ∧ kd 153 = (14, 1) ∧ kModel kd' 135
theorem Lx.ext {p : Program} {l : Launch} {s : State} {m : MethodId} {args : Array Value} {meth : Method} {c : Code} {b L : Nat} {xs : Nat → Int32} {G : GT} {kd kd' kd1 : Nat → Nat × Nat} {ad ad' ad1 : Nat → Nat} (C : Lx p l s m args meth c b L xs G kd kd' ad ad') (hE : Ext kd ad kd1 ad1 s.heap.size) (hLo : Low kd1) (hap1 : Apt kd1 ad1) (hdn : apart2 kd1 kd' ad1 ad') : Lx p l s m args meth c b L xs G kd1 kd' ad1 ad' := by
  obtain ⟨hx, hb, hml, hown, hts, hK, hap, hap2, hsx, hsx2, hnc, hst, hA, hd1, hd2, hX, hbl, hbA, hk0, hLo0, hk1, hk3, hk2⟩ := C
  exact ⟨hx, hb, hml, hown, hts, hK, hap1, hap2, by rw [hE.AS]; exact hsx, hsx2, hnc, hst, by rw [hE.AS]; exact hA, hdn, fun k k' h1 h2 he => hdn k' k h2 h1 he.symm, hX, hbl, by rw [hE.AS]; exact hbA, kRoot_ext hk0 hE, hLo, (hE.1 152 (by rw [hk1]; simp)).1.trans hk1, (hE.1 153 (by rw [hk3]; simp)).1.trans hk3, hk2⟩
end
/-! part 38.words5 -/
section
theorem q_t10_16 : (Cond.methodLink "SheetFolderLaw" 324 ⟨"SheetFolderModel", "written", "(I)C"⟩) ∈ WA := wa_q tbl_10 16 rfl rfl
theorem q_t10_20 : (Cond.constantDouble "SheetFolderLaw" 162 (4593671619917905920 : UInt64)) ∈ WA := wa_q tbl_10 20 rfl rfl
theorem q_t2_110 : (Cond.methodLink "SheetFolderLaw" 108 ⟨"SheetFolder", "feed", "(IIIII)I"⟩) ∈ WA := wa_q tbl_2 110 rfl rfl
theorem q_t2_118 : (Cond.methodLink "SheetFolderLaw" 119 ⟨"SheetFolder", "errorKind", "()I"⟩) ∈ WA := wa_q tbl_2 118 rfl rfl
theorem q_t2_122 : (Cond.methodLink "SheetFolderLaw" 123 ⟨"SheetFolder", "errorPosition", "()I"⟩) ∈ WA := wa_q tbl_2 122 rfl rfl
theorem q_t2_126 : (Cond.methodLink "SheetFolderLaw" 127 ⟨"SheetFolder", "bends", "()I"⟩) ∈ WA := wa_q tbl_2 126 rfl rfl
theorem q_t2_134 : (Cond.methodLink "SheetFolderLaw" 131 ⟨"SheetFolder", "legs", "()I"⟩) ∈ WA := wa_q tbl_2 134 rfl rfl
theorem q_t2_138 : (Cond.methodLink "SheetFolderLaw" 141 ⟨"SheetFolder", "deduction", "()D"⟩) ∈ WA := wa_q tbl_2 138 rfl rfl
theorem q_t2_149 : (Cond.methodLink "SheetFolderLaw" 146 ⟨"SheetFolder", "flatLength", "()D"⟩) ∈ WA := wa_q tbl_2 149 rfl rfl
theorem q_t2_157 : (Cond.methodLink "SheetFolderLaw" 154 ⟨"SheetFolder", "ratio", "()D"⟩) ∈ WA := wa_q tbl_2 157 rfl rfl
theorem q_t2_166 : (Cond.methodLink "SheetFolderLaw" 158 ⟨"SheetFolder", "springBack", "()D"⟩) ∈ WA := wa_q tbl_2 166 rfl rfl
theorem q_t2_178 : (Cond.methodLink "SheetFolderLaw" 168 ⟨"SheetFolder", "swingAngle", "()I"⟩) ∈ WA := wa_q tbl_2 178 rfl rfl
theorem q_t2_182 : (Cond.methodLink "SheetFolderLaw" 176 ⟨"SheetFolder", "finishedWidth", "()I"⟩) ∈ WA := wa_q tbl_2 182 rfl rfl
theorem q_t2_208 : (Cond.methodLink "SheetFolderLaw" 180 ⟨"SheetFolder", "finishedHeight", "()I"⟩) ∈ WA := wa_q tbl_2 208 rfl rfl
theorem q_t2_212 : (Cond.methodLink "SheetFolderLaw" 184 ⟨"SheetFolder", "isFinishedCrossed", "()Z"⟩) ∈ WA := wa_q tbl_2 212 rfl rfl
theorem q_t2_224 : (Cond.methodLink "SheetFolderLaw" 192 ⟨"SheetFolder", "isSymmetric", "()Z"⟩) ∈ WA := wa_q tbl_2 224 rfl rfl
theorem q_t2_236 : (Cond.methodLink "SheetFolderLaw" 196 ⟨"SheetFolder", "longestLeg", "()I"⟩) ∈ WA := wa_q tbl_2 236 rfl rfl
theorem q_t3_0 : (Cond.methodLink "SheetFolderLaw" 200 ⟨"SheetFolder", "made", "()I"⟩) ∈ WA := wa_q tbl_3 0 rfl rfl
theorem q_t3_4 : (Cond.methodLink "SheetFolderLaw" 204 ⟨"SheetFolder", "steps", "()I"⟩) ∈ WA := wa_q tbl_3 4 rfl rfl
theorem q_t3_8 : (Cond.methodLink "SheetFolderLaw" 211 ⟨"SheetFolder", "costSoFar", "()I"⟩) ∈ WA := wa_q tbl_3 8 rfl rfl
theorem q_t3_16 : (Cond.methodLink "SheetFolderLaw" 234 ⟨"SheetFolder", "possible", "()I"⟩) ∈ WA := wa_q tbl_3 16 rfl rfl
theorem q_t3_51 : (Cond.methodLink "SheetFolderLaw" 238 ⟨"SheetFolder", "stuck", "()I"⟩) ∈ WA := wa_q tbl_3 51 rfl rfl
theorem q_t3_55 : (Cond.methodLink "SheetFolderLaw" 245 ⟨"SheetFolder", "orders", "()J"⟩) ∈ WA := wa_q tbl_3 55 rfl rfl
theorem q_t3_143 : (Cond.methodLink "SheetFolderLaw" 250 ⟨"SheetFolder", "leastCost", "()I"⟩) ∈ WA := wa_q tbl_3 143 rfl rfl
theorem q_t3_147 : (Cond.methodLink "SheetFolderLaw" 254 ⟨"SheetFolder", "plannedSteps", "()I"⟩) ∈ WA := wa_q tbl_3 147 rfl rfl
theorem q_t3_151 : (Cond.methodLink "SheetFolderLaw" 261 ⟨"SheetFolder", "greatestCost", "()I"⟩) ∈ WA := wa_q tbl_3 151 rfl rfl
theorem q_t3_155 : (Cond.methodLink "SheetFolderLaw" 268 ⟨"SheetFolder", "lastSteps", "()I"⟩) ∈ WA := wa_q tbl_3 155 rfl rfl
theorem q_t3_163 : (Cond.methodLink "SheetFolderLaw" 272 ⟨"SheetFolder", "mostBends", "()I"⟩) ∈ WA := wa_q tbl_3 163 rfl rfl
theorem q_t3_178 : (Cond.methodLink "SheetFolderLaw" 276 ⟨"SheetFolder", "greatestBeam", "()I"⟩) ∈ WA := wa_q tbl_3 178 rfl rfl
theorem q_t3_187 : (Cond.methodLink "SheetFolderLaw" 293 ⟨"SheetFolder", "unfold", "()I"⟩) ∈ WA := wa_q tbl_3 187 rfl rfl
theorem q_t3_197 : (Cond.methodLink "SheetFolderLaw" 314 ⟨"SheetFolder", "undo", "()I"⟩) ∈ WA := wa_q tbl_3 197 rfl rfl
theorem q_t3_205 : (Cond.methodLink "SheetFolderLaw" 318 ⟨"SheetFolder", "write", "()I"⟩) ∈ WA := wa_q tbl_3 205 rfl rfl
theorem q_t5_98 : (Cond.methodLink "SheetFolderLaw" 113 ⟨"SheetFolderLaw", "load", "(LSheetFolder;I[J)I"⟩) ∈ WA := wa_q tbl_5 98 rfl rfl
theorem q_t6_7 : (Cond.methodLink "SheetFolderLaw" 135 ⟨"SheetFolderLaw", "leg", "(LSheetFolder;I[J)I"⟩) ∈ WA := wa_q tbl_6 7 rfl rfl
theorem q_t6_32 : (Cond.methodLink "SheetFolderLaw" 138 ⟨"SheetFolderLaw", "isUp", "(LSheetFolder;I[J)I"⟩) ∈ WA := wa_q tbl_6 32 rfl rfl
theorem q_t6_44 : (Cond.methodLink "SheetFolderLaw" 150 ⟨"SheetFolderLaw", "linePlace", "(LSheetFolder;I[D)I"⟩) ∈ WA := wa_q tbl_6 44 rfl rfl
theorem q_t6_52 : (Cond.methodLink "SheetFolderLaw" 164 ⟨"SheetFolderLaw", "springBackFor", "(LSheetFolder;D[D)I"⟩) ∈ WA := wa_q tbl_6 52 rfl rfl
theorem q_t6_61 : (Cond.methodLink "SheetFolderLaw" 172 ⟨"SheetFolderLaw", "tool", "(LSheetFolder;II[J)I"⟩) ∈ WA := wa_q tbl_6 61 rfl rfl
theorem q_t6_71 : (Cond.methodLink "SheetFolderLaw" 189 ⟨"SheetFolderLaw", "finishedCorner", "(LSheetFolder;II[J)I"⟩) ∈ WA := wa_q tbl_6 71 rfl rfl
theorem q_t6_82 : (Cond.methodLink "SheetFolderLaw" 208 ⟨"SheetFolderLaw", "step", "(LSheetFolder;II[J)I"⟩) ∈ WA := wa_q tbl_6 82 rfl rfl
theorem q_t6_90 : (Cond.methodLink "SheetFolderLaw" 215 ⟨"SheetFolderLaw", "reason", "(LSheetFolder;II[J)I"⟩) ∈ WA := wa_q tbl_6 90 rfl rfl
theorem q_t6_106 : (Cond.methodLink "SheetFolderLaw" 218 ⟨"SheetFolderLaw", "gauge", "(LSheetFolder;II[J)I"⟩) ∈ WA := wa_q tbl_6 106 rfl rfl
theorem q_t6_119 : (Cond.methodLink "SheetFolderLaw" 221 ⟨"SheetFolderLaw", "corner", "(LSheetFolder;IIII[J)I"⟩) ∈ WA := wa_q tbl_6 119 rfl rfl
theorem q_t6_126 : (Cond.methodLink "SheetFolderLaw" 225 ⟨"SheetFolderLaw", "top", "(LSheetFolder;II[J)I"⟩) ∈ WA := wa_q tbl_6 126 rfl rfl
theorem q_t6_137 : (Cond.methodLink "SheetFolderLaw" 228 ⟨"SheetFolderLaw", "hitting", "(LSheetFolder;II[J)I"⟩) ∈ WA := wa_q tbl_6 137 rfl rfl
theorem q_t6_145 : (Cond.methodLink "SheetFolderLaw" 231 ⟨"SheetFolderLaw", "refused", "(LSheetFolder;I[J)I"⟩) ∈ WA := wa_q tbl_6 145 rfl rfl
theorem q_t6_153 : (Cond.methodLink "SheetFolderLaw" 242 ⟨"SheetFolderLaw", "costOf", "(LSheetFolder;II[J)I"⟩) ∈ WA := wa_q tbl_6 153 rfl rfl
theorem q_t6_167 : (Cond.methodLink "SheetFolderLaw" 258 ⟨"SheetFolderLaw", "planned", "(LSheetFolder;I[J)I"⟩) ∈ WA := wa_q tbl_6 167 rfl rfl
theorem q_t6_175 : (Cond.methodLink "SheetFolderLaw" 265 ⟨"SheetFolderLaw", "ordersWith", "(LSheetFolder;II[J)I"⟩) ∈ WA := wa_q tbl_6 175 rfl rfl
theorem q_t6_182 : (Cond.methodLink "SheetFolderLaw" 280 ⟨"SheetFolderLaw", "costIfTurned", "(LSheetFolder;I[J)I"⟩) ∈ WA := wa_q tbl_6 182 rfl rfl
theorem q_t6_210 : (Cond.methodLink "SheetFolderLaw" 283 ⟨"SheetFolderLaw", "fold", "(LSheetFolder;II[J)I"⟩) ∈ WA := wa_q tbl_6 210 rfl rfl
theorem q_t6_226 : (Cond.methodLink "SheetFolderLaw" 289 ⟨"SheetFolderLaw", "foldNext", "(LSheetFolder;[J)I"⟩) ∈ WA := wa_q tbl_6 226 rfl rfl
theorem q_t6_234 : (Cond.methodLink "SheetFolderLaw" 297 ⟨"SheetFolderLaw", "setLeg", "(LSheetFolder;II[J)I"⟩) ∈ WA := wa_q tbl_6 234 rfl rfl
theorem q_t7_4 : (Cond.methodLink "SheetFolderLaw" 300 ⟨"SheetFolderLaw", "setDirection", "(LSheetFolder;IZ[J)I"⟩) ∈ WA := wa_q tbl_7 4 rfl rfl
theorem q_t7_11 : (Cond.methodLink "SheetFolderLaw" 304 ⟨"SheetFolderLaw", "setTool", "(LSheetFolder;III[J)I"⟩) ∈ WA := wa_q tbl_7 11 rfl rfl
theorem q_t7_21 : (Cond.methodLink "SheetFolderLaw" 308 ⟨"SheetFolderLaw", "setSheet", "(LSheetFolder;III[J)I"⟩) ∈ WA := wa_q tbl_7 21 rfl rfl
theorem q_t7_31 : (Cond.methodLink "SheetFolderLaw" 311 ⟨"SheetFolderLaw", "setCost", "(LSheetFolder;III[J)I"⟩) ∈ WA := wa_q tbl_7 31 rfl rfl
theorem q_t7_41 : (Cond.methodLink "SheetFolderLaw" 322 ⟨"SheetFolderLaw", "written", "(LSheetFolder;I[J)I"⟩) ∈ WA := wa_q tbl_7 41 rfl rfl
theorem q_t7_170 : (Cond.methodLink "SheetFolderLaw" 286 ⟨"SheetFolderModel", "thrown", "()I"⟩) ∈ WA := wa_q tbl_7 170 rfl rfl
theorem q_t7_174 : (Cond.methodLink "SheetFolderLaw" 317 ⟨"SheetFolderModel", "undo", "()I"⟩) ∈ WA := wa_q tbl_7 174 rfl rfl
theorem q_t7_178 : (Cond.methodLink "SheetFolderLaw" 112 ⟨"SheetFolderModel", "feed", "(IIIII)I"⟩) ∈ WA := wa_q tbl_7 178 rfl rfl
theorem q_t7_186 : (Cond.methodLink "SheetFolderLaw" 118 ⟨"SheetFolderModel", "load", "(I)I"⟩) ∈ WA := wa_q tbl_7 186 rfl rfl
theorem q_t8_28 : (Cond.methodLink "SheetFolderLaw" 122 ⟨"SheetFolderModel", "errorKind", "()I"⟩) ∈ WA := wa_q tbl_8 28 rfl rfl
theorem q_t8_32 : (Cond.methodLink "SheetFolderLaw" 126 ⟨"SheetFolderModel", "errorPosition", "()I"⟩) ∈ WA := wa_q tbl_8 32 rfl rfl
theorem q_t8_36 : (Cond.methodLink "SheetFolderLaw" 130 ⟨"SheetFolderModel", "bends", "()I"⟩) ∈ WA := wa_q tbl_8 36 rfl rfl
theorem q_t8_44 : (Cond.methodLink "SheetFolderLaw" 134 ⟨"SheetFolderModel", "legs", "()I"⟩) ∈ WA := wa_q tbl_8 44 rfl rfl
theorem q_t8_48 : (Cond.methodLink "SheetFolderLaw" 137 ⟨"SheetFolderModel", "leg", "(I)I"⟩) ∈ WA := wa_q tbl_8 48 rfl rfl
theorem q_t8_60 : (Cond.methodLink "SheetFolderLaw" 140 ⟨"SheetFolderModel", "isUp", "(I)Z"⟩) ∈ WA := wa_q tbl_8 60 rfl rfl
theorem q_t8_68 : (Cond.methodLink "SheetFolderLaw" 145 ⟨"SheetFolderModel", "deduction", "()D"⟩) ∈ WA := wa_q tbl_8 68 rfl rfl
theorem q_t8_79 : (Cond.methodLink "SheetFolderLaw" 149 ⟨"SheetFolderModel", "flatLength", "()D"⟩) ∈ WA := wa_q tbl_8 79 rfl rfl
theorem q_t8_87 : (Cond.methodLink "SheetFolderLaw" 153 ⟨"SheetFolderModel", "linePlace", "(I)D"⟩) ∈ WA := wa_q tbl_8 87 rfl rfl
theorem q_t8_92 : (Cond.methodLink "SheetFolderLaw" 157 ⟨"SheetFolderModel", "ratio", "()D"⟩) ∈ WA := wa_q tbl_8 92 rfl rfl
theorem q_t8_101 : (Cond.methodLink "SheetFolderLaw" 161 ⟨"SheetFolderModel", "springBack", "()D"⟩) ∈ WA := wa_q tbl_8 101 rfl rfl
theorem q_t8_117 : (Cond.methodLink "SheetFolderLaw" 167 ⟨"SheetFolderModel", "springBackFor", "(D)D"⟩) ∈ WA := wa_q tbl_8 117 rfl rfl
theorem q_t8_122 : (Cond.methodLink "SheetFolderLaw" 171 ⟨"SheetFolderModel", "swingAngle", "()I"⟩) ∈ WA := wa_q tbl_8 122 rfl rfl
theorem q_t8_127 : (Cond.methodLink "SheetFolderLaw" 175 ⟨"SheetFolderModel", "tool", "(II)I"⟩) ∈ WA := wa_q tbl_8 127 rfl rfl
theorem q_t8_135 : (Cond.methodLink "SheetFolderLaw" 195 ⟨"SheetFolderModel", "isSymmetric", "()Z"⟩) ∈ WA := wa_q tbl_8 135 rfl rfl
theorem q_t8_143 : (Cond.methodLink "SheetFolderLaw" 199 ⟨"SheetFolderModel", "longestLeg", "()I"⟩) ∈ WA := wa_q tbl_8 143 rfl rfl
theorem q_t8_147 : (Cond.methodLink "SheetFolderLaw" 179 ⟨"SheetFolderModel", "finishedWidth", "()I"⟩) ∈ WA := wa_q tbl_8 147 rfl rfl
theorem q_t8_167 : (Cond.methodLink "SheetFolderLaw" 183 ⟨"SheetFolderModel", "finishedHeight", "()I"⟩) ∈ WA := wa_q tbl_8 167 rfl rfl
theorem q_t8_171 : (Cond.methodLink "SheetFolderLaw" 188 ⟨"SheetFolderModel", "isFinishedCrossed", "()Z"⟩) ∈ WA := wa_q tbl_8 171 rfl rfl
theorem q_t8_182 : (Cond.methodLink "SheetFolderLaw" 191 ⟨"SheetFolderModel", "finishedCorner", "(II)I"⟩) ∈ WA := wa_q tbl_8 182 rfl rfl
theorem q_t8_190 : (Cond.methodLink "SheetFolderLaw" 203 ⟨"SheetFolderModel", "made", "()I"⟩) ∈ WA := wa_q tbl_8 190 rfl rfl
theorem q_t8_194 : (Cond.methodLink "SheetFolderLaw" 207 ⟨"SheetFolderModel", "steps", "()I"⟩) ∈ WA := wa_q tbl_8 194 rfl rfl
theorem q_t8_198 : (Cond.methodLink "SheetFolderLaw" 210 ⟨"SheetFolderModel", "step", "(II)I"⟩) ∈ WA := wa_q tbl_8 198 rfl rfl
theorem q_t8_207 : (Cond.methodLink "SheetFolderLaw" 214 ⟨"SheetFolderModel", "costSoFar", "()I"⟩) ∈ WA := wa_q tbl_8 207 rfl rfl
theorem q_t8_215 : (Cond.methodLink "SheetFolderLaw" 217 ⟨"SheetFolderModel", "reason", "(II)I"⟩) ∈ WA := wa_q tbl_8 215 rfl rfl
theorem q_t9_44 : (Cond.methodLink "SheetFolderLaw" 220 ⟨"SheetFolderModel", "gauge", "(II)I"⟩) ∈ WA := wa_q tbl_9 44 rfl rfl
theorem q_t9_52 : (Cond.methodLink "SheetFolderLaw" 224 ⟨"SheetFolderModel", "corner", "(IIII)I"⟩) ∈ WA := wa_q tbl_9 52 rfl rfl
theorem q_t9_56 : (Cond.methodLink "SheetFolderLaw" 227 ⟨"SheetFolderModel", "top", "(II)I"⟩) ∈ WA := wa_q tbl_9 56 rfl rfl
theorem q_t9_60 : (Cond.methodLink "SheetFolderLaw" 230 ⟨"SheetFolderModel", "hitting", "(II)I"⟩) ∈ WA := wa_q tbl_9 60 rfl rfl
theorem q_t9_64 : (Cond.methodLink "SheetFolderLaw" 233 ⟨"SheetFolderModel", "refused", "(I)I"⟩) ∈ WA := wa_q tbl_9 64 rfl rfl
theorem q_t9_69 : (Cond.methodLink "SheetFolderLaw" 237 ⟨"SheetFolderModel", "possible", "()I"⟩) ∈ WA := wa_q tbl_9 69 rfl rfl
theorem q_t9_73 : (Cond.methodLink "SheetFolderLaw" 241 ⟨"SheetFolderModel", "stuck", "()I"⟩) ∈ WA := wa_q tbl_9 73 rfl rfl
theorem q_t9_77 : (Cond.methodLink "SheetFolderLaw" 244 ⟨"SheetFolderModel", "costOf", "(II)I"⟩) ∈ WA := wa_q tbl_9 77 rfl rfl
theorem q_t9_89 : (Cond.methodLink "SheetFolderLaw" 249 ⟨"SheetFolderModel", "orders", "()J"⟩) ∈ WA := wa_q tbl_9 89 rfl rfl
theorem q_t9_105 : (Cond.methodLink "SheetFolderLaw" 253 ⟨"SheetFolderModel", "leastCost", "()I"⟩) ∈ WA := wa_q tbl_9 105 rfl rfl
theorem q_t9_135 : (Cond.methodLink "SheetFolderLaw" 257 ⟨"SheetFolderModel", "plannedSteps", "()I"⟩) ∈ WA := wa_q tbl_9 135 rfl rfl
theorem q_t9_143 : (Cond.methodLink "SheetFolderLaw" 260 ⟨"SheetFolderModel", "planned", "(I)I"⟩) ∈ WA := wa_q tbl_9 143 rfl rfl
theorem q_t9_151 : (Cond.methodLink "SheetFolderLaw" 264 ⟨"SheetFolderModel", "greatestCost", "()I"⟩) ∈ WA := wa_q tbl_9 151 rfl rfl
theorem q_t9_155 : (Cond.methodLink "SheetFolderLaw" 267 ⟨"SheetFolderModel", "ordersWith", "(II)J"⟩) ∈ WA := wa_q tbl_9 155 rfl rfl
theorem q_t9_159 : (Cond.methodLink "SheetFolderLaw" 271 ⟨"SheetFolderModel", "lastSteps", "()I"⟩) ∈ WA := wa_q tbl_9 159 rfl rfl
theorem q_t9_167 : (Cond.methodLink "SheetFolderLaw" 275 ⟨"SheetFolderModel", "mostBends", "()I"⟩) ∈ WA := wa_q tbl_9 167 rfl rfl
theorem q_t9_171 : (Cond.methodLink "SheetFolderLaw" 279 ⟨"SheetFolderModel", "greatestBeam", "()I"⟩) ∈ WA := wa_q tbl_9 171 rfl rfl
theorem q_t9_175 : (Cond.methodLink "SheetFolderLaw" 282 ⟨"SheetFolderModel", "costIfTurned", "(I)I"⟩) ∈ WA := wa_q tbl_9 175 rfl rfl
theorem q_t9_179 : (Cond.methodLink "SheetFolderLaw" 285 ⟨"SheetFolderModel", "fold", "(II)I"⟩) ∈ WA := wa_q tbl_9 179 rfl rfl
theorem q_t9_195 : (Cond.methodLink "SheetFolderLaw" 292 ⟨"SheetFolderModel", "foldNext", "()I"⟩) ∈ WA := wa_q tbl_9 195 rfl rfl
theorem q_t9_199 : (Cond.methodLink "SheetFolderLaw" 296 ⟨"SheetFolderModel", "unfold", "()I"⟩) ∈ WA := wa_q tbl_9 199 rfl rfl
theorem q_t9_203 : (Cond.methodLink "SheetFolderLaw" 299 ⟨"SheetFolderModel", "setLeg", "(II)I"⟩) ∈ WA := wa_q tbl_9 203 rfl rfl
theorem q_t9_212 : (Cond.methodLink "SheetFolderLaw" 303 ⟨"SheetFolderModel", "setDirection", "(IZ)Z"⟩) ∈ WA := wa_q tbl_9 212 rfl rfl
theorem q_t9_216 : (Cond.methodLink "SheetFolderLaw" 307 ⟨"SheetFolderModel", "setTool", "(III)I"⟩) ∈ WA := wa_q tbl_9 216 rfl rfl
theorem q_t9_223 : (Cond.methodLink "SheetFolderLaw" 310 ⟨"SheetFolderModel", "setSheet", "(III)I"⟩) ∈ WA := wa_q tbl_9 223 rfl rfl
theorem q_t9_230 : (Cond.methodLink "SheetFolderLaw" 313 ⟨"SheetFolderModel", "setCost", "(III)I"⟩) ∈ WA := wa_q tbl_9 230 rfl rfl
theorem q_t9_235 : (Cond.methodLink "SheetFolderLaw" 321 ⟨"SheetFolderModel", "write", "()I"⟩) ∈ WA := wa_q tbl_9 235 rfl rfl
end
/-! part 39.cases -/
section
section LC
variable {p : Program} {l : Launch} {e : Env} {s : State} {m : MethodId} {args : Array Value} {below : List Frame} {meth : Method} {c : Code} {b L : Nat} {xs : Nat → Int32} {G : GT} {kd' : Nat → Nat × Nat} {ad' : Nat → Nat} {cells slots : Nat} {Q : State → Prop}
/-- the law stands at pc, its locals as at the loop's head, the class's world any -/
def AtW (p : Program) (l : Launch) (e : Env) (s : State) (m : MethodId) (args : Array Value) (below : List Frame) (meth : Method) (c : Code) (L : Nat) (xs : Nat → Int32) (G : GT) (kd' : Nat → Nat × Nat) (ad' : Nat → Nat) (b : Nat) (i : Int32) (M N : Mem) (Q : State → Prop) (cells slots pc : Nat) : Prop :=
  ∀ (kd : Nat → Nat × Nat) (ad : Nat → Nat) (H : Heap) (locs : List Loc) (ls : Array Slot), Lx p l s m args meth c b L xs G kd kd' ad ad' → Sb kd (rd M 133 0) → Inv G kd ad s.heap M H locs → Inv G kd' ad' s.heap N H locs → lv_has ls 10 [(0, .ref b), (1, .ref (ad 0)), (2, .ref (ad' 135)), (3, .ref (ad 152)), (4, .ref (ad 153)), (5, .int i)] → W p l e room_1 s m args below meth c H locs cells slots Q (F0 m pc ls [])
def mlc_0 (a1 a2 a3 a4 a5 : Int32) (M N : Mem) : Option (Mem × Mem) := cal (mX6_feed 0 a1 a2 a3 a4 a5 M) (fun M3 r2 => cal (mX7_feed 135 a1 a2 a3 a4 a5 N) (fun N6 r5 => chk (decide (rd M3 133 0 = rd M 133 0)) (some (M3, N6))))
set_option maxHeartbeats 4000000 in
set_option maxRecDepth 100000 in
theorem lc_0 (hc : cells + 64 ≤ 601024 ∧ slots + 4096 ≤ 7293034) {x5 a0 a1 a2 a3 a4 a5 : Int32} (hs : Sc xs L x5 a0 a1 a2 a3 a4 a5) {M N M' N' : Mem} (hf : mlc_0 a1 a2 a3 a4 a5 M N = some (M', N')) (hk : AtW p l e s m args below meth c L xs G kd' ad' b x5 M' N' Q (cells + 64) (slots + 4096) 1766) : AtW p l e s m args below meth c L xs G kd' ad' b x5 M N Q cells slots 284 := by
  intro kd ad H locs ls C hS hI hJ hl
  obtain ⟨hx, hb, hml, hown, hts, hK, hap, hap2, hsx, hsx2, hnc, hst, hA, hd1, hd2, hX, hbl, hbA, hk0, hLo, hk1, hk3, hk2⟩ := id C
  unfold mlc_0 at hf
  refine lv_aload_n hx hb (dc tbL_law_0_k 25 rfl) rfl (lv_at hl 1 rfl) ?_
  refine lv_aload_n hx hb (dc tbL_law_0_k 26 rfl) rfl (lv_at hl 0 rfl) ?_
  refine lv_iload hx hb (dc tbL_law_0_k 27 rfl) (lv_at hl 5 rfl) ?_
  refine lv_iconst (v := 1) hx hb (dc tbL_law_0_k 28 rfl) ic_1 ?_
  refine lv_iadd hx hb (dc tbL_law_0_k 29 rfl) ?_
  refine l_sld hx hb hX hbl hbA hI hs.2.1.1 hs.2.1.2 (dc tbL_law_0_k 30 rfl) ?_
  refine lv_aload_n hx hb (dc tbL_law_0_k 31 rfl) rfl (lv_at hl 0 rfl) ?_
  refine lv_iload hx hb (dc tbL_law_0_k 32 rfl) (lv_at hl 5 rfl) ?_
  refine lv_iconst (v := 2) hx hb (dc tbL_law_0_k 33 rfl) ic_2 ?_
  refine lv_iadd hx hb (dc tbL_law_0_k 34 rfl) ?_
  refine l_sld hx hb hX hbl hbA hI hs.2.2.1.1 hs.2.2.1.2 (dc tbL_law_0_k 35 rfl) ?_
  refine lv_aload_n hx hb (dc tbL_law_0_k 36 rfl) rfl (lv_at hl 0 rfl) ?_
  refine lv_iload hx hb (dc tbL_law_0_k 37 rfl) (lv_at hl 5 rfl) ?_
  refine lv_iconst (v := 3) hx hb (dc tbL_law_0_k 38 rfl) ic_3 ?_
  refine lv_iadd hx hb (dc tbL_law_0_k 39 rfl) ?_
  refine l_sld hx hb hX hbl hbA hI hs.2.2.2.1.1 hs.2.2.2.1.2 (dc tbL_law_1_k 0 rfl) ?_
  refine lv_aload_n hx hb (dc tbL_law_1_k 1 rfl) rfl (lv_at hl 0 rfl) ?_
  refine lv_iload hx hb (dc tbL_law_1_k 2 rfl) (lv_at hl 5 rfl) ?_
  refine lv_iconst (v := 4) hx hb (dc tbL_law_1_k 3 rfl) ic_4 ?_
  refine lv_iadd hx hb (dc tbL_law_1_k 4 rfl) ?_
  refine l_sld hx hb hX hbl hbA hI hs.2.2.2.2.1.1 hs.2.2.2.2.1.2 (dc tbL_law_1_k 5 rfl) ?_
  refine lv_aload_n hx hb (dc tbL_law_1_k 6 rfl) rfl (lv_at hl 0 rfl) ?_
  refine lv_iload hx hb (dc tbL_law_1_k 7 rfl) (lv_at hl 5 rfl) ?_
  refine lv_iconst (v := 5) hx hb (dc tbL_law_1_k 8 rfl) ic_5 ?_
  refine lv_iadd hx hb (dc tbL_law_1_k 9 rfl) ?_
  refine l_sld hx hb hX hbl hbA hI hs.2.2.2.2.2.1 hs.2.2.2.2.2.2 (dc tbL_law_1_k 10 rfl) ?_
  obtain ⟨M3, r2, q1, hf⟩ := cal_s hf
  refine l_calli (g_runV hx hb hml hown hts hK hap hsx hI (tX6_feed l hk0 q1 H.size) cv_X6_feed q_t2_110 rfl rfl ⟨Nat.le_of_ble_eq_true rfl, Nat.le_of_ble_eq_true rfl⟩ hk0.1 (by simp) rfl rfl rfl hl.1 rfl (Nat.le_of_ble_eq_true rfl) (dc tbL_law_1_k 11 rfl) ⟨by have := hc.1; show _ ≤ 601024; omega, by have := hc.2; show _ ≤ 7293034; omega⟩) hI hJ hA hd1 (fun H locs hI hJ => ?_)
  refine lv_pop hx hb (dc tbL_law_1_k 12 rfl) rfl ?_
  refine lv_aload_n hx hb (dc tbL_law_1_k 13 rfl) rfl (lv_at hl 2 rfl) ?_
  refine lv_aload_n hx hb (dc tbL_law_1_k 14 rfl) rfl (lv_at hl 0 rfl) ?_
  refine lv_iload hx hb (dc tbL_law_1_k 15 rfl) (lv_at hl 5 rfl) ?_
  refine lv_iconst (v := 1) hx hb (dc tbL_law_1_k 16 rfl) ic_1 ?_
  refine lv_iadd hx hb (dc tbL_law_1_k 17 rfl) ?_
  refine l_sld hx hb hX hbl hbA hI hs.2.1.1 hs.2.1.2 (dc tbL_law_1_k 18 rfl) ?_
  refine lv_aload_n hx hb (dc tbL_law_1_k 19 rfl) rfl (lv_at hl 0 rfl) ?_
  refine lv_iload hx hb (dc tbL_law_1_k 20 rfl) (lv_at hl 5 rfl) ?_
  refine lv_iconst (v := 2) hx hb (dc tbL_law_1_k 21 rfl) ic_2 ?_
  refine lv_iadd hx hb (dc tbL_law_1_k 22 rfl) ?_
  refine l_sld hx hb hX hbl hbA hI hs.2.2.1.1 hs.2.2.1.2 (dc tbL_law_1_k 23 rfl) ?_
  refine lv_aload_n hx hb (dc tbL_law_1_k 24 rfl) rfl (lv_at hl 0 rfl) ?_
  refine lv_iload hx hb (dc tbL_law_1_k 25 rfl) (lv_at hl 5 rfl) ?_
  refine lv_iconst (v := 3) hx hb (dc tbL_law_1_k 26 rfl) ic_3 ?_
  refine lv_iadd hx hb (dc tbL_law_1_k 27 rfl) ?_
  refine l_sld hx hb hX hbl hbA hI hs.2.2.2.1.1 hs.2.2.2.1.2 (dc tbL_law_1_k 28 rfl) ?_
  refine lv_aload_n hx hb (dc tbL_law_1_k 29 rfl) rfl (lv_at hl 0 rfl) ?_
  refine lv_iload hx hb (dc tbL_law_1_k 30 rfl) (lv_at hl 5 rfl) ?_
  refine lv_iconst (v := 4) hx hb (dc tbL_law_1_k 31 rfl) ic_4 ?_
  refine lv_iadd hx hb (dc tbL_law_1_k 32 rfl) ?_
  refine l_sld hx hb hX hbl hbA hI hs.2.2.2.2.1.1 hs.2.2.2.2.1.2 (dc tbL_law_1_k 33 rfl) ?_
  refine lv_aload_n hx hb (dc tbL_law_1_k 34 rfl) rfl (lv_at hl 0 rfl) ?_
  refine lv_iload hx hb (dc tbL_law_1_k 35 rfl) (lv_at hl 5 rfl) ?_
  refine lv_iconst (v := 5) hx hb (dc tbL_law_1_k 36 rfl) ic_5 ?_
  refine lv_iadd hx hb (dc tbL_law_1_k 37 rfl) ?_
  refine l_sld hx hb hX hbl hbA hI hs.2.2.2.2.2.1 hs.2.2.2.2.2.2 (dc tbL_law_1_k 38 rfl) ?_
  obtain ⟨N6, r5, q4, hf⟩ := cal_s hf
  refine l_calli (g_runV hx hb hml hown hts hK hap2 hsx2 hJ (tX7_feed l hk2 q4 H.size) cv_X7_feed q_t7_178 rfl rfl ⟨Nat.le_of_ble_eq_true rfl, Nat.le_of_ble_eq_true rfl⟩ hk2.1 (by simp) rfl rfl rfl hl.1 rfl (Nat.le_of_ble_eq_true rfl) (dc tbL_law_1_k 39 rfl) ⟨by have := hc.1; show _ ≤ 601024; omega, by have := hc.2; show _ ≤ 7293034; omega⟩) hJ hI hA.symm hd2 (fun H locs hJ hI => ?_)
  refine lv_pop hx hb (dc tbL_law_2_k 0 rfl) rfl ?_
  refine lv_goto (tgt := 1766) hx hb (dc tbL_law_2_k 1 rfl) rfl ?_
  obtain ⟨h7, hf⟩ := chk_s hf
  cases hf
  refine W.widen (k := cells + 64) (n := slots + 4096) (by omega) (by omega) ?_
  exact hk _ _ _ _ _ C (by rw [of_decide_eq_true h7]; exact hS) hI hJ (lv_sub hl [0, 1, 2, 3, 4, 5] rfl)
def mlc_1 (a1 a2 a3 a4 a5 : Int32) (M N : Mem) : Option (Mem × Mem) := calh (mL_load 0 152 a1 M) (fun M3 r2 => cal (mX7_load 135 a1 N) (fun N6 r5 => chk (decide (rd M3 133 0 = rd M 133 0)) (some (M3, N6))))
set_option maxHeartbeats 4000000 in
set_option maxRecDepth 100000 in
theorem lc_1 (hc : cells + 64 ≤ 601024 ∧ slots + 4096 ≤ 7293034) {x5 a0 a1 a2 a3 a4 a5 : Int32} (hs : Sc xs L x5 a0 a1 a2 a3 a4 a5) {M N M' N' : Mem} (hf : mlc_1 a1 a2 a3 a4 a5 M N = some (M', N')) (hk : AtW p l e s m args below meth c L xs G kd' ad' b x5 M' N' Q (cells + 64) (slots + 4096) 1766) : AtW p l e s m args below meth c L xs G kd' ad' b x5 M N Q cells slots 357 := by
  intro kd ad H locs ls C hS hI hJ hl
  obtain ⟨hx, hb, hml, hown, hts, hK, hap, hap2, hsx, hsx2, hnc, hst, hA, hd1, hd2, hX, hbl, hbA, hk0, hLo, hk1, hk3, hk2⟩ := id C
  unfold mlc_1 at hf
  refine lv_aload_n hx hb (dc tbL_law_2_k 2 rfl) rfl (lv_at hl 1 rfl) ?_
  refine lv_aload_n hx hb (dc tbL_law_2_k 3 rfl) rfl (lv_at hl 0 rfl) ?_
  refine lv_iload hx hb (dc tbL_law_2_k 4 rfl) (lv_at hl 5 rfl) ?_
  refine lv_iconst (v := 1) hx hb (dc tbL_law_2_k 5 rfl) ic_1 ?_
  refine lv_iadd hx hb (dc tbL_law_2_k 6 rfl) ?_
  refine l_sld hx hb hX hbl hbA hI hs.2.1.1 hs.2.1.2 (dc tbL_law_2_k 7 rfl) ?_
  refine lv_aload_n hx hb (dc tbL_law_2_k 8 rfl) rfl (lv_at hl 3 rfl) ?_
  obtain ⟨M3, r2, q1, hf⟩ := calh_s hf
  refine l_callH (g_runH hx hb hml hown hts hK hap hsx hnc hI (tL_load l hst hk0 hk1 q1 H.size) ch_L_load q_t5_98 rfl rfl ⟨Nat.le_of_ble_eq_true rfl, Nat.le_of_ble_eq_true rfl⟩ rfl hl.1 rfl (Nat.le_of_ble_eq_true rfl) (dc tbL_law_2_k 9 rfl) ⟨by have := hc.1; show _ ≤ 601024; omega, by have := hc.2; show _ ≤ 7293034; omega⟩) hI hJ hA hd1 (fun H locs hI hJ => ?_)
  refine lv_istore (lv' := [(6, .int r2), (0, .ref b), (1, .ref (ad 0)), (2, .ref (ad' 135)), (3, .ref (ad 152)), (4, .ref (ad 153)), (5, .int x5)]) hx hb (dc tbL_law_2_k 10 rfl) hl (by decide) rfl (fun ls hl => ?_)
  refine lv_aload_n hx hb (dc tbL_law_2_k 11 rfl) rfl (lv_at hl 3 rfl) ?_
  refine lv_aload_n hx hb (dc tbL_law_2_k 12 rfl) rfl (lv_at hl 1 rfl) ?_
  refine lv_iload hx hb (dc tbL_law_2_k 13 rfl) (lv_at hl 6 rfl) ?_
  refine lv_iconst (v := 1) hx hb (dc tbL_law_2_k 14 rfl) ic_1 ?_
  refine lv_iadd hx hb (dc tbL_law_2_k 15 rfl) ?_
  refine l_sld hx hb hX hbl hbA hI hs.2.1.1 hs.2.1.2 (dc tbL_law_2_k 16 rfl) ?_
  obtain ⟨N6, r5, q4, hf⟩ := cal_s hf
  refine l_calli (g_runV hx hb hml hown hts hK hap2 hsx2 hJ (tX7_load l hk2 q4 H.size) cv_X7_load q_t7_186 rfl rfl ⟨Nat.le_of_ble_eq_true rfl, Nat.le_of_ble_eq_true rfl⟩ hk2.1 (by simp) rfl rfl rfl hl.1 rfl (Nat.le_of_ble_eq_true rfl) (dc tbL_law_2_k 17 rfl) ⟨by have := hc.1; show _ ≤ 601024; omega, by have := hc.2; show _ ≤ 7293034; omega⟩) hJ hI hA.symm hd2 (fun H locs hJ hI => ?_)
  refine lv_istore (lv' := [(7, .int r5), (6, .int r2), (0, .ref b), (1, .ref (ad 0)), (2, .ref (ad' 135)), (3, .ref (ad 152)), (4, .ref (ad 153)), (5, .int x5)]) hx hb (dc tbL_law_2_k 18 rfl) hl (by decide) rfl (fun ls hl => ?_)
  refine lv_goto (tgt := 1766) hx hb (dc tbL_law_2_k 19 rfl) rfl ?_
  obtain ⟨h7, hf⟩ := chk_s hf
  cases hf
  refine W.widen (k := cells + 64) (n := slots + 4096) (by omega) (by omega) ?_
  exact hk _ _ _ _ _ C (by rw [of_decide_eq_true h7]; exact hS) hI hJ (lv_sub hl [2, 3, 4, 5, 6, 7] rfl)
def mlc_2 (a1 a2 a3 a4 a5 : Int32) (M N : Mem) : Option (Mem × Mem) := cap (mX6_errorKind 0 M) (fun r2 => cal (mX7_errorKind 135 N) (fun N6 r5 => some (M, N6)))
set_option maxHeartbeats 4000000 in
set_option maxRecDepth 100000 in
theorem lc_2 (hc : cells + 64 ≤ 601024 ∧ slots + 4096 ≤ 7293034) {x5 a0 a1 a2 a3 a4 a5 : Int32} (hs : Sc xs L x5 a0 a1 a2 a3 a4 a5) {M N M' N' : Mem} (hf : mlc_2 a1 a2 a3 a4 a5 M N = some (M', N')) (hk : AtW p l e s m args below meth c L xs G kd' ad' b x5 M' N' Q (cells + 64) (slots + 4096) 1766) : AtW p l e s m args below meth c L xs G kd' ad' b x5 M N Q cells slots 385 := by
  intro kd ad H locs ls C hS hI hJ hl
  obtain ⟨hx, hb, hml, hown, hts, hK, hap, hap2, hsx, hsx2, hnc, hst, hA, hd1, hd2, hX, hbl, hbA, hk0, hLo, hk1, hk3, hk2⟩ := id C
  unfold mlc_2 at hf
  refine lv_aload_n hx hb (dc tbL_law_2_k 20 rfl) rfl (lv_at hl 1 rfl) ?_
  obtain ⟨r2, q1, hf⟩ := cap_s hf
  refine l_calli (g_runV hx hb hml hown hts hK hap hsx hI (tX6_errorKind l hk0 q1 H.size) cv_X6_errorKind q_t2_118 rfl rfl ⟨Nat.le_of_ble_eq_true rfl, Nat.le_of_ble_eq_true rfl⟩ hk0.1 (by simp) rfl rfl rfl hl.1 rfl (Nat.le_of_ble_eq_true rfl) (dc tbL_law_2_k 21 rfl) ⟨by have := hc.1; show _ ≤ 601024; omega, by have := hc.2; show _ ≤ 7293034; omega⟩) hI hJ hA hd1 (fun H locs hI hJ => ?_)
  refine lv_pop hx hb (dc tbL_law_2_k 22 rfl) rfl ?_
  refine lv_aload_n hx hb (dc tbL_law_2_k 23 rfl) rfl (lv_at hl 2 rfl) ?_
  obtain ⟨N6, r5, q4, hf⟩ := cal_s hf
  refine l_calli (g_runV hx hb hml hown hts hK hap2 hsx2 hJ (tX7_errorKind l hk2 q4 H.size) cv_X7_errorKind q_t8_28 rfl rfl ⟨Nat.le_of_ble_eq_true rfl, Nat.le_of_ble_eq_true rfl⟩ hk2.1 (by simp) rfl rfl rfl hl.1 rfl (Nat.le_of_ble_eq_true rfl) (dc tbL_law_2_k 24 rfl) ⟨by have := hc.1; show _ ≤ 601024; omega, by have := hc.2; show _ ≤ 7293034; omega⟩) hJ hI hA.symm hd2 (fun H locs hJ hI => ?_)
  refine lv_pop hx hb (dc tbL_law_2_k 25 rfl) rfl ?_
  refine lv_goto (tgt := 1766) hx hb (dc tbL_law_2_k 26 rfl) rfl ?_
  cases hf
  refine W.widen (k := cells + 64) (n := slots + 4096) (by omega) (by omega) ?_
  exact hk _ _ _ _ _ C hS hI hJ (lv_sub hl [0, 1, 2, 3, 4, 5] rfl)
def mlc_3 (a1 a2 a3 a4 a5 : Int32) (M N : Mem) : Option (Mem × Mem) := cap (mX6_errorPosition 0 M) (fun r2 => cal (mX7_errorPosition 135 N) (fun N6 r5 => some (M, N6)))
set_option maxHeartbeats 4000000 in
set_option maxRecDepth 100000 in
theorem lc_3 (hc : cells + 64 ≤ 601024 ∧ slots + 4096 ≤ 7293034) {x5 a0 a1 a2 a3 a4 a5 : Int32} (hs : Sc xs L x5 a0 a1 a2 a3 a4 a5) {M N M' N' : Mem} (hf : mlc_3 a1 a2 a3 a4 a5 M N = some (M', N')) (hk : AtW p l e s m args below meth c L xs G kd' ad' b x5 M' N' Q (cells + 64) (slots + 4096) 1766) : AtW p l e s m args below meth c L xs G kd' ad' b x5 M N Q cells slots 398 := by
  intro kd ad H locs ls C hS hI hJ hl
  obtain ⟨hx, hb, hml, hown, hts, hK, hap, hap2, hsx, hsx2, hnc, hst, hA, hd1, hd2, hX, hbl, hbA, hk0, hLo, hk1, hk3, hk2⟩ := id C
  unfold mlc_3 at hf
  refine lv_aload_n hx hb (dc tbL_law_2_k 27 rfl) rfl (lv_at hl 1 rfl) ?_
  obtain ⟨r2, q1, hf⟩ := cap_s hf
  refine l_calli (g_runV hx hb hml hown hts hK hap hsx hI (tX6_errorPosition l hk0 q1 H.size) cv_X6_errorPosition q_t2_122 rfl rfl ⟨Nat.le_of_ble_eq_true rfl, Nat.le_of_ble_eq_true rfl⟩ hk0.1 (by simp) rfl rfl rfl hl.1 rfl (Nat.le_of_ble_eq_true rfl) (dc tbL_law_2_k 28 rfl) ⟨by have := hc.1; show _ ≤ 601024; omega, by have := hc.2; show _ ≤ 7293034; omega⟩) hI hJ hA hd1 (fun H locs hI hJ => ?_)
  refine lv_pop hx hb (dc tbL_law_2_k 29 rfl) rfl ?_
  refine lv_aload_n hx hb (dc tbL_law_2_k 30 rfl) rfl (lv_at hl 2 rfl) ?_
  obtain ⟨N6, r5, q4, hf⟩ := cal_s hf
  refine l_calli (g_runV hx hb hml hown hts hK hap2 hsx2 hJ (tX7_errorPosition l hk2 q4 H.size) cv_X7_errorPosition q_t8_32 rfl rfl ⟨Nat.le_of_ble_eq_true rfl, Nat.le_of_ble_eq_true rfl⟩ hk2.1 (by simp) rfl rfl rfl hl.1 rfl (Nat.le_of_ble_eq_true rfl) (dc tbL_law_2_k 31 rfl) ⟨by have := hc.1; show _ ≤ 601024; omega, by have := hc.2; show _ ≤ 7293034; omega⟩) hJ hI hA.symm hd2 (fun H locs hJ hI => ?_)
  refine lv_pop hx hb (dc tbL_law_2_k 32 rfl) rfl ?_
  refine lv_goto (tgt := 1766) hx hb (dc tbL_law_2_k 33 rfl) rfl ?_
  cases hf
  refine W.widen (k := cells + 64) (n := slots + 4096) (by omega) (by omega) ?_
  exact hk _ _ _ _ _ C hS hI hJ (lv_sub hl [0, 1, 2, 3, 4, 5] rfl)
def mlc_4 (a1 a2 a3 a4 a5 : Int32) (M N : Mem) : Option (Mem × Mem) := cap (mX6_bends 0 M) (fun r2 => cal (mX7_bends 135 N) (fun N6 r5 => some (M, N6)))
set_option maxHeartbeats 4000000 in
set_option maxRecDepth 100000 in
theorem lc_4 (hc : cells + 64 ≤ 601024 ∧ slots + 4096 ≤ 7293034) {x5 a0 a1 a2 a3 a4 a5 : Int32} (hs : Sc xs L x5 a0 a1 a2 a3 a4 a5) {M N M' N' : Mem} (hf : mlc_4 a1 a2 a3 a4 a5 M N = some (M', N')) (hk : AtW p l e s m args below meth c L xs G kd' ad' b x5 M' N' Q (cells + 64) (slots + 4096) 1766) : AtW p l e s m args below meth c L xs G kd' ad' b x5 M N Q cells slots 411 := by
  intro kd ad H locs ls C hS hI hJ hl
  obtain ⟨hx, hb, hml, hown, hts, hK, hap, hap2, hsx, hsx2, hnc, hst, hA, hd1, hd2, hX, hbl, hbA, hk0, hLo, hk1, hk3, hk2⟩ := id C
  unfold mlc_4 at hf
  refine lv_aload_n hx hb (dc tbL_law_2_k 34 rfl) rfl (lv_at hl 1 rfl) ?_
  obtain ⟨r2, q1, hf⟩ := cap_s hf
  refine l_calli (g_runV hx hb hml hown hts hK hap hsx hI (tX6_bends l hk0 q1 H.size) cv_X6_bends q_t2_126 rfl rfl ⟨Nat.le_of_ble_eq_true rfl, Nat.le_of_ble_eq_true rfl⟩ hk0.1 (by simp) rfl rfl rfl hl.1 rfl (Nat.le_of_ble_eq_true rfl) (dc tbL_law_2_k 35 rfl) ⟨by have := hc.1; show _ ≤ 601024; omega, by have := hc.2; show _ ≤ 7293034; omega⟩) hI hJ hA hd1 (fun H locs hI hJ => ?_)
  refine lv_pop hx hb (dc tbL_law_2_k 36 rfl) rfl ?_
  refine lv_aload_n hx hb (dc tbL_law_2_k 37 rfl) rfl (lv_at hl 2 rfl) ?_
  obtain ⟨N6, r5, q4, hf⟩ := cal_s hf
  refine l_calli (g_runV hx hb hml hown hts hK hap2 hsx2 hJ (tX7_bends l hk2 q4 H.size) cv_X7_bends q_t8_36 rfl rfl ⟨Nat.le_of_ble_eq_true rfl, Nat.le_of_ble_eq_true rfl⟩ hk2.1 (by simp) rfl rfl rfl hl.1 rfl (Nat.le_of_ble_eq_true rfl) (dc tbL_law_2_k 38 rfl) ⟨by have := hc.1; show _ ≤ 601024; omega, by have := hc.2; show _ ≤ 7293034; omega⟩) hJ hI hA.symm hd2 (fun H locs hJ hI => ?_)
  refine lv_pop hx hb (dc tbL_law_2_k 39 rfl) rfl ?_
  refine lv_goto (tgt := 1766) hx hb (dc tbL_law_3_k 0 rfl) rfl ?_
  cases hf
  refine W.widen (k := cells + 64) (n := slots + 4096) (by omega) (by omega) ?_
  exact hk _ _ _ _ _ C hS hI hJ (lv_sub hl [0, 1, 2, 3, 4, 5] rfl)
def mlc_5 (a1 a2 a3 a4 a5 : Int32) (M N : Mem) : Option (Mem × Mem) := cap (mX6_legs 0 M) (fun r2 => cal (mX7_legs 135 N) (fun N6 r5 => some (M, N6)))
set_option maxHeartbeats 4000000 in
set_option maxRecDepth 100000 in
theorem lc_5 (hc : cells + 64 ≤ 601024 ∧ slots + 4096 ≤ 7293034) {x5 a0 a1 a2 a3 a4 a5 : Int32} (hs : Sc xs L x5 a0 a1 a2 a3 a4 a5) {M N M' N' : Mem} (hf : mlc_5 a1 a2 a3 a4 a5 M N = some (M', N')) (hk : AtW p l e s m args below meth c L xs G kd' ad' b x5 M' N' Q (cells + 64) (slots + 4096) 1766) : AtW p l e s m args below meth c L xs G kd' ad' b x5 M N Q cells slots 424 := by
  intro kd ad H locs ls C hS hI hJ hl
  obtain ⟨hx, hb, hml, hown, hts, hK, hap, hap2, hsx, hsx2, hnc, hst, hA, hd1, hd2, hX, hbl, hbA, hk0, hLo, hk1, hk3, hk2⟩ := id C
  unfold mlc_5 at hf
  refine lv_aload_n hx hb (dc tbL_law_3_k 1 rfl) rfl (lv_at hl 1 rfl) ?_
  obtain ⟨r2, q1, hf⟩ := cap_s hf
  refine l_calli (g_runV hx hb hml hown hts hK hap hsx hI (tX6_legs l hk0 q1 H.size) cv_X6_legs q_t2_134 rfl rfl ⟨Nat.le_of_ble_eq_true rfl, Nat.le_of_ble_eq_true rfl⟩ hk0.1 (by simp) rfl rfl rfl hl.1 rfl (Nat.le_of_ble_eq_true rfl) (dc tbL_law_3_k 2 rfl) ⟨by have := hc.1; show _ ≤ 601024; omega, by have := hc.2; show _ ≤ 7293034; omega⟩) hI hJ hA hd1 (fun H locs hI hJ => ?_)
  refine lv_pop hx hb (dc tbL_law_3_k 3 rfl) rfl ?_
  refine lv_aload_n hx hb (dc tbL_law_3_k 4 rfl) rfl (lv_at hl 2 rfl) ?_
  obtain ⟨N6, r5, q4, hf⟩ := cal_s hf
  refine l_calli (g_runV hx hb hml hown hts hK hap2 hsx2 hJ (tX7_legs l hk2 q4 H.size) cv_X7_legs q_t8_44 rfl rfl ⟨Nat.le_of_ble_eq_true rfl, Nat.le_of_ble_eq_true rfl⟩ hk2.1 (by simp) rfl rfl rfl hl.1 rfl (Nat.le_of_ble_eq_true rfl) (dc tbL_law_3_k 5 rfl) ⟨by have := hc.1; show _ ≤ 601024; omega, by have := hc.2; show _ ≤ 7293034; omega⟩) hJ hI hA.symm hd2 (fun H locs hJ hI => ?_)
  refine lv_pop hx hb (dc tbL_law_3_k 6 rfl) rfl ?_
  refine lv_goto (tgt := 1766) hx hb (dc tbL_law_3_k 7 rfl) rfl ?_
  cases hf
  refine W.widen (k := cells + 64) (n := slots + 4096) (by omega) (by omega) ?_
  exact hk _ _ _ _ _ C hS hI hJ (lv_sub hl [0, 1, 2, 3, 4, 5] rfl)
def mlc_6 (a1 a2 a3 a4 a5 : Int32) (M N : Mem) : Option (Mem × Mem) := calh (mL_leg 0 152 a1 M) (fun M3 r2 => cal (mX7_leg 135 a1 N) (fun N6 r5 => chk (decide (rd M3 133 0 = rd M 133 0)) (some (M3, N6))))
set_option maxHeartbeats 4000000 in
set_option maxRecDepth 100000 in
theorem lc_6 (hc : cells + 64 ≤ 601024 ∧ slots + 4096 ≤ 7293034) {x5 a0 a1 a2 a3 a4 a5 : Int32} (hs : Sc xs L x5 a0 a1 a2 a3 a4 a5) {M N M' N' : Mem} (hf : mlc_6 a1 a2 a3 a4 a5 M N = some (M', N')) (hk : AtW p l e s m args below meth c L xs G kd' ad' b x5 M' N' Q (cells + 64) (slots + 4096) 1766) : AtW p l e s m args below meth c L xs G kd' ad' b x5 M N Q cells slots 437 := by
  intro kd ad H locs ls C hS hI hJ hl
  obtain ⟨hx, hb, hml, hown, hts, hK, hap, hap2, hsx, hsx2, hnc, hst, hA, hd1, hd2, hX, hbl, hbA, hk0, hLo, hk1, hk3, hk2⟩ := id C
  unfold mlc_6 at hf
  refine lv_aload_n hx hb (dc tbL_law_3_k 8 rfl) rfl (lv_at hl 1 rfl) ?_
  refine lv_aload_n hx hb (dc tbL_law_3_k 9 rfl) rfl (lv_at hl 0 rfl) ?_
  refine lv_iload hx hb (dc tbL_law_3_k 10 rfl) (lv_at hl 5 rfl) ?_
  refine lv_iconst (v := 1) hx hb (dc tbL_law_3_k 11 rfl) ic_1 ?_
  refine lv_iadd hx hb (dc tbL_law_3_k 12 rfl) ?_
  refine l_sld hx hb hX hbl hbA hI hs.2.1.1 hs.2.1.2 (dc tbL_law_3_k 13 rfl) ?_
  refine lv_aload_n hx hb (dc tbL_law_3_k 14 rfl) rfl (lv_at hl 3 rfl) ?_
  obtain ⟨M3, r2, q1, hf⟩ := calh_s hf
  refine l_callH (g_runH hx hb hml hown hts hK hap hsx hnc hI (tL_leg l hst hk0 hk1 q1 H.size) ch_L_leg q_t6_7 rfl rfl ⟨Nat.le_of_ble_eq_true rfl, Nat.le_of_ble_eq_true rfl⟩ rfl hl.1 rfl (Nat.le_of_ble_eq_true rfl) (dc tbL_law_3_k 15 rfl) ⟨by have := hc.1; show _ ≤ 601024; omega, by have := hc.2; show _ ≤ 7293034; omega⟩) hI hJ hA hd1 (fun H locs hI hJ => ?_)
  refine lv_istore (lv' := [(6, .int r2), (0, .ref b), (1, .ref (ad 0)), (2, .ref (ad' 135)), (3, .ref (ad 152)), (4, .ref (ad 153)), (5, .int x5)]) hx hb (dc tbL_law_3_k 16 rfl) hl (by decide) rfl (fun ls hl => ?_)
  refine lv_aload_n hx hb (dc tbL_law_3_k 17 rfl) rfl (lv_at hl 3 rfl) ?_
  refine lv_aload_n hx hb (dc tbL_law_3_k 18 rfl) rfl (lv_at hl 1 rfl) ?_
  refine lv_iload hx hb (dc tbL_law_3_k 19 rfl) (lv_at hl 6 rfl) ?_
  refine lv_iconst (v := 1) hx hb (dc tbL_law_3_k 20 rfl) ic_1 ?_
  refine lv_iadd hx hb (dc tbL_law_3_k 21 rfl) ?_
  refine l_sld hx hb hX hbl hbA hI hs.2.1.1 hs.2.1.2 (dc tbL_law_3_k 22 rfl) ?_
  obtain ⟨N6, r5, q4, hf⟩ := cal_s hf
  refine l_calli (g_runV hx hb hml hown hts hK hap2 hsx2 hJ (tX7_leg l hk2 q4 H.size) cv_X7_leg q_t8_48 rfl rfl ⟨Nat.le_of_ble_eq_true rfl, Nat.le_of_ble_eq_true rfl⟩ hk2.1 (by simp) rfl rfl rfl hl.1 rfl (Nat.le_of_ble_eq_true rfl) (dc tbL_law_3_k 23 rfl) ⟨by have := hc.1; show _ ≤ 601024; omega, by have := hc.2; show _ ≤ 7293034; omega⟩) hJ hI hA.symm hd2 (fun H locs hJ hI => ?_)
  refine lv_istore (lv' := [(7, .int r5), (6, .int r2), (0, .ref b), (1, .ref (ad 0)), (2, .ref (ad' 135)), (3, .ref (ad 152)), (4, .ref (ad 153)), (5, .int x5)]) hx hb (dc tbL_law_3_k 24 rfl) hl (by decide) rfl (fun ls hl => ?_)
  refine lv_goto (tgt := 1766) hx hb (dc tbL_law_3_k 25 rfl) rfl ?_
  obtain ⟨h7, hf⟩ := chk_s hf
  cases hf
  refine W.widen (k := cells + 64) (n := slots + 4096) (by omega) (by omega) ?_
  exact hk _ _ _ _ _ C (by rw [of_decide_eq_true h7]; exact hS) hI hJ (lv_sub hl [2, 3, 4, 5, 6, 7] rfl)
def mlc_7 (a1 a2 a3 a4 a5 : Int32) (M N : Mem) : Option (Mem × Mem) := calh (mL_isUp 0 152 a1 M) (fun M3 r2 => cal (mX7_isUp 135 a1 N) (fun N6 r5 => chk (decide (rd M3 133 0 = rd M 133 0)) (some (M3, N6))))
set_option maxHeartbeats 4000000 in
set_option maxRecDepth 100000 in
theorem lc_7 (hc : cells + 64 ≤ 601024 ∧ slots + 4096 ≤ 7293034) {x5 a0 a1 a2 a3 a4 a5 : Int32} (hs : Sc xs L x5 a0 a1 a2 a3 a4 a5) {M N M' N' : Mem} (hf : mlc_7 a1 a2 a3 a4 a5 M N = some (M', N')) (hk : AtW p l e s m args below meth c L xs G kd' ad' b x5 M' N' Q (cells + 64) (slots + 4096) 1766) : AtW p l e s m args below meth c L xs G kd' ad' b x5 M N Q cells slots 465 := by
  intro kd ad H locs ls C hS hI hJ hl
  obtain ⟨hx, hb, hml, hown, hts, hK, hap, hap2, hsx, hsx2, hnc, hst, hA, hd1, hd2, hX, hbl, hbA, hk0, hLo, hk1, hk3, hk2⟩ := id C
  unfold mlc_7 at hf
  refine lv_aload_n hx hb (dc tbL_law_3_k 26 rfl) rfl (lv_at hl 1 rfl) ?_
  refine lv_aload_n hx hb (dc tbL_law_3_k 27 rfl) rfl (lv_at hl 0 rfl) ?_
  refine lv_iload hx hb (dc tbL_law_3_k 28 rfl) (lv_at hl 5 rfl) ?_
  refine lv_iconst (v := 1) hx hb (dc tbL_law_3_k 29 rfl) ic_1 ?_
  refine lv_iadd hx hb (dc tbL_law_3_k 30 rfl) ?_
  refine l_sld hx hb hX hbl hbA hI hs.2.1.1 hs.2.1.2 (dc tbL_law_3_k 31 rfl) ?_
  refine lv_aload_n hx hb (dc tbL_law_3_k 32 rfl) rfl (lv_at hl 3 rfl) ?_
  obtain ⟨M3, r2, q1, hf⟩ := calh_s hf
  refine l_callH (g_runH hx hb hml hown hts hK hap hsx hnc hI (tL_isUp l hst hk0 hk1 q1 H.size) ch_L_isUp q_t6_32 rfl rfl ⟨Nat.le_of_ble_eq_true rfl, Nat.le_of_ble_eq_true rfl⟩ rfl hl.1 rfl (Nat.le_of_ble_eq_true rfl) (dc tbL_law_3_k 33 rfl) ⟨by have := hc.1; show _ ≤ 601024; omega, by have := hc.2; show _ ≤ 7293034; omega⟩) hI hJ hA hd1 (fun H locs hI hJ => ?_)
  refine lv_istore (lv' := [(6, .int r2), (0, .ref b), (1, .ref (ad 0)), (2, .ref (ad' 135)), (3, .ref (ad 152)), (4, .ref (ad 153)), (5, .int x5)]) hx hb (dc tbL_law_3_k 34 rfl) hl (by decide) rfl (fun ls hl => ?_)
  refine lv_aload_n hx hb (dc tbL_law_3_k 35 rfl) rfl (lv_at hl 3 rfl) ?_
  refine lv_aload_n hx hb (dc tbL_law_3_k 36 rfl) rfl (lv_at hl 1 rfl) ?_
  refine lv_iload hx hb (dc tbL_law_3_k 37 rfl) (lv_at hl 6 rfl) ?_
  refine lv_iconst (v := 1) hx hb (dc tbL_law_3_k 38 rfl) ic_1 ?_
  refine lv_iadd hx hb (dc tbL_law_3_k 39 rfl) ?_
  refine l_sld hx hb hX hbl hbA hI hs.2.1.1 hs.2.1.2 (dc tbL_law_4_k 0 rfl) ?_
  obtain ⟨N6, r5, q4, hf⟩ := cal_s hf
  refine l_calli (g_runV hx hb hml hown hts hK hap2 hsx2 hJ (tX7_isUp l hk2 q4 H.size) cv_X7_isUp q_t8_60 rfl rfl ⟨Nat.le_of_ble_eq_true rfl, Nat.le_of_ble_eq_true rfl⟩ hk2.1 (by simp) rfl rfl rfl hl.1 rfl (Nat.le_of_ble_eq_true rfl) (dc tbL_law_4_k 1 rfl) ⟨by have := hc.1; show _ ≤ 601024; omega, by have := hc.2; show _ ≤ 7293034; omega⟩) hJ hI hA.symm hd2 (fun H locs hJ hI => ?_)
  refine lv_istore (lv' := [(7, .int r5), (6, .int r2), (0, .ref b), (1, .ref (ad 0)), (2, .ref (ad' 135)), (3, .ref (ad 152)), (4, .ref (ad 153)), (5, .int x5)]) hx hb (dc tbL_law_4_k 2 rfl) hl (by decide) rfl (fun ls hl => ?_)
  refine lv_goto (tgt := 1766) hx hb (dc tbL_law_4_k 3 rfl) rfl ?_
  obtain ⟨h7, hf⟩ := chk_s hf
  cases hf
  refine W.widen (k := cells + 64) (n := slots + 4096) (by omega) (by omega) ?_
  exact hk _ _ _ _ _ C (by rw [of_decide_eq_true h7]; exact hS) hI hJ (lv_sub hl [2, 3, 4, 5, 6, 7] rfl)
def mlc_8 (a1 a2 a3 a4 a5 : Int32) (M N : Mem) : Option (Mem × Mem) := cap (mX6_deduction 0 M) (fun r2 => cal (mX7_deduction 135 N) (fun N6 r5 => some (M, N6)))
set_option maxHeartbeats 4000000 in
set_option maxRecDepth 100000 in
theorem lc_8 (hc : cells + 64 ≤ 601024 ∧ slots + 4096 ≤ 7293034) {x5 a0 a1 a2 a3 a4 a5 : Int32} (hs : Sc xs L x5 a0 a1 a2 a3 a4 a5) {M N M' N' : Mem} (hf : mlc_8 a1 a2 a3 a4 a5 M N = some (M', N')) (hk : AtW p l e s m args below meth c L xs G kd' ad' b x5 M' N' Q (cells + 64) (slots + 4096) 1766) : AtW p l e s m args below meth c L xs G kd' ad' b x5 M N Q cells slots 493 := by
  intro kd ad H locs ls C hS hI hJ hl
  obtain ⟨hx, hb, hml, hown, hts, hK, hap, hap2, hsx, hsx2, hnc, hst, hA, hd1, hd2, hX, hbl, hbA, hk0, hLo, hk1, hk3, hk2⟩ := id C
  unfold mlc_8 at hf
  refine lv_aload_n hx hb (dc tbL_law_4_k 4 rfl) rfl (lv_at hl 1 rfl) ?_
  obtain ⟨r2, q1, hf⟩ := cap_s hf
  refine l_calld (g_runV hx hb hml hown hts hK hap hsx hI (tX6_deduction l hk0 q1 H.size) cv_X6_deduction q_t2_138 rfl rfl ⟨Nat.le_of_ble_eq_true rfl, Nat.le_of_ble_eq_true rfl⟩ hk0.1 (by simp) rfl rfl rfl hl.1 rfl (Nat.le_of_ble_eq_true rfl) (dc tbL_law_4_k 5 rfl) ⟨by have := hc.1; show _ ≤ 601024; omega, by have := hc.2; show _ ≤ 7293034; omega⟩) hI hJ hA hd1 (fun H locs hI hJ => ?_)
  refine lv_dstore (lv' := [(6, .double r2), (0, .ref b), (1, .ref (ad 0)), (2, .ref (ad' 135)), (3, .ref (ad 152)), (4, .ref (ad 153)), (5, .int x5)]) hx hb (dc tbL_law_4_k 6 rfl) hl (by decide) rfl (fun ls hl => ?_)
  refine lv_aload_n hx hb (dc tbL_law_4_k 7 rfl) rfl (lv_at hl 3 rfl) ?_
  obtain ⟨N6, r5, q4, hf⟩ := cal_s hf
  refine l_calld (g_runV hx hb hml hown hts hK hap2 hsx2 hJ (tX7_deduction l hk2 q4 H.size) cv_X7_deduction q_t8_68 rfl rfl ⟨Nat.le_of_ble_eq_true rfl, Nat.le_of_ble_eq_true rfl⟩ hk2.1 (by simp) rfl rfl rfl hl.1 rfl (Nat.le_of_ble_eq_true rfl) (dc tbL_law_4_k 8 rfl) ⟨by have := hc.1; show _ ≤ 601024; omega, by have := hc.2; show _ ≤ 7293034; omega⟩) hJ hI hA.symm hd2 (fun H locs hJ hI => ?_)
  refine lv_dstore (lv' := [(8, .double r5), (6, .double r2), (0, .ref b), (1, .ref (ad 0)), (2, .ref (ad' 135)), (3, .ref (ad 152)), (4, .ref (ad 153)), (5, .int x5)]) hx hb (dc tbL_law_4_k 9 rfl) hl (by decide) rfl (fun ls hl => ?_)
  refine lv_goto (tgt := 1766) hx hb (dc tbL_law_4_k 10 rfl) rfl ?_
  cases hf
  refine W.widen (k := cells + 64) (n := slots + 4096) (by omega) (by omega) ?_
  exact hk _ _ _ _ _ C hS hI hJ (lv_sub hl [2, 3, 4, 5, 6, 7] rfl)
def mlc_9 (a1 a2 a3 a4 a5 : Int32) (M N : Mem) : Option (Mem × Mem) := cap (mX6_flatLength 0 M) (fun r2 => cal (mX7_flatLength 135 N) (fun N6 r5 => some (M, N6)))
set_option maxHeartbeats 4000000 in
set_option maxRecDepth 100000 in
theorem lc_9 (hc : cells + 64 ≤ 601024 ∧ slots + 4096 ≤ 7293034) {x5 a0 a1 a2 a3 a4 a5 : Int32} (hs : Sc xs L x5 a0 a1 a2 a3 a4 a5) {M N M' N' : Mem} (hf : mlc_9 a1 a2 a3 a4 a5 M N = some (M', N')) (hk : AtW p l e s m args below meth c L xs G kd' ad' b x5 M' N' Q (cells + 64) (slots + 4096) 1766) : AtW p l e s m args below meth c L xs G kd' ad' b x5 M N Q cells slots 508 := by
  intro kd ad H locs ls C hS hI hJ hl
  obtain ⟨hx, hb, hml, hown, hts, hK, hap, hap2, hsx, hsx2, hnc, hst, hA, hd1, hd2, hX, hbl, hbA, hk0, hLo, hk1, hk3, hk2⟩ := id C
  unfold mlc_9 at hf
  refine lv_aload_n hx hb (dc tbL_law_4_k 11 rfl) rfl (lv_at hl 1 rfl) ?_
  obtain ⟨r2, q1, hf⟩ := cap_s hf
  refine l_calld (g_runV hx hb hml hown hts hK hap hsx hI (tX6_flatLength l hk0 q1 H.size) cv_X6_flatLength q_t2_149 rfl rfl ⟨Nat.le_of_ble_eq_true rfl, Nat.le_of_ble_eq_true rfl⟩ hk0.1 (by simp) rfl rfl rfl hl.1 rfl (Nat.le_of_ble_eq_true rfl) (dc tbL_law_4_k 12 rfl) ⟨by have := hc.1; show _ ≤ 601024; omega, by have := hc.2; show _ ≤ 7293034; omega⟩) hI hJ hA hd1 (fun H locs hI hJ => ?_)
  refine lv_dstore (lv' := [(6, .double r2), (0, .ref b), (1, .ref (ad 0)), (2, .ref (ad' 135)), (3, .ref (ad 152)), (4, .ref (ad 153)), (5, .int x5)]) hx hb (dc tbL_law_4_k 13 rfl) hl (by decide) rfl (fun ls hl => ?_)
  refine lv_aload_n hx hb (dc tbL_law_4_k 14 rfl) rfl (lv_at hl 3 rfl) ?_
  obtain ⟨N6, r5, q4, hf⟩ := cal_s hf
  refine l_calld (g_runV hx hb hml hown hts hK hap2 hsx2 hJ (tX7_flatLength l hk2 q4 H.size) cv_X7_flatLength q_t8_79 rfl rfl ⟨Nat.le_of_ble_eq_true rfl, Nat.le_of_ble_eq_true rfl⟩ hk2.1 (by simp) rfl rfl rfl hl.1 rfl (Nat.le_of_ble_eq_true rfl) (dc tbL_law_4_k 15 rfl) ⟨by have := hc.1; show _ ≤ 601024; omega, by have := hc.2; show _ ≤ 7293034; omega⟩) hJ hI hA.symm hd2 (fun H locs hJ hI => ?_)
  refine lv_dstore (lv' := [(8, .double r5), (6, .double r2), (0, .ref b), (1, .ref (ad 0)), (2, .ref (ad' 135)), (3, .ref (ad 152)), (4, .ref (ad 153)), (5, .int x5)]) hx hb (dc tbL_law_4_k 16 rfl) hl (by decide) rfl (fun ls hl => ?_)
  refine lv_goto (tgt := 1766) hx hb (dc tbL_law_4_k 17 rfl) rfl ?_
  cases hf
  refine W.widen (k := cells + 64) (n := slots + 4096) (by omega) (by omega) ?_
  exact hk _ _ _ _ _ C hS hI hJ (lv_sub hl [2, 3, 4, 5, 6, 7] rfl)
def mlc_10 (a1 a2 a3 a4 a5 : Int32) (M N : Mem) : Option (Mem × Mem) := calh (mL_linePlace 0 153 a1 M) (fun M3 r2 => cal (mX7_linePlace 135 a1 N) (fun N6 r5 => chk (decide (rd M3 133 0 = rd M 133 0)) (some (M3, N6))))
set_option maxHeartbeats 4000000 in
set_option maxRecDepth 100000 in
theorem lc_10 (hc : cells + 64 ≤ 601024 ∧ slots + 4096 ≤ 7293034) {x5 a0 a1 a2 a3 a4 a5 : Int32} (hs : Sc xs L x5 a0 a1 a2 a3 a4 a5) {M N M' N' : Mem} (hf : mlc_10 a1 a2 a3 a4 a5 M N = some (M', N')) (hk : AtW p l e s m args below meth c L xs G kd' ad' b x5 M' N' Q (cells + 64) (slots + 4096) 1766) : AtW p l e s m args below meth c L xs G kd' ad' b x5 M N Q cells slots 523 := by
  intro kd ad H locs ls C hS hI hJ hl
  obtain ⟨hx, hb, hml, hown, hts, hK, hap, hap2, hsx, hsx2, hnc, hst, hA, hd1, hd2, hX, hbl, hbA, hk0, hLo, hk1, hk3, hk2⟩ := id C
  unfold mlc_10 at hf
  refine lv_aload_n hx hb (dc tbL_law_4_k 18 rfl) rfl (lv_at hl 1 rfl) ?_
  refine lv_aload_n hx hb (dc tbL_law_4_k 19 rfl) rfl (lv_at hl 0 rfl) ?_
  refine lv_iload hx hb (dc tbL_law_4_k 20 rfl) (lv_at hl 5 rfl) ?_
  refine lv_iconst (v := 1) hx hb (dc tbL_law_4_k 21 rfl) ic_1 ?_
  refine lv_iadd hx hb (dc tbL_law_4_k 22 rfl) ?_
  refine l_sld hx hb hX hbl hbA hI hs.2.1.1 hs.2.1.2 (dc tbL_law_4_k 23 rfl) ?_
  refine lv_aload hx hb (dc tbL_law_4_k 24 rfl) (lv_at hl 4 rfl) ?_
  obtain ⟨M3, r2, q1, hf⟩ := calh_s hf
  refine l_callH (g_runH hx hb hml hown hts hK hap hsx hnc hI (tL_linePlace l hst hk0 hk3 q1 H.size) ch_L_linePlace q_t6_44 rfl rfl ⟨Nat.le_of_ble_eq_true rfl, Nat.le_of_ble_eq_true rfl⟩ rfl hl.1 rfl (Nat.le_of_ble_eq_true rfl) (dc tbL_law_4_k 25 rfl) ⟨by have := hc.1; show _ ≤ 601024; omega, by have := hc.2; show _ ≤ 7293034; omega⟩) hI hJ hA hd1 (fun H locs hI hJ => ?_)
  refine lv_istore (lv' := [(6, .int r2), (0, .ref b), (1, .ref (ad 0)), (2, .ref (ad' 135)), (3, .ref (ad 152)), (4, .ref (ad 153)), (5, .int x5)]) hx hb (dc tbL_law_4_k 26 rfl) hl (by decide) rfl (fun ls hl => ?_)
  refine lv_aload_n hx hb (dc tbL_law_4_k 27 rfl) rfl (lv_at hl 3 rfl) ?_
  refine lv_aload_n hx hb (dc tbL_law_4_k 28 rfl) rfl (lv_at hl 1 rfl) ?_
  refine lv_iload hx hb (dc tbL_law_4_k 29 rfl) (lv_at hl 6 rfl) ?_
  refine lv_iconst (v := 1) hx hb (dc tbL_law_4_k 30 rfl) ic_1 ?_
  refine lv_iadd hx hb (dc tbL_law_4_k 31 rfl) ?_
  refine l_sld hx hb hX hbl hbA hI hs.2.1.1 hs.2.1.2 (dc tbL_law_4_k 32 rfl) ?_
  obtain ⟨N6, r5, q4, hf⟩ := cal_s hf
  refine l_calld (g_runV hx hb hml hown hts hK hap2 hsx2 hJ (tX7_linePlace l hk2 q4 H.size) cv_X7_linePlace q_t8_87 rfl rfl ⟨Nat.le_of_ble_eq_true rfl, Nat.le_of_ble_eq_true rfl⟩ hk2.1 (by simp) rfl rfl rfl hl.1 rfl (Nat.le_of_ble_eq_true rfl) (dc tbL_law_4_k 33 rfl) ⟨by have := hc.1; show _ ≤ 601024; omega, by have := hc.2; show _ ≤ 7293034; omega⟩) hJ hI hA.symm hd2 (fun H locs hJ hI => ?_)
  refine lv_dstore (lv' := [(7, .double r5), (6, .int r2), (0, .ref b), (1, .ref (ad 0)), (2, .ref (ad' 135)), (3, .ref (ad 152)), (4, .ref (ad 153)), (5, .int x5)]) hx hb (dc tbL_law_4_k 34 rfl) hl (by decide) rfl (fun ls hl => ?_)
  refine lv_goto (tgt := 1766) hx hb (dc tbL_law_4_k 35 rfl) rfl ?_
  obtain ⟨h7, hf⟩ := chk_s hf
  cases hf
  refine W.widen (k := cells + 64) (n := slots + 4096) (by omega) (by omega) ?_
  exact hk _ _ _ _ _ C (by rw [of_decide_eq_true h7]; exact hS) hI hJ (lv_sub hl [2, 3, 4, 5, 6, 7] rfl)
def mlc_11 (a1 a2 a3 a4 a5 : Int32) (M N : Mem) : Option (Mem × Mem) := cap (mX6_ratio 0 M) (fun r2 => cal (mX7_ratio 135 N) (fun N6 r5 => some (M, N6)))
set_option maxHeartbeats 4000000 in
set_option maxRecDepth 100000 in
theorem lc_11 (hc : cells + 64 ≤ 601024 ∧ slots + 4096 ≤ 7293034) {x5 a0 a1 a2 a3 a4 a5 : Int32} (hs : Sc xs L x5 a0 a1 a2 a3 a4 a5) {M N M' N' : Mem} (hf : mlc_11 a1 a2 a3 a4 a5 M N = some (M', N')) (hk : AtW p l e s m args below meth c L xs G kd' ad' b x5 M' N' Q (cells + 64) (slots + 4096) 1766) : AtW p l e s m args below meth c L xs G kd' ad' b x5 M N Q cells slots 552 := by
  intro kd ad H locs ls C hS hI hJ hl
  obtain ⟨hx, hb, hml, hown, hts, hK, hap, hap2, hsx, hsx2, hnc, hst, hA, hd1, hd2, hX, hbl, hbA, hk0, hLo, hk1, hk3, hk2⟩ := id C
  unfold mlc_11 at hf
  refine lv_aload_n hx hb (dc tbL_law_4_k 36 rfl) rfl (lv_at hl 1 rfl) ?_
  obtain ⟨r2, q1, hf⟩ := cap_s hf
  refine l_calld (g_runV hx hb hml hown hts hK hap hsx hI (tX6_ratio l hk0 q1 H.size) cv_X6_ratio q_t2_157 rfl rfl ⟨Nat.le_of_ble_eq_true rfl, Nat.le_of_ble_eq_true rfl⟩ hk0.1 (by simp) rfl rfl rfl hl.1 rfl (Nat.le_of_ble_eq_true rfl) (dc tbL_law_4_k 37 rfl) ⟨by have := hc.1; show _ ≤ 601024; omega, by have := hc.2; show _ ≤ 7293034; omega⟩) hI hJ hA hd1 (fun H locs hI hJ => ?_)
  refine lv_dstore (lv' := [(6, .double r2), (0, .ref b), (1, .ref (ad 0)), (2, .ref (ad' 135)), (3, .ref (ad 152)), (4, .ref (ad 153)), (5, .int x5)]) hx hb (dc tbL_law_4_k 38 rfl) hl (by decide) rfl (fun ls hl => ?_)
  refine lv_aload_n hx hb (dc tbL_law_4_k 39 rfl) rfl (lv_at hl 3 rfl) ?_
  obtain ⟨N6, r5, q4, hf⟩ := cal_s hf
  refine l_calld (g_runV hx hb hml hown hts hK hap2 hsx2 hJ (tX7_ratio l hk2 q4 H.size) cv_X7_ratio q_t8_92 rfl rfl ⟨Nat.le_of_ble_eq_true rfl, Nat.le_of_ble_eq_true rfl⟩ hk2.1 (by simp) rfl rfl rfl hl.1 rfl (Nat.le_of_ble_eq_true rfl) (dc tbL_law_5_k 0 rfl) ⟨by have := hc.1; show _ ≤ 601024; omega, by have := hc.2; show _ ≤ 7293034; omega⟩) hJ hI hA.symm hd2 (fun H locs hJ hI => ?_)
  refine lv_dstore (lv' := [(8, .double r5), (6, .double r2), (0, .ref b), (1, .ref (ad 0)), (2, .ref (ad' 135)), (3, .ref (ad 152)), (4, .ref (ad 153)), (5, .int x5)]) hx hb (dc tbL_law_5_k 1 rfl) hl (by decide) rfl (fun ls hl => ?_)
  refine lv_goto (tgt := 1766) hx hb (dc tbL_law_5_k 2 rfl) rfl ?_
  cases hf
  refine W.widen (k := cells + 64) (n := slots + 4096) (by omega) (by omega) ?_
  exact hk _ _ _ _ _ C hS hI hJ (lv_sub hl [2, 3, 4, 5, 6, 7] rfl)
def mlc_12 (a1 a2 a3 a4 a5 : Int32) (M N : Mem) : Option (Mem × Mem) := cap (mX6_springBack 0 M) (fun r2 => cal (mX7_springBack 135 N) (fun N6 r5 => some (M, N6)))
set_option maxHeartbeats 4000000 in
set_option maxRecDepth 100000 in
theorem lc_12 (hc : cells + 64 ≤ 601024 ∧ slots + 4096 ≤ 7293034) {x5 a0 a1 a2 a3 a4 a5 : Int32} (hs : Sc xs L x5 a0 a1 a2 a3 a4 a5) {M N M' N' : Mem} (hf : mlc_12 a1 a2 a3 a4 a5 M N = some (M', N')) (hk : AtW p l e s m args below meth c L xs G kd' ad' b x5 M' N' Q (cells + 64) (slots + 4096) 1766) : AtW p l e s m args below meth c L xs G kd' ad' b x5 M N Q cells slots 567 := by
  intro kd ad H locs ls C hS hI hJ hl
  obtain ⟨hx, hb, hml, hown, hts, hK, hap, hap2, hsx, hsx2, hnc, hst, hA, hd1, hd2, hX, hbl, hbA, hk0, hLo, hk1, hk3, hk2⟩ := id C
  unfold mlc_12 at hf
  refine lv_aload_n hx hb (dc tbL_law_5_k 3 rfl) rfl (lv_at hl 1 rfl) ?_
  obtain ⟨r2, q1, hf⟩ := cap_s hf
  refine l_calld (g_runV hx hb hml hown hts hK hap hsx hI (tX6_springBack l hk0 q1 H.size) cv_X6_springBack q_t2_166 rfl rfl ⟨Nat.le_of_ble_eq_true rfl, Nat.le_of_ble_eq_true rfl⟩ hk0.1 (by simp) rfl rfl rfl hl.1 rfl (Nat.le_of_ble_eq_true rfl) (dc tbL_law_5_k 4 rfl) ⟨by have := hc.1; show _ ≤ 601024; omega, by have := hc.2; show _ ≤ 7293034; omega⟩) hI hJ hA hd1 (fun H locs hI hJ => ?_)
  refine lv_dstore (lv' := [(6, .double r2), (0, .ref b), (1, .ref (ad 0)), (2, .ref (ad' 135)), (3, .ref (ad 152)), (4, .ref (ad 153)), (5, .int x5)]) hx hb (dc tbL_law_5_k 5 rfl) hl (by decide) rfl (fun ls hl => ?_)
  refine lv_aload_n hx hb (dc tbL_law_5_k 6 rfl) rfl (lv_at hl 3 rfl) ?_
  obtain ⟨N6, r5, q4, hf⟩ := cal_s hf
  refine l_calld (g_runV hx hb hml hown hts hK hap2 hsx2 hJ (tX7_springBack l hk2 q4 H.size) cv_X7_springBack q_t8_101 rfl rfl ⟨Nat.le_of_ble_eq_true rfl, Nat.le_of_ble_eq_true rfl⟩ hk2.1 (by simp) rfl rfl rfl hl.1 rfl (Nat.le_of_ble_eq_true rfl) (dc tbL_law_5_k 7 rfl) ⟨by have := hc.1; show _ ≤ 601024; omega, by have := hc.2; show _ ≤ 7293034; omega⟩) hJ hI hA.symm hd2 (fun H locs hJ hI => ?_)
  refine lv_dstore (lv' := [(8, .double r5), (6, .double r2), (0, .ref b), (1, .ref (ad 0)), (2, .ref (ad' 135)), (3, .ref (ad 152)), (4, .ref (ad 153)), (5, .int x5)]) hx hb (dc tbL_law_5_k 8 rfl) hl (by decide) rfl (fun ls hl => ?_)
  refine lv_goto (tgt := 1766) hx hb (dc tbL_law_5_k 9 rfl) rfl ?_
  cases hf
  refine W.widen (k := cells + 64) (n := slots + 4096) (by omega) (by omega) ?_
  exact hk _ _ _ _ _ C hS hI hJ (lv_sub hl [2, 3, 4, 5, 6, 7] rfl)
def mlc_13 (a1 a2 a3 a4 a5 : Int32) (M N : Mem) : Option (Mem × Mem) := chk (n64b (FP.dmul (FP.i2d a1) (4593671619917905920 : UInt64))) (calh (mL_springBackFor 0 153 (FP.dmul (FP.i2d a1) (4593671619917905920 : UInt64)) M) (fun M4 r3 => chk (n64b (FP.dmul (FP.i2d a1) (4593671619917905920 : UInt64))) (cal (mX7_springBackFor 135 (FP.dmul (FP.i2d a1) (4593671619917905920 : UInt64)) N) (fun N8 r7 => chk (decide (rd M4 133 0 = rd M 133 0)) (some (M4, N8))))))
set_option maxHeartbeats 4000000 in
set_option maxRecDepth 100000 in
theorem lc_13 (hc : cells + 64 ≤ 601024 ∧ slots + 4096 ≤ 7293034) {x5 a0 a1 a2 a3 a4 a5 : Int32} (hs : Sc xs L x5 a0 a1 a2 a3 a4 a5) {M N M' N' : Mem} (hf : mlc_13 a1 a2 a3 a4 a5 M N = some (M', N')) (hk : AtW p l e s m args below meth c L xs G kd' ad' b x5 M' N' Q (cells + 64) (slots + 4096) 1766) : AtW p l e s m args below meth c L xs G kd' ad' b x5 M N Q cells slots 582 := by
  intro kd ad H locs ls C hS hI hJ hl
  obtain ⟨hx, hb, hml, hown, hts, hK, hap, hap2, hsx, hsx2, hnc, hst, hA, hd1, hd2, hX, hbl, hbA, hk0, hLo, hk1, hk3, hk2⟩ := id C
  unfold mlc_13 at hf
  refine lv_aload_n hx hb (dc tbL_law_5_k 10 rfl) rfl (lv_at hl 1 rfl) ?_
  refine lv_aload_n hx hb (dc tbL_law_5_k 11 rfl) rfl (lv_at hl 0 rfl) ?_
  refine lv_iload hx hb (dc tbL_law_5_k 12 rfl) (lv_at hl 5 rfl) ?_
  refine lv_iconst (v := 1) hx hb (dc tbL_law_5_k 13 rfl) ic_1 ?_
  refine lv_iadd hx hb (dc tbL_law_5_k 14 rfl) ?_
  refine l_sld hx hb hX hbl hbA hI hs.2.1.1 hs.2.1.2 (dc tbL_law_5_k 15 rfl) ?_
  refine lv_i2d hx hb (dc tbL_law_5_k 16 rfl) ?_
  refine lv_ldc2d hx hb hown (hts _ q_t10_20) (dc tbL_law_5_k 17 rfl) ?_
  obtain ⟨h1, hf⟩ := chk_s hf
  refine lv_dmul hx hb (dc tbL_law_5_k 18 rfl) (n64_b h1) ?_
  refine lv_aload hx hb (dc tbL_law_5_k 19 rfl) (lv_at hl 4 rfl) ?_
  obtain ⟨M4, r3, q2, hf⟩ := calh_s hf
  refine l_callH (g_runH hx hb hml hown hts hK hap hsx hnc hI (tL_springBackFor l hst hk0 hk3 q2 H.size) ch_L_springBackFor q_t6_52 rfl rfl ⟨Nat.le_of_ble_eq_true rfl, Nat.le_of_ble_eq_true rfl⟩ rfl hl.1 rfl (Nat.le_of_ble_eq_true rfl) (dc tbL_law_5_k 20 rfl) ⟨by have := hc.1; show _ ≤ 601024; omega, by have := hc.2; show _ ≤ 7293034; omega⟩) hI hJ hA hd1 (fun H locs hI hJ => ?_)
  refine lv_istore (lv' := [(6, .int r3), (0, .ref b), (1, .ref (ad 0)), (2, .ref (ad' 135)), (3, .ref (ad 152)), (4, .ref (ad 153)), (5, .int x5)]) hx hb (dc tbL_law_5_k 21 rfl) hl (by decide) rfl (fun ls hl => ?_)
  refine lv_aload_n hx hb (dc tbL_law_5_k 22 rfl) rfl (lv_at hl 3 rfl) ?_
  refine lv_aload_n hx hb (dc tbL_law_5_k 23 rfl) rfl (lv_at hl 1 rfl) ?_
  refine lv_iload hx hb (dc tbL_law_5_k 24 rfl) (lv_at hl 6 rfl) ?_
  refine lv_iconst (v := 1) hx hb (dc tbL_law_5_k 25 rfl) ic_1 ?_
  refine lv_iadd hx hb (dc tbL_law_5_k 26 rfl) ?_
  refine l_sld hx hb hX hbl hbA hI hs.2.1.1 hs.2.1.2 (dc tbL_law_5_k 27 rfl) ?_
  refine lv_i2d hx hb (dc tbL_law_5_k 28 rfl) ?_
  refine lv_ldc2d hx hb hown (hts _ q_t10_20) (dc tbL_law_5_k 29 rfl) ?_
  obtain ⟨h5, hf⟩ := chk_s hf
  refine lv_dmul hx hb (dc tbL_law_5_k 30 rfl) (n64_b h5) ?_
  obtain ⟨N8, r7, q6, hf⟩ := cal_s hf
  refine l_calld (g_runV hx hb hml hown hts hK hap2 hsx2 hJ (tX7_springBackFor l hk2 q6 H.size) cv_X7_springBackFor q_t8_117 rfl rfl ⟨Nat.le_of_ble_eq_true rfl, Nat.le_of_ble_eq_true rfl⟩ hk2.1 (by simp) rfl rfl rfl hl.1 rfl (Nat.le_of_ble_eq_true rfl) (dc tbL_law_5_k 31 rfl) ⟨by have := hc.1; show _ ≤ 601024; omega, by have := hc.2; show _ ≤ 7293034; omega⟩) hJ hI hA.symm hd2 (fun H locs hJ hI => ?_)
  refine lv_dstore (lv' := [(7, .double r7), (6, .int r3), (0, .ref b), (1, .ref (ad 0)), (2, .ref (ad' 135)), (3, .ref (ad 152)), (4, .ref (ad 153)), (5, .int x5)]) hx hb (dc tbL_law_5_k 32 rfl) hl (by decide) rfl (fun ls hl => ?_)
  refine lv_goto (tgt := 1766) hx hb (dc tbL_law_5_k 33 rfl) rfl ?_
  obtain ⟨h9, hf⟩ := chk_s hf
  cases hf
  refine W.widen (k := cells + 64) (n := slots + 4096) (by omega) (by omega) ?_
  exact hk _ _ _ _ _ C (by rw [of_decide_eq_true h9]; exact hS) hI hJ (lv_sub hl [2, 3, 4, 5, 6, 7] rfl)
def mlc_14 (a1 a2 a3 a4 a5 : Int32) (M N : Mem) : Option (Mem × Mem) := cap (mX6_swingAngle 0 M) (fun r2 => cal (mX7_swingAngle 135 N) (fun N6 r5 => some (M, N6)))
set_option maxHeartbeats 4000000 in
set_option maxRecDepth 100000 in
theorem lc_14 (hc : cells + 64 ≤ 601024 ∧ slots + 4096 ≤ 7293034) {x5 a0 a1 a2 a3 a4 a5 : Int32} (hs : Sc xs L x5 a0 a1 a2 a3 a4 a5) {M N M' N' : Mem} (hf : mlc_14 a1 a2 a3 a4 a5 M N = some (M', N')) (hk : AtW p l e s m args below meth c L xs G kd' ad' b x5 M' N' Q (cells + 64) (slots + 4096) 1766) : AtW p l e s m args below meth c L xs G kd' ad' b x5 M N Q cells slots 621 := by
  intro kd ad H locs ls C hS hI hJ hl
  obtain ⟨hx, hb, hml, hown, hts, hK, hap, hap2, hsx, hsx2, hnc, hst, hA, hd1, hd2, hX, hbl, hbA, hk0, hLo, hk1, hk3, hk2⟩ := id C
  unfold mlc_14 at hf
  refine lv_aload_n hx hb (dc tbL_law_5_k 34 rfl) rfl (lv_at hl 1 rfl) ?_
  obtain ⟨r2, q1, hf⟩ := cap_s hf
  refine l_calli (g_runV hx hb hml hown hts hK hap hsx hI (tX6_swingAngle l hk0 q1 H.size) cv_X6_swingAngle q_t2_178 rfl rfl ⟨Nat.le_of_ble_eq_true rfl, Nat.le_of_ble_eq_true rfl⟩ hk0.1 (by simp) rfl rfl rfl hl.1 rfl (Nat.le_of_ble_eq_true rfl) (dc tbL_law_5_k 35 rfl) ⟨by have := hc.1; show _ ≤ 601024; omega, by have := hc.2; show _ ≤ 7293034; omega⟩) hI hJ hA hd1 (fun H locs hI hJ => ?_)
  refine lv_pop hx hb (dc tbL_law_5_k 36 rfl) rfl ?_
  refine lv_aload_n hx hb (dc tbL_law_5_k 37 rfl) rfl (lv_at hl 2 rfl) ?_
  obtain ⟨N6, r5, q4, hf⟩ := cal_s hf
  refine l_calli (g_runV hx hb hml hown hts hK hap2 hsx2 hJ (tX7_swingAngle l hk2 q4 H.size) cv_X7_swingAngle q_t8_122 rfl rfl ⟨Nat.le_of_ble_eq_true rfl, Nat.le_of_ble_eq_true rfl⟩ hk2.1 (by simp) rfl rfl rfl hl.1 rfl (Nat.le_of_ble_eq_true rfl) (dc tbL_law_5_k 38 rfl) ⟨by have := hc.1; show _ ≤ 601024; omega, by have := hc.2; show _ ≤ 7293034; omega⟩) hJ hI hA.symm hd2 (fun H locs hJ hI => ?_)
  refine lv_pop hx hb (dc tbL_law_5_k 39 rfl) rfl ?_
  refine lv_goto (tgt := 1766) hx hb (dc tbL_law_6_k 0 rfl) rfl ?_
  cases hf
  refine W.widen (k := cells + 64) (n := slots + 4096) (by omega) (by omega) ?_
  exact hk _ _ _ _ _ C hS hI hJ (lv_sub hl [0, 1, 2, 3, 4, 5] rfl)
def mlc_15 (a1 a2 a3 a4 a5 : Int32) (M N : Mem) : Option (Mem × Mem) := calh (mL_tool 0 152 a1 a2 M) (fun M3 r2 => cal (mX7_tool 135 a1 a2 N) (fun N6 r5 => chk (decide (rd M3 133 0 = rd M 133 0)) (some (M3, N6))))
set_option maxHeartbeats 4000000 in
set_option maxRecDepth 100000 in
theorem lc_15 (hc : cells + 64 ≤ 601024 ∧ slots + 4096 ≤ 7293034) {x5 a0 a1 a2 a3 a4 a5 : Int32} (hs : Sc xs L x5 a0 a1 a2 a3 a4 a5) {M N M' N' : Mem} (hf : mlc_15 a1 a2 a3 a4 a5 M N = some (M', N')) (hk : AtW p l e s m args below meth c L xs G kd' ad' b x5 M' N' Q (cells + 64) (slots + 4096) 1766) : AtW p l e s m args below meth c L xs G kd' ad' b x5 M N Q cells slots 634 := by
  intro kd ad H locs ls C hS hI hJ hl
  obtain ⟨hx, hb, hml, hown, hts, hK, hap, hap2, hsx, hsx2, hnc, hst, hA, hd1, hd2, hX, hbl, hbA, hk0, hLo, hk1, hk3, hk2⟩ := id C
  unfold mlc_15 at hf
  refine lv_aload_n hx hb (dc tbL_law_6_k 1 rfl) rfl (lv_at hl 1 rfl) ?_
  refine lv_aload_n hx hb (dc tbL_law_6_k 2 rfl) rfl (lv_at hl 0 rfl) ?_
  refine lv_iload hx hb (dc tbL_law_6_k 3 rfl) (lv_at hl 5 rfl) ?_
  refine lv_iconst (v := 1) hx hb (dc tbL_law_6_k 4 rfl) ic_1 ?_
  refine lv_iadd hx hb (dc tbL_law_6_k 5 rfl) ?_
  refine l_sld hx hb hX hbl hbA hI hs.2.1.1 hs.2.1.2 (dc tbL_law_6_k 6 rfl) ?_
  refine lv_aload_n hx hb (dc tbL_law_6_k 7 rfl) rfl (lv_at hl 0 rfl) ?_
  refine lv_iload hx hb (dc tbL_law_6_k 8 rfl) (lv_at hl 5 rfl) ?_
  refine lv_iconst (v := 2) hx hb (dc tbL_law_6_k 9 rfl) ic_2 ?_
  refine lv_iadd hx hb (dc tbL_law_6_k 10 rfl) ?_
  refine l_sld hx hb hX hbl hbA hI hs.2.2.1.1 hs.2.2.1.2 (dc tbL_law_6_k 11 rfl) ?_
  refine lv_aload_n hx hb (dc tbL_law_6_k 12 rfl) rfl (lv_at hl 3 rfl) ?_
  obtain ⟨M3, r2, q1, hf⟩ := calh_s hf
  refine l_callH (g_runH hx hb hml hown hts hK hap hsx hnc hI (tL_tool l hst hk0 hk1 q1 H.size) ch_L_tool q_t6_61 rfl rfl ⟨Nat.le_of_ble_eq_true rfl, Nat.le_of_ble_eq_true rfl⟩ rfl hl.1 rfl (Nat.le_of_ble_eq_true rfl) (dc tbL_law_6_k 13 rfl) ⟨by have := hc.1; show _ ≤ 601024; omega, by have := hc.2; show _ ≤ 7293034; omega⟩) hI hJ hA hd1 (fun H locs hI hJ => ?_)
  refine lv_istore (lv' := [(6, .int r2), (0, .ref b), (1, .ref (ad 0)), (2, .ref (ad' 135)), (3, .ref (ad 152)), (4, .ref (ad 153)), (5, .int x5)]) hx hb (dc tbL_law_6_k 14 rfl) hl (by decide) rfl (fun ls hl => ?_)
  refine lv_aload_n hx hb (dc tbL_law_6_k 15 rfl) rfl (lv_at hl 3 rfl) ?_
  refine lv_aload_n hx hb (dc tbL_law_6_k 16 rfl) rfl (lv_at hl 1 rfl) ?_
  refine lv_iload hx hb (dc tbL_law_6_k 17 rfl) (lv_at hl 6 rfl) ?_
  refine lv_iconst (v := 1) hx hb (dc tbL_law_6_k 18 rfl) ic_1 ?_
  refine lv_iadd hx hb (dc tbL_law_6_k 19 rfl) ?_
  refine l_sld hx hb hX hbl hbA hI hs.2.1.1 hs.2.1.2 (dc tbL_law_6_k 20 rfl) ?_
  refine lv_aload_n hx hb (dc tbL_law_6_k 21 rfl) rfl (lv_at hl 1 rfl) ?_
  refine lv_iload hx hb (dc tbL_law_6_k 22 rfl) (lv_at hl 6 rfl) ?_
  refine lv_iconst (v := 2) hx hb (dc tbL_law_6_k 23 rfl) ic_2 ?_
  refine lv_iadd hx hb (dc tbL_law_6_k 24 rfl) ?_
  refine l_sld hx hb hX hbl hbA hI hs.2.2.1.1 hs.2.2.1.2 (dc tbL_law_6_k 25 rfl) ?_
  obtain ⟨N6, r5, q4, hf⟩ := cal_s hf
  refine l_calli (g_runV hx hb hml hown hts hK hap2 hsx2 hJ (tX7_tool l hk2 q4 H.size) cv_X7_tool q_t8_127 rfl rfl ⟨Nat.le_of_ble_eq_true rfl, Nat.le_of_ble_eq_true rfl⟩ hk2.1 (by simp) rfl rfl rfl hl.1 rfl (Nat.le_of_ble_eq_true rfl) (dc tbL_law_6_k 26 rfl) ⟨by have := hc.1; show _ ≤ 601024; omega, by have := hc.2; show _ ≤ 7293034; omega⟩) hJ hI hA.symm hd2 (fun H locs hJ hI => ?_)
  refine lv_istore (lv' := [(7, .int r5), (6, .int r2), (0, .ref b), (1, .ref (ad 0)), (2, .ref (ad' 135)), (3, .ref (ad 152)), (4, .ref (ad 153)), (5, .int x5)]) hx hb (dc tbL_law_6_k 27 rfl) hl (by decide) rfl (fun ls hl => ?_)
  refine lv_goto (tgt := 1766) hx hb (dc tbL_law_6_k 28 rfl) rfl ?_
  obtain ⟨h7, hf⟩ := chk_s hf
  cases hf
  refine W.widen (k := cells + 64) (n := slots + 4096) (by omega) (by omega) ?_
  exact hk _ _ _ _ _ C (by rw [of_decide_eq_true h7]; exact hS) hI hJ (lv_sub hl [2, 3, 4, 5, 6, 7] rfl)
def mlc_16 (a1 a2 a3 a4 a5 : Int32) (M N : Mem) : Option (Mem × Mem) := cal (mX6_finishedWidth 0 M) (fun M3 r2 => cal (mX7_finishedWidth 135 N) (fun N6 r5 => chk (decide (rd M3 133 0 = rd M 133 0)) (some (M3, N6))))
set_option maxHeartbeats 4000000 in
set_option maxRecDepth 100000 in
theorem lc_16 (hc : cells + 64 ≤ 601024 ∧ slots + 4096 ≤ 7293034) {x5 a0 a1 a2 a3 a4 a5 : Int32} (hs : Sc xs L x5 a0 a1 a2 a3 a4 a5) {M N M' N' : Mem} (hf : mlc_16 a1 a2 a3 a4 a5 M N = some (M', N')) (hk : AtW p l e s m args below meth c L xs G kd' ad' b x5 M' N' Q (cells + 64) (slots + 4096) 1766) : AtW p l e s m args below meth c L xs G kd' ad' b x5 M N Q cells slots 674 := by
  intro kd ad H locs ls C hS hI hJ hl
  obtain ⟨hx, hb, hml, hown, hts, hK, hap, hap2, hsx, hsx2, hnc, hst, hA, hd1, hd2, hX, hbl, hbA, hk0, hLo, hk1, hk3, hk2⟩ := id C
  unfold mlc_16 at hf
  refine lv_aload_n hx hb (dc tbL_law_6_k 29 rfl) rfl (lv_at hl 1 rfl) ?_
  obtain ⟨M3, r2, q1, hf⟩ := cal_s hf
  refine l_calli (g_runV hx hb hml hown hts hK hap hsx hI (tX6_finishedWidth l hk0 q1 H.size) cv_X6_finishedWidth q_t2_182 rfl rfl ⟨Nat.le_of_ble_eq_true rfl, Nat.le_of_ble_eq_true rfl⟩ hk0.1 (by simp) rfl rfl rfl hl.1 rfl (Nat.le_of_ble_eq_true rfl) (dc tbL_law_6_k 30 rfl) ⟨by have := hc.1; show _ ≤ 601024; omega, by have := hc.2; show _ ≤ 7293034; omega⟩) hI hJ hA hd1 (fun H locs hI hJ => ?_)
  refine lv_pop hx hb (dc tbL_law_6_k 31 rfl) rfl ?_
  refine lv_aload_n hx hb (dc tbL_law_6_k 32 rfl) rfl (lv_at hl 2 rfl) ?_
  obtain ⟨N6, r5, q4, hf⟩ := cal_s hf
  refine l_calli (g_runV hx hb hml hown hts hK hap2 hsx2 hJ (tX7_finishedWidth l hk2 q4 H.size) cv_X7_finishedWidth q_t8_147 rfl rfl ⟨Nat.le_of_ble_eq_true rfl, Nat.le_of_ble_eq_true rfl⟩ hk2.1 (by simp) rfl rfl rfl hl.1 rfl (Nat.le_of_ble_eq_true rfl) (dc tbL_law_6_k 33 rfl) ⟨by have := hc.1; show _ ≤ 601024; omega, by have := hc.2; show _ ≤ 7293034; omega⟩) hJ hI hA.symm hd2 (fun H locs hJ hI => ?_)
  refine lv_pop hx hb (dc tbL_law_6_k 34 rfl) rfl ?_
  refine lv_goto (tgt := 1766) hx hb (dc tbL_law_6_k 35 rfl) rfl ?_
  obtain ⟨h7, hf⟩ := chk_s hf
  cases hf
  refine W.widen (k := cells + 64) (n := slots + 4096) (by omega) (by omega) ?_
  exact hk _ _ _ _ _ C (by rw [of_decide_eq_true h7]; exact hS) hI hJ (lv_sub hl [0, 1, 2, 3, 4, 5] rfl)
def mlc_17 (a1 a2 a3 a4 a5 : Int32) (M N : Mem) : Option (Mem × Mem) := cal (mX6_finishedHeight 0 M) (fun M3 r2 => cal (mX7_finishedHeight 135 N) (fun N6 r5 => chk (decide (rd M3 133 0 = rd M 133 0)) (some (M3, N6))))
set_option maxHeartbeats 4000000 in
set_option maxRecDepth 100000 in
theorem lc_17 (hc : cells + 64 ≤ 601024 ∧ slots + 4096 ≤ 7293034) {x5 a0 a1 a2 a3 a4 a5 : Int32} (hs : Sc xs L x5 a0 a1 a2 a3 a4 a5) {M N M' N' : Mem} (hf : mlc_17 a1 a2 a3 a4 a5 M N = some (M', N')) (hk : AtW p l e s m args below meth c L xs G kd' ad' b x5 M' N' Q (cells + 64) (slots + 4096) 1766) : AtW p l e s m args below meth c L xs G kd' ad' b x5 M N Q cells slots 687 := by
  intro kd ad H locs ls C hS hI hJ hl
  obtain ⟨hx, hb, hml, hown, hts, hK, hap, hap2, hsx, hsx2, hnc, hst, hA, hd1, hd2, hX, hbl, hbA, hk0, hLo, hk1, hk3, hk2⟩ := id C
  unfold mlc_17 at hf
  refine lv_aload_n hx hb (dc tbL_law_6_k 36 rfl) rfl (lv_at hl 1 rfl) ?_
  obtain ⟨M3, r2, q1, hf⟩ := cal_s hf
  refine l_calli (g_runV hx hb hml hown hts hK hap hsx hI (tX6_finishedHeight l hk0 q1 H.size) cv_X6_finishedHeight q_t2_208 rfl rfl ⟨Nat.le_of_ble_eq_true rfl, Nat.le_of_ble_eq_true rfl⟩ hk0.1 (by simp) rfl rfl rfl hl.1 rfl (Nat.le_of_ble_eq_true rfl) (dc tbL_law_6_k 37 rfl) ⟨by have := hc.1; show _ ≤ 601024; omega, by have := hc.2; show _ ≤ 7293034; omega⟩) hI hJ hA hd1 (fun H locs hI hJ => ?_)
  refine lv_pop hx hb (dc tbL_law_6_k 38 rfl) rfl ?_
  refine lv_aload_n hx hb (dc tbL_law_6_k 39 rfl) rfl (lv_at hl 2 rfl) ?_
  obtain ⟨N6, r5, q4, hf⟩ := cal_s hf
  refine l_calli (g_runV hx hb hml hown hts hK hap2 hsx2 hJ (tX7_finishedHeight l hk2 q4 H.size) cv_X7_finishedHeight q_t8_167 rfl rfl ⟨Nat.le_of_ble_eq_true rfl, Nat.le_of_ble_eq_true rfl⟩ hk2.1 (by simp) rfl rfl rfl hl.1 rfl (Nat.le_of_ble_eq_true rfl) (dc tbL_law_7_k 0 rfl) ⟨by have := hc.1; show _ ≤ 601024; omega, by have := hc.2; show _ ≤ 7293034; omega⟩) hJ hI hA.symm hd2 (fun H locs hJ hI => ?_)
  refine lv_pop hx hb (dc tbL_law_7_k 1 rfl) rfl ?_
  refine lv_goto (tgt := 1766) hx hb (dc tbL_law_7_k 2 rfl) rfl ?_
  obtain ⟨h7, hf⟩ := chk_s hf
  cases hf
  refine W.widen (k := cells + 64) (n := slots + 4096) (by omega) (by omega) ?_
  exact hk _ _ _ _ _ C (by rw [of_decide_eq_true h7]; exact hS) hI hJ (lv_sub hl [0, 1, 2, 3, 4, 5] rfl)
def mlc_18 (a1 a2 a3 a4 a5 : Int32) (M N : Mem) : Option (Mem × Mem) := cal (mX6_isFinishedCrossed 0 M) (fun M3 r2 => cal (mX7_isFinishedCrossed 135 N) (fun N6 r5 => chk (decide (rd M3 133 0 = rd M 133 0)) (some (M3, N6))))
set_option maxHeartbeats 4000000 in
set_option maxRecDepth 100000 in
theorem lc_18 (hc : cells + 64 ≤ 601024 ∧ slots + 4096 ≤ 7293034) {x5 a0 a1 a2 a3 a4 a5 : Int32} (hs : Sc xs L x5 a0 a1 a2 a3 a4 a5) {M N M' N' : Mem} (hf : mlc_18 a1 a2 a3 a4 a5 M N = some (M', N')) (hk : AtW p l e s m args below meth c L xs G kd' ad' b x5 M' N' Q (cells + 64) (slots + 4096) 1766) : AtW p l e s m args below meth c L xs G kd' ad' b x5 M N Q cells slots 700 := by
  intro kd ad H locs ls C hS hI hJ hl
  obtain ⟨hx, hb, hml, hown, hts, hK, hap, hap2, hsx, hsx2, hnc, hst, hA, hd1, hd2, hX, hbl, hbA, hk0, hLo, hk1, hk3, hk2⟩ := id C
  unfold mlc_18 at hf
  refine lv_aload_n hx hb (dc tbL_law_7_k 3 rfl) rfl (lv_at hl 1 rfl) ?_
  obtain ⟨M3, r2, q1, hf⟩ := cal_s hf
  refine l_calli (g_runV hx hb hml hown hts hK hap hsx hI (tX6_isFinishedCrossed l hk0 q1 H.size) cv_X6_isFinishedCrossed q_t2_212 rfl rfl ⟨Nat.le_of_ble_eq_true rfl, Nat.le_of_ble_eq_true rfl⟩ hk0.1 (by simp) rfl rfl rfl hl.1 rfl (Nat.le_of_ble_eq_true rfl) (dc tbL_law_7_k 4 rfl) ⟨by have := hc.1; show _ ≤ 601024; omega, by have := hc.2; show _ ≤ 7293034; omega⟩) hI hJ hA hd1 (fun H locs hI hJ => ?_)
  refine lv_pop hx hb (dc tbL_law_7_k 5 rfl) rfl ?_
  refine lv_aload_n hx hb (dc tbL_law_7_k 6 rfl) rfl (lv_at hl 2 rfl) ?_
  obtain ⟨N6, r5, q4, hf⟩ := cal_s hf
  refine l_calli (g_runV hx hb hml hown hts hK hap2 hsx2 hJ (tX7_isFinishedCrossed l hk2 q4 H.size) cv_X7_isFinishedCrossed q_t8_171 rfl rfl ⟨Nat.le_of_ble_eq_true rfl, Nat.le_of_ble_eq_true rfl⟩ hk2.1 (by simp) rfl rfl rfl hl.1 rfl (Nat.le_of_ble_eq_true rfl) (dc tbL_law_7_k 7 rfl) ⟨by have := hc.1; show _ ≤ 601024; omega, by have := hc.2; show _ ≤ 7293034; omega⟩) hJ hI hA.symm hd2 (fun H locs hJ hI => ?_)
  refine lv_pop hx hb (dc tbL_law_7_k 8 rfl) rfl ?_
  refine lv_goto (tgt := 1766) hx hb (dc tbL_law_7_k 9 rfl) rfl ?_
  obtain ⟨h7, hf⟩ := chk_s hf
  cases hf
  refine W.widen (k := cells + 64) (n := slots + 4096) (by omega) (by omega) ?_
  exact hk _ _ _ _ _ C (by rw [of_decide_eq_true h7]; exact hS) hI hJ (lv_sub hl [0, 1, 2, 3, 4, 5] rfl)
def mlc_19 (a1 a2 a3 a4 a5 : Int32) (M N : Mem) : Option (Mem × Mem) := calh (mL_finishedCorner 0 152 a1 a2 M) (fun M3 r2 => cal (mX7_finishedCorner 135 a1 a2 N) (fun N6 r5 => chk (decide (rd M3 133 0 = rd M 133 0)) (some (M3, N6))))
set_option maxHeartbeats 4000000 in
set_option maxRecDepth 100000 in
theorem lc_19 (hc : cells + 64 ≤ 601024 ∧ slots + 4096 ≤ 7293034) {x5 a0 a1 a2 a3 a4 a5 : Int32} (hs : Sc xs L x5 a0 a1 a2 a3 a4 a5) {M N M' N' : Mem} (hf : mlc_19 a1 a2 a3 a4 a5 M N = some (M', N')) (hk : AtW p l e s m args below meth c L xs G kd' ad' b x5 M' N' Q (cells + 64) (slots + 4096) 1766) : AtW p l e s m args below meth c L xs G kd' ad' b x5 M N Q cells slots 713 := by
  intro kd ad H locs ls C hS hI hJ hl
  obtain ⟨hx, hb, hml, hown, hts, hK, hap, hap2, hsx, hsx2, hnc, hst, hA, hd1, hd2, hX, hbl, hbA, hk0, hLo, hk1, hk3, hk2⟩ := id C
  unfold mlc_19 at hf
  refine lv_aload_n hx hb (dc tbL_law_7_k 10 rfl) rfl (lv_at hl 1 rfl) ?_
  refine lv_aload_n hx hb (dc tbL_law_7_k 11 rfl) rfl (lv_at hl 0 rfl) ?_
  refine lv_iload hx hb (dc tbL_law_7_k 12 rfl) (lv_at hl 5 rfl) ?_
  refine lv_iconst (v := 1) hx hb (dc tbL_law_7_k 13 rfl) ic_1 ?_
  refine lv_iadd hx hb (dc tbL_law_7_k 14 rfl) ?_
  refine l_sld hx hb hX hbl hbA hI hs.2.1.1 hs.2.1.2 (dc tbL_law_7_k 15 rfl) ?_
  refine lv_aload_n hx hb (dc tbL_law_7_k 16 rfl) rfl (lv_at hl 0 rfl) ?_
  refine lv_iload hx hb (dc tbL_law_7_k 17 rfl) (lv_at hl 5 rfl) ?_
  refine lv_iconst (v := 2) hx hb (dc tbL_law_7_k 18 rfl) ic_2 ?_
  refine lv_iadd hx hb (dc tbL_law_7_k 19 rfl) ?_
  refine l_sld hx hb hX hbl hbA hI hs.2.2.1.1 hs.2.2.1.2 (dc tbL_law_7_k 20 rfl) ?_
  refine lv_aload_n hx hb (dc tbL_law_7_k 21 rfl) rfl (lv_at hl 3 rfl) ?_
  obtain ⟨M3, r2, q1, hf⟩ := calh_s hf
  refine l_callH (g_runH hx hb hml hown hts hK hap hsx hnc hI (tL_finishedCorner l hst hk0 hk1 q1 H.size) ch_L_finishedCorner q_t6_71 rfl rfl ⟨Nat.le_of_ble_eq_true rfl, Nat.le_of_ble_eq_true rfl⟩ rfl hl.1 rfl (Nat.le_of_ble_eq_true rfl) (dc tbL_law_7_k 22 rfl) ⟨by have := hc.1; show _ ≤ 601024; omega, by have := hc.2; show _ ≤ 7293034; omega⟩) hI hJ hA hd1 (fun H locs hI hJ => ?_)
  refine lv_istore (lv' := [(6, .int r2), (0, .ref b), (1, .ref (ad 0)), (2, .ref (ad' 135)), (3, .ref (ad 152)), (4, .ref (ad 153)), (5, .int x5)]) hx hb (dc tbL_law_7_k 23 rfl) hl (by decide) rfl (fun ls hl => ?_)
  refine lv_aload_n hx hb (dc tbL_law_7_k 24 rfl) rfl (lv_at hl 3 rfl) ?_
  refine lv_aload_n hx hb (dc tbL_law_7_k 25 rfl) rfl (lv_at hl 1 rfl) ?_
  refine lv_iload hx hb (dc tbL_law_7_k 26 rfl) (lv_at hl 6 rfl) ?_
  refine lv_iconst (v := 1) hx hb (dc tbL_law_7_k 27 rfl) ic_1 ?_
  refine lv_iadd hx hb (dc tbL_law_7_k 28 rfl) ?_
  refine l_sld hx hb hX hbl hbA hI hs.2.1.1 hs.2.1.2 (dc tbL_law_7_k 29 rfl) ?_
  refine lv_aload_n hx hb (dc tbL_law_7_k 30 rfl) rfl (lv_at hl 1 rfl) ?_
  refine lv_iload hx hb (dc tbL_law_7_k 31 rfl) (lv_at hl 6 rfl) ?_
  refine lv_iconst (v := 2) hx hb (dc tbL_law_7_k 32 rfl) ic_2 ?_
  refine lv_iadd hx hb (dc tbL_law_7_k 33 rfl) ?_
  refine l_sld hx hb hX hbl hbA hI hs.2.2.1.1 hs.2.2.1.2 (dc tbL_law_7_k 34 rfl) ?_
  obtain ⟨N6, r5, q4, hf⟩ := cal_s hf
  refine l_calli (g_runV hx hb hml hown hts hK hap2 hsx2 hJ (tX7_finishedCorner l hk2 q4 H.size) cv_X7_finishedCorner q_t8_182 rfl rfl ⟨Nat.le_of_ble_eq_true rfl, Nat.le_of_ble_eq_true rfl⟩ hk2.1 (by simp) rfl rfl rfl hl.1 rfl (Nat.le_of_ble_eq_true rfl) (dc tbL_law_7_k 35 rfl) ⟨by have := hc.1; show _ ≤ 601024; omega, by have := hc.2; show _ ≤ 7293034; omega⟩) hJ hI hA.symm hd2 (fun H locs hJ hI => ?_)
  refine lv_istore (lv' := [(7, .int r5), (6, .int r2), (0, .ref b), (1, .ref (ad 0)), (2, .ref (ad' 135)), (3, .ref (ad 152)), (4, .ref (ad 153)), (5, .int x5)]) hx hb (dc tbL_law_7_k 36 rfl) hl (by decide) rfl (fun ls hl => ?_)
  refine lv_goto (tgt := 1766) hx hb (dc tbL_law_7_k 37 rfl) rfl ?_
  obtain ⟨h7, hf⟩ := chk_s hf
  cases hf
  refine W.widen (k := cells + 64) (n := slots + 4096) (by omega) (by omega) ?_
  exact hk _ _ _ _ _ C (by rw [of_decide_eq_true h7]; exact hS) hI hJ (lv_sub hl [2, 3, 4, 5, 6, 7] rfl)
def mlc_20 (a1 a2 a3 a4 a5 : Int32) (M N : Mem) : Option (Mem × Mem) := cap (mX6_isSymmetric 0 M) (fun r2 => cal (mX7_isSymmetric 135 N) (fun N6 r5 => some (M, N6)))
set_option maxHeartbeats 4000000 in
set_option maxRecDepth 100000 in
theorem lc_20 (hc : cells + 64 ≤ 601024 ∧ slots + 4096 ≤ 7293034) {x5 a0 a1 a2 a3 a4 a5 : Int32} (hs : Sc xs L x5 a0 a1 a2 a3 a4 a5) {M N M' N' : Mem} (hf : mlc_20 a1 a2 a3 a4 a5 M N = some (M', N')) (hk : AtW p l e s m args below meth c L xs G kd' ad' b x5 M' N' Q (cells + 64) (slots + 4096) 1766) : AtW p l e s m args below meth c L xs G kd' ad' b x5 M N Q cells slots 753 := by
  intro kd ad H locs ls C hS hI hJ hl
  obtain ⟨hx, hb, hml, hown, hts, hK, hap, hap2, hsx, hsx2, hnc, hst, hA, hd1, hd2, hX, hbl, hbA, hk0, hLo, hk1, hk3, hk2⟩ := id C
  unfold mlc_20 at hf
  refine lv_aload_n hx hb (dc tbL_law_7_k 38 rfl) rfl (lv_at hl 1 rfl) ?_
  obtain ⟨r2, q1, hf⟩ := cap_s hf
  refine l_calli (g_runV hx hb hml hown hts hK hap hsx hI (tX6_isSymmetric l hk0 q1 H.size) cv_X6_isSymmetric q_t2_224 rfl rfl ⟨Nat.le_of_ble_eq_true rfl, Nat.le_of_ble_eq_true rfl⟩ hk0.1 (by simp) rfl rfl rfl hl.1 rfl (Nat.le_of_ble_eq_true rfl) (dc tbL_law_7_k 39 rfl) ⟨by have := hc.1; show _ ≤ 601024; omega, by have := hc.2; show _ ≤ 7293034; omega⟩) hI hJ hA hd1 (fun H locs hI hJ => ?_)
  refine lv_pop hx hb (dc tbL_law_8_k 0 rfl) rfl ?_
  refine lv_aload_n hx hb (dc tbL_law_8_k 1 rfl) rfl (lv_at hl 2 rfl) ?_
  obtain ⟨N6, r5, q4, hf⟩ := cal_s hf
  refine l_calli (g_runV hx hb hml hown hts hK hap2 hsx2 hJ (tX7_isSymmetric l hk2 q4 H.size) cv_X7_isSymmetric q_t8_135 rfl rfl ⟨Nat.le_of_ble_eq_true rfl, Nat.le_of_ble_eq_true rfl⟩ hk2.1 (by simp) rfl rfl rfl hl.1 rfl (Nat.le_of_ble_eq_true rfl) (dc tbL_law_8_k 2 rfl) ⟨by have := hc.1; show _ ≤ 601024; omega, by have := hc.2; show _ ≤ 7293034; omega⟩) hJ hI hA.symm hd2 (fun H locs hJ hI => ?_)
  refine lv_pop hx hb (dc tbL_law_8_k 3 rfl) rfl ?_
  refine lv_goto (tgt := 1766) hx hb (dc tbL_law_8_k 4 rfl) rfl ?_
  cases hf
  refine W.widen (k := cells + 64) (n := slots + 4096) (by omega) (by omega) ?_
  exact hk _ _ _ _ _ C hS hI hJ (lv_sub hl [0, 1, 2, 3, 4, 5] rfl)
def mlc_21 (a1 a2 a3 a4 a5 : Int32) (M N : Mem) : Option (Mem × Mem) := cap (mX6_longestLeg 0 M) (fun r2 => cal (mX7_longestLeg 135 N) (fun N6 r5 => some (M, N6)))
set_option maxHeartbeats 4000000 in
set_option maxRecDepth 100000 in
theorem lc_21 (hc : cells + 64 ≤ 601024 ∧ slots + 4096 ≤ 7293034) {x5 a0 a1 a2 a3 a4 a5 : Int32} (hs : Sc xs L x5 a0 a1 a2 a3 a4 a5) {M N M' N' : Mem} (hf : mlc_21 a1 a2 a3 a4 a5 M N = some (M', N')) (hk : AtW p l e s m args below meth c L xs G kd' ad' b x5 M' N' Q (cells + 64) (slots + 4096) 1766) : AtW p l e s m args below meth c L xs G kd' ad' b x5 M N Q cells slots 766 := by
  intro kd ad H locs ls C hS hI hJ hl
  obtain ⟨hx, hb, hml, hown, hts, hK, hap, hap2, hsx, hsx2, hnc, hst, hA, hd1, hd2, hX, hbl, hbA, hk0, hLo, hk1, hk3, hk2⟩ := id C
  unfold mlc_21 at hf
  refine lv_aload_n hx hb (dc tbL_law_8_k 5 rfl) rfl (lv_at hl 1 rfl) ?_
  obtain ⟨r2, q1, hf⟩ := cap_s hf
  refine l_calli (g_runV hx hb hml hown hts hK hap hsx hI (tX6_longestLeg l hk0 q1 H.size) cv_X6_longestLeg q_t2_236 rfl rfl ⟨Nat.le_of_ble_eq_true rfl, Nat.le_of_ble_eq_true rfl⟩ hk0.1 (by simp) rfl rfl rfl hl.1 rfl (Nat.le_of_ble_eq_true rfl) (dc tbL_law_8_k 6 rfl) ⟨by have := hc.1; show _ ≤ 601024; omega, by have := hc.2; show _ ≤ 7293034; omega⟩) hI hJ hA hd1 (fun H locs hI hJ => ?_)
  refine lv_pop hx hb (dc tbL_law_8_k 7 rfl) rfl ?_
  refine lv_aload_n hx hb (dc tbL_law_8_k 8 rfl) rfl (lv_at hl 2 rfl) ?_
  obtain ⟨N6, r5, q4, hf⟩ := cal_s hf
  refine l_calli (g_runV hx hb hml hown hts hK hap2 hsx2 hJ (tX7_longestLeg l hk2 q4 H.size) cv_X7_longestLeg q_t8_143 rfl rfl ⟨Nat.le_of_ble_eq_true rfl, Nat.le_of_ble_eq_true rfl⟩ hk2.1 (by simp) rfl rfl rfl hl.1 rfl (Nat.le_of_ble_eq_true rfl) (dc tbL_law_8_k 9 rfl) ⟨by have := hc.1; show _ ≤ 601024; omega, by have := hc.2; show _ ≤ 7293034; omega⟩) hJ hI hA.symm hd2 (fun H locs hJ hI => ?_)
  refine lv_pop hx hb (dc tbL_law_8_k 10 rfl) rfl ?_
  refine lv_goto (tgt := 1766) hx hb (dc tbL_law_8_k 11 rfl) rfl ?_
  cases hf
  refine W.widen (k := cells + 64) (n := slots + 4096) (by omega) (by omega) ?_
  exact hk _ _ _ _ _ C hS hI hJ (lv_sub hl [0, 1, 2, 3, 4, 5] rfl)
def mlc_22 (a1 a2 a3 a4 a5 : Int32) (M N : Mem) : Option (Mem × Mem) := cap (mX6_made 0 M) (fun r2 => cal (mX7_made 135 N) (fun N6 r5 => some (M, N6)))
set_option maxHeartbeats 4000000 in
set_option maxRecDepth 100000 in
theorem lc_22 (hc : cells + 64 ≤ 601024 ∧ slots + 4096 ≤ 7293034) {x5 a0 a1 a2 a3 a4 a5 : Int32} (hs : Sc xs L x5 a0 a1 a2 a3 a4 a5) {M N M' N' : Mem} (hf : mlc_22 a1 a2 a3 a4 a5 M N = some (M', N')) (hk : AtW p l e s m args below meth c L xs G kd' ad' b x5 M' N' Q (cells + 64) (slots + 4096) 1766) : AtW p l e s m args below meth c L xs G kd' ad' b x5 M N Q cells slots 779 := by
  intro kd ad H locs ls C hS hI hJ hl
  obtain ⟨hx, hb, hml, hown, hts, hK, hap, hap2, hsx, hsx2, hnc, hst, hA, hd1, hd2, hX, hbl, hbA, hk0, hLo, hk1, hk3, hk2⟩ := id C
  unfold mlc_22 at hf
  refine lv_aload_n hx hb (dc tbL_law_8_k 12 rfl) rfl (lv_at hl 1 rfl) ?_
  obtain ⟨r2, q1, hf⟩ := cap_s hf
  refine l_calli (g_runV hx hb hml hown hts hK hap hsx hI (tX6_made l hk0 q1 H.size) cv_X6_made q_t3_0 rfl rfl ⟨Nat.le_of_ble_eq_true rfl, Nat.le_of_ble_eq_true rfl⟩ hk0.1 (by simp) rfl rfl rfl hl.1 rfl (Nat.le_of_ble_eq_true rfl) (dc tbL_law_8_k 13 rfl) ⟨by have := hc.1; show _ ≤ 601024; omega, by have := hc.2; show _ ≤ 7293034; omega⟩) hI hJ hA hd1 (fun H locs hI hJ => ?_)
  refine lv_pop hx hb (dc tbL_law_8_k 14 rfl) rfl ?_
  refine lv_aload_n hx hb (dc tbL_law_8_k 15 rfl) rfl (lv_at hl 2 rfl) ?_
  obtain ⟨N6, r5, q4, hf⟩ := cal_s hf
  refine l_calli (g_runV hx hb hml hown hts hK hap2 hsx2 hJ (tX7_made l hk2 q4 H.size) cv_X7_made q_t8_190 rfl rfl ⟨Nat.le_of_ble_eq_true rfl, Nat.le_of_ble_eq_true rfl⟩ hk2.1 (by simp) rfl rfl rfl hl.1 rfl (Nat.le_of_ble_eq_true rfl) (dc tbL_law_8_k 16 rfl) ⟨by have := hc.1; show _ ≤ 601024; omega, by have := hc.2; show _ ≤ 7293034; omega⟩) hJ hI hA.symm hd2 (fun H locs hJ hI => ?_)
  refine lv_pop hx hb (dc tbL_law_8_k 17 rfl) rfl ?_
  refine lv_goto (tgt := 1766) hx hb (dc tbL_law_8_k 18 rfl) rfl ?_
  cases hf
  refine W.widen (k := cells + 64) (n := slots + 4096) (by omega) (by omega) ?_
  exact hk _ _ _ _ _ C hS hI hJ (lv_sub hl [0, 1, 2, 3, 4, 5] rfl)
def mlc_23 (a1 a2 a3 a4 a5 : Int32) (M N : Mem) : Option (Mem × Mem) := cap (mX6_steps 0 M) (fun r2 => cal (mX7_steps 135 N) (fun N6 r5 => some (M, N6)))
set_option maxHeartbeats 4000000 in
set_option maxRecDepth 100000 in
theorem lc_23 (hc : cells + 64 ≤ 601024 ∧ slots + 4096 ≤ 7293034) {x5 a0 a1 a2 a3 a4 a5 : Int32} (hs : Sc xs L x5 a0 a1 a2 a3 a4 a5) {M N M' N' : Mem} (hf : mlc_23 a1 a2 a3 a4 a5 M N = some (M', N')) (hk : AtW p l e s m args below meth c L xs G kd' ad' b x5 M' N' Q (cells + 64) (slots + 4096) 1766) : AtW p l e s m args below meth c L xs G kd' ad' b x5 M N Q cells slots 792 := by
  intro kd ad H locs ls C hS hI hJ hl
  obtain ⟨hx, hb, hml, hown, hts, hK, hap, hap2, hsx, hsx2, hnc, hst, hA, hd1, hd2, hX, hbl, hbA, hk0, hLo, hk1, hk3, hk2⟩ := id C
  unfold mlc_23 at hf
  refine lv_aload_n hx hb (dc tbL_law_8_k 19 rfl) rfl (lv_at hl 1 rfl) ?_
  obtain ⟨r2, q1, hf⟩ := cap_s hf
  refine l_calli (g_runV hx hb hml hown hts hK hap hsx hI (tX6_steps l hk0 q1 H.size) cv_X6_steps q_t3_4 rfl rfl ⟨Nat.le_of_ble_eq_true rfl, Nat.le_of_ble_eq_true rfl⟩ hk0.1 (by simp) rfl rfl rfl hl.1 rfl (Nat.le_of_ble_eq_true rfl) (dc tbL_law_8_k 20 rfl) ⟨by have := hc.1; show _ ≤ 601024; omega, by have := hc.2; show _ ≤ 7293034; omega⟩) hI hJ hA hd1 (fun H locs hI hJ => ?_)
  refine lv_pop hx hb (dc tbL_law_8_k 21 rfl) rfl ?_
  refine lv_aload_n hx hb (dc tbL_law_8_k 22 rfl) rfl (lv_at hl 2 rfl) ?_
  obtain ⟨N6, r5, q4, hf⟩ := cal_s hf
  refine l_calli (g_runV hx hb hml hown hts hK hap2 hsx2 hJ (tX7_steps l hk2 q4 H.size) cv_X7_steps q_t8_194 rfl rfl ⟨Nat.le_of_ble_eq_true rfl, Nat.le_of_ble_eq_true rfl⟩ hk2.1 (by simp) rfl rfl rfl hl.1 rfl (Nat.le_of_ble_eq_true rfl) (dc tbL_law_8_k 23 rfl) ⟨by have := hc.1; show _ ≤ 601024; omega, by have := hc.2; show _ ≤ 7293034; omega⟩) hJ hI hA.symm hd2 (fun H locs hJ hI => ?_)
  refine lv_pop hx hb (dc tbL_law_8_k 24 rfl) rfl ?_
  refine lv_goto (tgt := 1766) hx hb (dc tbL_law_8_k 25 rfl) rfl ?_
  cases hf
  refine W.widen (k := cells + 64) (n := slots + 4096) (by omega) (by omega) ?_
  exact hk _ _ _ _ _ C hS hI hJ (lv_sub hl [0, 1, 2, 3, 4, 5] rfl)
def mlc_24 (a1 a2 a3 a4 a5 : Int32) (M N : Mem) : Option (Mem × Mem) := calh (mL_step 0 152 a1 a2 M) (fun M3 r2 => cal (mX7_step 135 a1 a2 N) (fun N6 r5 => chk (decide (rd M3 133 0 = rd M 133 0)) (some (M3, N6))))
set_option maxHeartbeats 4000000 in
set_option maxRecDepth 100000 in
theorem lc_24 (hc : cells + 64 ≤ 601024 ∧ slots + 4096 ≤ 7293034) {x5 a0 a1 a2 a3 a4 a5 : Int32} (hs : Sc xs L x5 a0 a1 a2 a3 a4 a5) {M N M' N' : Mem} (hf : mlc_24 a1 a2 a3 a4 a5 M N = some (M', N')) (hk : AtW p l e s m args below meth c L xs G kd' ad' b x5 M' N' Q (cells + 64) (slots + 4096) 1766) : AtW p l e s m args below meth c L xs G kd' ad' b x5 M N Q cells slots 805 := by
  intro kd ad H locs ls C hS hI hJ hl
  obtain ⟨hx, hb, hml, hown, hts, hK, hap, hap2, hsx, hsx2, hnc, hst, hA, hd1, hd2, hX, hbl, hbA, hk0, hLo, hk1, hk3, hk2⟩ := id C
  unfold mlc_24 at hf
  refine lv_aload_n hx hb (dc tbL_law_8_k 26 rfl) rfl (lv_at hl 1 rfl) ?_
  refine lv_aload_n hx hb (dc tbL_law_8_k 27 rfl) rfl (lv_at hl 0 rfl) ?_
  refine lv_iload hx hb (dc tbL_law_8_k 28 rfl) (lv_at hl 5 rfl) ?_
  refine lv_iconst (v := 1) hx hb (dc tbL_law_8_k 29 rfl) ic_1 ?_
  refine lv_iadd hx hb (dc tbL_law_8_k 30 rfl) ?_
  refine l_sld hx hb hX hbl hbA hI hs.2.1.1 hs.2.1.2 (dc tbL_law_8_k 31 rfl) ?_
  refine lv_aload_n hx hb (dc tbL_law_8_k 32 rfl) rfl (lv_at hl 0 rfl) ?_
  refine lv_iload hx hb (dc tbL_law_8_k 33 rfl) (lv_at hl 5 rfl) ?_
  refine lv_iconst (v := 2) hx hb (dc tbL_law_8_k 34 rfl) ic_2 ?_
  refine lv_iadd hx hb (dc tbL_law_8_k 35 rfl) ?_
  refine l_sld hx hb hX hbl hbA hI hs.2.2.1.1 hs.2.2.1.2 (dc tbL_law_8_k 36 rfl) ?_
  refine lv_aload_n hx hb (dc tbL_law_8_k 37 rfl) rfl (lv_at hl 3 rfl) ?_
  obtain ⟨M3, r2, q1, hf⟩ := calh_s hf
  refine l_callH (g_runH hx hb hml hown hts hK hap hsx hnc hI (tL_step l hst hk0 hk1 q1 H.size) ch_L_step q_t6_82 rfl rfl ⟨Nat.le_of_ble_eq_true rfl, Nat.le_of_ble_eq_true rfl⟩ rfl hl.1 rfl (Nat.le_of_ble_eq_true rfl) (dc tbL_law_8_k 38 rfl) ⟨by have := hc.1; show _ ≤ 601024; omega, by have := hc.2; show _ ≤ 7293034; omega⟩) hI hJ hA hd1 (fun H locs hI hJ => ?_)
  refine lv_istore (lv' := [(6, .int r2), (0, .ref b), (1, .ref (ad 0)), (2, .ref (ad' 135)), (3, .ref (ad 152)), (4, .ref (ad 153)), (5, .int x5)]) hx hb (dc tbL_law_8_k 39 rfl) hl (by decide) rfl (fun ls hl => ?_)
  refine lv_aload_n hx hb (dc tbL_law_9_k 0 rfl) rfl (lv_at hl 3 rfl) ?_
  refine lv_aload_n hx hb (dc tbL_law_9_k 1 rfl) rfl (lv_at hl 1 rfl) ?_
  refine lv_iload hx hb (dc tbL_law_9_k 2 rfl) (lv_at hl 6 rfl) ?_
  refine lv_iconst (v := 1) hx hb (dc tbL_law_9_k 3 rfl) ic_1 ?_
  refine lv_iadd hx hb (dc tbL_law_9_k 4 rfl) ?_
  refine l_sld hx hb hX hbl hbA hI hs.2.1.1 hs.2.1.2 (dc tbL_law_9_k 5 rfl) ?_
  refine lv_aload_n hx hb (dc tbL_law_9_k 6 rfl) rfl (lv_at hl 1 rfl) ?_
  refine lv_iload hx hb (dc tbL_law_9_k 7 rfl) (lv_at hl 6 rfl) ?_
  refine lv_iconst (v := 2) hx hb (dc tbL_law_9_k 8 rfl) ic_2 ?_
  refine lv_iadd hx hb (dc tbL_law_9_k 9 rfl) ?_
  refine l_sld hx hb hX hbl hbA hI hs.2.2.1.1 hs.2.2.1.2 (dc tbL_law_9_k 10 rfl) ?_
  obtain ⟨N6, r5, q4, hf⟩ := cal_s hf
  refine l_calli (g_runV hx hb hml hown hts hK hap2 hsx2 hJ (tX7_step l hk2 q4 H.size) cv_X7_step q_t8_198 rfl rfl ⟨Nat.le_of_ble_eq_true rfl, Nat.le_of_ble_eq_true rfl⟩ hk2.1 (by simp) rfl rfl rfl hl.1 rfl (Nat.le_of_ble_eq_true rfl) (dc tbL_law_9_k 11 rfl) ⟨by have := hc.1; show _ ≤ 601024; omega, by have := hc.2; show _ ≤ 7293034; omega⟩) hJ hI hA.symm hd2 (fun H locs hJ hI => ?_)
  refine lv_istore (lv' := [(7, .int r5), (6, .int r2), (0, .ref b), (1, .ref (ad 0)), (2, .ref (ad' 135)), (3, .ref (ad 152)), (4, .ref (ad 153)), (5, .int x5)]) hx hb (dc tbL_law_9_k 12 rfl) hl (by decide) rfl (fun ls hl => ?_)
  refine lv_goto (tgt := 1766) hx hb (dc tbL_law_9_k 13 rfl) rfl ?_
  obtain ⟨h7, hf⟩ := chk_s hf
  cases hf
  refine W.widen (k := cells + 64) (n := slots + 4096) (by omega) (by omega) ?_
  exact hk _ _ _ _ _ C (by rw [of_decide_eq_true h7]; exact hS) hI hJ (lv_sub hl [2, 3, 4, 5, 6, 7] rfl)
def mlc_25 (a1 a2 a3 a4 a5 : Int32) (M N : Mem) : Option (Mem × Mem) := cap (mX6_costSoFar 0 M) (fun r2 => cal (mX7_costSoFar 135 N) (fun N6 r5 => some (M, N6)))
set_option maxHeartbeats 4000000 in
set_option maxRecDepth 100000 in
theorem lc_25 (hc : cells + 64 ≤ 601024 ∧ slots + 4096 ≤ 7293034) {x5 a0 a1 a2 a3 a4 a5 : Int32} (hs : Sc xs L x5 a0 a1 a2 a3 a4 a5) {M N M' N' : Mem} (hf : mlc_25 a1 a2 a3 a4 a5 M N = some (M', N')) (hk : AtW p l e s m args below meth c L xs G kd' ad' b x5 M' N' Q (cells + 64) (slots + 4096) 1766) : AtW p l e s m args below meth c L xs G kd' ad' b x5 M N Q cells slots 845 := by
  intro kd ad H locs ls C hS hI hJ hl
  obtain ⟨hx, hb, hml, hown, hts, hK, hap, hap2, hsx, hsx2, hnc, hst, hA, hd1, hd2, hX, hbl, hbA, hk0, hLo, hk1, hk3, hk2⟩ := id C
  unfold mlc_25 at hf
  refine lv_aload_n hx hb (dc tbL_law_9_k 14 rfl) rfl (lv_at hl 1 rfl) ?_
  obtain ⟨r2, q1, hf⟩ := cap_s hf
  refine l_calli (g_runV hx hb hml hown hts hK hap hsx hI (tX6_costSoFar l hk0 q1 H.size) cv_X6_costSoFar q_t3_8 rfl rfl ⟨Nat.le_of_ble_eq_true rfl, Nat.le_of_ble_eq_true rfl⟩ hk0.1 (by simp) rfl rfl rfl hl.1 rfl (Nat.le_of_ble_eq_true rfl) (dc tbL_law_9_k 15 rfl) ⟨by have := hc.1; show _ ≤ 601024; omega, by have := hc.2; show _ ≤ 7293034; omega⟩) hI hJ hA hd1 (fun H locs hI hJ => ?_)
  refine lv_pop hx hb (dc tbL_law_9_k 16 rfl) rfl ?_
  refine lv_aload_n hx hb (dc tbL_law_9_k 17 rfl) rfl (lv_at hl 2 rfl) ?_
  obtain ⟨N6, r5, q4, hf⟩ := cal_s hf
  refine l_calli (g_runV hx hb hml hown hts hK hap2 hsx2 hJ (tX7_costSoFar l hk2 q4 H.size) cv_X7_costSoFar q_t8_207 rfl rfl ⟨Nat.le_of_ble_eq_true rfl, Nat.le_of_ble_eq_true rfl⟩ hk2.1 (by simp) rfl rfl rfl hl.1 rfl (Nat.le_of_ble_eq_true rfl) (dc tbL_law_9_k 18 rfl) ⟨by have := hc.1; show _ ≤ 601024; omega, by have := hc.2; show _ ≤ 7293034; omega⟩) hJ hI hA.symm hd2 (fun H locs hJ hI => ?_)
  refine lv_pop hx hb (dc tbL_law_9_k 19 rfl) rfl ?_
  refine lv_goto (tgt := 1766) hx hb (dc tbL_law_9_k 20 rfl) rfl ?_
  cases hf
  refine W.widen (k := cells + 64) (n := slots + 4096) (by omega) (by omega) ?_
  exact hk _ _ _ _ _ C hS hI hJ (lv_sub hl [0, 1, 2, 3, 4, 5] rfl)
def mlc_26 (a1 a2 a3 a4 a5 : Int32) (M N : Mem) : Option (Mem × Mem) := calh (mL_reason 0 152 a1 a2 M) (fun M3 r2 => cal (mX7_reason 135 a1 a2 N) (fun N6 r5 => chk (decide (rd M3 133 0 = rd M 133 0)) (some (M3, N6))))
set_option maxHeartbeats 4000000 in
set_option maxRecDepth 100000 in
theorem lc_26 (hc : cells + 64 ≤ 601024 ∧ slots + 4096 ≤ 7293034) {x5 a0 a1 a2 a3 a4 a5 : Int32} (hs : Sc xs L x5 a0 a1 a2 a3 a4 a5) {M N M' N' : Mem} (hf : mlc_26 a1 a2 a3 a4 a5 M N = some (M', N')) (hk : AtW p l e s m args below meth c L xs G kd' ad' b x5 M' N' Q (cells + 64) (slots + 4096) 1766) : AtW p l e s m args below meth c L xs G kd' ad' b x5 M N Q cells slots 858 := by
  intro kd ad H locs ls C hS hI hJ hl
  obtain ⟨hx, hb, hml, hown, hts, hK, hap, hap2, hsx, hsx2, hnc, hst, hA, hd1, hd2, hX, hbl, hbA, hk0, hLo, hk1, hk3, hk2⟩ := id C
  unfold mlc_26 at hf
  refine lv_aload_n hx hb (dc tbL_law_9_k 21 rfl) rfl (lv_at hl 1 rfl) ?_
  refine lv_aload_n hx hb (dc tbL_law_9_k 22 rfl) rfl (lv_at hl 0 rfl) ?_
  refine lv_iload hx hb (dc tbL_law_9_k 23 rfl) (lv_at hl 5 rfl) ?_
  refine lv_iconst (v := 1) hx hb (dc tbL_law_9_k 24 rfl) ic_1 ?_
  refine lv_iadd hx hb (dc tbL_law_9_k 25 rfl) ?_
  refine l_sld hx hb hX hbl hbA hI hs.2.1.1 hs.2.1.2 (dc tbL_law_9_k 26 rfl) ?_
  refine lv_aload_n hx hb (dc tbL_law_9_k 27 rfl) rfl (lv_at hl 0 rfl) ?_
  refine lv_iload hx hb (dc tbL_law_9_k 28 rfl) (lv_at hl 5 rfl) ?_
  refine lv_iconst (v := 2) hx hb (dc tbL_law_9_k 29 rfl) ic_2 ?_
  refine lv_iadd hx hb (dc tbL_law_9_k 30 rfl) ?_
  refine l_sld hx hb hX hbl hbA hI hs.2.2.1.1 hs.2.2.1.2 (dc tbL_law_9_k 31 rfl) ?_
  refine lv_aload_n hx hb (dc tbL_law_9_k 32 rfl) rfl (lv_at hl 3 rfl) ?_
  obtain ⟨M3, r2, q1, hf⟩ := calh_s hf
  refine l_callH (g_runH hx hb hml hown hts hK hap hsx hnc hI (tL_reason l hst hk0 hk1 q1 H.size) ch_L_reason q_t6_90 rfl rfl ⟨Nat.le_of_ble_eq_true rfl, Nat.le_of_ble_eq_true rfl⟩ rfl hl.1 rfl (Nat.le_of_ble_eq_true rfl) (dc tbL_law_9_k 33 rfl) ⟨by have := hc.1; show _ ≤ 601024; omega, by have := hc.2; show _ ≤ 7293034; omega⟩) hI hJ hA hd1 (fun H locs hI hJ => ?_)
  refine lv_istore (lv' := [(6, .int r2), (0, .ref b), (1, .ref (ad 0)), (2, .ref (ad' 135)), (3, .ref (ad 152)), (4, .ref (ad 153)), (5, .int x5)]) hx hb (dc tbL_law_9_k 34 rfl) hl (by decide) rfl (fun ls hl => ?_)
  refine lv_aload_n hx hb (dc tbL_law_9_k 35 rfl) rfl (lv_at hl 3 rfl) ?_
  refine lv_aload_n hx hb (dc tbL_law_9_k 36 rfl) rfl (lv_at hl 1 rfl) ?_
  refine lv_iload hx hb (dc tbL_law_9_k 37 rfl) (lv_at hl 6 rfl) ?_
  refine lv_iconst (v := 1) hx hb (dc tbL_law_9_k 38 rfl) ic_1 ?_
  refine lv_iadd hx hb (dc tbL_law_9_k 39 rfl) ?_
  refine l_sld hx hb hX hbl hbA hI hs.2.1.1 hs.2.1.2 (dc tbL_law_10_k 0 rfl) ?_
  refine lv_aload_n hx hb (dc tbL_law_10_k 1 rfl) rfl (lv_at hl 1 rfl) ?_
  refine lv_iload hx hb (dc tbL_law_10_k 2 rfl) (lv_at hl 6 rfl) ?_
  refine lv_iconst (v := 2) hx hb (dc tbL_law_10_k 3 rfl) ic_2 ?_
  refine lv_iadd hx hb (dc tbL_law_10_k 4 rfl) ?_
  refine l_sld hx hb hX hbl hbA hI hs.2.2.1.1 hs.2.2.1.2 (dc tbL_law_10_k 5 rfl) ?_
  obtain ⟨N6, r5, q4, hf⟩ := cal_s hf
  refine l_calli (g_runV hx hb hml hown hts hK hap2 hsx2 hJ (tX7_reason l hk2 q4 H.size) cv_X7_reason q_t8_215 rfl rfl ⟨Nat.le_of_ble_eq_true rfl, Nat.le_of_ble_eq_true rfl⟩ hk2.1 (by simp) rfl rfl rfl hl.1 rfl (Nat.le_of_ble_eq_true rfl) (dc tbL_law_10_k 6 rfl) ⟨by have := hc.1; show _ ≤ 601024; omega, by have := hc.2; show _ ≤ 7293034; omega⟩) hJ hI hA.symm hd2 (fun H locs hJ hI => ?_)
  refine lv_istore (lv' := [(7, .int r5), (6, .int r2), (0, .ref b), (1, .ref (ad 0)), (2, .ref (ad' 135)), (3, .ref (ad 152)), (4, .ref (ad 153)), (5, .int x5)]) hx hb (dc tbL_law_10_k 7 rfl) hl (by decide) rfl (fun ls hl => ?_)
  refine lv_goto (tgt := 1766) hx hb (dc tbL_law_10_k 8 rfl) rfl ?_
  obtain ⟨h7, hf⟩ := chk_s hf
  cases hf
  refine W.widen (k := cells + 64) (n := slots + 4096) (by omega) (by omega) ?_
  exact hk _ _ _ _ _ C (by rw [of_decide_eq_true h7]; exact hS) hI hJ (lv_sub hl [2, 3, 4, 5, 6, 7] rfl)
def mlc_27 (a1 a2 a3 a4 a5 : Int32) (M N : Mem) : Option (Mem × Mem) := calh (mL_gauge 0 152 a1 a2 M) (fun M3 r2 => cal (mX7_gauge 135 a1 a2 N) (fun N6 r5 => chk (decide (rd M3 133 0 = rd M 133 0)) (some (M3, N6))))
set_option maxHeartbeats 4000000 in
set_option maxRecDepth 100000 in
theorem lc_27 (hc : cells + 64 ≤ 601024 ∧ slots + 4096 ≤ 7293034) {x5 a0 a1 a2 a3 a4 a5 : Int32} (hs : Sc xs L x5 a0 a1 a2 a3 a4 a5) {M N M' N' : Mem} (hf : mlc_27 a1 a2 a3 a4 a5 M N = some (M', N')) (hk : AtW p l e s m args below meth c L xs G kd' ad' b x5 M' N' Q (cells + 64) (slots + 4096) 1766) : AtW p l e s m args below meth c L xs G kd' ad' b x5 M N Q cells slots 898 := by
  intro kd ad H locs ls C hS hI hJ hl
  obtain ⟨hx, hb, hml, hown, hts, hK, hap, hap2, hsx, hsx2, hnc, hst, hA, hd1, hd2, hX, hbl, hbA, hk0, hLo, hk1, hk3, hk2⟩ := id C
  unfold mlc_27 at hf
  refine lv_aload_n hx hb (dc tbL_law_10_k 9 rfl) rfl (lv_at hl 1 rfl) ?_
  refine lv_aload_n hx hb (dc tbL_law_10_k 10 rfl) rfl (lv_at hl 0 rfl) ?_
  refine lv_iload hx hb (dc tbL_law_10_k 11 rfl) (lv_at hl 5 rfl) ?_
  refine lv_iconst (v := 1) hx hb (dc tbL_law_10_k 12 rfl) ic_1 ?_
  refine lv_iadd hx hb (dc tbL_law_10_k 13 rfl) ?_
  refine l_sld hx hb hX hbl hbA hI hs.2.1.1 hs.2.1.2 (dc tbL_law_10_k 14 rfl) ?_
  refine lv_aload_n hx hb (dc tbL_law_10_k 15 rfl) rfl (lv_at hl 0 rfl) ?_
  refine lv_iload hx hb (dc tbL_law_10_k 16 rfl) (lv_at hl 5 rfl) ?_
  refine lv_iconst (v := 2) hx hb (dc tbL_law_10_k 17 rfl) ic_2 ?_
  refine lv_iadd hx hb (dc tbL_law_10_k 18 rfl) ?_
  refine l_sld hx hb hX hbl hbA hI hs.2.2.1.1 hs.2.2.1.2 (dc tbL_law_10_k 19 rfl) ?_
  refine lv_aload_n hx hb (dc tbL_law_10_k 20 rfl) rfl (lv_at hl 3 rfl) ?_
  obtain ⟨M3, r2, q1, hf⟩ := calh_s hf
  refine l_callH (g_runH hx hb hml hown hts hK hap hsx hnc hI (tL_gauge l hst hk0 hk1 q1 H.size) ch_L_gauge q_t6_106 rfl rfl ⟨Nat.le_of_ble_eq_true rfl, Nat.le_of_ble_eq_true rfl⟩ rfl hl.1 rfl (Nat.le_of_ble_eq_true rfl) (dc tbL_law_10_k 21 rfl) ⟨by have := hc.1; show _ ≤ 601024; omega, by have := hc.2; show _ ≤ 7293034; omega⟩) hI hJ hA hd1 (fun H locs hI hJ => ?_)
  refine lv_istore (lv' := [(6, .int r2), (0, .ref b), (1, .ref (ad 0)), (2, .ref (ad' 135)), (3, .ref (ad 152)), (4, .ref (ad 153)), (5, .int x5)]) hx hb (dc tbL_law_10_k 22 rfl) hl (by decide) rfl (fun ls hl => ?_)
  refine lv_aload_n hx hb (dc tbL_law_10_k 23 rfl) rfl (lv_at hl 3 rfl) ?_
  refine lv_aload_n hx hb (dc tbL_law_10_k 24 rfl) rfl (lv_at hl 1 rfl) ?_
  refine lv_iload hx hb (dc tbL_law_10_k 25 rfl) (lv_at hl 6 rfl) ?_
  refine lv_iconst (v := 1) hx hb (dc tbL_law_10_k 26 rfl) ic_1 ?_
  refine lv_iadd hx hb (dc tbL_law_10_k 27 rfl) ?_
  refine l_sld hx hb hX hbl hbA hI hs.2.1.1 hs.2.1.2 (dc tbL_law_10_k 28 rfl) ?_
  refine lv_aload_n hx hb (dc tbL_law_10_k 29 rfl) rfl (lv_at hl 1 rfl) ?_
  refine lv_iload hx hb (dc tbL_law_10_k 30 rfl) (lv_at hl 6 rfl) ?_
  refine lv_iconst (v := 2) hx hb (dc tbL_law_10_k 31 rfl) ic_2 ?_
  refine lv_iadd hx hb (dc tbL_law_10_k 32 rfl) ?_
  refine l_sld hx hb hX hbl hbA hI hs.2.2.1.1 hs.2.2.1.2 (dc tbL_law_10_k 33 rfl) ?_
  obtain ⟨N6, r5, q4, hf⟩ := cal_s hf
  refine l_calli (g_runV hx hb hml hown hts hK hap2 hsx2 hJ (tX7_gauge l hk2 q4 H.size) cv_X7_gauge q_t9_44 rfl rfl ⟨Nat.le_of_ble_eq_true rfl, Nat.le_of_ble_eq_true rfl⟩ hk2.1 (by simp) rfl rfl rfl hl.1 rfl (Nat.le_of_ble_eq_true rfl) (dc tbL_law_10_k 34 rfl) ⟨by have := hc.1; show _ ≤ 601024; omega, by have := hc.2; show _ ≤ 7293034; omega⟩) hJ hI hA.symm hd2 (fun H locs hJ hI => ?_)
  refine lv_istore (lv' := [(7, .int r5), (6, .int r2), (0, .ref b), (1, .ref (ad 0)), (2, .ref (ad' 135)), (3, .ref (ad 152)), (4, .ref (ad 153)), (5, .int x5)]) hx hb (dc tbL_law_10_k 35 rfl) hl (by decide) rfl (fun ls hl => ?_)
  refine lv_goto (tgt := 1766) hx hb (dc tbL_law_10_k 36 rfl) rfl ?_
  obtain ⟨h7, hf⟩ := chk_s hf
  cases hf
  refine W.widen (k := cells + 64) (n := slots + 4096) (by omega) (by omega) ?_
  exact hk _ _ _ _ _ C (by rw [of_decide_eq_true h7]; exact hS) hI hJ (lv_sub hl [2, 3, 4, 5, 6, 7] rfl)
def mlc_28 (a1 a2 a3 a4 a5 : Int32) (M N : Mem) : Option (Mem × Mem) := calh (mL_corner 0 152 a1 a2 a3 a4 M) (fun M3 r2 => cal (mX7_corner 135 a1 a2 a3 a4 N) (fun N6 r5 => chk (decide (rd M3 133 0 = rd M 133 0)) (some (M3, N6))))
set_option maxHeartbeats 4000000 in
set_option maxRecDepth 100000 in
theorem lc_28 (hc : cells + 64 ≤ 601024 ∧ slots + 4096 ≤ 7293034) {x5 a0 a1 a2 a3 a4 a5 : Int32} (hs : Sc xs L x5 a0 a1 a2 a3 a4 a5) {M N M' N' : Mem} (hf : mlc_28 a1 a2 a3 a4 a5 M N = some (M', N')) (hk : AtW p l e s m args below meth c L xs G kd' ad' b x5 M' N' Q (cells + 64) (slots + 4096) 1766) : AtW p l e s m args below meth c L xs G kd' ad' b x5 M N Q cells slots 938 := by
  intro kd ad H locs ls C hS hI hJ hl
  obtain ⟨hx, hb, hml, hown, hts, hK, hap, hap2, hsx, hsx2, hnc, hst, hA, hd1, hd2, hX, hbl, hbA, hk0, hLo, hk1, hk3, hk2⟩ := id C
  unfold mlc_28 at hf
  refine lv_aload_n hx hb (dc tbL_law_10_k 37 rfl) rfl (lv_at hl 1 rfl) ?_
  refine lv_aload_n hx hb (dc tbL_law_10_k 38 rfl) rfl (lv_at hl 0 rfl) ?_
  refine lv_iload hx hb (dc tbL_law_10_k 39 rfl) (lv_at hl 5 rfl) ?_
  refine lv_iconst (v := 1) hx hb (dc tbL_law_11_k 0 rfl) ic_1 ?_
  refine lv_iadd hx hb (dc tbL_law_11_k 1 rfl) ?_
  refine l_sld hx hb hX hbl hbA hI hs.2.1.1 hs.2.1.2 (dc tbL_law_11_k 2 rfl) ?_
  refine lv_aload_n hx hb (dc tbL_law_11_k 3 rfl) rfl (lv_at hl 0 rfl) ?_
  refine lv_iload hx hb (dc tbL_law_11_k 4 rfl) (lv_at hl 5 rfl) ?_
  refine lv_iconst (v := 2) hx hb (dc tbL_law_11_k 5 rfl) ic_2 ?_
  refine lv_iadd hx hb (dc tbL_law_11_k 6 rfl) ?_
  refine l_sld hx hb hX hbl hbA hI hs.2.2.1.1 hs.2.2.1.2 (dc tbL_law_11_k 7 rfl) ?_
  refine lv_aload_n hx hb (dc tbL_law_11_k 8 rfl) rfl (lv_at hl 0 rfl) ?_
  refine lv_iload hx hb (dc tbL_law_11_k 9 rfl) (lv_at hl 5 rfl) ?_
  refine lv_iconst (v := 3) hx hb (dc tbL_law_11_k 10 rfl) ic_3 ?_
  refine lv_iadd hx hb (dc tbL_law_11_k 11 rfl) ?_
  refine l_sld hx hb hX hbl hbA hI hs.2.2.2.1.1 hs.2.2.2.1.2 (dc tbL_law_11_k 12 rfl) ?_
  refine lv_aload_n hx hb (dc tbL_law_11_k 13 rfl) rfl (lv_at hl 0 rfl) ?_
  refine lv_iload hx hb (dc tbL_law_11_k 14 rfl) (lv_at hl 5 rfl) ?_
  refine lv_iconst (v := 4) hx hb (dc tbL_law_11_k 15 rfl) ic_4 ?_
  refine lv_iadd hx hb (dc tbL_law_11_k 16 rfl) ?_
  refine l_sld hx hb hX hbl hbA hI hs.2.2.2.2.1.1 hs.2.2.2.2.1.2 (dc tbL_law_11_k 17 rfl) ?_
  refine lv_aload_n hx hb (dc tbL_law_11_k 18 rfl) rfl (lv_at hl 3 rfl) ?_
  obtain ⟨M3, r2, q1, hf⟩ := calh_s hf
  refine l_callH (g_runH hx hb hml hown hts hK hap hsx hnc hI (tL_corner l hst hk0 hk1 q1 H.size) ch_L_corner q_t6_119 rfl rfl ⟨Nat.le_of_ble_eq_true rfl, Nat.le_of_ble_eq_true rfl⟩ rfl hl.1 rfl (Nat.le_of_ble_eq_true rfl) (dc tbL_law_11_k 19 rfl) ⟨by have := hc.1; show _ ≤ 601024; omega, by have := hc.2; show _ ≤ 7293034; omega⟩) hI hJ hA hd1 (fun H locs hI hJ => ?_)
  refine lv_istore (lv' := [(6, .int r2), (0, .ref b), (1, .ref (ad 0)), (2, .ref (ad' 135)), (3, .ref (ad 152)), (4, .ref (ad 153)), (5, .int x5)]) hx hb (dc tbL_law_11_k 20 rfl) hl (by decide) rfl (fun ls hl => ?_)
  refine lv_aload_n hx hb (dc tbL_law_11_k 21 rfl) rfl (lv_at hl 3 rfl) ?_
  refine lv_aload_n hx hb (dc tbL_law_11_k 22 rfl) rfl (lv_at hl 1 rfl) ?_
  refine lv_iload hx hb (dc tbL_law_11_k 23 rfl) (lv_at hl 6 rfl) ?_
  refine lv_iconst (v := 1) hx hb (dc tbL_law_11_k 24 rfl) ic_1 ?_
  refine lv_iadd hx hb (dc tbL_law_11_k 25 rfl) ?_
  refine l_sld hx hb hX hbl hbA hI hs.2.1.1 hs.2.1.2 (dc tbL_law_11_k 26 rfl) ?_
  refine lv_aload_n hx hb (dc tbL_law_11_k 27 rfl) rfl (lv_at hl 1 rfl) ?_
  refine lv_iload hx hb (dc tbL_law_11_k 28 rfl) (lv_at hl 6 rfl) ?_
  refine lv_iconst (v := 2) hx hb (dc tbL_law_11_k 29 rfl) ic_2 ?_
  refine lv_iadd hx hb (dc tbL_law_11_k 30 rfl) ?_
  refine l_sld hx hb hX hbl hbA hI hs.2.2.1.1 hs.2.2.1.2 (dc tbL_law_11_k 31 rfl) ?_
  refine lv_aload_n hx hb (dc tbL_law_11_k 32 rfl) rfl (lv_at hl 1 rfl) ?_
  refine lv_iload hx hb (dc tbL_law_11_k 33 rfl) (lv_at hl 6 rfl) ?_
  refine lv_iconst (v := 3) hx hb (dc tbL_law_11_k 34 rfl) ic_3 ?_
  refine lv_iadd hx hb (dc tbL_law_11_k 35 rfl) ?_
  refine l_sld hx hb hX hbl hbA hI hs.2.2.2.1.1 hs.2.2.2.1.2 (dc tbL_law_11_k 36 rfl) ?_
  refine lv_aload_n hx hb (dc tbL_law_11_k 37 rfl) rfl (lv_at hl 1 rfl) ?_
  refine lv_iload hx hb (dc tbL_law_11_k 38 rfl) (lv_at hl 6 rfl) ?_
  refine lv_iconst (v := 4) hx hb (dc tbL_law_11_k 39 rfl) ic_4 ?_
  refine lv_iadd hx hb (dc tbL_law_12_k 0 rfl) ?_
  refine l_sld hx hb hX hbl hbA hI hs.2.2.2.2.1.1 hs.2.2.2.2.1.2 (dc tbL_law_12_k 1 rfl) ?_
  obtain ⟨N6, r5, q4, hf⟩ := cal_s hf
  refine l_calli (g_runV hx hb hml hown hts hK hap2 hsx2 hJ (tX7_corner l hk2 q4 H.size) cv_X7_corner q_t9_52 rfl rfl ⟨Nat.le_of_ble_eq_true rfl, Nat.le_of_ble_eq_true rfl⟩ hk2.1 (by simp) rfl rfl rfl hl.1 rfl (Nat.le_of_ble_eq_true rfl) (dc tbL_law_12_k 2 rfl) ⟨by have := hc.1; show _ ≤ 601024; omega, by have := hc.2; show _ ≤ 7293034; omega⟩) hJ hI hA.symm hd2 (fun H locs hJ hI => ?_)
  refine lv_istore (lv' := [(7, .int r5), (6, .int r2), (0, .ref b), (1, .ref (ad 0)), (2, .ref (ad' 135)), (3, .ref (ad 152)), (4, .ref (ad 153)), (5, .int x5)]) hx hb (dc tbL_law_12_k 3 rfl) hl (by decide) rfl (fun ls hl => ?_)
  refine lv_goto (tgt := 1766) hx hb (dc tbL_law_12_k 4 rfl) rfl ?_
  obtain ⟨h7, hf⟩ := chk_s hf
  cases hf
  refine W.widen (k := cells + 64) (n := slots + 4096) (by omega) (by omega) ?_
  exact hk _ _ _ _ _ C (by rw [of_decide_eq_true h7]; exact hS) hI hJ (lv_sub hl [2, 3, 4, 5, 6, 7] rfl)
def mlc_29 (a1 a2 a3 a4 a5 : Int32) (M N : Mem) : Option (Mem × Mem) := calh (mL_top 0 152 a1 a2 M) (fun M3 r2 => cal (mX7_top 135 a1 a2 N) (fun N6 r5 => chk (decide (rd M3 133 0 = rd M 133 0)) (some (M3, N6))))
set_option maxHeartbeats 4000000 in
set_option maxRecDepth 100000 in
theorem lc_29 (hc : cells + 64 ≤ 601024 ∧ slots + 4096 ≤ 7293034) {x5 a0 a1 a2 a3 a4 a5 : Int32} (hs : Sc xs L x5 a0 a1 a2 a3 a4 a5) {M N M' N' : Mem} (hf : mlc_29 a1 a2 a3 a4 a5 M N = some (M', N')) (hk : AtW p l e s m args below meth c L xs G kd' ad' b x5 M' N' Q (cells + 64) (slots + 4096) 1766) : AtW p l e s m args below meth c L xs G kd' ad' b x5 M N Q cells slots 1002 := by
  intro kd ad H locs ls C hS hI hJ hl
  obtain ⟨hx, hb, hml, hown, hts, hK, hap, hap2, hsx, hsx2, hnc, hst, hA, hd1, hd2, hX, hbl, hbA, hk0, hLo, hk1, hk3, hk2⟩ := id C
  unfold mlc_29 at hf
  refine lv_aload_n hx hb (dc tbL_law_12_k 5 rfl) rfl (lv_at hl 1 rfl) ?_
  refine lv_aload_n hx hb (dc tbL_law_12_k 6 rfl) rfl (lv_at hl 0 rfl) ?_
  refine lv_iload hx hb (dc tbL_law_12_k 7 rfl) (lv_at hl 5 rfl) ?_
  refine lv_iconst (v := 1) hx hb (dc tbL_law_12_k 8 rfl) ic_1 ?_
  refine lv_iadd hx hb (dc tbL_law_12_k 9 rfl) ?_
  refine l_sld hx hb hX hbl hbA hI hs.2.1.1 hs.2.1.2 (dc tbL_law_12_k 10 rfl) ?_
  refine lv_aload_n hx hb (dc tbL_law_12_k 11 rfl) rfl (lv_at hl 0 rfl) ?_
  refine lv_iload hx hb (dc tbL_law_12_k 12 rfl) (lv_at hl 5 rfl) ?_
  refine lv_iconst (v := 2) hx hb (dc tbL_law_12_k 13 rfl) ic_2 ?_
  refine lv_iadd hx hb (dc tbL_law_12_k 14 rfl) ?_
  refine l_sld hx hb hX hbl hbA hI hs.2.2.1.1 hs.2.2.1.2 (dc tbL_law_12_k 15 rfl) ?_
  refine lv_aload_n hx hb (dc tbL_law_12_k 16 rfl) rfl (lv_at hl 3 rfl) ?_
  obtain ⟨M3, r2, q1, hf⟩ := calh_s hf
  refine l_callH (g_runH hx hb hml hown hts hK hap hsx hnc hI (tL_top l hst hk0 hk1 q1 H.size) ch_L_top q_t6_126 rfl rfl ⟨Nat.le_of_ble_eq_true rfl, Nat.le_of_ble_eq_true rfl⟩ rfl hl.1 rfl (Nat.le_of_ble_eq_true rfl) (dc tbL_law_12_k 17 rfl) ⟨by have := hc.1; show _ ≤ 601024; omega, by have := hc.2; show _ ≤ 7293034; omega⟩) hI hJ hA hd1 (fun H locs hI hJ => ?_)
  refine lv_istore (lv' := [(6, .int r2), (0, .ref b), (1, .ref (ad 0)), (2, .ref (ad' 135)), (3, .ref (ad 152)), (4, .ref (ad 153)), (5, .int x5)]) hx hb (dc tbL_law_12_k 18 rfl) hl (by decide) rfl (fun ls hl => ?_)
  refine lv_aload_n hx hb (dc tbL_law_12_k 19 rfl) rfl (lv_at hl 3 rfl) ?_
  refine lv_aload_n hx hb (dc tbL_law_12_k 20 rfl) rfl (lv_at hl 1 rfl) ?_
  refine lv_iload hx hb (dc tbL_law_12_k 21 rfl) (lv_at hl 6 rfl) ?_
  refine lv_iconst (v := 1) hx hb (dc tbL_law_12_k 22 rfl) ic_1 ?_
  refine lv_iadd hx hb (dc tbL_law_12_k 23 rfl) ?_
  refine l_sld hx hb hX hbl hbA hI hs.2.1.1 hs.2.1.2 (dc tbL_law_12_k 24 rfl) ?_
  refine lv_aload_n hx hb (dc tbL_law_12_k 25 rfl) rfl (lv_at hl 1 rfl) ?_
  refine lv_iload hx hb (dc tbL_law_12_k 26 rfl) (lv_at hl 6 rfl) ?_
  refine lv_iconst (v := 2) hx hb (dc tbL_law_12_k 27 rfl) ic_2 ?_
  refine lv_iadd hx hb (dc tbL_law_12_k 28 rfl) ?_
  refine l_sld hx hb hX hbl hbA hI hs.2.2.1.1 hs.2.2.1.2 (dc tbL_law_12_k 29 rfl) ?_
  obtain ⟨N6, r5, q4, hf⟩ := cal_s hf
  refine l_calli (g_runV hx hb hml hown hts hK hap2 hsx2 hJ (tX7_top l hk2 q4 H.size) cv_X7_top q_t9_56 rfl rfl ⟨Nat.le_of_ble_eq_true rfl, Nat.le_of_ble_eq_true rfl⟩ hk2.1 (by simp) rfl rfl rfl hl.1 rfl (Nat.le_of_ble_eq_true rfl) (dc tbL_law_12_k 30 rfl) ⟨by have := hc.1; show _ ≤ 601024; omega, by have := hc.2; show _ ≤ 7293034; omega⟩) hJ hI hA.symm hd2 (fun H locs hJ hI => ?_)
  refine lv_istore (lv' := [(7, .int r5), (6, .int r2), (0, .ref b), (1, .ref (ad 0)), (2, .ref (ad' 135)), (3, .ref (ad 152)), (4, .ref (ad 153)), (5, .int x5)]) hx hb (dc tbL_law_12_k 31 rfl) hl (by decide) rfl (fun ls hl => ?_)
  refine lv_goto (tgt := 1766) hx hb (dc tbL_law_12_k 32 rfl) rfl ?_
  obtain ⟨h7, hf⟩ := chk_s hf
  cases hf
  refine W.widen (k := cells + 64) (n := slots + 4096) (by omega) (by omega) ?_
  exact hk _ _ _ _ _ C (by rw [of_decide_eq_true h7]; exact hS) hI hJ (lv_sub hl [2, 3, 4, 5, 6, 7] rfl)
def mlc_30 (a1 a2 a3 a4 a5 : Int32) (M N : Mem) : Option (Mem × Mem) := calh (mL_hitting 0 152 a1 a2 M) (fun M3 r2 => cal (mX7_hitting 135 a1 a2 N) (fun N6 r5 => chk (decide (rd M3 133 0 = rd M 133 0)) (some (M3, N6))))
set_option maxHeartbeats 4000000 in
set_option maxRecDepth 100000 in
theorem lc_30 (hc : cells + 64 ≤ 601024 ∧ slots + 4096 ≤ 7293034) {x5 a0 a1 a2 a3 a4 a5 : Int32} (hs : Sc xs L x5 a0 a1 a2 a3 a4 a5) {M N M' N' : Mem} (hf : mlc_30 a1 a2 a3 a4 a5 M N = some (M', N')) (hk : AtW p l e s m args below meth c L xs G kd' ad' b x5 M' N' Q (cells + 64) (slots + 4096) 1766) : AtW p l e s m args below meth c L xs G kd' ad' b x5 M N Q cells slots 1042 := by
  intro kd ad H locs ls C hS hI hJ hl
  obtain ⟨hx, hb, hml, hown, hts, hK, hap, hap2, hsx, hsx2, hnc, hst, hA, hd1, hd2, hX, hbl, hbA, hk0, hLo, hk1, hk3, hk2⟩ := id C
  unfold mlc_30 at hf
  refine lv_aload_n hx hb (dc tbL_law_12_k 33 rfl) rfl (lv_at hl 1 rfl) ?_
  refine lv_aload_n hx hb (dc tbL_law_12_k 34 rfl) rfl (lv_at hl 0 rfl) ?_
  refine lv_iload hx hb (dc tbL_law_12_k 35 rfl) (lv_at hl 5 rfl) ?_
  refine lv_iconst (v := 1) hx hb (dc tbL_law_12_k 36 rfl) ic_1 ?_
  refine lv_iadd hx hb (dc tbL_law_12_k 37 rfl) ?_
  refine l_sld hx hb hX hbl hbA hI hs.2.1.1 hs.2.1.2 (dc tbL_law_12_k 38 rfl) ?_
  refine lv_aload_n hx hb (dc tbL_law_12_k 39 rfl) rfl (lv_at hl 0 rfl) ?_
  refine lv_iload hx hb (dc tbL_law_13_k 0 rfl) (lv_at hl 5 rfl) ?_
  refine lv_iconst (v := 2) hx hb (dc tbL_law_13_k 1 rfl) ic_2 ?_
  refine lv_iadd hx hb (dc tbL_law_13_k 2 rfl) ?_
  refine l_sld hx hb hX hbl hbA hI hs.2.2.1.1 hs.2.2.1.2 (dc tbL_law_13_k 3 rfl) ?_
  refine lv_aload_n hx hb (dc tbL_law_13_k 4 rfl) rfl (lv_at hl 3 rfl) ?_
  obtain ⟨M3, r2, q1, hf⟩ := calh_s hf
  refine l_callH (g_runH hx hb hml hown hts hK hap hsx hnc hI (tL_hitting l hst hk0 hk1 q1 H.size) ch_L_hitting q_t6_137 rfl rfl ⟨Nat.le_of_ble_eq_true rfl, Nat.le_of_ble_eq_true rfl⟩ rfl hl.1 rfl (Nat.le_of_ble_eq_true rfl) (dc tbL_law_13_k 5 rfl) ⟨by have := hc.1; show _ ≤ 601024; omega, by have := hc.2; show _ ≤ 7293034; omega⟩) hI hJ hA hd1 (fun H locs hI hJ => ?_)
  refine lv_istore (lv' := [(6, .int r2), (0, .ref b), (1, .ref (ad 0)), (2, .ref (ad' 135)), (3, .ref (ad 152)), (4, .ref (ad 153)), (5, .int x5)]) hx hb (dc tbL_law_13_k 6 rfl) hl (by decide) rfl (fun ls hl => ?_)
  refine lv_aload_n hx hb (dc tbL_law_13_k 7 rfl) rfl (lv_at hl 3 rfl) ?_
  refine lv_aload_n hx hb (dc tbL_law_13_k 8 rfl) rfl (lv_at hl 1 rfl) ?_
  refine lv_iload hx hb (dc tbL_law_13_k 9 rfl) (lv_at hl 6 rfl) ?_
  refine lv_iconst (v := 1) hx hb (dc tbL_law_13_k 10 rfl) ic_1 ?_
  refine lv_iadd hx hb (dc tbL_law_13_k 11 rfl) ?_
  refine l_sld hx hb hX hbl hbA hI hs.2.1.1 hs.2.1.2 (dc tbL_law_13_k 12 rfl) ?_
  refine lv_aload_n hx hb (dc tbL_law_13_k 13 rfl) rfl (lv_at hl 1 rfl) ?_
  refine lv_iload hx hb (dc tbL_law_13_k 14 rfl) (lv_at hl 6 rfl) ?_
  refine lv_iconst (v := 2) hx hb (dc tbL_law_13_k 15 rfl) ic_2 ?_
  refine lv_iadd hx hb (dc tbL_law_13_k 16 rfl) ?_
  refine l_sld hx hb hX hbl hbA hI hs.2.2.1.1 hs.2.2.1.2 (dc tbL_law_13_k 17 rfl) ?_
  obtain ⟨N6, r5, q4, hf⟩ := cal_s hf
  refine l_calli (g_runV hx hb hml hown hts hK hap2 hsx2 hJ (tX7_hitting l hk2 q4 H.size) cv_X7_hitting q_t9_60 rfl rfl ⟨Nat.le_of_ble_eq_true rfl, Nat.le_of_ble_eq_true rfl⟩ hk2.1 (by simp) rfl rfl rfl hl.1 rfl (Nat.le_of_ble_eq_true rfl) (dc tbL_law_13_k 18 rfl) ⟨by have := hc.1; show _ ≤ 601024; omega, by have := hc.2; show _ ≤ 7293034; omega⟩) hJ hI hA.symm hd2 (fun H locs hJ hI => ?_)
  refine lv_istore (lv' := [(7, .int r5), (6, .int r2), (0, .ref b), (1, .ref (ad 0)), (2, .ref (ad' 135)), (3, .ref (ad 152)), (4, .ref (ad 153)), (5, .int x5)]) hx hb (dc tbL_law_13_k 19 rfl) hl (by decide) rfl (fun ls hl => ?_)
  refine lv_goto (tgt := 1766) hx hb (dc tbL_law_13_k 20 rfl) rfl ?_
  obtain ⟨h7, hf⟩ := chk_s hf
  cases hf
  refine W.widen (k := cells + 64) (n := slots + 4096) (by omega) (by omega) ?_
  exact hk _ _ _ _ _ C (by rw [of_decide_eq_true h7]; exact hS) hI hJ (lv_sub hl [2, 3, 4, 5, 6, 7] rfl)
def mlc_31 (a1 a2 a3 a4 a5 : Int32) (M N : Mem) : Option (Mem × Mem) := calh (mL_refused 0 152 a1 M) (fun M3 r2 => cal (mX7_refused 135 a1 N) (fun N6 r5 => chk (decide (rd M3 133 0 = rd M 133 0)) (some (M3, N6))))
set_option maxHeartbeats 4000000 in
set_option maxRecDepth 100000 in
theorem lc_31 (hc : cells + 64 ≤ 601024 ∧ slots + 4096 ≤ 7293034) {x5 a0 a1 a2 a3 a4 a5 : Int32} (hs : Sc xs L x5 a0 a1 a2 a3 a4 a5) {M N M' N' : Mem} (hf : mlc_31 a1 a2 a3 a4 a5 M N = some (M', N')) (hk : AtW p l e s m args below meth c L xs G kd' ad' b x5 M' N' Q (cells + 64) (slots + 4096) 1766) : AtW p l e s m args below meth c L xs G kd' ad' b x5 M N Q cells slots 1082 := by
  intro kd ad H locs ls C hS hI hJ hl
  obtain ⟨hx, hb, hml, hown, hts, hK, hap, hap2, hsx, hsx2, hnc, hst, hA, hd1, hd2, hX, hbl, hbA, hk0, hLo, hk1, hk3, hk2⟩ := id C
  unfold mlc_31 at hf
  refine lv_aload_n hx hb (dc tbL_law_13_k 21 rfl) rfl (lv_at hl 1 rfl) ?_
  refine lv_aload_n hx hb (dc tbL_law_13_k 22 rfl) rfl (lv_at hl 0 rfl) ?_
  refine lv_iload hx hb (dc tbL_law_13_k 23 rfl) (lv_at hl 5 rfl) ?_
  refine lv_iconst (v := 1) hx hb (dc tbL_law_13_k 24 rfl) ic_1 ?_
  refine lv_iadd hx hb (dc tbL_law_13_k 25 rfl) ?_
  refine l_sld hx hb hX hbl hbA hI hs.2.1.1 hs.2.1.2 (dc tbL_law_13_k 26 rfl) ?_
  refine lv_aload_n hx hb (dc tbL_law_13_k 27 rfl) rfl (lv_at hl 3 rfl) ?_
  obtain ⟨M3, r2, q1, hf⟩ := calh_s hf
  refine l_callH (g_runH hx hb hml hown hts hK hap hsx hnc hI (tL_refused l hst hk0 hk1 q1 H.size) ch_L_refused q_t6_145 rfl rfl ⟨Nat.le_of_ble_eq_true rfl, Nat.le_of_ble_eq_true rfl⟩ rfl hl.1 rfl (Nat.le_of_ble_eq_true rfl) (dc tbL_law_13_k 28 rfl) ⟨by have := hc.1; show _ ≤ 601024; omega, by have := hc.2; show _ ≤ 7293034; omega⟩) hI hJ hA hd1 (fun H locs hI hJ => ?_)
  refine lv_istore (lv' := [(6, .int r2), (0, .ref b), (1, .ref (ad 0)), (2, .ref (ad' 135)), (3, .ref (ad 152)), (4, .ref (ad 153)), (5, .int x5)]) hx hb (dc tbL_law_13_k 29 rfl) hl (by decide) rfl (fun ls hl => ?_)
  refine lv_aload_n hx hb (dc tbL_law_13_k 30 rfl) rfl (lv_at hl 3 rfl) ?_
  refine lv_aload_n hx hb (dc tbL_law_13_k 31 rfl) rfl (lv_at hl 1 rfl) ?_
  refine lv_iload hx hb (dc tbL_law_13_k 32 rfl) (lv_at hl 6 rfl) ?_
  refine lv_iconst (v := 1) hx hb (dc tbL_law_13_k 33 rfl) ic_1 ?_
  refine lv_iadd hx hb (dc tbL_law_13_k 34 rfl) ?_
  refine l_sld hx hb hX hbl hbA hI hs.2.1.1 hs.2.1.2 (dc tbL_law_13_k 35 rfl) ?_
  obtain ⟨N6, r5, q4, hf⟩ := cal_s hf
  refine l_calli (g_runV hx hb hml hown hts hK hap2 hsx2 hJ (tX7_refused l hk2 q4 H.size) cv_X7_refused q_t9_64 rfl rfl ⟨Nat.le_of_ble_eq_true rfl, Nat.le_of_ble_eq_true rfl⟩ hk2.1 (by simp) rfl rfl rfl hl.1 rfl (Nat.le_of_ble_eq_true rfl) (dc tbL_law_13_k 36 rfl) ⟨by have := hc.1; show _ ≤ 601024; omega, by have := hc.2; show _ ≤ 7293034; omega⟩) hJ hI hA.symm hd2 (fun H locs hJ hI => ?_)
  refine lv_istore (lv' := [(7, .int r5), (6, .int r2), (0, .ref b), (1, .ref (ad 0)), (2, .ref (ad' 135)), (3, .ref (ad 152)), (4, .ref (ad 153)), (5, .int x5)]) hx hb (dc tbL_law_13_k 37 rfl) hl (by decide) rfl (fun ls hl => ?_)
  refine lv_goto (tgt := 1766) hx hb (dc tbL_law_13_k 38 rfl) rfl ?_
  obtain ⟨h7, hf⟩ := chk_s hf
  cases hf
  refine W.widen (k := cells + 64) (n := slots + 4096) (by omega) (by omega) ?_
  exact hk _ _ _ _ _ C (by rw [of_decide_eq_true h7]; exact hS) hI hJ (lv_sub hl [2, 3, 4, 5, 6, 7] rfl)
def mlc_32 (a1 a2 a3 a4 a5 : Int32) (M N : Mem) : Option (Mem × Mem) := cal (mX6_possible 0 M) (fun M3 r2 => cal (mX7_possible 135 N) (fun N6 r5 => chk (decide (rd M3 133 0 = rd M 133 0)) (some (M3, N6))))
set_option maxHeartbeats 4000000 in
set_option maxRecDepth 100000 in
theorem lc_32 (hc : cells + 64 ≤ 601024 ∧ slots + 4096 ≤ 7293034) {x5 a0 a1 a2 a3 a4 a5 : Int32} (hs : Sc xs L x5 a0 a1 a2 a3 a4 a5) {M N M' N' : Mem} (hf : mlc_32 a1 a2 a3 a4 a5 M N = some (M', N')) (hk : AtW p l e s m args below meth c L xs G kd' ad' b x5 M' N' Q (cells + 64) (slots + 4096) 1766) : AtW p l e s m args below meth c L xs G kd' ad' b x5 M N Q cells slots 1110 := by
  intro kd ad H locs ls C hS hI hJ hl
  obtain ⟨hx, hb, hml, hown, hts, hK, hap, hap2, hsx, hsx2, hnc, hst, hA, hd1, hd2, hX, hbl, hbA, hk0, hLo, hk1, hk3, hk2⟩ := id C
  unfold mlc_32 at hf
  refine lv_aload_n hx hb (dc tbL_law_13_k 39 rfl) rfl (lv_at hl 1 rfl) ?_
  obtain ⟨M3, r2, q1, hf⟩ := cal_s hf
  refine l_calli (g_runV hx hb hml hown hts hK hap hsx hI (tX6_possible l hk0 q1 H.size) cv_X6_possible q_t3_16 rfl rfl ⟨Nat.le_of_ble_eq_true rfl, Nat.le_of_ble_eq_true rfl⟩ hk0.1 (by simp) rfl rfl rfl hl.1 rfl (Nat.le_of_ble_eq_true rfl) (dc tbL_law_14_k 0 rfl) ⟨by have := hc.1; show _ ≤ 601024; omega, by have := hc.2; show _ ≤ 7293034; omega⟩) hI hJ hA hd1 (fun H locs hI hJ => ?_)
  refine lv_pop hx hb (dc tbL_law_14_k 1 rfl) rfl ?_
  refine lv_aload_n hx hb (dc tbL_law_14_k 2 rfl) rfl (lv_at hl 2 rfl) ?_
  obtain ⟨N6, r5, q4, hf⟩ := cal_s hf
  refine l_calli (g_runV hx hb hml hown hts hK hap2 hsx2 hJ (tX7_possible l hk2 q4 H.size) cv_X7_possible q_t9_69 rfl rfl ⟨Nat.le_of_ble_eq_true rfl, Nat.le_of_ble_eq_true rfl⟩ hk2.1 (by simp) rfl rfl rfl hl.1 rfl (Nat.le_of_ble_eq_true rfl) (dc tbL_law_14_k 3 rfl) ⟨by have := hc.1; show _ ≤ 601024; omega, by have := hc.2; show _ ≤ 7293034; omega⟩) hJ hI hA.symm hd2 (fun H locs hJ hI => ?_)
  refine lv_pop hx hb (dc tbL_law_14_k 4 rfl) rfl ?_
  refine lv_goto (tgt := 1766) hx hb (dc tbL_law_14_k 5 rfl) rfl ?_
  obtain ⟨h7, hf⟩ := chk_s hf
  cases hf
  refine W.widen (k := cells + 64) (n := slots + 4096) (by omega) (by omega) ?_
  exact hk _ _ _ _ _ C (by rw [of_decide_eq_true h7]; exact hS) hI hJ (lv_sub hl [0, 1, 2, 3, 4, 5] rfl)
def mlc_33 (a1 a2 a3 a4 a5 : Int32) (M N : Mem) : Option (Mem × Mem) := cal (mX6_stuck 0 M) (fun M3 r2 => cal (mX7_stuck 135 N) (fun N6 r5 => chk (decide (rd M3 133 0 = rd M 133 0)) (some (M3, N6))))
set_option maxHeartbeats 4000000 in
set_option maxRecDepth 100000 in
theorem lc_33 (hc : cells + 64 ≤ 601024 ∧ slots + 4096 ≤ 7293034) {x5 a0 a1 a2 a3 a4 a5 : Int32} (hs : Sc xs L x5 a0 a1 a2 a3 a4 a5) {M N M' N' : Mem} (hf : mlc_33 a1 a2 a3 a4 a5 M N = some (M', N')) (hk : AtW p l e s m args below meth c L xs G kd' ad' b x5 M' N' Q (cells + 64) (slots + 4096) 1766) : AtW p l e s m args below meth c L xs G kd' ad' b x5 M N Q cells slots 1123 := by
  intro kd ad H locs ls C hS hI hJ hl
  obtain ⟨hx, hb, hml, hown, hts, hK, hap, hap2, hsx, hsx2, hnc, hst, hA, hd1, hd2, hX, hbl, hbA, hk0, hLo, hk1, hk3, hk2⟩ := id C
  unfold mlc_33 at hf
  refine lv_aload_n hx hb (dc tbL_law_14_k 6 rfl) rfl (lv_at hl 1 rfl) ?_
  obtain ⟨M3, r2, q1, hf⟩ := cal_s hf
  refine l_calli (g_runV hx hb hml hown hts hK hap hsx hI (tX6_stuck l hk0 q1 H.size) cv_X6_stuck q_t3_51 rfl rfl ⟨Nat.le_of_ble_eq_true rfl, Nat.le_of_ble_eq_true rfl⟩ hk0.1 (by simp) rfl rfl rfl hl.1 rfl (Nat.le_of_ble_eq_true rfl) (dc tbL_law_14_k 7 rfl) ⟨by have := hc.1; show _ ≤ 601024; omega, by have := hc.2; show _ ≤ 7293034; omega⟩) hI hJ hA hd1 (fun H locs hI hJ => ?_)
  refine lv_pop hx hb (dc tbL_law_14_k 8 rfl) rfl ?_
  refine lv_aload_n hx hb (dc tbL_law_14_k 9 rfl) rfl (lv_at hl 2 rfl) ?_
  obtain ⟨N6, r5, q4, hf⟩ := cal_s hf
  refine l_calli (g_runV hx hb hml hown hts hK hap2 hsx2 hJ (tX7_stuck l hk2 q4 H.size) cv_X7_stuck q_t9_73 rfl rfl ⟨Nat.le_of_ble_eq_true rfl, Nat.le_of_ble_eq_true rfl⟩ hk2.1 (by simp) rfl rfl rfl hl.1 rfl (Nat.le_of_ble_eq_true rfl) (dc tbL_law_14_k 10 rfl) ⟨by have := hc.1; show _ ≤ 601024; omega, by have := hc.2; show _ ≤ 7293034; omega⟩) hJ hI hA.symm hd2 (fun H locs hJ hI => ?_)
  refine lv_pop hx hb (dc tbL_law_14_k 11 rfl) rfl ?_
  refine lv_goto (tgt := 1766) hx hb (dc tbL_law_14_k 12 rfl) rfl ?_
  obtain ⟨h7, hf⟩ := chk_s hf
  cases hf
  refine W.widen (k := cells + 64) (n := slots + 4096) (by omega) (by omega) ?_
  exact hk _ _ _ _ _ C (by rw [of_decide_eq_true h7]; exact hS) hI hJ (lv_sub hl [0, 1, 2, 3, 4, 5] rfl)
def mlc_34 (a1 a2 a3 a4 a5 : Int32) (M N : Mem) : Option (Mem × Mem) := calh (mL_costOf 0 152 a1 a2 M) (fun M3 r2 => cal (mX7_costOf 135 a1 a2 N) (fun N6 r5 => chk (decide (rd M3 133 0 = rd M 133 0)) (some (M3, N6))))
set_option maxHeartbeats 4000000 in
set_option maxRecDepth 100000 in
theorem lc_34 (hc : cells + 64 ≤ 601024 ∧ slots + 4096 ≤ 7293034) {x5 a0 a1 a2 a3 a4 a5 : Int32} (hs : Sc xs L x5 a0 a1 a2 a3 a4 a5) {M N M' N' : Mem} (hf : mlc_34 a1 a2 a3 a4 a5 M N = some (M', N')) (hk : AtW p l e s m args below meth c L xs G kd' ad' b x5 M' N' Q (cells + 64) (slots + 4096) 1766) : AtW p l e s m args below meth c L xs G kd' ad' b x5 M N Q cells slots 1136 := by
  intro kd ad H locs ls C hS hI hJ hl
  obtain ⟨hx, hb, hml, hown, hts, hK, hap, hap2, hsx, hsx2, hnc, hst, hA, hd1, hd2, hX, hbl, hbA, hk0, hLo, hk1, hk3, hk2⟩ := id C
  unfold mlc_34 at hf
  refine lv_aload_n hx hb (dc tbL_law_14_k 13 rfl) rfl (lv_at hl 1 rfl) ?_
  refine lv_aload_n hx hb (dc tbL_law_14_k 14 rfl) rfl (lv_at hl 0 rfl) ?_
  refine lv_iload hx hb (dc tbL_law_14_k 15 rfl) (lv_at hl 5 rfl) ?_
  refine lv_iconst (v := 1) hx hb (dc tbL_law_14_k 16 rfl) ic_1 ?_
  refine lv_iadd hx hb (dc tbL_law_14_k 17 rfl) ?_
  refine l_sld hx hb hX hbl hbA hI hs.2.1.1 hs.2.1.2 (dc tbL_law_14_k 18 rfl) ?_
  refine lv_aload_n hx hb (dc tbL_law_14_k 19 rfl) rfl (lv_at hl 0 rfl) ?_
  refine lv_iload hx hb (dc tbL_law_14_k 20 rfl) (lv_at hl 5 rfl) ?_
  refine lv_iconst (v := 2) hx hb (dc tbL_law_14_k 21 rfl) ic_2 ?_
  refine lv_iadd hx hb (dc tbL_law_14_k 22 rfl) ?_
  refine l_sld hx hb hX hbl hbA hI hs.2.2.1.1 hs.2.2.1.2 (dc tbL_law_14_k 23 rfl) ?_
  refine lv_aload_n hx hb (dc tbL_law_14_k 24 rfl) rfl (lv_at hl 3 rfl) ?_
  obtain ⟨M3, r2, q1, hf⟩ := calh_s hf
  refine l_callH (g_runH hx hb hml hown hts hK hap hsx hnc hI (tL_costOf l hst hk0 hk1 q1 H.size) ch_L_costOf q_t6_153 rfl rfl ⟨Nat.le_of_ble_eq_true rfl, Nat.le_of_ble_eq_true rfl⟩ rfl hl.1 rfl (Nat.le_of_ble_eq_true rfl) (dc tbL_law_14_k 25 rfl) ⟨by have := hc.1; show _ ≤ 601024; omega, by have := hc.2; show _ ≤ 7293034; omega⟩) hI hJ hA hd1 (fun H locs hI hJ => ?_)
  refine lv_istore (lv' := [(6, .int r2), (0, .ref b), (1, .ref (ad 0)), (2, .ref (ad' 135)), (3, .ref (ad 152)), (4, .ref (ad 153)), (5, .int x5)]) hx hb (dc tbL_law_14_k 26 rfl) hl (by decide) rfl (fun ls hl => ?_)
  refine lv_aload_n hx hb (dc tbL_law_14_k 27 rfl) rfl (lv_at hl 3 rfl) ?_
  refine lv_aload_n hx hb (dc tbL_law_14_k 28 rfl) rfl (lv_at hl 1 rfl) ?_
  refine lv_iload hx hb (dc tbL_law_14_k 29 rfl) (lv_at hl 6 rfl) ?_
  refine lv_iconst (v := 1) hx hb (dc tbL_law_14_k 30 rfl) ic_1 ?_
  refine lv_iadd hx hb (dc tbL_law_14_k 31 rfl) ?_
  refine l_sld hx hb hX hbl hbA hI hs.2.1.1 hs.2.1.2 (dc tbL_law_14_k 32 rfl) ?_
  refine lv_aload_n hx hb (dc tbL_law_14_k 33 rfl) rfl (lv_at hl 1 rfl) ?_
  refine lv_iload hx hb (dc tbL_law_14_k 34 rfl) (lv_at hl 6 rfl) ?_
  refine lv_iconst (v := 2) hx hb (dc tbL_law_14_k 35 rfl) ic_2 ?_
  refine lv_iadd hx hb (dc tbL_law_14_k 36 rfl) ?_
  refine l_sld hx hb hX hbl hbA hI hs.2.2.1.1 hs.2.2.1.2 (dc tbL_law_14_k 37 rfl) ?_
  obtain ⟨N6, r5, q4, hf⟩ := cal_s hf
  refine l_calli (g_runV hx hb hml hown hts hK hap2 hsx2 hJ (tX7_costOf l hk2 q4 H.size) cv_X7_costOf q_t9_77 rfl rfl ⟨Nat.le_of_ble_eq_true rfl, Nat.le_of_ble_eq_true rfl⟩ hk2.1 (by simp) rfl rfl rfl hl.1 rfl (Nat.le_of_ble_eq_true rfl) (dc tbL_law_14_k 38 rfl) ⟨by have := hc.1; show _ ≤ 601024; omega, by have := hc.2; show _ ≤ 7293034; omega⟩) hJ hI hA.symm hd2 (fun H locs hJ hI => ?_)
  refine lv_istore (lv' := [(7, .int r5), (6, .int r2), (0, .ref b), (1, .ref (ad 0)), (2, .ref (ad' 135)), (3, .ref (ad 152)), (4, .ref (ad 153)), (5, .int x5)]) hx hb (dc tbL_law_14_k 39 rfl) hl (by decide) rfl (fun ls hl => ?_)
  refine lv_goto (tgt := 1766) hx hb (dc tbL_law_15_k 0 rfl) rfl ?_
  obtain ⟨h7, hf⟩ := chk_s hf
  cases hf
  refine W.widen (k := cells + 64) (n := slots + 4096) (by omega) (by omega) ?_
  exact hk _ _ _ _ _ C (by rw [of_decide_eq_true h7]; exact hS) hI hJ (lv_sub hl [2, 3, 4, 5, 6, 7] rfl)
def mlc_35 (a1 a2 a3 a4 a5 : Int32) (M N : Mem) : Option (Mem × Mem) := cal (mX6_orders 0 M) (fun M3 r2 => cal (mX7_orders 135 N) (fun N6 r5 => chk (decide (rd M3 133 0 = rd M 133 0)) (some (M3, N6))))
set_option maxHeartbeats 4000000 in
set_option maxRecDepth 100000 in
theorem lc_35 (hc : cells + 64 ≤ 601024 ∧ slots + 4096 ≤ 7293034) {x5 a0 a1 a2 a3 a4 a5 : Int32} (hs : Sc xs L x5 a0 a1 a2 a3 a4 a5) {M N M' N' : Mem} (hf : mlc_35 a1 a2 a3 a4 a5 M N = some (M', N')) (hk : AtW p l e s m args below meth c L xs G kd' ad' b x5 M' N' Q (cells + 64) (slots + 4096) 1766) : AtW p l e s m args below meth c L xs G kd' ad' b x5 M N Q cells slots 1176 := by
  intro kd ad H locs ls C hS hI hJ hl
  obtain ⟨hx, hb, hml, hown, hts, hK, hap, hap2, hsx, hsx2, hnc, hst, hA, hd1, hd2, hX, hbl, hbA, hk0, hLo, hk1, hk3, hk2⟩ := id C
  unfold mlc_35 at hf
  refine lv_aload_n hx hb (dc tbL_law_15_k 1 rfl) rfl (lv_at hl 1 rfl) ?_
  obtain ⟨M3, r2, q1, hf⟩ := cal_s hf
  refine l_calll (g_runV hx hb hml hown hts hK hap hsx hI (tX6_orders l hk0 q1 H.size) cv_X6_orders q_t3_55 rfl rfl ⟨Nat.le_of_ble_eq_true rfl, Nat.le_of_ble_eq_true rfl⟩ hk0.1 (by simp) rfl rfl rfl hl.1 rfl (Nat.le_of_ble_eq_true rfl) (dc tbL_law_15_k 2 rfl) ⟨by have := hc.1; show _ ≤ 601024; omega, by have := hc.2; show _ ≤ 7293034; omega⟩) hI hJ hA hd1 (fun H locs hI hJ => ?_)
  refine lv_pop2_2 hx hb (dc tbL_law_15_k 3 rfl) rfl ?_
  refine lv_aload_n hx hb (dc tbL_law_15_k 4 rfl) rfl (lv_at hl 2 rfl) ?_
  obtain ⟨N6, r5, q4, hf⟩ := cal_s hf
  refine l_calll (g_runV hx hb hml hown hts hK hap2 hsx2 hJ (tX7_orders l hk2 q4 H.size) cv_X7_orders q_t9_89 rfl rfl ⟨Nat.le_of_ble_eq_true rfl, Nat.le_of_ble_eq_true rfl⟩ hk2.1 (by simp) rfl rfl rfl hl.1 rfl (Nat.le_of_ble_eq_true rfl) (dc tbL_law_15_k 5 rfl) ⟨by have := hc.1; show _ ≤ 601024; omega, by have := hc.2; show _ ≤ 7293034; omega⟩) hJ hI hA.symm hd2 (fun H locs hJ hI => ?_)
  refine lv_pop2_2 hx hb (dc tbL_law_15_k 6 rfl) rfl ?_
  refine lv_goto (tgt := 1766) hx hb (dc tbL_law_15_k 7 rfl) rfl ?_
  obtain ⟨h7, hf⟩ := chk_s hf
  cases hf
  refine W.widen (k := cells + 64) (n := slots + 4096) (by omega) (by omega) ?_
  exact hk _ _ _ _ _ C (by rw [of_decide_eq_true h7]; exact hS) hI hJ (lv_sub hl [0, 1, 2, 3, 4, 5] rfl)
def mlc_36 (a1 a2 a3 a4 a5 : Int32) (M N : Mem) : Option (Mem × Mem) := cal (mX6_leastCost 0 M) (fun M3 r2 => cal (mX7_leastCost 135 N) (fun N6 r5 => chk (decide (rd M3 133 0 = rd M 133 0)) (some (M3, N6))))
set_option maxHeartbeats 4000000 in
set_option maxRecDepth 100000 in
theorem lc_36 (hc : cells + 64 ≤ 601024 ∧ slots + 4096 ≤ 7293034) {x5 a0 a1 a2 a3 a4 a5 : Int32} (hs : Sc xs L x5 a0 a1 a2 a3 a4 a5) {M N M' N' : Mem} (hf : mlc_36 a1 a2 a3 a4 a5 M N = some (M', N')) (hk : AtW p l e s m args below meth c L xs G kd' ad' b x5 M' N' Q (cells + 64) (slots + 4096) 1766) : AtW p l e s m args below meth c L xs G kd' ad' b x5 M N Q cells slots 1189 := by
  intro kd ad H locs ls C hS hI hJ hl
  obtain ⟨hx, hb, hml, hown, hts, hK, hap, hap2, hsx, hsx2, hnc, hst, hA, hd1, hd2, hX, hbl, hbA, hk0, hLo, hk1, hk3, hk2⟩ := id C
  unfold mlc_36 at hf
  refine lv_aload_n hx hb (dc tbL_law_15_k 8 rfl) rfl (lv_at hl 1 rfl) ?_
  obtain ⟨M3, r2, q1, hf⟩ := cal_s hf
  refine l_calli (g_runV hx hb hml hown hts hK hap hsx hI (tX6_leastCost l hk0 q1 H.size) cv_X6_leastCost q_t3_143 rfl rfl ⟨Nat.le_of_ble_eq_true rfl, Nat.le_of_ble_eq_true rfl⟩ hk0.1 (by simp) rfl rfl rfl hl.1 rfl (Nat.le_of_ble_eq_true rfl) (dc tbL_law_15_k 9 rfl) ⟨by have := hc.1; show _ ≤ 601024; omega, by have := hc.2; show _ ≤ 7293034; omega⟩) hI hJ hA hd1 (fun H locs hI hJ => ?_)
  refine lv_pop hx hb (dc tbL_law_15_k 10 rfl) rfl ?_
  refine lv_aload_n hx hb (dc tbL_law_15_k 11 rfl) rfl (lv_at hl 2 rfl) ?_
  obtain ⟨N6, r5, q4, hf⟩ := cal_s hf
  refine l_calli (g_runV hx hb hml hown hts hK hap2 hsx2 hJ (tX7_leastCost l hk2 q4 H.size) cv_X7_leastCost q_t9_105 rfl rfl ⟨Nat.le_of_ble_eq_true rfl, Nat.le_of_ble_eq_true rfl⟩ hk2.1 (by simp) rfl rfl rfl hl.1 rfl (Nat.le_of_ble_eq_true rfl) (dc tbL_law_15_k 12 rfl) ⟨by have := hc.1; show _ ≤ 601024; omega, by have := hc.2; show _ ≤ 7293034; omega⟩) hJ hI hA.symm hd2 (fun H locs hJ hI => ?_)
  refine lv_pop hx hb (dc tbL_law_15_k 13 rfl) rfl ?_
  refine lv_goto (tgt := 1766) hx hb (dc tbL_law_15_k 14 rfl) rfl ?_
  obtain ⟨h7, hf⟩ := chk_s hf
  cases hf
  refine W.widen (k := cells + 64) (n := slots + 4096) (by omega) (by omega) ?_
  exact hk _ _ _ _ _ C (by rw [of_decide_eq_true h7]; exact hS) hI hJ (lv_sub hl [0, 1, 2, 3, 4, 5] rfl)
def mlc_37 (a1 a2 a3 a4 a5 : Int32) (M N : Mem) : Option (Mem × Mem) := cal (mX6_plannedSteps 0 M) (fun M3 r2 => cal (mX7_plannedSteps 135 N) (fun N6 r5 => chk (decide (rd M3 133 0 = rd M 133 0)) (some (M3, N6))))
set_option maxHeartbeats 4000000 in
set_option maxRecDepth 100000 in
theorem lc_37 (hc : cells + 64 ≤ 601024 ∧ slots + 4096 ≤ 7293034) {x5 a0 a1 a2 a3 a4 a5 : Int32} (hs : Sc xs L x5 a0 a1 a2 a3 a4 a5) {M N M' N' : Mem} (hf : mlc_37 a1 a2 a3 a4 a5 M N = some (M', N')) (hk : AtW p l e s m args below meth c L xs G kd' ad' b x5 M' N' Q (cells + 64) (slots + 4096) 1766) : AtW p l e s m args below meth c L xs G kd' ad' b x5 M N Q cells slots 1202 := by
  intro kd ad H locs ls C hS hI hJ hl
  obtain ⟨hx, hb, hml, hown, hts, hK, hap, hap2, hsx, hsx2, hnc, hst, hA, hd1, hd2, hX, hbl, hbA, hk0, hLo, hk1, hk3, hk2⟩ := id C
  unfold mlc_37 at hf
  refine lv_aload_n hx hb (dc tbL_law_15_k 15 rfl) rfl (lv_at hl 1 rfl) ?_
  obtain ⟨M3, r2, q1, hf⟩ := cal_s hf
  refine l_calli (g_runV hx hb hml hown hts hK hap hsx hI (tX6_plannedSteps l hk0 q1 H.size) cv_X6_plannedSteps q_t3_147 rfl rfl ⟨Nat.le_of_ble_eq_true rfl, Nat.le_of_ble_eq_true rfl⟩ hk0.1 (by simp) rfl rfl rfl hl.1 rfl (Nat.le_of_ble_eq_true rfl) (dc tbL_law_15_k 16 rfl) ⟨by have := hc.1; show _ ≤ 601024; omega, by have := hc.2; show _ ≤ 7293034; omega⟩) hI hJ hA hd1 (fun H locs hI hJ => ?_)
  refine lv_pop hx hb (dc tbL_law_15_k 17 rfl) rfl ?_
  refine lv_aload_n hx hb (dc tbL_law_15_k 18 rfl) rfl (lv_at hl 2 rfl) ?_
  obtain ⟨N6, r5, q4, hf⟩ := cal_s hf
  refine l_calli (g_runV hx hb hml hown hts hK hap2 hsx2 hJ (tX7_plannedSteps l hk2 q4 H.size) cv_X7_plannedSteps q_t9_135 rfl rfl ⟨Nat.le_of_ble_eq_true rfl, Nat.le_of_ble_eq_true rfl⟩ hk2.1 (by simp) rfl rfl rfl hl.1 rfl (Nat.le_of_ble_eq_true rfl) (dc tbL_law_15_k 19 rfl) ⟨by have := hc.1; show _ ≤ 601024; omega, by have := hc.2; show _ ≤ 7293034; omega⟩) hJ hI hA.symm hd2 (fun H locs hJ hI => ?_)
  refine lv_pop hx hb (dc tbL_law_15_k 20 rfl) rfl ?_
  refine lv_goto (tgt := 1766) hx hb (dc tbL_law_15_k 21 rfl) rfl ?_
  obtain ⟨h7, hf⟩ := chk_s hf
  cases hf
  refine W.widen (k := cells + 64) (n := slots + 4096) (by omega) (by omega) ?_
  exact hk _ _ _ _ _ C (by rw [of_decide_eq_true h7]; exact hS) hI hJ (lv_sub hl [0, 1, 2, 3, 4, 5] rfl)
def mlc_38 (a1 a2 a3 a4 a5 : Int32) (M N : Mem) : Option (Mem × Mem) := calh (mL_planned 0 152 a1 M) (fun M3 r2 => cal (mX7_planned 135 a1 N) (fun N6 r5 => chk (decide (rd M3 133 0 = rd M 133 0)) (some (M3, N6))))
set_option maxHeartbeats 4000000 in
set_option maxRecDepth 100000 in
theorem lc_38 (hc : cells + 64 ≤ 601024 ∧ slots + 4096 ≤ 7293034) {x5 a0 a1 a2 a3 a4 a5 : Int32} (hs : Sc xs L x5 a0 a1 a2 a3 a4 a5) {M N M' N' : Mem} (hf : mlc_38 a1 a2 a3 a4 a5 M N = some (M', N')) (hk : AtW p l e s m args below meth c L xs G kd' ad' b x5 M' N' Q (cells + 64) (slots + 4096) 1766) : AtW p l e s m args below meth c L xs G kd' ad' b x5 M N Q cells slots 1215 := by
  intro kd ad H locs ls C hS hI hJ hl
  obtain ⟨hx, hb, hml, hown, hts, hK, hap, hap2, hsx, hsx2, hnc, hst, hA, hd1, hd2, hX, hbl, hbA, hk0, hLo, hk1, hk3, hk2⟩ := id C
  unfold mlc_38 at hf
  refine lv_aload_n hx hb (dc tbL_law_15_k 22 rfl) rfl (lv_at hl 1 rfl) ?_
  refine lv_aload_n hx hb (dc tbL_law_15_k 23 rfl) rfl (lv_at hl 0 rfl) ?_
  refine lv_iload hx hb (dc tbL_law_15_k 24 rfl) (lv_at hl 5 rfl) ?_
  refine lv_iconst (v := 1) hx hb (dc tbL_law_15_k 25 rfl) ic_1 ?_
  refine lv_iadd hx hb (dc tbL_law_15_k 26 rfl) ?_
  refine l_sld hx hb hX hbl hbA hI hs.2.1.1 hs.2.1.2 (dc tbL_law_15_k 27 rfl) ?_
  refine lv_aload_n hx hb (dc tbL_law_15_k 28 rfl) rfl (lv_at hl 3 rfl) ?_
  obtain ⟨M3, r2, q1, hf⟩ := calh_s hf
  refine l_callH (g_runH hx hb hml hown hts hK hap hsx hnc hI (tL_planned l hst hk0 hk1 q1 H.size) ch_L_planned q_t6_167 rfl rfl ⟨Nat.le_of_ble_eq_true rfl, Nat.le_of_ble_eq_true rfl⟩ rfl hl.1 rfl (Nat.le_of_ble_eq_true rfl) (dc tbL_law_15_k 29 rfl) ⟨by have := hc.1; show _ ≤ 601024; omega, by have := hc.2; show _ ≤ 7293034; omega⟩) hI hJ hA hd1 (fun H locs hI hJ => ?_)
  refine lv_istore (lv' := [(6, .int r2), (0, .ref b), (1, .ref (ad 0)), (2, .ref (ad' 135)), (3, .ref (ad 152)), (4, .ref (ad 153)), (5, .int x5)]) hx hb (dc tbL_law_15_k 30 rfl) hl (by decide) rfl (fun ls hl => ?_)
  refine lv_aload_n hx hb (dc tbL_law_15_k 31 rfl) rfl (lv_at hl 3 rfl) ?_
  refine lv_aload_n hx hb (dc tbL_law_15_k 32 rfl) rfl (lv_at hl 1 rfl) ?_
  refine lv_iload hx hb (dc tbL_law_15_k 33 rfl) (lv_at hl 6 rfl) ?_
  refine lv_iconst (v := 1) hx hb (dc tbL_law_15_k 34 rfl) ic_1 ?_
  refine lv_iadd hx hb (dc tbL_law_15_k 35 rfl) ?_
  refine l_sld hx hb hX hbl hbA hI hs.2.1.1 hs.2.1.2 (dc tbL_law_15_k 36 rfl) ?_
  obtain ⟨N6, r5, q4, hf⟩ := cal_s hf
  refine l_calli (g_runV hx hb hml hown hts hK hap2 hsx2 hJ (tX7_planned l hk2 q4 H.size) cv_X7_planned q_t9_143 rfl rfl ⟨Nat.le_of_ble_eq_true rfl, Nat.le_of_ble_eq_true rfl⟩ hk2.1 (by simp) rfl rfl rfl hl.1 rfl (Nat.le_of_ble_eq_true rfl) (dc tbL_law_15_k 37 rfl) ⟨by have := hc.1; show _ ≤ 601024; omega, by have := hc.2; show _ ≤ 7293034; omega⟩) hJ hI hA.symm hd2 (fun H locs hJ hI => ?_)
  refine lv_istore (lv' := [(7, .int r5), (6, .int r2), (0, .ref b), (1, .ref (ad 0)), (2, .ref (ad' 135)), (3, .ref (ad 152)), (4, .ref (ad 153)), (5, .int x5)]) hx hb (dc tbL_law_15_k 38 rfl) hl (by decide) rfl (fun ls hl => ?_)
  refine lv_goto (tgt := 1766) hx hb (dc tbL_law_15_k 39 rfl) rfl ?_
  obtain ⟨h7, hf⟩ := chk_s hf
  cases hf
  refine W.widen (k := cells + 64) (n := slots + 4096) (by omega) (by omega) ?_
  exact hk _ _ _ _ _ C (by rw [of_decide_eq_true h7]; exact hS) hI hJ (lv_sub hl [2, 3, 4, 5, 6, 7] rfl)
def mlc_39 (a1 a2 a3 a4 a5 : Int32) (M N : Mem) : Option (Mem × Mem) := cal (mX6_greatestCost 0 M) (fun M3 r2 => cal (mX7_greatestCost 135 N) (fun N6 r5 => chk (decide (rd M3 133 0 = rd M 133 0)) (some (M3, N6))))
set_option maxHeartbeats 4000000 in
set_option maxRecDepth 100000 in
theorem lc_39 (hc : cells + 64 ≤ 601024 ∧ slots + 4096 ≤ 7293034) {x5 a0 a1 a2 a3 a4 a5 : Int32} (hs : Sc xs L x5 a0 a1 a2 a3 a4 a5) {M N M' N' : Mem} (hf : mlc_39 a1 a2 a3 a4 a5 M N = some (M', N')) (hk : AtW p l e s m args below meth c L xs G kd' ad' b x5 M' N' Q (cells + 64) (slots + 4096) 1766) : AtW p l e s m args below meth c L xs G kd' ad' b x5 M N Q cells slots 1243 := by
  intro kd ad H locs ls C hS hI hJ hl
  obtain ⟨hx, hb, hml, hown, hts, hK, hap, hap2, hsx, hsx2, hnc, hst, hA, hd1, hd2, hX, hbl, hbA, hk0, hLo, hk1, hk3, hk2⟩ := id C
  unfold mlc_39 at hf
  refine lv_aload_n hx hb (dc tbL_law_16_k 0 rfl) rfl (lv_at hl 1 rfl) ?_
  obtain ⟨M3, r2, q1, hf⟩ := cal_s hf
  refine l_calli (g_runV hx hb hml hown hts hK hap hsx hI (tX6_greatestCost l hk0 q1 H.size) cv_X6_greatestCost q_t3_151 rfl rfl ⟨Nat.le_of_ble_eq_true rfl, Nat.le_of_ble_eq_true rfl⟩ hk0.1 (by simp) rfl rfl rfl hl.1 rfl (Nat.le_of_ble_eq_true rfl) (dc tbL_law_16_k 1 rfl) ⟨by have := hc.1; show _ ≤ 601024; omega, by have := hc.2; show _ ≤ 7293034; omega⟩) hI hJ hA hd1 (fun H locs hI hJ => ?_)
  refine lv_pop hx hb (dc tbL_law_16_k 2 rfl) rfl ?_
  refine lv_aload_n hx hb (dc tbL_law_16_k 3 rfl) rfl (lv_at hl 2 rfl) ?_
  obtain ⟨N6, r5, q4, hf⟩ := cal_s hf
  refine l_calli (g_runV hx hb hml hown hts hK hap2 hsx2 hJ (tX7_greatestCost l hk2 q4 H.size) cv_X7_greatestCost q_t9_151 rfl rfl ⟨Nat.le_of_ble_eq_true rfl, Nat.le_of_ble_eq_true rfl⟩ hk2.1 (by simp) rfl rfl rfl hl.1 rfl (Nat.le_of_ble_eq_true rfl) (dc tbL_law_16_k 4 rfl) ⟨by have := hc.1; show _ ≤ 601024; omega, by have := hc.2; show _ ≤ 7293034; omega⟩) hJ hI hA.symm hd2 (fun H locs hJ hI => ?_)
  refine lv_pop hx hb (dc tbL_law_16_k 5 rfl) rfl ?_
  refine lv_goto (tgt := 1766) hx hb (dc tbL_law_16_k 6 rfl) rfl ?_
  obtain ⟨h7, hf⟩ := chk_s hf
  cases hf
  refine W.widen (k := cells + 64) (n := slots + 4096) (by omega) (by omega) ?_
  exact hk _ _ _ _ _ C (by rw [of_decide_eq_true h7]; exact hS) hI hJ (lv_sub hl [0, 1, 2, 3, 4, 5] rfl)
def mlc_40 (a1 a2 a3 a4 a5 : Int32) (M N : Mem) : Option (Mem × Mem) := calh (mL_ordersWith 0 152 a1 a2 M) (fun M3 r2 => cal (mX7_ordersWith 135 a1 a2 N) (fun N6 r5 => chk (decide (rd M3 133 0 = rd M 133 0)) (some (M3, N6))))
set_option maxHeartbeats 4000000 in
set_option maxRecDepth 100000 in
theorem lc_40 (hc : cells + 64 ≤ 601024 ∧ slots + 4096 ≤ 7293034) {x5 a0 a1 a2 a3 a4 a5 : Int32} (hs : Sc xs L x5 a0 a1 a2 a3 a4 a5) {M N M' N' : Mem} (hf : mlc_40 a1 a2 a3 a4 a5 M N = some (M', N')) (hk : AtW p l e s m args below meth c L xs G kd' ad' b x5 M' N' Q (cells + 64) (slots + 4096) 1766) : AtW p l e s m args below meth c L xs G kd' ad' b x5 M N Q cells slots 1256 := by
  intro kd ad H locs ls C hS hI hJ hl
  obtain ⟨hx, hb, hml, hown, hts, hK, hap, hap2, hsx, hsx2, hnc, hst, hA, hd1, hd2, hX, hbl, hbA, hk0, hLo, hk1, hk3, hk2⟩ := id C
  unfold mlc_40 at hf
  refine lv_aload_n hx hb (dc tbL_law_16_k 7 rfl) rfl (lv_at hl 1 rfl) ?_
  refine lv_aload_n hx hb (dc tbL_law_16_k 8 rfl) rfl (lv_at hl 0 rfl) ?_
  refine lv_iload hx hb (dc tbL_law_16_k 9 rfl) (lv_at hl 5 rfl) ?_
  refine lv_iconst (v := 1) hx hb (dc tbL_law_16_k 10 rfl) ic_1 ?_
  refine lv_iadd hx hb (dc tbL_law_16_k 11 rfl) ?_
  refine l_sld hx hb hX hbl hbA hI hs.2.1.1 hs.2.1.2 (dc tbL_law_16_k 12 rfl) ?_
  refine lv_aload_n hx hb (dc tbL_law_16_k 13 rfl) rfl (lv_at hl 0 rfl) ?_
  refine lv_iload hx hb (dc tbL_law_16_k 14 rfl) (lv_at hl 5 rfl) ?_
  refine lv_iconst (v := 2) hx hb (dc tbL_law_16_k 15 rfl) ic_2 ?_
  refine lv_iadd hx hb (dc tbL_law_16_k 16 rfl) ?_
  refine l_sld hx hb hX hbl hbA hI hs.2.2.1.1 hs.2.2.1.2 (dc tbL_law_16_k 17 rfl) ?_
  refine lv_aload_n hx hb (dc tbL_law_16_k 18 rfl) rfl (lv_at hl 3 rfl) ?_
  obtain ⟨M3, r2, q1, hf⟩ := calh_s hf
  refine l_callH (g_runH hx hb hml hown hts hK hap hsx hnc hI (tL_ordersWith l hst hk0 hk1 q1 H.size) ch_L_ordersWith q_t6_175 rfl rfl ⟨Nat.le_of_ble_eq_true rfl, Nat.le_of_ble_eq_true rfl⟩ rfl hl.1 rfl (Nat.le_of_ble_eq_true rfl) (dc tbL_law_16_k 19 rfl) ⟨by have := hc.1; show _ ≤ 601024; omega, by have := hc.2; show _ ≤ 7293034; omega⟩) hI hJ hA hd1 (fun H locs hI hJ => ?_)
  refine lv_istore (lv' := [(6, .int r2), (0, .ref b), (1, .ref (ad 0)), (2, .ref (ad' 135)), (3, .ref (ad 152)), (4, .ref (ad 153)), (5, .int x5)]) hx hb (dc tbL_law_16_k 20 rfl) hl (by decide) rfl (fun ls hl => ?_)
  refine lv_aload_n hx hb (dc tbL_law_16_k 21 rfl) rfl (lv_at hl 3 rfl) ?_
  refine lv_aload_n hx hb (dc tbL_law_16_k 22 rfl) rfl (lv_at hl 1 rfl) ?_
  refine lv_iload hx hb (dc tbL_law_16_k 23 rfl) (lv_at hl 6 rfl) ?_
  refine lv_iconst (v := 1) hx hb (dc tbL_law_16_k 24 rfl) ic_1 ?_
  refine lv_iadd hx hb (dc tbL_law_16_k 25 rfl) ?_
  refine l_sld hx hb hX hbl hbA hI hs.2.1.1 hs.2.1.2 (dc tbL_law_16_k 26 rfl) ?_
  refine lv_aload_n hx hb (dc tbL_law_16_k 27 rfl) rfl (lv_at hl 1 rfl) ?_
  refine lv_iload hx hb (dc tbL_law_16_k 28 rfl) (lv_at hl 6 rfl) ?_
  refine lv_iconst (v := 2) hx hb (dc tbL_law_16_k 29 rfl) ic_2 ?_
  refine lv_iadd hx hb (dc tbL_law_16_k 30 rfl) ?_
  refine l_sld hx hb hX hbl hbA hI hs.2.2.1.1 hs.2.2.1.2 (dc tbL_law_16_k 31 rfl) ?_
  obtain ⟨N6, r5, q4, hf⟩ := cal_s hf
  refine l_calll (g_runV hx hb hml hown hts hK hap2 hsx2 hJ (tX7_ordersWith l hk2 q4 H.size) cv_X7_ordersWith q_t9_155 rfl rfl ⟨Nat.le_of_ble_eq_true rfl, Nat.le_of_ble_eq_true rfl⟩ hk2.1 (by simp) rfl rfl rfl hl.1 rfl (Nat.le_of_ble_eq_true rfl) (dc tbL_law_16_k 32 rfl) ⟨by have := hc.1; show _ ≤ 601024; omega, by have := hc.2; show _ ≤ 7293034; omega⟩) hJ hI hA.symm hd2 (fun H locs hJ hI => ?_)
  refine lv_lstore (lv' := [(7, .long r5), (6, .int r2), (0, .ref b), (1, .ref (ad 0)), (2, .ref (ad' 135)), (3, .ref (ad 152)), (4, .ref (ad 153)), (5, .int x5)]) hx hb (dc tbL_law_16_k 33 rfl) hl (by decide) rfl (fun ls hl => ?_)
  refine lv_goto (tgt := 1766) hx hb (dc tbL_law_16_k 34 rfl) rfl ?_
  obtain ⟨h7, hf⟩ := chk_s hf
  cases hf
  refine W.widen (k := cells + 64) (n := slots + 4096) (by omega) (by omega) ?_
  exact hk _ _ _ _ _ C (by rw [of_decide_eq_true h7]; exact hS) hI hJ (lv_sub hl [2, 3, 4, 5, 6, 7] rfl)
def mlc_41 (a1 a2 a3 a4 a5 : Int32) (M N : Mem) : Option (Mem × Mem) := cal (mX6_lastSteps 0 M) (fun M3 r2 => cal (mX7_lastSteps 135 N) (fun N6 r5 => chk (decide (rd M3 133 0 = rd M 133 0)) (some (M3, N6))))
set_option maxHeartbeats 4000000 in
set_option maxRecDepth 100000 in
theorem lc_41 (hc : cells + 64 ≤ 601024 ∧ slots + 4096 ≤ 7293034) {x5 a0 a1 a2 a3 a4 a5 : Int32} (hs : Sc xs L x5 a0 a1 a2 a3 a4 a5) {M N M' N' : Mem} (hf : mlc_41 a1 a2 a3 a4 a5 M N = some (M', N')) (hk : AtW p l e s m args below meth c L xs G kd' ad' b x5 M' N' Q (cells + 64) (slots + 4096) 1766) : AtW p l e s m args below meth c L xs G kd' ad' b x5 M N Q cells slots 1296 := by
  intro kd ad H locs ls C hS hI hJ hl
  obtain ⟨hx, hb, hml, hown, hts, hK, hap, hap2, hsx, hsx2, hnc, hst, hA, hd1, hd2, hX, hbl, hbA, hk0, hLo, hk1, hk3, hk2⟩ := id C
  unfold mlc_41 at hf
  refine lv_aload_n hx hb (dc tbL_law_16_k 35 rfl) rfl (lv_at hl 1 rfl) ?_
  obtain ⟨M3, r2, q1, hf⟩ := cal_s hf
  refine l_calli (g_runV hx hb hml hown hts hK hap hsx hI (tX6_lastSteps l hk0 q1 H.size) cv_X6_lastSteps q_t3_155 rfl rfl ⟨Nat.le_of_ble_eq_true rfl, Nat.le_of_ble_eq_true rfl⟩ hk0.1 (by simp) rfl rfl rfl hl.1 rfl (Nat.le_of_ble_eq_true rfl) (dc tbL_law_16_k 36 rfl) ⟨by have := hc.1; show _ ≤ 601024; omega, by have := hc.2; show _ ≤ 7293034; omega⟩) hI hJ hA hd1 (fun H locs hI hJ => ?_)
  refine lv_pop hx hb (dc tbL_law_16_k 37 rfl) rfl ?_
  refine lv_aload_n hx hb (dc tbL_law_16_k 38 rfl) rfl (lv_at hl 2 rfl) ?_
  obtain ⟨N6, r5, q4, hf⟩ := cal_s hf
  refine l_calli (g_runV hx hb hml hown hts hK hap2 hsx2 hJ (tX7_lastSteps l hk2 q4 H.size) cv_X7_lastSteps q_t9_159 rfl rfl ⟨Nat.le_of_ble_eq_true rfl, Nat.le_of_ble_eq_true rfl⟩ hk2.1 (by simp) rfl rfl rfl hl.1 rfl (Nat.le_of_ble_eq_true rfl) (dc tbL_law_16_k 39 rfl) ⟨by have := hc.1; show _ ≤ 601024; omega, by have := hc.2; show _ ≤ 7293034; omega⟩) hJ hI hA.symm hd2 (fun H locs hJ hI => ?_)
  refine lv_pop hx hb (dc tbL_law_17_k 0 rfl) rfl ?_
  refine lv_goto (tgt := 1766) hx hb (dc tbL_law_17_k 1 rfl) rfl ?_
  obtain ⟨h7, hf⟩ := chk_s hf
  cases hf
  refine W.widen (k := cells + 64) (n := slots + 4096) (by omega) (by omega) ?_
  exact hk _ _ _ _ _ C (by rw [of_decide_eq_true h7]; exact hS) hI hJ (lv_sub hl [0, 1, 2, 3, 4, 5] rfl)
def mlc_42 (a1 a2 a3 a4 a5 : Int32) (M N : Mem) : Option (Mem × Mem) := cal (mX6_mostBends 0 M) (fun M3 r2 => cal (mX7_mostBends 135 N) (fun N6 r5 => chk (decide (rd M3 133 0 = rd M 133 0)) (some (M3, N6))))
set_option maxHeartbeats 4000000 in
set_option maxRecDepth 100000 in
theorem lc_42 (hc : cells + 64 ≤ 601024 ∧ slots + 4096 ≤ 7293034) {x5 a0 a1 a2 a3 a4 a5 : Int32} (hs : Sc xs L x5 a0 a1 a2 a3 a4 a5) {M N M' N' : Mem} (hf : mlc_42 a1 a2 a3 a4 a5 M N = some (M', N')) (hk : AtW p l e s m args below meth c L xs G kd' ad' b x5 M' N' Q (cells + 64) (slots + 4096) 1766) : AtW p l e s m args below meth c L xs G kd' ad' b x5 M N Q cells slots 1309 := by
  intro kd ad H locs ls C hS hI hJ hl
  obtain ⟨hx, hb, hml, hown, hts, hK, hap, hap2, hsx, hsx2, hnc, hst, hA, hd1, hd2, hX, hbl, hbA, hk0, hLo, hk1, hk3, hk2⟩ := id C
  unfold mlc_42 at hf
  refine lv_aload_n hx hb (dc tbL_law_17_k 2 rfl) rfl (lv_at hl 1 rfl) ?_
  obtain ⟨M3, r2, q1, hf⟩ := cal_s hf
  refine l_calli (g_runV hx hb hml hown hts hK hap hsx hI (tX6_mostBends l hk0 q1 H.size) cv_X6_mostBends q_t3_163 rfl rfl ⟨Nat.le_of_ble_eq_true rfl, Nat.le_of_ble_eq_true rfl⟩ hk0.1 (by simp) rfl rfl rfl hl.1 rfl (Nat.le_of_ble_eq_true rfl) (dc tbL_law_17_k 3 rfl) ⟨by have := hc.1; show _ ≤ 601024; omega, by have := hc.2; show _ ≤ 7293034; omega⟩) hI hJ hA hd1 (fun H locs hI hJ => ?_)
  refine lv_pop hx hb (dc tbL_law_17_k 4 rfl) rfl ?_
  refine lv_aload_n hx hb (dc tbL_law_17_k 5 rfl) rfl (lv_at hl 2 rfl) ?_
  obtain ⟨N6, r5, q4, hf⟩ := cal_s hf
  refine l_calli (g_runV hx hb hml hown hts hK hap2 hsx2 hJ (tX7_mostBends l hk2 q4 H.size) cv_X7_mostBends q_t9_167 rfl rfl ⟨Nat.le_of_ble_eq_true rfl, Nat.le_of_ble_eq_true rfl⟩ hk2.1 (by simp) rfl rfl rfl hl.1 rfl (Nat.le_of_ble_eq_true rfl) (dc tbL_law_17_k 6 rfl) ⟨by have := hc.1; show _ ≤ 601024; omega, by have := hc.2; show _ ≤ 7293034; omega⟩) hJ hI hA.symm hd2 (fun H locs hJ hI => ?_)
  refine lv_pop hx hb (dc tbL_law_17_k 7 rfl) rfl ?_
  refine lv_goto (tgt := 1766) hx hb (dc tbL_law_17_k 8 rfl) rfl ?_
  obtain ⟨h7, hf⟩ := chk_s hf
  cases hf
  refine W.widen (k := cells + 64) (n := slots + 4096) (by omega) (by omega) ?_
  exact hk _ _ _ _ _ C (by rw [of_decide_eq_true h7]; exact hS) hI hJ (lv_sub hl [0, 1, 2, 3, 4, 5] rfl)
def mlc_43 (a1 a2 a3 a4 a5 : Int32) (M N : Mem) : Option (Mem × Mem) := cal (mX6_greatestBeam 0 M) (fun M3 r2 => cal (mX7_greatestBeam 135 N) (fun N6 r5 => chk (decide (rd M3 133 0 = rd M 133 0)) (some (M3, N6))))
set_option maxHeartbeats 4000000 in
set_option maxRecDepth 100000 in
theorem lc_43 (hc : cells + 64 ≤ 601024 ∧ slots + 4096 ≤ 7293034) {x5 a0 a1 a2 a3 a4 a5 : Int32} (hs : Sc xs L x5 a0 a1 a2 a3 a4 a5) {M N M' N' : Mem} (hf : mlc_43 a1 a2 a3 a4 a5 M N = some (M', N')) (hk : AtW p l e s m args below meth c L xs G kd' ad' b x5 M' N' Q (cells + 64) (slots + 4096) 1766) : AtW p l e s m args below meth c L xs G kd' ad' b x5 M N Q cells slots 1322 := by
  intro kd ad H locs ls C hS hI hJ hl
  obtain ⟨hx, hb, hml, hown, hts, hK, hap, hap2, hsx, hsx2, hnc, hst, hA, hd1, hd2, hX, hbl, hbA, hk0, hLo, hk1, hk3, hk2⟩ := id C
  unfold mlc_43 at hf
  refine lv_aload_n hx hb (dc tbL_law_17_k 9 rfl) rfl (lv_at hl 1 rfl) ?_
  obtain ⟨M3, r2, q1, hf⟩ := cal_s hf
  refine l_calli (g_runV hx hb hml hown hts hK hap hsx hI (tX6_greatestBeam l hk0 q1 H.size) cv_X6_greatestBeam q_t3_178 rfl rfl ⟨Nat.le_of_ble_eq_true rfl, Nat.le_of_ble_eq_true rfl⟩ hk0.1 (by simp) rfl rfl rfl hl.1 rfl (Nat.le_of_ble_eq_true rfl) (dc tbL_law_17_k 10 rfl) ⟨by have := hc.1; show _ ≤ 601024; omega, by have := hc.2; show _ ≤ 7293034; omega⟩) hI hJ hA hd1 (fun H locs hI hJ => ?_)
  refine lv_pop hx hb (dc tbL_law_17_k 11 rfl) rfl ?_
  refine lv_aload_n hx hb (dc tbL_law_17_k 12 rfl) rfl (lv_at hl 2 rfl) ?_
  obtain ⟨N6, r5, q4, hf⟩ := cal_s hf
  refine l_calli (g_runV hx hb hml hown hts hK hap2 hsx2 hJ (tX7_greatestBeam l hk2 q4 H.size) cv_X7_greatestBeam q_t9_171 rfl rfl ⟨Nat.le_of_ble_eq_true rfl, Nat.le_of_ble_eq_true rfl⟩ hk2.1 (by simp) rfl rfl rfl hl.1 rfl (Nat.le_of_ble_eq_true rfl) (dc tbL_law_17_k 13 rfl) ⟨by have := hc.1; show _ ≤ 601024; omega, by have := hc.2; show _ ≤ 7293034; omega⟩) hJ hI hA.symm hd2 (fun H locs hJ hI => ?_)
  refine lv_pop hx hb (dc tbL_law_17_k 14 rfl) rfl ?_
  refine lv_goto (tgt := 1766) hx hb (dc tbL_law_17_k 15 rfl) rfl ?_
  obtain ⟨h7, hf⟩ := chk_s hf
  cases hf
  refine W.widen (k := cells + 64) (n := slots + 4096) (by omega) (by omega) ?_
  exact hk _ _ _ _ _ C (by rw [of_decide_eq_true h7]; exact hS) hI hJ (lv_sub hl [0, 1, 2, 3, 4, 5] rfl)
def mlc_44 (a1 a2 a3 a4 a5 : Int32) (M N : Mem) : Option (Mem × Mem) := calh (mL_costIfTurned 0 152 a1 M) (fun M3 r2 => cal (mX7_costIfTurned 135 a1 N) (fun N6 r5 => chk (decide (rd M3 133 0 = rd M 133 0)) (some (M3, N6))))
set_option maxHeartbeats 4000000 in
set_option maxRecDepth 100000 in
theorem lc_44 (hc : cells + 64 ≤ 601024 ∧ slots + 4096 ≤ 7293034) {x5 a0 a1 a2 a3 a4 a5 : Int32} (hs : Sc xs L x5 a0 a1 a2 a3 a4 a5) {M N M' N' : Mem} (hf : mlc_44 a1 a2 a3 a4 a5 M N = some (M', N')) (hk : AtW p l e s m args below meth c L xs G kd' ad' b x5 M' N' Q (cells + 64) (slots + 4096) 1766) : AtW p l e s m args below meth c L xs G kd' ad' b x5 M N Q cells slots 1335 := by
  intro kd ad H locs ls C hS hI hJ hl
  obtain ⟨hx, hb, hml, hown, hts, hK, hap, hap2, hsx, hsx2, hnc, hst, hA, hd1, hd2, hX, hbl, hbA, hk0, hLo, hk1, hk3, hk2⟩ := id C
  unfold mlc_44 at hf
  refine lv_aload_n hx hb (dc tbL_law_17_k 16 rfl) rfl (lv_at hl 1 rfl) ?_
  refine lv_aload_n hx hb (dc tbL_law_17_k 17 rfl) rfl (lv_at hl 0 rfl) ?_
  refine lv_iload hx hb (dc tbL_law_17_k 18 rfl) (lv_at hl 5 rfl) ?_
  refine lv_iconst (v := 1) hx hb (dc tbL_law_17_k 19 rfl) ic_1 ?_
  refine lv_iadd hx hb (dc tbL_law_17_k 20 rfl) ?_
  refine l_sld hx hb hX hbl hbA hI hs.2.1.1 hs.2.1.2 (dc tbL_law_17_k 21 rfl) ?_
  refine lv_aload_n hx hb (dc tbL_law_17_k 22 rfl) rfl (lv_at hl 3 rfl) ?_
  obtain ⟨M3, r2, q1, hf⟩ := calh_s hf
  refine l_callH (g_runH hx hb hml hown hts hK hap hsx hnc hI (tL_costIfTurned l hst hk0 hk1 q1 H.size) ch_L_costIfTurned q_t6_182 rfl rfl ⟨Nat.le_of_ble_eq_true rfl, Nat.le_of_ble_eq_true rfl⟩ rfl hl.1 rfl (Nat.le_of_ble_eq_true rfl) (dc tbL_law_17_k 23 rfl) ⟨by have := hc.1; show _ ≤ 601024; omega, by have := hc.2; show _ ≤ 7293034; omega⟩) hI hJ hA hd1 (fun H locs hI hJ => ?_)
  refine lv_istore (lv' := [(6, .int r2), (0, .ref b), (1, .ref (ad 0)), (2, .ref (ad' 135)), (3, .ref (ad 152)), (4, .ref (ad 153)), (5, .int x5)]) hx hb (dc tbL_law_17_k 24 rfl) hl (by decide) rfl (fun ls hl => ?_)
  refine lv_aload_n hx hb (dc tbL_law_17_k 25 rfl) rfl (lv_at hl 3 rfl) ?_
  refine lv_aload_n hx hb (dc tbL_law_17_k 26 rfl) rfl (lv_at hl 1 rfl) ?_
  refine lv_iload hx hb (dc tbL_law_17_k 27 rfl) (lv_at hl 6 rfl) ?_
  refine lv_iconst (v := 1) hx hb (dc tbL_law_17_k 28 rfl) ic_1 ?_
  refine lv_iadd hx hb (dc tbL_law_17_k 29 rfl) ?_
  refine l_sld hx hb hX hbl hbA hI hs.2.1.1 hs.2.1.2 (dc tbL_law_17_k 30 rfl) ?_
  obtain ⟨N6, r5, q4, hf⟩ := cal_s hf
  refine l_calli (g_runV hx hb hml hown hts hK hap2 hsx2 hJ (tX7_costIfTurned l hk2 q4 H.size) cv_X7_costIfTurned q_t9_175 rfl rfl ⟨Nat.le_of_ble_eq_true rfl, Nat.le_of_ble_eq_true rfl⟩ hk2.1 (by simp) rfl rfl rfl hl.1 rfl (Nat.le_of_ble_eq_true rfl) (dc tbL_law_17_k 31 rfl) ⟨by have := hc.1; show _ ≤ 601024; omega, by have := hc.2; show _ ≤ 7293034; omega⟩) hJ hI hA.symm hd2 (fun H locs hJ hI => ?_)
  refine lv_istore (lv' := [(7, .int r5), (6, .int r2), (0, .ref b), (1, .ref (ad 0)), (2, .ref (ad' 135)), (3, .ref (ad 152)), (4, .ref (ad 153)), (5, .int x5)]) hx hb (dc tbL_law_17_k 32 rfl) hl (by decide) rfl (fun ls hl => ?_)
  refine lv_goto (tgt := 1766) hx hb (dc tbL_law_17_k 33 rfl) rfl ?_
  obtain ⟨h7, hf⟩ := chk_s hf
  cases hf
  refine W.widen (k := cells + 64) (n := slots + 4096) (by omega) (by omega) ?_
  exact hk _ _ _ _ _ C (by rw [of_decide_eq_true h7]; exact hS) hI hJ (lv_sub hl [2, 3, 4, 5, 6, 7] rfl)
def mlc_45 (a1 a2 a3 a4 a5 : Int32) (M N : Mem) : Option (Mem × Mem) := calh (mL_fold 0 152 a1 a2 M) (fun M3 r2 => cal (mX7_fold 135 a1 a2 N) (fun N6 r5 => cap (mX7_thrown 135 N6) (fun r8 => ite2 (r8 = r2) (ite2 (r2 = 0) (chk (okb (0 : Int32) 1) (ite2 ((lg_cmp (rl M3 152 ((0 : Int32)).toNatClampNeg) (r5).toInt64) = 0) (chk (decide (rd M3 133 0 = rd M 133 0)) (some (M3, N6))) (none))) (chk (decide (rd M3 133 0 = rd M 133 0)) (some (M3, N6)))) (none))))
set_option maxHeartbeats 4000000 in
set_option maxRecDepth 100000 in
theorem lc_45 (hc : cells + 64 ≤ 601024 ∧ slots + 4096 ≤ 7293034) {x5 a0 a1 a2 a3 a4 a5 : Int32} (hs : Sc xs L x5 a0 a1 a2 a3 a4 a5) {M N M' N' : Mem} (hf : mlc_45 a1 a2 a3 a4 a5 M N = some (M', N')) (hk : AtW p l e s m args below meth c L xs G kd' ad' b x5 M' N' Q (cells + 64) (slots + 4096) 1766) : AtW p l e s m args below meth c L xs G kd' ad' b x5 M N Q cells slots 1363 := by
  intro kd ad H locs ls C hS hI hJ hl
  obtain ⟨hx, hb, hml, hown, hts, hK, hap, hap2, hsx, hsx2, hnc, hst, hA, hd1, hd2, hX, hbl, hbA, hk0, hLo, hk1, hk3, hk2⟩ := id C
  unfold mlc_45 at hf
  refine lv_aload_n hx hb (dc tbL_law_17_k 34 rfl) rfl (lv_at hl 1 rfl) ?_
  refine lv_aload_n hx hb (dc tbL_law_17_k 35 rfl) rfl (lv_at hl 0 rfl) ?_
  refine lv_iload hx hb (dc tbL_law_17_k 36 rfl) (lv_at hl 5 rfl) ?_
  refine lv_iconst (v := 1) hx hb (dc tbL_law_17_k 37 rfl) ic_1 ?_
  refine lv_iadd hx hb (dc tbL_law_17_k 38 rfl) ?_
  refine l_sld hx hb hX hbl hbA hI hs.2.1.1 hs.2.1.2 (dc tbL_law_17_k 39 rfl) ?_
  refine lv_aload_n hx hb (dc tbL_law_18_k 0 rfl) rfl (lv_at hl 0 rfl) ?_
  refine lv_iload hx hb (dc tbL_law_18_k 1 rfl) (lv_at hl 5 rfl) ?_
  refine lv_iconst (v := 2) hx hb (dc tbL_law_18_k 2 rfl) ic_2 ?_
  refine lv_iadd hx hb (dc tbL_law_18_k 3 rfl) ?_
  refine l_sld hx hb hX hbl hbA hI hs.2.2.1.1 hs.2.2.1.2 (dc tbL_law_18_k 4 rfl) ?_
  refine lv_aload_n hx hb (dc tbL_law_18_k 5 rfl) rfl (lv_at hl 3 rfl) ?_
  obtain ⟨M3, r2, q1, hf⟩ := calh_s hf
  refine l_callH (g_runH hx hb hml hown hts hK hap hsx hnc hI (tL_fold l hst hk0 hk1 q1 H.size) ch_L_fold q_t6_210 rfl rfl ⟨Nat.le_of_ble_eq_true rfl, Nat.le_of_ble_eq_true rfl⟩ rfl hl.1 rfl (Nat.le_of_ble_eq_true rfl) (dc tbL_law_18_k 6 rfl) ⟨by have := hc.1; show _ ≤ 601024; omega, by have := hc.2; show _ ≤ 7293034; omega⟩) hI hJ hA hd1 (fun H locs hI hJ => ?_)
  refine lv_istore (lv' := [(6, .int r2), (0, .ref b), (1, .ref (ad 0)), (2, .ref (ad' 135)), (3, .ref (ad 152)), (4, .ref (ad 153)), (5, .int x5)]) hx hb (dc tbL_law_18_k 7 rfl) hl (by decide) rfl (fun ls hl => ?_)
  refine lv_aload_n hx hb (dc tbL_law_18_k 8 rfl) rfl (lv_at hl 3 rfl) ?_
  refine lv_aload_n hx hb (dc tbL_law_18_k 9 rfl) rfl (lv_at hl 1 rfl) ?_
  refine lv_iload hx hb (dc tbL_law_18_k 10 rfl) (lv_at hl 6 rfl) ?_
  refine lv_iconst (v := 1) hx hb (dc tbL_law_18_k 11 rfl) ic_1 ?_
  refine lv_iadd hx hb (dc tbL_law_18_k 12 rfl) ?_
  refine l_sld hx hb hX hbl hbA hI hs.2.1.1 hs.2.1.2 (dc tbL_law_18_k 13 rfl) ?_
  refine lv_aload_n hx hb (dc tbL_law_18_k 14 rfl) rfl (lv_at hl 1 rfl) ?_
  refine lv_iload hx hb (dc tbL_law_18_k 15 rfl) (lv_at hl 6 rfl) ?_
  refine lv_iconst (v := 2) hx hb (dc tbL_law_18_k 16 rfl) ic_2 ?_
  refine lv_iadd hx hb (dc tbL_law_18_k 17 rfl) ?_
  refine l_sld hx hb hX hbl hbA hI hs.2.2.1.1 hs.2.2.1.2 (dc tbL_law_18_k 18 rfl) ?_
  obtain ⟨N6, r5, q4, hf⟩ := cal_s hf
  refine l_calli (g_runV hx hb hml hown hts hK hap2 hsx2 hJ (tX7_fold l hk2 q4 H.size) cv_X7_fold q_t9_179 rfl rfl ⟨Nat.le_of_ble_eq_true rfl, Nat.le_of_ble_eq_true rfl⟩ hk2.1 (by simp) rfl rfl rfl hl.1 rfl (Nat.le_of_ble_eq_true rfl) (dc tbL_law_18_k 19 rfl) ⟨by have := hc.1; show _ ≤ 601024; omega, by have := hc.2; show _ ≤ 7293034; omega⟩) hJ hI hA.symm hd2 (fun H locs hJ hI => ?_)
  refine lv_istore (lv' := [(7, .int r5), (6, .int r2), (0, .ref b), (1, .ref (ad 0)), (2, .ref (ad' 135)), (3, .ref (ad 152)), (4, .ref (ad 153)), (5, .int x5)]) hx hb (dc tbL_law_18_k 20 rfl) hl (by decide) rfl (fun ls hl => ?_)
  refine lv_aload_n hx hb (dc tbL_law_18_k 21 rfl) rfl (lv_at hl 4 rfl) ?_
  obtain ⟨r8, q7, hf⟩ := cap_s hf
  refine l_calli (g_runV hx hb hml hown hts hK hap2 hsx2 hJ (tX7_thrown l hk2 q7 H.size) cv_X7_thrown q_t7_170 rfl rfl ⟨Nat.le_of_ble_eq_true rfl, Nat.le_of_ble_eq_true rfl⟩ hk2.1 (by simp) rfl rfl rfl hl.1 rfl (Nat.le_of_ble_eq_true rfl) (dc tbL_law_18_k 22 rfl) ⟨by have := hc.1; show _ ≤ 601024; omega, by have := hc.2; show _ ≤ 7293034; omega⟩) hJ hI hA.symm hd2 (fun H locs hJ hI => ?_)
  refine lv_iload hx hb (dc tbL_law_18_k 23 rfl) (lv_at hl 1 rfl) ?_
  refine lv_icmp_eq (tgt := 1411) hx hb (dc tbL_law_18_k 24 rfl) rfl (fun c10 => ?_) (fun c10 => ?_)
  · have hf := ite_t c10 hf
    refine lv_iload hx hb (dc tbL_law_18_k 27 rfl) (lv_at hl 1 rfl) ?_
    refine lv_if_ne (tgt := 1428) hx hb (dc tbL_law_18_k 28 rfl) rfl (fun c11 => ?_) (fun c11 => ?_)
    · have hf := ite_f c11 hf
      refine lv_goto (tgt := 1766) hx hb (dc tbL_law_18_k 38 rfl) rfl ?_
      obtain ⟨h12, hf⟩ := chk_s hf
      cases hf
      refine W.widen (k := cells + 64) (n := slots + 4096) (by omega) (by omega) ?_
      exact hk _ _ _ _ _ C (by rw [of_decide_eq_true h12]; exact hS) hI hJ (lv_sub hl [2, 3, 4, 5, 6, 7] rfl)
    · have hf := ite_t c11 hf
      refine lv_aload_n hx hb (dc tbL_law_18_k 29 rfl) rfl (lv_at hl 5 rfl) ?_
      refine lv_iconst (v := 0) hx hb (dc tbL_law_18_k 30 rfl) ic_0 ?_
      obtain ⟨h13, hf⟩ := chk_s hf
      refine g_lald hx hb hK hI hk1 (okb_in h13) (dc tbL_law_18_k 31 rfl) ?_
      refine lv_iload hx hb (dc tbL_law_18_k 32 rfl) (lv_at hl 0 rfl) ?_
      refine lv_i2l hx hb (dc tbL_law_18_k 33 rfl) rfl ?_
      refine W.lcmp hx hb (dc tbL_law_18_k 34 rfl) ?_
      refine lv_if_eq (tgt := 1428) hx hb (dc tbL_law_18_k 35 rfl) rfl (fun c14 => ?_) (fun c14 => ?_)
      · have hf := ite_t c14 hf
        refine lv_goto (tgt := 1766) hx hb (dc tbL_law_18_k 38 rfl) rfl ?_
        obtain ⟨h15, hf⟩ := chk_s hf
        cases hf
        refine W.widen (k := cells + 64) (n := slots + 4096) (by omega) (by omega) ?_
        exact hk _ _ _ _ _ C (by rw [of_decide_eq_true h15]; exact hS) hI hJ (lv_sub hl [2, 3, 4, 5, 6, 7] rfl)
      · have hf := ite_f c14 hf
        refine lv_iconst (v := 0) hx hb (dc tbL_law_18_k 36 rfl) ic_0 ?_
        cases hf
  · have hf := ite_f c10 hf
    refine lv_iconst (v := 0) hx hb (dc tbL_law_18_k 25 rfl) ic_0 ?_
    cases hf
def mlc_46 (a1 a2 a3 a4 a5 : Int32) (M N : Mem) : Option (Mem × Mem) := calh (mL_foldNext 0 152 M) (fun M3 r2 => cal (mX7_foldNext 135 N) (fun N6 r5 => chk (decide (rd M3 133 0 = rd M 133 0)) (some (M3, N6))))
set_option maxHeartbeats 4000000 in
set_option maxRecDepth 100000 in
theorem lc_46 (hc : cells + 64 ≤ 601024 ∧ slots + 4096 ≤ 7293034) {x5 a0 a1 a2 a3 a4 a5 : Int32} (hs : Sc xs L x5 a0 a1 a2 a3 a4 a5) {M N M' N' : Mem} (hf : mlc_46 a1 a2 a3 a4 a5 M N = some (M', N')) (hk : AtW p l e s m args below meth c L xs G kd' ad' b x5 M' N' Q (cells + 64) (slots + 4096) 1766) : AtW p l e s m args below meth c L xs G kd' ad' b x5 M N Q cells slots 1431 := by
  intro kd ad H locs ls C hS hI hJ hl
  obtain ⟨hx, hb, hml, hown, hts, hK, hap, hap2, hsx, hsx2, hnc, hst, hA, hd1, hd2, hX, hbl, hbA, hk0, hLo, hk1, hk3, hk2⟩ := id C
  unfold mlc_46 at hf
  refine lv_aload_n hx hb (dc tbL_law_18_k 39 rfl) rfl (lv_at hl 1 rfl) ?_
  refine lv_aload_n hx hb (dc tbL_law_19_k 0 rfl) rfl (lv_at hl 3 rfl) ?_
  obtain ⟨M3, r2, q1, hf⟩ := calh_s hf
  refine l_callH (g_runH hx hb hml hown hts hK hap hsx hnc hI (tL_foldNext l hst hk0 hk1 q1 H.size) ch_L_foldNext q_t6_226 rfl rfl ⟨Nat.le_of_ble_eq_true rfl, Nat.le_of_ble_eq_true rfl⟩ rfl hl.1 rfl (Nat.le_of_ble_eq_true rfl) (dc tbL_law_19_k 1 rfl) ⟨by have := hc.1; show _ ≤ 601024; omega, by have := hc.2; show _ ≤ 7293034; omega⟩) hI hJ hA hd1 (fun H locs hI hJ => ?_)
  refine lv_istore (lv' := [(6, .int r2), (0, .ref b), (1, .ref (ad 0)), (2, .ref (ad' 135)), (3, .ref (ad 152)), (4, .ref (ad 153)), (5, .int x5)]) hx hb (dc tbL_law_19_k 2 rfl) hl (by decide) rfl (fun ls hl => ?_)
  refine lv_aload_n hx hb (dc tbL_law_19_k 3 rfl) rfl (lv_at hl 3 rfl) ?_
  obtain ⟨N6, r5, q4, hf⟩ := cal_s hf
  refine l_calli (g_runV hx hb hml hown hts hK hap2 hsx2 hJ (tX7_foldNext l hk2 q4 H.size) cv_X7_foldNext q_t9_195 rfl rfl ⟨Nat.le_of_ble_eq_true rfl, Nat.le_of_ble_eq_true rfl⟩ hk2.1 (by simp) rfl rfl rfl hl.1 rfl (Nat.le_of_ble_eq_true rfl) (dc tbL_law_19_k 4 rfl) ⟨by have := hc.1; show _ ≤ 601024; omega, by have := hc.2; show _ ≤ 7293034; omega⟩) hJ hI hA.symm hd2 (fun H locs hJ hI => ?_)
  refine lv_istore (lv' := [(7, .int r5), (6, .int r2), (0, .ref b), (1, .ref (ad 0)), (2, .ref (ad' 135)), (3, .ref (ad 152)), (4, .ref (ad 153)), (5, .int x5)]) hx hb (dc tbL_law_19_k 5 rfl) hl (by decide) rfl (fun ls hl => ?_)
  refine lv_goto (tgt := 1766) hx hb (dc tbL_law_19_k 6 rfl) rfl ?_
  obtain ⟨h7, hf⟩ := chk_s hf
  cases hf
  refine W.widen (k := cells + 64) (n := slots + 4096) (by omega) (by omega) ?_
  exact hk _ _ _ _ _ C (by rw [of_decide_eq_true h7]; exact hS) hI hJ (lv_sub hl [2, 3, 4, 5, 6, 7] rfl)
def mlc_47 (a1 a2 a3 a4 a5 : Int32) (M N : Mem) : Option (Mem × Mem) := cal (mX6_unfold 0 M) (fun M3 r2 => cal (mX7_unfold 135 N) (fun N6 r5 => chk (decide (rd M3 133 0 = rd M 133 0)) (some (M3, N6))))
set_option maxHeartbeats 4000000 in
set_option maxRecDepth 100000 in
theorem lc_47 (hc : cells + 64 ≤ 601024 ∧ slots + 4096 ≤ 7293034) {x5 a0 a1 a2 a3 a4 a5 : Int32} (hs : Sc xs L x5 a0 a1 a2 a3 a4 a5) {M N M' N' : Mem} (hf : mlc_47 a1 a2 a3 a4 a5 M N = some (M', N')) (hk : AtW p l e s m args below meth c L xs G kd' ad' b x5 M' N' Q (cells + 64) (slots + 4096) 1766) : AtW p l e s m args below meth c L xs G kd' ad' b x5 M N Q cells slots 1447 := by
  intro kd ad H locs ls C hS hI hJ hl
  obtain ⟨hx, hb, hml, hown, hts, hK, hap, hap2, hsx, hsx2, hnc, hst, hA, hd1, hd2, hX, hbl, hbA, hk0, hLo, hk1, hk3, hk2⟩ := id C
  unfold mlc_47 at hf
  refine lv_aload_n hx hb (dc tbL_law_19_k 7 rfl) rfl (lv_at hl 1 rfl) ?_
  obtain ⟨M3, r2, q1, hf⟩ := cal_s hf
  refine l_calli (g_runV hx hb hml hown hts hK hap hsx hI (tX6_unfold l hk0 q1 H.size) cv_X6_unfold q_t3_187 rfl rfl ⟨Nat.le_of_ble_eq_true rfl, Nat.le_of_ble_eq_true rfl⟩ hk0.1 (by simp) rfl rfl rfl hl.1 rfl (Nat.le_of_ble_eq_true rfl) (dc tbL_law_19_k 8 rfl) ⟨by have := hc.1; show _ ≤ 601024; omega, by have := hc.2; show _ ≤ 7293034; omega⟩) hI hJ hA hd1 (fun H locs hI hJ => ?_)
  refine lv_pop hx hb (dc tbL_law_19_k 9 rfl) rfl ?_
  refine lv_aload_n hx hb (dc tbL_law_19_k 10 rfl) rfl (lv_at hl 2 rfl) ?_
  obtain ⟨N6, r5, q4, hf⟩ := cal_s hf
  refine l_calli (g_runV hx hb hml hown hts hK hap2 hsx2 hJ (tX7_unfold l hk2 q4 H.size) cv_X7_unfold q_t9_199 rfl rfl ⟨Nat.le_of_ble_eq_true rfl, Nat.le_of_ble_eq_true rfl⟩ hk2.1 (by simp) rfl rfl rfl hl.1 rfl (Nat.le_of_ble_eq_true rfl) (dc tbL_law_19_k 11 rfl) ⟨by have := hc.1; show _ ≤ 601024; omega, by have := hc.2; show _ ≤ 7293034; omega⟩) hJ hI hA.symm hd2 (fun H locs hJ hI => ?_)
  refine lv_pop hx hb (dc tbL_law_19_k 12 rfl) rfl ?_
  refine lv_goto (tgt := 1766) hx hb (dc tbL_law_19_k 13 rfl) rfl ?_
  obtain ⟨h7, hf⟩ := chk_s hf
  cases hf
  refine W.widen (k := cells + 64) (n := slots + 4096) (by omega) (by omega) ?_
  exact hk _ _ _ _ _ C (by rw [of_decide_eq_true h7]; exact hS) hI hJ (lv_sub hl [0, 1, 2, 3, 4, 5] rfl)
def mlc_48 (a1 a2 a3 a4 a5 : Int32) (M N : Mem) : Option (Mem × Mem) := calh (mL_setLeg 0 152 a1 a2 M) (fun M3 r2 => cal (mX7_setLeg 135 a1 a2 N) (fun N6 r5 => chk (decide (rd M3 133 0 = rd M 133 0)) (some (M3, N6))))
set_option maxHeartbeats 4000000 in
set_option maxRecDepth 100000 in
theorem lc_48 (hc : cells + 64 ≤ 601024 ∧ slots + 4096 ≤ 7293034) {x5 a0 a1 a2 a3 a4 a5 : Int32} (hs : Sc xs L x5 a0 a1 a2 a3 a4 a5) {M N M' N' : Mem} (hf : mlc_48 a1 a2 a3 a4 a5 M N = some (M', N')) (hk : AtW p l e s m args below meth c L xs G kd' ad' b x5 M' N' Q (cells + 64) (slots + 4096) 1766) : AtW p l e s m args below meth c L xs G kd' ad' b x5 M N Q cells slots 1460 := by
  intro kd ad H locs ls C hS hI hJ hl
  obtain ⟨hx, hb, hml, hown, hts, hK, hap, hap2, hsx, hsx2, hnc, hst, hA, hd1, hd2, hX, hbl, hbA, hk0, hLo, hk1, hk3, hk2⟩ := id C
  unfold mlc_48 at hf
  refine lv_aload_n hx hb (dc tbL_law_19_k 14 rfl) rfl (lv_at hl 1 rfl) ?_
  refine lv_aload_n hx hb (dc tbL_law_19_k 15 rfl) rfl (lv_at hl 0 rfl) ?_
  refine lv_iload hx hb (dc tbL_law_19_k 16 rfl) (lv_at hl 5 rfl) ?_
  refine lv_iconst (v := 1) hx hb (dc tbL_law_19_k 17 rfl) ic_1 ?_
  refine lv_iadd hx hb (dc tbL_law_19_k 18 rfl) ?_
  refine l_sld hx hb hX hbl hbA hI hs.2.1.1 hs.2.1.2 (dc tbL_law_19_k 19 rfl) ?_
  refine lv_aload_n hx hb (dc tbL_law_19_k 20 rfl) rfl (lv_at hl 0 rfl) ?_
  refine lv_iload hx hb (dc tbL_law_19_k 21 rfl) (lv_at hl 5 rfl) ?_
  refine lv_iconst (v := 2) hx hb (dc tbL_law_19_k 22 rfl) ic_2 ?_
  refine lv_iadd hx hb (dc tbL_law_19_k 23 rfl) ?_
  refine l_sld hx hb hX hbl hbA hI hs.2.2.1.1 hs.2.2.1.2 (dc tbL_law_19_k 24 rfl) ?_
  refine lv_aload_n hx hb (dc tbL_law_19_k 25 rfl) rfl (lv_at hl 3 rfl) ?_
  obtain ⟨M3, r2, q1, hf⟩ := calh_s hf
  refine l_callH (g_runH hx hb hml hown hts hK hap hsx hnc hI (tL_setLeg l hst hk0 hk1 q1 H.size) ch_L_setLeg q_t6_234 rfl rfl ⟨Nat.le_of_ble_eq_true rfl, Nat.le_of_ble_eq_true rfl⟩ rfl hl.1 rfl (Nat.le_of_ble_eq_true rfl) (dc tbL_law_19_k 26 rfl) ⟨by have := hc.1; show _ ≤ 601024; omega, by have := hc.2; show _ ≤ 7293034; omega⟩) hI hJ hA hd1 (fun H locs hI hJ => ?_)
  refine lv_istore (lv' := [(6, .int r2), (0, .ref b), (1, .ref (ad 0)), (2, .ref (ad' 135)), (3, .ref (ad 152)), (4, .ref (ad 153)), (5, .int x5)]) hx hb (dc tbL_law_19_k 27 rfl) hl (by decide) rfl (fun ls hl => ?_)
  refine lv_aload_n hx hb (dc tbL_law_19_k 28 rfl) rfl (lv_at hl 3 rfl) ?_
  refine lv_aload_n hx hb (dc tbL_law_19_k 29 rfl) rfl (lv_at hl 1 rfl) ?_
  refine lv_iload hx hb (dc tbL_law_19_k 30 rfl) (lv_at hl 6 rfl) ?_
  refine lv_iconst (v := 1) hx hb (dc tbL_law_19_k 31 rfl) ic_1 ?_
  refine lv_iadd hx hb (dc tbL_law_19_k 32 rfl) ?_
  refine l_sld hx hb hX hbl hbA hI hs.2.1.1 hs.2.1.2 (dc tbL_law_19_k 33 rfl) ?_
  refine lv_aload_n hx hb (dc tbL_law_19_k 34 rfl) rfl (lv_at hl 1 rfl) ?_
  refine lv_iload hx hb (dc tbL_law_19_k 35 rfl) (lv_at hl 6 rfl) ?_
  refine lv_iconst (v := 2) hx hb (dc tbL_law_19_k 36 rfl) ic_2 ?_
  refine lv_iadd hx hb (dc tbL_law_19_k 37 rfl) ?_
  refine l_sld hx hb hX hbl hbA hI hs.2.2.1.1 hs.2.2.1.2 (dc tbL_law_19_k 38 rfl) ?_
  obtain ⟨N6, r5, q4, hf⟩ := cal_s hf
  refine l_calli (g_runV hx hb hml hown hts hK hap2 hsx2 hJ (tX7_setLeg l hk2 q4 H.size) cv_X7_setLeg q_t9_203 rfl rfl ⟨Nat.le_of_ble_eq_true rfl, Nat.le_of_ble_eq_true rfl⟩ hk2.1 (by simp) rfl rfl rfl hl.1 rfl (Nat.le_of_ble_eq_true rfl) (dc tbL_law_19_k 39 rfl) ⟨by have := hc.1; show _ ≤ 601024; omega, by have := hc.2; show _ ≤ 7293034; omega⟩) hJ hI hA.symm hd2 (fun H locs hJ hI => ?_)
  refine lv_istore (lv' := [(7, .int r5), (6, .int r2), (0, .ref b), (1, .ref (ad 0)), (2, .ref (ad' 135)), (3, .ref (ad 152)), (4, .ref (ad 153)), (5, .int x5)]) hx hb (dc tbL_law_20_k 0 rfl) hl (by decide) rfl (fun ls hl => ?_)
  refine lv_goto (tgt := 1766) hx hb (dc tbL_law_20_k 1 rfl) rfl ?_
  obtain ⟨h7, hf⟩ := chk_s hf
  cases hf
  refine W.widen (k := cells + 64) (n := slots + 4096) (by omega) (by omega) ?_
  exact hk _ _ _ _ _ C (by rw [of_decide_eq_true h7]; exact hS) hI hJ (lv_sub hl [2, 3, 4, 5, 6, 7] rfl)
def mlc_49 (a1 a2 a3 a4 a5 : Int32) (M N : Mem) : Option (Mem × Mem) := ite2 (a2 = 0) (calh (mL_setDirection 0 152 a1 (0 : Int32) M) (fun M4 r3 => ite2 (a2 = 0) (cal (mX7_setDirection 135 a1 (0 : Int32) N) (fun N8 r7 => chk (decide (rd M4 133 0 = rd M 133 0)) (some (M4, N8)))) (cal (mX7_setDirection 135 a1 (1 : Int32) N) (fun N12 r11 => chk (decide (rd M4 133 0 = rd M 133 0)) (some (M4, N12)))))) (calh (mL_setDirection 0 152 a1 (1 : Int32) M) (fun M16 r15 => ite2 (a2 = 0) (cal (mX7_setDirection 135 a1 (0 : Int32) N) (fun N20 r19 => chk (decide (rd M16 133 0 = rd M 133 0)) (some (M16, N20)))) (cal (mX7_setDirection 135 a1 (1 : Int32) N) (fun N24 r23 => chk (decide (rd M16 133 0 = rd M 133 0)) (some (M16, N24))))))
set_option maxHeartbeats 4000000 in
set_option maxRecDepth 100000 in
theorem lc_49 (hc : cells + 64 ≤ 601024 ∧ slots + 4096 ≤ 7293034) {x5 a0 a1 a2 a3 a4 a5 : Int32} (hs : Sc xs L x5 a0 a1 a2 a3 a4 a5) {M N M' N' : Mem} (hf : mlc_49 a1 a2 a3 a4 a5 M N = some (M', N')) (hk : AtW p l e s m args below meth c L xs G kd' ad' b x5 M' N' Q (cells + 64) (slots + 4096) 1766) : AtW p l e s m args below meth c L xs G kd' ad' b x5 M N Q cells slots 1500 := by
  intro kd ad H locs ls C hS hI hJ hl
  obtain ⟨hx, hb, hml, hown, hts, hK, hap, hap2, hsx, hsx2, hnc, hst, hA, hd1, hd2, hX, hbl, hbA, hk0, hLo, hk1, hk3, hk2⟩ := id C
  unfold mlc_49 at hf
  refine lv_aload_n hx hb (dc tbL_law_20_k 2 rfl) rfl (lv_at hl 1 rfl) ?_
  refine lv_aload_n hx hb (dc tbL_law_20_k 3 rfl) rfl (lv_at hl 0 rfl) ?_
  refine lv_iload hx hb (dc tbL_law_20_k 4 rfl) (lv_at hl 5 rfl) ?_
  refine lv_iconst (v := 1) hx hb (dc tbL_law_20_k 5 rfl) ic_1 ?_
  refine lv_iadd hx hb (dc tbL_law_20_k 6 rfl) ?_
  refine l_sld hx hb hX hbl hbA hI hs.2.1.1 hs.2.1.2 (dc tbL_law_20_k 7 rfl) ?_
  refine lv_aload_n hx hb (dc tbL_law_20_k 8 rfl) rfl (lv_at hl 0 rfl) ?_
  refine lv_iload hx hb (dc tbL_law_20_k 9 rfl) (lv_at hl 5 rfl) ?_
  refine lv_iconst (v := 2) hx hb (dc tbL_law_20_k 10 rfl) ic_2 ?_
  refine lv_iadd hx hb (dc tbL_law_20_k 11 rfl) ?_
  refine l_sld hx hb hX hbl hbA hI hs.2.2.1.1 hs.2.2.1.2 (dc tbL_law_20_k 12 rfl) ?_
  refine lv_if_eq (tgt := 1520) hx hb (dc tbL_law_20_k 13 rfl) rfl (fun c1 => ?_) (fun c1 => ?_)
  · have hf := ite_t c1 hf
    refine lv_iconst (v := 0) hx hb (dc tbL_law_20_k 16 rfl) ic_0 ?_
    refine lv_aload_n hx hb (dc tbL_law_20_k 17 rfl) rfl (lv_at hl 3 rfl) ?_
    obtain ⟨M4, r3, q2, hf⟩ := calh_s hf
    refine l_callH (g_runH hx hb hml hown hts hK hap hsx hnc hI (tL_setDirection l hst hk0 hk1 q2 H.size) ch_L_setDirection q_t7_4 rfl rfl ⟨Nat.le_of_ble_eq_true rfl, Nat.le_of_ble_eq_true rfl⟩ rfl hl.1 rfl (Nat.le_of_ble_eq_true rfl) (dc tbL_law_20_k 18 rfl) ⟨by have := hc.1; show _ ≤ 601024; omega, by have := hc.2; show _ ≤ 7293034; omega⟩) hI hJ hA hd1 (fun H locs hI hJ => ?_)
    refine lv_istore (lv' := [(6, .int r3), (0, .ref b), (1, .ref (ad 0)), (2, .ref (ad' 135)), (3, .ref (ad 152)), (4, .ref (ad 153)), (5, .int x5)]) hx hb (dc tbL_law_20_k 19 rfl) hl (by decide) rfl (fun ls hl => ?_)
    refine lv_aload_n hx hb (dc tbL_law_20_k 20 rfl) rfl (lv_at hl 3 rfl) ?_
    refine lv_aload_n hx hb (dc tbL_law_20_k 21 rfl) rfl (lv_at hl 1 rfl) ?_
    refine lv_iload hx hb (dc tbL_law_20_k 22 rfl) (lv_at hl 6 rfl) ?_
    refine lv_iconst (v := 1) hx hb (dc tbL_law_20_k 23 rfl) ic_1 ?_
    refine lv_iadd hx hb (dc tbL_law_20_k 24 rfl) ?_
    refine l_sld hx hb hX hbl hbA hI hs.2.1.1 hs.2.1.2 (dc tbL_law_20_k 25 rfl) ?_
    refine lv_aload_n hx hb (dc tbL_law_20_k 26 rfl) rfl (lv_at hl 1 rfl) ?_
    refine lv_iload hx hb (dc tbL_law_20_k 27 rfl) (lv_at hl 6 rfl) ?_
    refine lv_iconst (v := 2) hx hb (dc tbL_law_20_k 28 rfl) ic_2 ?_
    refine lv_iadd hx hb (dc tbL_law_20_k 29 rfl) ?_
    refine l_sld hx hb hX hbl hbA hI hs.2.2.1.1 hs.2.2.1.2 (dc tbL_law_20_k 30 rfl) ?_
    refine lv_if_eq (tgt := 1547) hx hb (dc tbL_law_20_k 31 rfl) rfl (fun c5 => ?_) (fun c5 => ?_)
    · have hf := ite_t c5 hf
      refine lv_iconst (v := 0) hx hb (dc tbL_law_20_k 34 rfl) ic_0 ?_
      obtain ⟨N8, r7, q6, hf⟩ := cal_s hf
      refine l_calli (g_runV hx hb hml hown hts hK hap2 hsx2 hJ (tX7_setDirection l hk2 q6 H.size) cv_X7_setDirection q_t9_212 rfl rfl ⟨Nat.le_of_ble_eq_true rfl, Nat.le_of_ble_eq_true rfl⟩ hk2.1 (by simp) rfl rfl rfl hl.1 rfl (Nat.le_of_ble_eq_true rfl) (dc tbL_law_20_k 35 rfl) ⟨by have := hc.1; show _ ≤ 601024; omega, by have := hc.2; show _ ≤ 7293034; omega⟩) hJ hI hA.symm hd2 (fun H locs hJ hI => ?_)
      refine lv_istore (lv' := [(7, .int r7), (6, .int r3), (0, .ref b), (1, .ref (ad 0)), (2, .ref (ad' 135)), (3, .ref (ad 152)), (4, .ref (ad 153)), (5, .int x5)]) hx hb (dc tbL_law_20_k 36 rfl) hl (by decide) rfl (fun ls hl => ?_)
      refine lv_goto (tgt := 1766) hx hb (dc tbL_law_20_k 37 rfl) rfl ?_
      obtain ⟨h9, hf⟩ := chk_s hf
      cases hf
      refine W.widen (k := cells + 64) (n := slots + 4096) (by omega) (by omega) ?_
      exact hk _ _ _ _ _ C (by rw [of_decide_eq_true h9]; exact hS) hI hJ (lv_sub hl [2, 3, 4, 5, 6, 7] rfl)
    · have hf := ite_f c5 hf
      refine lv_iconst (v := 1) hx hb (dc tbL_law_20_k 32 rfl) ic_1 ?_
      refine lv_goto (tgt := 1548) hx hb (dc tbL_law_20_k 33 rfl) rfl ?_
      obtain ⟨N12, r11, q10, hf⟩ := cal_s hf
      refine l_calli (g_runV hx hb hml hown hts hK hap2 hsx2 hJ (tX7_setDirection l hk2 q10 H.size) cv_X7_setDirection q_t9_212 rfl rfl ⟨Nat.le_of_ble_eq_true rfl, Nat.le_of_ble_eq_true rfl⟩ hk2.1 (by simp) rfl rfl rfl hl.1 rfl (Nat.le_of_ble_eq_true rfl) (dc tbL_law_20_k 35 rfl) ⟨by have := hc.1; show _ ≤ 601024; omega, by have := hc.2; show _ ≤ 7293034; omega⟩) hJ hI hA.symm hd2 (fun H locs hJ hI => ?_)
      refine lv_istore (lv' := [(7, .int r11), (6, .int r3), (0, .ref b), (1, .ref (ad 0)), (2, .ref (ad' 135)), (3, .ref (ad 152)), (4, .ref (ad 153)), (5, .int x5)]) hx hb (dc tbL_law_20_k 36 rfl) hl (by decide) rfl (fun ls hl => ?_)
      refine lv_goto (tgt := 1766) hx hb (dc tbL_law_20_k 37 rfl) rfl ?_
      obtain ⟨h13, hf⟩ := chk_s hf
      cases hf
      refine W.widen (k := cells + 64) (n := slots + 4096) (by omega) (by omega) ?_
      exact hk _ _ _ _ _ C (by rw [of_decide_eq_true h13]; exact hS) hI hJ (lv_sub hl [2, 3, 4, 5, 6, 7] rfl)
  · have hf := ite_f c1 hf
    refine lv_iconst (v := 1) hx hb (dc tbL_law_20_k 14 rfl) ic_1 ?_
    refine lv_goto (tgt := 1521) hx hb (dc tbL_law_20_k 15 rfl) rfl ?_
    refine lv_aload_n hx hb (dc tbL_law_20_k 17 rfl) rfl (lv_at hl 3 rfl) ?_
    obtain ⟨M16, r15, q14, hf⟩ := calh_s hf
    refine l_callH (g_runH hx hb hml hown hts hK hap hsx hnc hI (tL_setDirection l hst hk0 hk1 q14 H.size) ch_L_setDirection q_t7_4 rfl rfl ⟨Nat.le_of_ble_eq_true rfl, Nat.le_of_ble_eq_true rfl⟩ rfl hl.1 rfl (Nat.le_of_ble_eq_true rfl) (dc tbL_law_20_k 18 rfl) ⟨by have := hc.1; show _ ≤ 601024; omega, by have := hc.2; show _ ≤ 7293034; omega⟩) hI hJ hA hd1 (fun H locs hI hJ => ?_)
    refine lv_istore (lv' := [(6, .int r15), (0, .ref b), (1, .ref (ad 0)), (2, .ref (ad' 135)), (3, .ref (ad 152)), (4, .ref (ad 153)), (5, .int x5)]) hx hb (dc tbL_law_20_k 19 rfl) hl (by decide) rfl (fun ls hl => ?_)
    refine lv_aload_n hx hb (dc tbL_law_20_k 20 rfl) rfl (lv_at hl 3 rfl) ?_
    refine lv_aload_n hx hb (dc tbL_law_20_k 21 rfl) rfl (lv_at hl 1 rfl) ?_
    refine lv_iload hx hb (dc tbL_law_20_k 22 rfl) (lv_at hl 6 rfl) ?_
    refine lv_iconst (v := 1) hx hb (dc tbL_law_20_k 23 rfl) ic_1 ?_
    refine lv_iadd hx hb (dc tbL_law_20_k 24 rfl) ?_
    refine l_sld hx hb hX hbl hbA hI hs.2.1.1 hs.2.1.2 (dc tbL_law_20_k 25 rfl) ?_
    refine lv_aload_n hx hb (dc tbL_law_20_k 26 rfl) rfl (lv_at hl 1 rfl) ?_
    refine lv_iload hx hb (dc tbL_law_20_k 27 rfl) (lv_at hl 6 rfl) ?_
    refine lv_iconst (v := 2) hx hb (dc tbL_law_20_k 28 rfl) ic_2 ?_
    refine lv_iadd hx hb (dc tbL_law_20_k 29 rfl) ?_
    refine l_sld hx hb hX hbl hbA hI hs.2.2.1.1 hs.2.2.1.2 (dc tbL_law_20_k 30 rfl) ?_
    refine lv_if_eq (tgt := 1547) hx hb (dc tbL_law_20_k 31 rfl) rfl (fun c17 => ?_) (fun c17 => ?_)
    · have hf := ite_t c17 hf
      refine lv_iconst (v := 0) hx hb (dc tbL_law_20_k 34 rfl) ic_0 ?_
      obtain ⟨N20, r19, q18, hf⟩ := cal_s hf
      refine l_calli (g_runV hx hb hml hown hts hK hap2 hsx2 hJ (tX7_setDirection l hk2 q18 H.size) cv_X7_setDirection q_t9_212 rfl rfl ⟨Nat.le_of_ble_eq_true rfl, Nat.le_of_ble_eq_true rfl⟩ hk2.1 (by simp) rfl rfl rfl hl.1 rfl (Nat.le_of_ble_eq_true rfl) (dc tbL_law_20_k 35 rfl) ⟨by have := hc.1; show _ ≤ 601024; omega, by have := hc.2; show _ ≤ 7293034; omega⟩) hJ hI hA.symm hd2 (fun H locs hJ hI => ?_)
      refine lv_istore (lv' := [(7, .int r19), (6, .int r15), (0, .ref b), (1, .ref (ad 0)), (2, .ref (ad' 135)), (3, .ref (ad 152)), (4, .ref (ad 153)), (5, .int x5)]) hx hb (dc tbL_law_20_k 36 rfl) hl (by decide) rfl (fun ls hl => ?_)
      refine lv_goto (tgt := 1766) hx hb (dc tbL_law_20_k 37 rfl) rfl ?_
      obtain ⟨h21, hf⟩ := chk_s hf
      cases hf
      refine W.widen (k := cells + 64) (n := slots + 4096) (by omega) (by omega) ?_
      exact hk _ _ _ _ _ C (by rw [of_decide_eq_true h21]; exact hS) hI hJ (lv_sub hl [2, 3, 4, 5, 6, 7] rfl)
    · have hf := ite_f c17 hf
      refine lv_iconst (v := 1) hx hb (dc tbL_law_20_k 32 rfl) ic_1 ?_
      refine lv_goto (tgt := 1548) hx hb (dc tbL_law_20_k 33 rfl) rfl ?_
      obtain ⟨N24, r23, q22, hf⟩ := cal_s hf
      refine l_calli (g_runV hx hb hml hown hts hK hap2 hsx2 hJ (tX7_setDirection l hk2 q22 H.size) cv_X7_setDirection q_t9_212 rfl rfl ⟨Nat.le_of_ble_eq_true rfl, Nat.le_of_ble_eq_true rfl⟩ hk2.1 (by simp) rfl rfl rfl hl.1 rfl (Nat.le_of_ble_eq_true rfl) (dc tbL_law_20_k 35 rfl) ⟨by have := hc.1; show _ ≤ 601024; omega, by have := hc.2; show _ ≤ 7293034; omega⟩) hJ hI hA.symm hd2 (fun H locs hJ hI => ?_)
      refine lv_istore (lv' := [(7, .int r23), (6, .int r15), (0, .ref b), (1, .ref (ad 0)), (2, .ref (ad' 135)), (3, .ref (ad 152)), (4, .ref (ad 153)), (5, .int x5)]) hx hb (dc tbL_law_20_k 36 rfl) hl (by decide) rfl (fun ls hl => ?_)
      refine lv_goto (tgt := 1766) hx hb (dc tbL_law_20_k 37 rfl) rfl ?_
      obtain ⟨h25, hf⟩ := chk_s hf
      cases hf
      refine W.widen (k := cells + 64) (n := slots + 4096) (by omega) (by omega) ?_
      exact hk _ _ _ _ _ C (by rw [of_decide_eq_true h25]; exact hS) hI hJ (lv_sub hl [2, 3, 4, 5, 6, 7] rfl)
def mlc_50 (a1 a2 a3 a4 a5 : Int32) (M N : Mem) : Option (Mem × Mem) := calh (mL_setTool 0 152 a1 a2 a3 M) (fun M3 r2 => cal (mX7_setTool 135 a1 a2 a3 N) (fun N6 r5 => chk (decide (rd M3 133 0 = rd M 133 0)) (some (M3, N6))))
set_option maxHeartbeats 4000000 in
set_option maxRecDepth 100000 in
theorem lc_50 (hc : cells + 64 ≤ 601024 ∧ slots + 4096 ≤ 7293034) {x5 a0 a1 a2 a3 a4 a5 : Int32} (hs : Sc xs L x5 a0 a1 a2 a3 a4 a5) {M N M' N' : Mem} (hf : mlc_50 a1 a2 a3 a4 a5 M N = some (M', N')) (hk : AtW p l e s m args below meth c L xs G kd' ad' b x5 M' N' Q (cells + 64) (slots + 4096) 1766) : AtW p l e s m args below meth c L xs G kd' ad' b x5 M N Q cells slots 1556 := by
  intro kd ad H locs ls C hS hI hJ hl
  obtain ⟨hx, hb, hml, hown, hts, hK, hap, hap2, hsx, hsx2, hnc, hst, hA, hd1, hd2, hX, hbl, hbA, hk0, hLo, hk1, hk3, hk2⟩ := id C
  unfold mlc_50 at hf
  refine lv_aload_n hx hb (dc tbL_law_20_k 38 rfl) rfl (lv_at hl 1 rfl) ?_
  refine lv_aload_n hx hb (dc tbL_law_20_k 39 rfl) rfl (lv_at hl 0 rfl) ?_
  refine lv_iload hx hb (dc tbL_law_21_k 0 rfl) (lv_at hl 5 rfl) ?_
  refine lv_iconst (v := 1) hx hb (dc tbL_law_21_k 1 rfl) ic_1 ?_
  refine lv_iadd hx hb (dc tbL_law_21_k 2 rfl) ?_
  refine l_sld hx hb hX hbl hbA hI hs.2.1.1 hs.2.1.2 (dc tbL_law_21_k 3 rfl) ?_
  refine lv_aload_n hx hb (dc tbL_law_21_k 4 rfl) rfl (lv_at hl 0 rfl) ?_
  refine lv_iload hx hb (dc tbL_law_21_k 5 rfl) (lv_at hl 5 rfl) ?_
  refine lv_iconst (v := 2) hx hb (dc tbL_law_21_k 6 rfl) ic_2 ?_
  refine lv_iadd hx hb (dc tbL_law_21_k 7 rfl) ?_
  refine l_sld hx hb hX hbl hbA hI hs.2.2.1.1 hs.2.2.1.2 (dc tbL_law_21_k 8 rfl) ?_
  refine lv_aload_n hx hb (dc tbL_law_21_k 9 rfl) rfl (lv_at hl 0 rfl) ?_
  refine lv_iload hx hb (dc tbL_law_21_k 10 rfl) (lv_at hl 5 rfl) ?_
  refine lv_iconst (v := 3) hx hb (dc tbL_law_21_k 11 rfl) ic_3 ?_
  refine lv_iadd hx hb (dc tbL_law_21_k 12 rfl) ?_
  refine l_sld hx hb hX hbl hbA hI hs.2.2.2.1.1 hs.2.2.2.1.2 (dc tbL_law_21_k 13 rfl) ?_
  refine lv_aload_n hx hb (dc tbL_law_21_k 14 rfl) rfl (lv_at hl 3 rfl) ?_
  obtain ⟨M3, r2, q1, hf⟩ := calh_s hf
  refine l_callH (g_runH hx hb hml hown hts hK hap hsx hnc hI (tL_setTool l hst hk0 hk1 q1 H.size) ch_L_setTool q_t7_11 rfl rfl ⟨Nat.le_of_ble_eq_true rfl, Nat.le_of_ble_eq_true rfl⟩ rfl hl.1 rfl (Nat.le_of_ble_eq_true rfl) (dc tbL_law_21_k 15 rfl) ⟨by have := hc.1; show _ ≤ 601024; omega, by have := hc.2; show _ ≤ 7293034; omega⟩) hI hJ hA hd1 (fun H locs hI hJ => ?_)
  refine lv_istore (lv' := [(6, .int r2), (0, .ref b), (1, .ref (ad 0)), (2, .ref (ad' 135)), (3, .ref (ad 152)), (4, .ref (ad 153)), (5, .int x5)]) hx hb (dc tbL_law_21_k 16 rfl) hl (by decide) rfl (fun ls hl => ?_)
  refine lv_aload_n hx hb (dc tbL_law_21_k 17 rfl) rfl (lv_at hl 3 rfl) ?_
  refine lv_aload_n hx hb (dc tbL_law_21_k 18 rfl) rfl (lv_at hl 1 rfl) ?_
  refine lv_iload hx hb (dc tbL_law_21_k 19 rfl) (lv_at hl 6 rfl) ?_
  refine lv_iconst (v := 1) hx hb (dc tbL_law_21_k 20 rfl) ic_1 ?_
  refine lv_iadd hx hb (dc tbL_law_21_k 21 rfl) ?_
  refine l_sld hx hb hX hbl hbA hI hs.2.1.1 hs.2.1.2 (dc tbL_law_21_k 22 rfl) ?_
  refine lv_aload_n hx hb (dc tbL_law_21_k 23 rfl) rfl (lv_at hl 1 rfl) ?_
  refine lv_iload hx hb (dc tbL_law_21_k 24 rfl) (lv_at hl 6 rfl) ?_
  refine lv_iconst (v := 2) hx hb (dc tbL_law_21_k 25 rfl) ic_2 ?_
  refine lv_iadd hx hb (dc tbL_law_21_k 26 rfl) ?_
  refine l_sld hx hb hX hbl hbA hI hs.2.2.1.1 hs.2.2.1.2 (dc tbL_law_21_k 27 rfl) ?_
  refine lv_aload_n hx hb (dc tbL_law_21_k 28 rfl) rfl (lv_at hl 1 rfl) ?_
  refine lv_iload hx hb (dc tbL_law_21_k 29 rfl) (lv_at hl 6 rfl) ?_
  refine lv_iconst (v := 3) hx hb (dc tbL_law_21_k 30 rfl) ic_3 ?_
  refine lv_iadd hx hb (dc tbL_law_21_k 31 rfl) ?_
  refine l_sld hx hb hX hbl hbA hI hs.2.2.2.1.1 hs.2.2.2.1.2 (dc tbL_law_21_k 32 rfl) ?_
  obtain ⟨N6, r5, q4, hf⟩ := cal_s hf
  refine l_calli (g_runV hx hb hml hown hts hK hap2 hsx2 hJ (tX7_setTool l hk2 q4 H.size) cv_X7_setTool q_t9_216 rfl rfl ⟨Nat.le_of_ble_eq_true rfl, Nat.le_of_ble_eq_true rfl⟩ hk2.1 (by simp) rfl rfl rfl hl.1 rfl (Nat.le_of_ble_eq_true rfl) (dc tbL_law_21_k 33 rfl) ⟨by have := hc.1; show _ ≤ 601024; omega, by have := hc.2; show _ ≤ 7293034; omega⟩) hJ hI hA.symm hd2 (fun H locs hJ hI => ?_)
  refine lv_istore (lv' := [(7, .int r5), (6, .int r2), (0, .ref b), (1, .ref (ad 0)), (2, .ref (ad' 135)), (3, .ref (ad 152)), (4, .ref (ad 153)), (5, .int x5)]) hx hb (dc tbL_law_21_k 34 rfl) hl (by decide) rfl (fun ls hl => ?_)
  refine lv_goto (tgt := 1766) hx hb (dc tbL_law_21_k 35 rfl) rfl ?_
  obtain ⟨h7, hf⟩ := chk_s hf
  cases hf
  refine W.widen (k := cells + 64) (n := slots + 4096) (by omega) (by omega) ?_
  exact hk _ _ _ _ _ C (by rw [of_decide_eq_true h7]; exact hS) hI hJ (lv_sub hl [2, 3, 4, 5, 6, 7] rfl)
def mlc_51 (a1 a2 a3 a4 a5 : Int32) (M N : Mem) : Option (Mem × Mem) := calh (mL_setSheet 0 152 a1 a2 a3 M) (fun M3 r2 => cal (mX7_setSheet 135 a1 a2 a3 N) (fun N6 r5 => chk (decide (rd M3 133 0 = rd M 133 0)) (some (M3, N6))))
set_option maxHeartbeats 4000000 in
set_option maxRecDepth 100000 in
theorem lc_51 (hc : cells + 64 ≤ 601024 ∧ slots + 4096 ≤ 7293034) {x5 a0 a1 a2 a3 a4 a5 : Int32} (hs : Sc xs L x5 a0 a1 a2 a3 a4 a5) {M N M' N' : Mem} (hf : mlc_51 a1 a2 a3 a4 a5 M N = some (M', N')) (hk : AtW p l e s m args below meth c L xs G kd' ad' b x5 M' N' Q (cells + 64) (slots + 4096) 1766) : AtW p l e s m args below meth c L xs G kd' ad' b x5 M N Q cells slots 1608 := by
  intro kd ad H locs ls C hS hI hJ hl
  obtain ⟨hx, hb, hml, hown, hts, hK, hap, hap2, hsx, hsx2, hnc, hst, hA, hd1, hd2, hX, hbl, hbA, hk0, hLo, hk1, hk3, hk2⟩ := id C
  unfold mlc_51 at hf
  refine lv_aload_n hx hb (dc tbL_law_21_k 36 rfl) rfl (lv_at hl 1 rfl) ?_
  refine lv_aload_n hx hb (dc tbL_law_21_k 37 rfl) rfl (lv_at hl 0 rfl) ?_
  refine lv_iload hx hb (dc tbL_law_21_k 38 rfl) (lv_at hl 5 rfl) ?_
  refine lv_iconst (v := 1) hx hb (dc tbL_law_21_k 39 rfl) ic_1 ?_
  refine lv_iadd hx hb (dc tbL_law_22_k 0 rfl) ?_
  refine l_sld hx hb hX hbl hbA hI hs.2.1.1 hs.2.1.2 (dc tbL_law_22_k 1 rfl) ?_
  refine lv_aload_n hx hb (dc tbL_law_22_k 2 rfl) rfl (lv_at hl 0 rfl) ?_
  refine lv_iload hx hb (dc tbL_law_22_k 3 rfl) (lv_at hl 5 rfl) ?_
  refine lv_iconst (v := 2) hx hb (dc tbL_law_22_k 4 rfl) ic_2 ?_
  refine lv_iadd hx hb (dc tbL_law_22_k 5 rfl) ?_
  refine l_sld hx hb hX hbl hbA hI hs.2.2.1.1 hs.2.2.1.2 (dc tbL_law_22_k 6 rfl) ?_
  refine lv_aload_n hx hb (dc tbL_law_22_k 7 rfl) rfl (lv_at hl 0 rfl) ?_
  refine lv_iload hx hb (dc tbL_law_22_k 8 rfl) (lv_at hl 5 rfl) ?_
  refine lv_iconst (v := 3) hx hb (dc tbL_law_22_k 9 rfl) ic_3 ?_
  refine lv_iadd hx hb (dc tbL_law_22_k 10 rfl) ?_
  refine l_sld hx hb hX hbl hbA hI hs.2.2.2.1.1 hs.2.2.2.1.2 (dc tbL_law_22_k 11 rfl) ?_
  refine lv_aload_n hx hb (dc tbL_law_22_k 12 rfl) rfl (lv_at hl 3 rfl) ?_
  obtain ⟨M3, r2, q1, hf⟩ := calh_s hf
  refine l_callH (g_runH hx hb hml hown hts hK hap hsx hnc hI (tL_setSheet l hst hk0 hk1 q1 H.size) ch_L_setSheet q_t7_21 rfl rfl ⟨Nat.le_of_ble_eq_true rfl, Nat.le_of_ble_eq_true rfl⟩ rfl hl.1 rfl (Nat.le_of_ble_eq_true rfl) (dc tbL_law_22_k 13 rfl) ⟨by have := hc.1; show _ ≤ 601024; omega, by have := hc.2; show _ ≤ 7293034; omega⟩) hI hJ hA hd1 (fun H locs hI hJ => ?_)
  refine lv_istore (lv' := [(6, .int r2), (0, .ref b), (1, .ref (ad 0)), (2, .ref (ad' 135)), (3, .ref (ad 152)), (4, .ref (ad 153)), (5, .int x5)]) hx hb (dc tbL_law_22_k 14 rfl) hl (by decide) rfl (fun ls hl => ?_)
  refine lv_aload_n hx hb (dc tbL_law_22_k 15 rfl) rfl (lv_at hl 3 rfl) ?_
  refine lv_aload_n hx hb (dc tbL_law_22_k 16 rfl) rfl (lv_at hl 1 rfl) ?_
  refine lv_iload hx hb (dc tbL_law_22_k 17 rfl) (lv_at hl 6 rfl) ?_
  refine lv_iconst (v := 1) hx hb (dc tbL_law_22_k 18 rfl) ic_1 ?_
  refine lv_iadd hx hb (dc tbL_law_22_k 19 rfl) ?_
  refine l_sld hx hb hX hbl hbA hI hs.2.1.1 hs.2.1.2 (dc tbL_law_22_k 20 rfl) ?_
  refine lv_aload_n hx hb (dc tbL_law_22_k 21 rfl) rfl (lv_at hl 1 rfl) ?_
  refine lv_iload hx hb (dc tbL_law_22_k 22 rfl) (lv_at hl 6 rfl) ?_
  refine lv_iconst (v := 2) hx hb (dc tbL_law_22_k 23 rfl) ic_2 ?_
  refine lv_iadd hx hb (dc tbL_law_22_k 24 rfl) ?_
  refine l_sld hx hb hX hbl hbA hI hs.2.2.1.1 hs.2.2.1.2 (dc tbL_law_22_k 25 rfl) ?_
  refine lv_aload_n hx hb (dc tbL_law_22_k 26 rfl) rfl (lv_at hl 1 rfl) ?_
  refine lv_iload hx hb (dc tbL_law_22_k 27 rfl) (lv_at hl 6 rfl) ?_
  refine lv_iconst (v := 3) hx hb (dc tbL_law_22_k 28 rfl) ic_3 ?_
  refine lv_iadd hx hb (dc tbL_law_22_k 29 rfl) ?_
  refine l_sld hx hb hX hbl hbA hI hs.2.2.2.1.1 hs.2.2.2.1.2 (dc tbL_law_22_k 30 rfl) ?_
  obtain ⟨N6, r5, q4, hf⟩ := cal_s hf
  refine l_calli (g_runV hx hb hml hown hts hK hap2 hsx2 hJ (tX7_setSheet l hk2 q4 H.size) cv_X7_setSheet q_t9_223 rfl rfl ⟨Nat.le_of_ble_eq_true rfl, Nat.le_of_ble_eq_true rfl⟩ hk2.1 (by simp) rfl rfl rfl hl.1 rfl (Nat.le_of_ble_eq_true rfl) (dc tbL_law_22_k 31 rfl) ⟨by have := hc.1; show _ ≤ 601024; omega, by have := hc.2; show _ ≤ 7293034; omega⟩) hJ hI hA.symm hd2 (fun H locs hJ hI => ?_)
  refine lv_istore (lv' := [(7, .int r5), (6, .int r2), (0, .ref b), (1, .ref (ad 0)), (2, .ref (ad' 135)), (3, .ref (ad 152)), (4, .ref (ad 153)), (5, .int x5)]) hx hb (dc tbL_law_22_k 32 rfl) hl (by decide) rfl (fun ls hl => ?_)
  refine lv_goto (tgt := 1766) hx hb (dc tbL_law_22_k 33 rfl) rfl ?_
  obtain ⟨h7, hf⟩ := chk_s hf
  cases hf
  refine W.widen (k := cells + 64) (n := slots + 4096) (by omega) (by omega) ?_
  exact hk _ _ _ _ _ C (by rw [of_decide_eq_true h7]; exact hS) hI hJ (lv_sub hl [2, 3, 4, 5, 6, 7] rfl)
def mlc_52 (a1 a2 a3 a4 a5 : Int32) (M N : Mem) : Option (Mem × Mem) := calh (mL_setCost 0 152 a1 a2 a3 M) (fun M3 r2 => cal (mX7_setCost 135 a1 a2 a3 N) (fun N6 r5 => chk (decide (rd M3 133 0 = rd M 133 0)) (some (M3, N6))))
set_option maxHeartbeats 4000000 in
set_option maxRecDepth 100000 in
theorem lc_52 (hc : cells + 64 ≤ 601024 ∧ slots + 4096 ≤ 7293034) {x5 a0 a1 a2 a3 a4 a5 : Int32} (hs : Sc xs L x5 a0 a1 a2 a3 a4 a5) {M N M' N' : Mem} (hf : mlc_52 a1 a2 a3 a4 a5 M N = some (M', N')) (hk : AtW p l e s m args below meth c L xs G kd' ad' b x5 M' N' Q (cells + 64) (slots + 4096) 1766) : AtW p l e s m args below meth c L xs G kd' ad' b x5 M N Q cells slots 1660 := by
  intro kd ad H locs ls C hS hI hJ hl
  obtain ⟨hx, hb, hml, hown, hts, hK, hap, hap2, hsx, hsx2, hnc, hst, hA, hd1, hd2, hX, hbl, hbA, hk0, hLo, hk1, hk3, hk2⟩ := id C
  unfold mlc_52 at hf
  refine lv_aload_n hx hb (dc tbL_law_22_k 34 rfl) rfl (lv_at hl 1 rfl) ?_
  refine lv_aload_n hx hb (dc tbL_law_22_k 35 rfl) rfl (lv_at hl 0 rfl) ?_
  refine lv_iload hx hb (dc tbL_law_22_k 36 rfl) (lv_at hl 5 rfl) ?_
  refine lv_iconst (v := 1) hx hb (dc tbL_law_22_k 37 rfl) ic_1 ?_
  refine lv_iadd hx hb (dc tbL_law_22_k 38 rfl) ?_
  refine l_sld hx hb hX hbl hbA hI hs.2.1.1 hs.2.1.2 (dc tbL_law_22_k 39 rfl) ?_
  refine lv_aload_n hx hb (dc tbL_law_23_k 0 rfl) rfl (lv_at hl 0 rfl) ?_
  refine lv_iload hx hb (dc tbL_law_23_k 1 rfl) (lv_at hl 5 rfl) ?_
  refine lv_iconst (v := 2) hx hb (dc tbL_law_23_k 2 rfl) ic_2 ?_
  refine lv_iadd hx hb (dc tbL_law_23_k 3 rfl) ?_
  refine l_sld hx hb hX hbl hbA hI hs.2.2.1.1 hs.2.2.1.2 (dc tbL_law_23_k 4 rfl) ?_
  refine lv_aload_n hx hb (dc tbL_law_23_k 5 rfl) rfl (lv_at hl 0 rfl) ?_
  refine lv_iload hx hb (dc tbL_law_23_k 6 rfl) (lv_at hl 5 rfl) ?_
  refine lv_iconst (v := 3) hx hb (dc tbL_law_23_k 7 rfl) ic_3 ?_
  refine lv_iadd hx hb (dc tbL_law_23_k 8 rfl) ?_
  refine l_sld hx hb hX hbl hbA hI hs.2.2.2.1.1 hs.2.2.2.1.2 (dc tbL_law_23_k 9 rfl) ?_
  refine lv_aload_n hx hb (dc tbL_law_23_k 10 rfl) rfl (lv_at hl 3 rfl) ?_
  obtain ⟨M3, r2, q1, hf⟩ := calh_s hf
  refine l_callH (g_runH hx hb hml hown hts hK hap hsx hnc hI (tL_setCost l hst hk0 hk1 q1 H.size) ch_L_setCost q_t7_31 rfl rfl ⟨Nat.le_of_ble_eq_true rfl, Nat.le_of_ble_eq_true rfl⟩ rfl hl.1 rfl (Nat.le_of_ble_eq_true rfl) (dc tbL_law_23_k 11 rfl) ⟨by have := hc.1; show _ ≤ 601024; omega, by have := hc.2; show _ ≤ 7293034; omega⟩) hI hJ hA hd1 (fun H locs hI hJ => ?_)
  refine lv_istore (lv' := [(6, .int r2), (0, .ref b), (1, .ref (ad 0)), (2, .ref (ad' 135)), (3, .ref (ad 152)), (4, .ref (ad 153)), (5, .int x5)]) hx hb (dc tbL_law_23_k 12 rfl) hl (by decide) rfl (fun ls hl => ?_)
  refine lv_aload_n hx hb (dc tbL_law_23_k 13 rfl) rfl (lv_at hl 3 rfl) ?_
  refine lv_aload_n hx hb (dc tbL_law_23_k 14 rfl) rfl (lv_at hl 1 rfl) ?_
  refine lv_iload hx hb (dc tbL_law_23_k 15 rfl) (lv_at hl 6 rfl) ?_
  refine lv_iconst (v := 1) hx hb (dc tbL_law_23_k 16 rfl) ic_1 ?_
  refine lv_iadd hx hb (dc tbL_law_23_k 17 rfl) ?_
  refine l_sld hx hb hX hbl hbA hI hs.2.1.1 hs.2.1.2 (dc tbL_law_23_k 18 rfl) ?_
  refine lv_aload_n hx hb (dc tbL_law_23_k 19 rfl) rfl (lv_at hl 1 rfl) ?_
  refine lv_iload hx hb (dc tbL_law_23_k 20 rfl) (lv_at hl 6 rfl) ?_
  refine lv_iconst (v := 2) hx hb (dc tbL_law_23_k 21 rfl) ic_2 ?_
  refine lv_iadd hx hb (dc tbL_law_23_k 22 rfl) ?_
  refine l_sld hx hb hX hbl hbA hI hs.2.2.1.1 hs.2.2.1.2 (dc tbL_law_23_k 23 rfl) ?_
  refine lv_aload_n hx hb (dc tbL_law_23_k 24 rfl) rfl (lv_at hl 1 rfl) ?_
  refine lv_iload hx hb (dc tbL_law_23_k 25 rfl) (lv_at hl 6 rfl) ?_
  refine lv_iconst (v := 3) hx hb (dc tbL_law_23_k 26 rfl) ic_3 ?_
  refine lv_iadd hx hb (dc tbL_law_23_k 27 rfl) ?_
  refine l_sld hx hb hX hbl hbA hI hs.2.2.2.1.1 hs.2.2.2.1.2 (dc tbL_law_23_k 28 rfl) ?_
  obtain ⟨N6, r5, q4, hf⟩ := cal_s hf
  refine l_calli (g_runV hx hb hml hown hts hK hap2 hsx2 hJ (tX7_setCost l hk2 q4 H.size) cv_X7_setCost q_t9_230 rfl rfl ⟨Nat.le_of_ble_eq_true rfl, Nat.le_of_ble_eq_true rfl⟩ hk2.1 (by simp) rfl rfl rfl hl.1 rfl (Nat.le_of_ble_eq_true rfl) (dc tbL_law_23_k 29 rfl) ⟨by have := hc.1; show _ ≤ 601024; omega, by have := hc.2; show _ ≤ 7293034; omega⟩) hJ hI hA.symm hd2 (fun H locs hJ hI => ?_)
  refine lv_istore (lv' := [(7, .int r5), (6, .int r2), (0, .ref b), (1, .ref (ad 0)), (2, .ref (ad' 135)), (3, .ref (ad 152)), (4, .ref (ad 153)), (5, .int x5)]) hx hb (dc tbL_law_23_k 30 rfl) hl (by decide) rfl (fun ls hl => ?_)
  refine lv_goto (tgt := 1766) hx hb (dc tbL_law_23_k 31 rfl) rfl ?_
  obtain ⟨h7, hf⟩ := chk_s hf
  cases hf
  refine W.widen (k := cells + 64) (n := slots + 4096) (by omega) (by omega) ?_
  exact hk _ _ _ _ _ C (by rw [of_decide_eq_true h7]; exact hS) hI hJ (lv_sub hl [2, 3, 4, 5, 6, 7] rfl)
def mlc_53 (a1 a2 a3 a4 a5 : Int32) (M N : Mem) : Option (Mem × Mem) := cal (mX6_undo 0 M) (fun M3 r2 => cal (mX7_undo 135 N) (fun N6 r5 => chk (decide (rd M3 133 0 = rd M 133 0)) (some (M3, N6))))
set_option maxHeartbeats 4000000 in
set_option maxRecDepth 100000 in
theorem lc_53 (hc : cells + 64 ≤ 601024 ∧ slots + 4096 ≤ 7293034) {x5 a0 a1 a2 a3 a4 a5 : Int32} (hs : Sc xs L x5 a0 a1 a2 a3 a4 a5) {M N M' N' : Mem} (hf : mlc_53 a1 a2 a3 a4 a5 M N = some (M', N')) (hk : AtW p l e s m args below meth c L xs G kd' ad' b x5 M' N' Q (cells + 64) (slots + 4096) 1766) : AtW p l e s m args below meth c L xs G kd' ad' b x5 M N Q cells slots 1712 := by
  intro kd ad H locs ls C hS hI hJ hl
  obtain ⟨hx, hb, hml, hown, hts, hK, hap, hap2, hsx, hsx2, hnc, hst, hA, hd1, hd2, hX, hbl, hbA, hk0, hLo, hk1, hk3, hk2⟩ := id C
  unfold mlc_53 at hf
  refine lv_aload_n hx hb (dc tbL_law_23_k 32 rfl) rfl (lv_at hl 1 rfl) ?_
  obtain ⟨M3, r2, q1, hf⟩ := cal_s hf
  refine l_calli (g_runV hx hb hml hown hts hK hap hsx hI (tX6_undo l hk0 q1 H.size) cv_X6_undo q_t3_197 rfl rfl ⟨Nat.le_of_ble_eq_true rfl, Nat.le_of_ble_eq_true rfl⟩ hk0.1 (by simp) rfl rfl rfl hl.1 rfl (Nat.le_of_ble_eq_true rfl) (dc tbL_law_23_k 33 rfl) ⟨by have := hc.1; show _ ≤ 601024; omega, by have := hc.2; show _ ≤ 7293034; omega⟩) hI hJ hA hd1 (fun H locs hI hJ => ?_)
  refine lv_pop hx hb (dc tbL_law_23_k 34 rfl) rfl ?_
  refine lv_aload_n hx hb (dc tbL_law_23_k 35 rfl) rfl (lv_at hl 2 rfl) ?_
  obtain ⟨N6, r5, q4, hf⟩ := cal_s hf
  refine l_calli (g_runV hx hb hml hown hts hK hap2 hsx2 hJ (tX7_undo l hk2 q4 H.size) cv_X7_undo q_t7_174 rfl rfl ⟨Nat.le_of_ble_eq_true rfl, Nat.le_of_ble_eq_true rfl⟩ hk2.1 (by simp) rfl rfl rfl hl.1 rfl (Nat.le_of_ble_eq_true rfl) (dc tbL_law_23_k 36 rfl) ⟨by have := hc.1; show _ ≤ 601024; omega, by have := hc.2; show _ ≤ 7293034; omega⟩) hJ hI hA.symm hd2 (fun H locs hJ hI => ?_)
  refine lv_pop hx hb (dc tbL_law_23_k 37 rfl) rfl ?_
  refine lv_goto (tgt := 1766) hx hb (dc tbL_law_23_k 38 rfl) rfl ?_
  obtain ⟨h7, hf⟩ := chk_s hf
  cases hf
  refine W.widen (k := cells + 64) (n := slots + 4096) (by omega) (by omega) ?_
  exact hk _ _ _ _ _ C (by rw [of_decide_eq_true h7]; exact hS) hI hJ (lv_sub hl [0, 1, 2, 3, 4, 5] rfl)
def mlc_54 (a1 a2 a3 a4 a5 : Int32) (M N : Mem) : Option (Mem × Mem) := cal (mX6_write 0 M) (fun M3 r2 => cal (mX7_write 135 N) (fun N6 r5 => some (M3, N6)))
set_option maxHeartbeats 4000000 in
set_option maxRecDepth 100000 in
theorem lc_54 (hc : cells + 64 ≤ 601024 ∧ slots + 4096 ≤ 7293034) {x5 a0 a1 a2 a3 a4 a5 : Int32} (hs : Sc xs L x5 a0 a1 a2 a3 a4 a5) {M N M' N' : Mem} (hf : mlc_54 a1 a2 a3 a4 a5 M N = some (M', N')) (hk : AtW p l e s m args below meth c L xs G kd' ad' b x5 M' N' Q (cells + 64) (slots + 4096) 1766) : AtW p l e s m args below meth c L xs G kd' ad' b x5 M N Q cells slots 1725 := by
  intro kd ad H locs ls C hS hI hJ hl
  obtain ⟨hx, hb, hml, hown, hts, hK, hap, hap2, hsx, hsx2, hnc, hst, hA, hd1, hd2, hX, hbl, hbA, hk0, hLo, hk1, hk3, hk2⟩ := id C
  unfold mlc_54 at hf
  refine lv_aload_n hx hb (dc tbL_law_23_k 39 rfl) rfl (lv_at hl 1 rfl) ?_
  obtain ⟨M3, r2, q1, hf⟩ := cal_s hf
  refine l_callR (g_runVR hx hb hml hown hts hK hap hsx hI (tX6_write l hk0 hS hLo q1 H.size) cv_X6_write q_t3_205 rfl rfl ⟨Nat.le_of_ble_eq_true rfl, Nat.le_of_ble_eq_true rfl⟩ hk0.1 (by simp) rfl rfl rfl hl.1 rfl (Nat.le_of_ble_eq_true rfl) (dc tbL_law_24_k 0 rfl) ⟨by have := hc.1; show _ ≤ 601024; omega, by have := hc.2; show _ ≤ 7293034; omega⟩) hI hJ hA hd1 (fun kd1 ad1 H locs hE hL1 hS1 hap1 hdn hI hJ => ?_)
  have f0 : ad1 0 = ad 0 := (hE.1 0 (by rw [hk0.1]; simp)).2
  have f1 : ad1 152 = ad 152 := (hE.1 152 (by rw [hk1]; simp)).2
  have f3 : ad1 153 = ad 153 := (hE.1 153 (by rw [hk3]; simp)).2
  rw [← f0, ← f1, ← f3] at hl
  have C := C.ext hE hL1 hap1 hdn
  have hS := hS1
  obtain ⟨hx, hb, hml, hown, hts, hK, hap, hap2, hsx, hsx2, hnc, hst, hA, hd1, hd2, hX, hbl, hbA, hk0, hLo, hk1, hk3, hk2⟩ := id C
  refine lv_pop hx hb (dc tbL_law_24_k 1 rfl) rfl ?_
  refine lv_aload_n hx hb (dc tbL_law_24_k 2 rfl) rfl (lv_at hl 2 rfl) ?_
  obtain ⟨N6, r5, q4, hf⟩ := cal_s hf
  refine l_calli (g_runV hx hb hml hown hts hK hap2 hsx2 hJ (tX7_write l hk2 q4 H.size) cv_X7_write q_t9_235 rfl rfl ⟨Nat.le_of_ble_eq_true rfl, Nat.le_of_ble_eq_true rfl⟩ hk2.1 (by simp) rfl rfl rfl hl.1 rfl (Nat.le_of_ble_eq_true rfl) (dc tbL_law_24_k 3 rfl) ⟨by have := hc.1; show _ ≤ 601024; omega, by have := hc.2; show _ ≤ 7293034; omega⟩) hJ hI hA.symm hd2 (fun H locs hJ hI => ?_)
  refine lv_pop hx hb (dc tbL_law_24_k 4 rfl) rfl ?_
  refine lv_goto (tgt := 1766) hx hb (dc tbL_law_24_k 5 rfl) rfl ?_
  cases hf
  refine W.widen (k := cells + 64) (n := slots + 4096) (by omega) (by omega) ?_
  exact hk _ _ _ _ _ C hS hI hJ (lv_sub hl [0, 1, 2, 3, 4, 5] rfl)
def mlc_55 (a1 a2 a3 a4 a5 : Int32) (M N : Mem) : Option (Mem × Mem) := calh (mL_written 0 152 a1 M) (fun M3 r2 => cal (mX7_written 135 a1 N) (fun N6 r5 => chk (decide (rd M3 133 0 = rd M 133 0)) (some (M3, N6))))
set_option maxHeartbeats 4000000 in
set_option maxRecDepth 100000 in
theorem lc_55 (hc : cells + 64 ≤ 601024 ∧ slots + 4096 ≤ 7293034) {x5 a0 a1 a2 a3 a4 a5 : Int32} (hs : Sc xs L x5 a0 a1 a2 a3 a4 a5) {M N M' N' : Mem} (hf : mlc_55 a1 a2 a3 a4 a5 M N = some (M', N')) (hk : AtW p l e s m args below meth c L xs G kd' ad' b x5 M' N' Q (cells + 64) (slots + 4096) 1766) : AtW p l e s m args below meth c L xs G kd' ad' b x5 M N Q cells slots 1738 := by
  intro kd ad H locs ls C hS hI hJ hl
  obtain ⟨hx, hb, hml, hown, hts, hK, hap, hap2, hsx, hsx2, hnc, hst, hA, hd1, hd2, hX, hbl, hbA, hk0, hLo, hk1, hk3, hk2⟩ := id C
  unfold mlc_55 at hf
  refine lv_aload_n hx hb (dc tbL_law_24_k 6 rfl) rfl (lv_at hl 1 rfl) ?_
  refine lv_aload_n hx hb (dc tbL_law_24_k 7 rfl) rfl (lv_at hl 0 rfl) ?_
  refine lv_iload hx hb (dc tbL_law_24_k 8 rfl) (lv_at hl 5 rfl) ?_
  refine lv_iconst (v := 1) hx hb (dc tbL_law_24_k 9 rfl) ic_1 ?_
  refine lv_iadd hx hb (dc tbL_law_24_k 10 rfl) ?_
  refine l_sld hx hb hX hbl hbA hI hs.2.1.1 hs.2.1.2 (dc tbL_law_24_k 11 rfl) ?_
  refine lv_aload_n hx hb (dc tbL_law_24_k 12 rfl) rfl (lv_at hl 3 rfl) ?_
  obtain ⟨M3, r2, q1, hf⟩ := calh_s hf
  refine l_callH (g_runH hx hb hml hown hts hK hap hsx hnc hI (tL_written l hst hk0 hk1 hS q1 H.size) ch_L_written q_t7_41 rfl rfl ⟨Nat.le_of_ble_eq_true rfl, Nat.le_of_ble_eq_true rfl⟩ rfl hl.1 rfl (Nat.le_of_ble_eq_true rfl) (dc tbL_law_24_k 13 rfl) ⟨by have := hc.1; show _ ≤ 601024; omega, by have := hc.2; show _ ≤ 7293034; omega⟩) hI hJ hA hd1 (fun H locs hI hJ => ?_)
  refine lv_istore (lv' := [(6, .int r2), (0, .ref b), (1, .ref (ad 0)), (2, .ref (ad' 135)), (3, .ref (ad 152)), (4, .ref (ad 153)), (5, .int x5)]) hx hb (dc tbL_law_24_k 14 rfl) hl (by decide) rfl (fun ls hl => ?_)
  refine lv_aload_n hx hb (dc tbL_law_24_k 15 rfl) rfl (lv_at hl 3 rfl) ?_
  refine lv_aload_n hx hb (dc tbL_law_24_k 16 rfl) rfl (lv_at hl 1 rfl) ?_
  refine lv_iload hx hb (dc tbL_law_24_k 17 rfl) (lv_at hl 6 rfl) ?_
  refine lv_iconst (v := 1) hx hb (dc tbL_law_24_k 18 rfl) ic_1 ?_
  refine lv_iadd hx hb (dc tbL_law_24_k 19 rfl) ?_
  refine l_sld hx hb hX hbl hbA hI hs.2.1.1 hs.2.1.2 (dc tbL_law_24_k 20 rfl) ?_
  obtain ⟨N6, r5, q4, hf⟩ := cal_s hf
  refine l_calli (g_runV hx hb hml hown hts hK hap2 hsx2 hJ (tX7_written l hk2 q4 H.size) cv_X7_written q_t10_16 rfl rfl ⟨Nat.le_of_ble_eq_true rfl, Nat.le_of_ble_eq_true rfl⟩ hk2.1 (by simp) rfl rfl rfl hl.1 rfl (Nat.le_of_ble_eq_true rfl) (dc tbL_law_24_k 21 rfl) ⟨by have := hc.1; show _ ≤ 601024; omega, by have := hc.2; show _ ≤ 7293034; omega⟩) hJ hI hA.symm hd2 (fun H locs hJ hI => ?_)
  refine lv_istore (lv' := [(7, .int r5), (6, .int r2), (0, .ref b), (1, .ref (ad 0)), (2, .ref (ad' 135)), (3, .ref (ad 152)), (4, .ref (ad 153)), (5, .int x5)]) hx hb (dc tbL_law_24_k 22 rfl) hl (by decide) rfl (fun ls hl => ?_)
  refine lv_goto (tgt := 1766) hx hb (dc tbL_law_24_k 23 rfl) rfl ?_
  obtain ⟨h7, hf⟩ := chk_s hf
  cases hf
  refine W.widen (k := cells + 64) (n := slots + 4096) (by omega) (by omega) ?_
  exact hk _ _ _ _ _ C (by rw [of_decide_eq_true h7]; exact hS) hI hJ (lv_sub hl [2, 3, 4, 5, 6, 7] rfl)
end LC
end
