/-! constructors: kinds grow with the heap -/
def setk (K : Nat → Nat × Nat) (k : Nat) (q : Nat × Nat) : Nat → Nat × Nat := fun a => if a = k then q else K a
theorem setk_s {K : Nat → Nat × Nat} {k : Nat} {q : Nat × Nat} : setk K k q k = q := if_pos rfl
theorem setk_o {K : Nat → Nat × Nat} {k a : Nat} {q : Nat × Nat} (h : a ≠ k) : setk K k q a = K a := if_neg h
theorem setk_setk {K : Nat → Nat × Nat} {k : Nat} {q q' : Nat × Nat} : setk (setk K k q) k q' = setk K k q' := by
  funext a; unfold setk; by_cases h : a = k <;> simp [h]
theorem setk_id {K : Nat → Nat × Nat} {k : Nat} {q : Nat × Nat} (h : K k = q) : setk K k q = K := by
  funext a; unfold setk; by_cases e : a = k
  · rw [if_pos e, e, h]
  · rw [if_neg e]
def kdN (K : Nat → Nat × Nat) (ad : Nat → Nat) (N : Nat) : Nat → Nat × Nat := fun j => if ad j < N then K j else (0, 0)
theorem kdN_in {K : Nat → Nat × Nat} {ad : Nat → Nat} {N j : Nat} (h : ad j < N) : kdN K ad N j = K j := if_pos h
theorem kdN_lt {K : Nat → Nat × Nat} {ad : Nat → Nat} {N j : Nat} (h : (kdN K ad N j).1 ≠ 0) : ad j < N := by
  unfold kdN at h
  split at h
  · assumption
  · exact absurd rfl h
def zr (M : Mem) (j : Nat) : Mem := (fun a => if a = j then fun _ => 0 else M.1 a, fun a => if a = j then fun _ => 0 else M.2.1 a, fun a => if a = j then fun _ => 0 else M.2.2 a)
theorem zr_o {M : Mem} {j : Nat} (k' : Nat) (h : k' ≠ j) : (zr M j).1 k' = M.1 k' ∧ (zr M j).2.1 k' = M.2.1 k' ∧ (zr M j).2.2 k' = M.2.2 k' := ⟨if_neg h, if_neg h, if_neg h⟩
theorem zr_s {M : Mem} {j : Nat} : (zr M j).1 j = (fun _ => 0) ∧ (zr M j).2.1 j = (fun _ => 0) ∧ (zr M j).2.2 j = (fun _ => 0) := ⟨if_pos rfl, if_pos rfl, if_pos rfl⟩
def nzE (K K0 : Nat → Nat × Nat) : Prop := ∀ i, (K i).1 ≠ 0 ↔ (K0 i).1 ≠ 0
theorem nzE.set {K K0 : Nat → Nat × Nat} (h : nzE K K0) {k : Nat} {q : Nat × Nat} (hq : q.1 ≠ 0) (hk : (K k).1 ≠ 0) : nzE (setk K k q) K0 := fun i => by
  by_cases e : i = k
  · subst e; rw [setk_s]; exact ⟨fun _ => (h i).mp hk, fun _ => hq⟩
  · rw [setk_o e]; exact h i
theorem AS_kdN {K : Nat → Nat × Nat} {ad : Nat → Nat} {N sz : Nat} (h : sz ≤ N) : AS (kdN K ad N) ad sz = AS K ad sz := by
  funext q
  refine propext ⟨fun z => z.elim (fun ⟨k, h1, h2⟩ => Or.inl ⟨k, by rw [← kdN_in (K := K) (kdN_lt h1)]; exact h1, h2⟩) Or.inr, fun z => z.elim (fun ⟨k, h1, h2⟩ => ?_) Or.inr⟩
  by_cases e : ad k < N
  · exact Or.inl ⟨k, by rw [kdN_in e]; exact h1, h2⟩
  · exact Or.inr (by omega)
theorem AS_nz {K K0 : Nat → Nat × Nat} {ad : Nat → Nat} {sz : Nat} (h : nzE K K0) : AS K ad sz = AS K0 ad sz := by
  funext q
  exact propext ⟨fun z => z.elim (fun ⟨k, h1, h2⟩ => Or.inl ⟨k, (h k).mp h1, h2⟩) Or.inr, fun z => z.elim (fun ⟨k, h1, h2⟩ => Or.inl ⟨k, (h k).mpr h1, h2⟩) Or.inr⟩
abbrev nestW : List (String × Nat × MethodName) := [(RX6, 19, yX4_init), (RX6, 43, yX2_init), (RX3, 27, yX2_init)]
/-- what constructors ask beside -/
def Ex (A : Nat → Prop) (U : State) (H : Heap) : Prop := va_AO "SheetFolder$Part" U ∧ (∀ q ∈ nestW, va_Nw (.methodLinkNest q.1 q.2.1 q.2.2 "SheetFolder") U) ∧ va_Z "java/lang/String" "COMPACT_STRINGS" "Z" (.int 1) A U H
theorem Ex.at {s U : State} {A B : Nat → Prop} {H1 : Heap} (h : Ex A s s.heap) (hS : ∀ q : Nat, q < s.heap.size → ¬ A q → H1[q]? = s.heap[q]?) (hW : s.WarmedH U.vm) (hAB : ∀ q, B q → A q) : Ex B U H1 :=
  ⟨va_AO.moved hW.alike h.1, fun q hq => va_Nw.warmM hW (h.2.1 q hq), ((h.2.2.kept hS).narrow hAB).moved hW.alike⟩
def Pk (G : GT) (K : Nat → Nat × Nat) (ad : Nat → Nat) (sz : Nat) (av : List Value) (M : Mem) : Array Value → State → Prop := va_Pc av (fun U => U.heap.size = sz ∧ Wd G (kdN K ad sz) ad M U.heap ∧ va_K G.1 vwCl (tyL G) U ∧ Sx G (AS K ad sz) U U.heap ∧ Ex (AS K ad sz) U U.heap)
def Qk (G : GT) (K K' : Nat → Nat × Nat) (ad : Nat → Nat) (sz n : Nat) (M : Mem) : Array Value → State → Outcome → State → Prop := fun _ st oc t => oc = .returned none ∧ Wd G (kdN K' ad (sz + n)) ad M t.heap ∧ va_F (AS K ad sz) st t ∧ sz + n ≤ t.heap.size
theorem pk_blind {G : GT} {K : Nat → Nat × Nat} {ad : Nat → Nat} {sz : Nat} {av : List Value} {M : Mem} : FrameBlind (Pk G K ad sz av M) := by
  intro a U g mk ⟨q0, q1, q2, q4, q5, q6⟩
  exact ⟨q0, q1, q2, va_K.moved (u := U) (U := U.calling g mk a) (Vm.Alike.refl U.vm) q4, ⟨vx_Zq.moved (u := U) (U := U.calling g mk a) (Vm.Alike.refl U.vm) q5.1, vx_Zq.moved (u := U) (U := U.calling g mk a) (Vm.Alike.refl U.vm) q5.2.1, fun q hq => by obtain ⟨sa, h⟩ := q5.2.2.1 q hq; exact ⟨sa, vk_R.same rfl h⟩, ⟨sxW_moved (u := U) (U := U.calling g mk a) (Vm.Alike.refl U.vm) q5.2.2.2.1.1, q5.2.2.2.1.2.same (u := U) (U := U.calling g mk a) rfl⟩, va_En.moved (u := U) (U := U.calling g mk a) (Vm.Alike.refl U.vm) q5.2.2.2.2⟩,
    va_AO.moved (u := U) (U := U.calling g mk a) (Vm.Alike.refl U.vm) q6.1, fun q hq => va_Nw.same rfl rfl (q6.2.1 q hq), va_Z.moved (u := U) (U := U.calling g mk a) (Vm.Alike.refl U.vm) q6.2.2⟩
/-- the world while a constructor runs: c cells are new since its start -/
def Ci (G : GT) (K0 K : Nat → Nat × Nat) (ad : Nat → Nat) (s : State) (M : Mem) (H : Heap) (locs : List Loc) (c : Nat) : Prop := Wd G (kdN K ad (s.heap.size + c)) ad M H ∧ va_S (AS K0 ad s.heap.size) s.heap H locs ∧ H.size = s.heap.size + c ∧ nzE K K0
def Cc (p : Program) (s : State) (m : MethodId) (args : Array Value) (meth : Method) (c : Code) (cc : ByteArray) (nL : Nat) (own : String) (G : GT) (K0 : Nat → Nat × Nat) (ad : Nat → Nat) : Prop :=
  p.tables.exec = Jvm.exec ∧ c.code = cc ∧ c.maxLocals = nL ∧ meth.sig.returnType = none ∧ s.vm.findClass own = some m.cls ∧ (∀ w ∈ WA, w.before args s = true) ∧ meth.locks = false ∧ va_K G.1 vwCl (tyL G) s ∧ Sx G (AS K0 ad s.heap.size) s s.heap ∧ Ex (AS K0 ad s.heap.size) s s.heap ∧ meth.name = "<init>" ∧ ∀ i j, ad i = ad j → i = j
section CT
variable {p : Program} {l : Launch} {e : Env} {R : Room} {s : State} {m : MethodId} {args : Array Value} {below : List Frame} {meth : Method} {c : Code} {H : Heap} {locs : List Loc} {cells slots : Nat} {Q : State → Prop}
variable {cc : ByteArray} {pc : Nat} {ls : Array Slot} {rest : List Value} {G : GT} {K0 K : Nat → Nat × Nat} {ad : Nat → Nat} {M : Mem} {nL n0 : Nat} {own : String}
theorem Ci.as (hC : Ci G K0 K ad s M H locs n0) : AS (kdN K ad (s.heap.size + n0)) ad s.heap.size = AS K0 ad s.heap.size := (AS_kdN (by omega)).trans (AS_nz hC.2.2.2)
theorem Ci.inv (hC : Ci G K0 K ad s M H locs n0) : Inv G (kdN K ad (s.heap.size + n0)) ad s.heap M H locs := ⟨hC.1, by rw [hC.as]; exact hC.2.1⟩
/-- a new cell -/
theorem Ci.push (hC : Ci G K0 K ad s M H locs n0) (hinj : ∀ i j, ad i = ad j → i = j) {j : Nat} (haj : ad j = s.heap.size + n0) {H1 : Heap} (z1 : H1.size = H.size + 1) (o1 : ∀ q, q < H.size → H1[q]? = H[q]?)
    (hat : va_at G.1 vwCl (ad j, ent ad G.2.1 (K j) j (fun _ => 0) (fun _ => 0) (fun _ => 0)) H1) : Ci G K0 K ad s (zr M j) H1 locs (n0 + 1) := by
  obtain ⟨hw, hS, hz, hn⟩ := hC
  refine ⟨fun k hk => ?_, ⟨Nat.le_trans hS.1 (by omega), fun x h1 h2 => (o1 x (Nat.lt_of_lt_of_le h1 hS.1)).trans (hS.2.1 x h1 h2), hS.2.2⟩, by omega, hn⟩
  have hl := kdN_lt hk
  rw [kdN_in hl]
  by_cases e : k = j
  · subst e
    rw [zr_s.1, zr_s.2.1, zr_s.2.2]
    exact hat
  · have hl2 : ad k < s.heap.size + n0 := by
      have : ad k ≠ ad j := fun h => e (hinj _ _ h)
      omega
    obtain ⟨e1, e2, e3⟩ := zr_o (M := M) (j := j) k e
    rw [e1, e2, e3]
    rw [kdN_in hl] at hk
    have hk2 : (kdN K ad (s.heap.size + n0) k).1 ≠ 0 := by rw [kdN_in hl2]; exact hk
    have h2 := hw k hk2
    rw [kdN_in hl2] at h2
    exact h2.kept (o1 _ (by omega))
theorem c_newa {ty : FieldType} {atype : ArrayType} {j n : Nat} {z : vp_A} (hx : p.tables.exec = Jvm.exec) (hb : c.code = cc) (hty : newarray.typeOf atype = ty) (hw : Cond.arrayClass ty ∈ WA) (hts : ∀ w ∈ WA, w.before args s = true) (hC : Ci G K0 K ad s M H locs n0) (hinj : ∀ i j, ad i = ad j → i = j) (haj : ad j = s.heap.size + n0) {q : Nat × Nat} (hKj : K j = q)
    {cA : ClassId} (hnm : s.vm.findClass ("[" ++ ty.toString) = some cA) (hent : ent ad G.2.1 q j (fun _ => 0) (fun _ => 0) (fun _ => 0) = .inl (cA, z)) (hz : vp_cell cA z = arrV cA n (fun _ => defaultValue ty))
    {v : Int32} (hv : v.toNatClampNeg = n ∧ ¬ v < 0) (hbytes : n * componentBytes ty ≤ 536870912) (hR : cells + 1 ≤ R.cells ∧ slots + n ≤ R.slots) {M' : Mem} (hM : M' = zr M j) (hdg : decode cc pc = .ok (.newarray atype, 2))
    (kk : ∀ (H1 : Heap), Ci G K0 K ad s M' H1 locs (n0 + 1) → W p l e R s m args below meth c H1 locs (cells + 1) (slots + n) Q (F0 m (pc + 2) ls (.ref (ad j) :: rest))) : W p l e R s m args below meth c H locs cells slots Q (F0 m pc ls (.int v :: rest)) := by
  subst hty; subst hM
  refine va_newaK hx hb (hts _ hw) rfl hdg rfl hv.2 hv.1 hbytes hR.1 hR.2 (hC.2.2.1.trans haj.symm) fun H1 cA1 e1 z1 o1 hAr hNm => ?_
  have hcA : cA1 = cA := Option.some.inj (hNm.symm.trans hnm)
  subst hcA
  refine kk H1 (hC.push hinj haj (by rw [z1, hC.2.2.1, haj]) (fun q hq => o1 q (by rw [haj, ← hC.2.2.1]; exact hq)) ?_)
  rw [hKj, hent]
  show H1[ad j]? = some (vp_cell _ _)
  rw [hz]
  exact e1
theorem c_newq {j n index : Nat} (hx : p.tables.exec = Jvm.exec) (hb : c.code = cc) {own : String} (hown : s.vm.findClass own = some m.cls) (hcl : Cond.classLink own index "SheetFolder$Part" ∈ WA) (hts : ∀ w ∈ WA, w.before args s = true) (hK : va_K G.1 vwCl (tyL G) s) (hex : va_AO "SheetFolder$Part" s) (hC : Ci G K0 K ad s M H locs n0) (hinj : ∀ i j, ad i = ad j → i = j) (haj : ad j = s.heap.size + n0) (hKj : K j = (28, 0))
    {v : Int32} (hv : v.toNatClampNeg = 10 ∧ ¬ v < 0) (hR : cells + 1 ≤ R.cells ∧ slots + 10 ≤ R.slots) {M' : Mem} (hM : M' = zr M j) (hdg : decode cc pc = .ok (.anewarray index, 3))
    (kk : ∀ (H1 : Heap), Ci G K0 K ad s M' H1 locs (n0 + 1) → W p l e R s m args below meth c H1 locs (cells + 1) (slots + 10) Q (F0 m (pc + 3) ls (.ref (ad j) :: rest))) : W p l e R s m args below meth c H locs cells slots Q (F0 m pc ls (.int v :: rest)) := by
  subst hM
  obtain ⟨hv1, hv2⟩ := hv
  refine W.anew hx hb hown (hts _ hcl) (va_AO.use hex) rfl hdg rfl hv2 (by rw [hv1]; decide) hR.1 (by rw [hv1]; exact hR.2) fun cA kA comp f1 f2 f3 f4 => ?_
  rw [hv1]
  have hcA : cA = G.2.1 4 := by
    obtain ⟨_, _, _, _, _, h4⟩ := (hK.2 4 _ rfl).2
    exact Option.some.inj (f1.symm.trans h4)
  subst hcA
  generalize hH1 : H.push ({ cls := G.2.1 4, slots := Array.replicate 10 .null, vm := .none } : Cell) = H1
  have z1 : H1.size = H.size + 1 := by rw [← hH1, Array.size_push]
  have e1 : H1[H.size]? = some (arrV (G.2.1 4) 10 (fun _ => .null)) := by rw [← hH1, Array.getElem?_push_size, ← arrV_new]
  have o1 : ∀ q : Nat, q < H.size → H1[q]? = H[q]? := fun q hq => by rw [← hH1, Array.getElem?_push, if_neg (Nat.ne_of_lt hq)]
  have hHz : H.size = ad j := hC.2.2.1.trans haj.symm
  rw [hHz]
  refine kk H1 (hC.push hinj haj z1 o1 ?_)
  rw [hKj]
  show H1[ad j]? = some (vp_cell (G.2.1 4) (10, .inr (.inr (.inr (.inr (fun j_1 => if j_1 < 0 then some (ad (j + 1 + 8 * j_1)) else none))))))
  rw [vp_cell_q, ← hHz, e1]
  congr 2
theorem c_new {C : String} {T : u_T} {N ci index j : Nat} (hx : p.tables.exec = Jvm.exec) (hb : c.code = cc) (hts : ∀ w ∈ WA, w.before args s = true) (hin : ∀ w ∈ u_ws C T N, w ∈ WA) (ty : Nat → FieldType) (hty : ∀ k, k < N → parseFieldDescriptor (T k).2.2.1 = some (ty k)) {own : String} (hown : s.vm.findClass own = some m.cls) (hcl : Cond.classLink own index C ∈ WA) (hinst : Cond.instantiable C N ∈ WA) (hini : Cond.initialized C ∈ WA)
    (hK : va_K G.1 vwCl (tyL G) s) (hC : Ci G K0 K ad s M H locs n0) (hinj : ∀ i j, ad i = ad j → i = j) (haj : ad j = s.heap.size + n0) {q q' : Nat × Nat} (hKj : K j = q') (hq' : q'.1 ≠ 0) (hq : q.1 ≠ 0) (hc : vwCl[ci]? = some (C, T, N)) {fs : List Value} (hent : ent ad G.2.1 q j (fun _ => 0) (fun _ => 0) (fun _ => 0) = .inr (ci, fs)) (hfs : ∀ k, k < N → defaultValue (ty k) = vp_V fs k)
    (hR : cells + 1 ≤ R.cells ∧ slots + N ≤ R.slots) {M' : Mem} (hM : M' = zr M j) (hdg : decode cc pc = .ok (.new index, 3))
    (kk : ∀ (H1 : Heap), Ci G K0 (setk K j q) ad s M' H1 locs (n0 + 1) → W p l e R s m args below meth c H1 locs (cells + 1) (slots + N) Q (F0 m (pc + 3) ls (.ref (ad j) :: rest))) : W p l e R s m args below meth c H locs cells slots Q (F0 m pc ls rest) := by
  subst hM
  have hKn := hK.1 ci _ hc
  have hC2 : Ci G K0 (setk K j q) ad s M H locs n0 := by
    obtain ⟨hw, hS, hz, hn⟩ := hC
    refine ⟨fun k hk => ?_, hS, hz, hn.set hq (by rw [hKj]; exact hq')⟩
    have hl := kdN_lt hk
    have hkj : k ≠ j := fun h => by rw [h, haj] at hl; omega
    rw [kdN_in hl, setk_o hkj] at hk ⊢
    have h2 := hw k (by rw [kdN_in hl]; exact hk)
    rw [kdN_in hl] at h2
    exact h2
  refine W.newcK hx hb hown (hts _ hcl) (hts _ hinst) (hts _ hini) rfl hdg hR.1 hR.2 hKn.2.1 (hC.2.2.1.trans haj.symm) fun H1 kC hkC e1 z1 o1 => ?_
  refine kk H1 (hC2.push hinj haj (by rw [z1, hC.2.2.1, haj]) (fun q hq => o1 q (by rw [haj, ← hC.2.2.1]; exact hq)) ?_)
  rw [setk_s, hent]
  exact ⟨_, hc, (u_born ty hts hin hKn hkC e1 hty).to hfs⟩
end CT
section CU
variable {p : Program} {l : Launch} {e : Env} {R : Room} {s : State} {m : MethodId} {args : Array Value} {below : List Frame} {meth : Method} {c : Code} {H : Heap} {locs : List Loc} {cells slots : Nat} {Q : State → Prop}
variable {cc : ByteArray} {pc : Nat} {ls : Array Slot} {rest : List Value} {G : GT} {K0 K : Nat → Nat × Nat} {ad : Nat → Nat} {M : Mem} {n0 : Nat}
/-- one cell is another -/
theorem Ci.set (hC : Ci G K0 K ad s M H locs n0) (hinj : ∀ i j, ad i = ad j → i = j) {k i : Nat} {q q' : Nat × Nat} (hk : K k = q) (hq : q.1 ≠ 0) (hq' : q'.1 ≠ 0) (hlt : ad k < s.heap.size + n0) {M' : Mem} {H1 : Heap}
    (hat : va_at G.1 vwCl (ad k, ent ad G.2.1 q' k (M'.1 k) (M'.2.1 k) (M'.2.2 k)) H1) (z : H1.size = H.size) (oq : ∀ x, x ≠ ad k → H1[x]? = H[x]?) (hM : ∀ k', k' ≠ k → M'.1 k' = M.1 k' ∧ M'.2.1 k' = M.2.1 k' ∧ M'.2.2 k' = M.2.2 k') : Ci G K0 (setk K k q') ad s M' H1 (locs ++ [⟨ad k, i⟩]) n0 := by
  obtain ⟨hw, hS, hz, hn⟩ := hC
  refine ⟨fun k' hk' => ?_, hS.put z oq (Or.inl ⟨k, (hn k).mp (by rw [hk]; exact hq), rfl⟩), by omega, hn.set hq' (by rw [hk]; exact hq)⟩
  have hl := kdN_lt hk'
  rw [kdN_in hl] at hk' ⊢
  by_cases e : k' = k
  · subst e
    rw [setk_s]
    exact hat
  · obtain ⟨e1, e2, e3⟩ := hM k' e
    rw [setk_o e] at hk' ⊢
    rw [e1, e2, e3]
    have h2 := hw k' (by rw [kdN_in hl]; exact hk')
    rw [kdN_in hl] at h2
    exact h2.kept (oq _ (fun x => e (hinj _ _ x)))
theorem c_put (fin : Bool) (hx : p.tables.exec = Jvm.exec) (hb : c.code = cc) {own C : String} {T : u_T} {N ci index : Nat} (hts : ∀ w ∈ WA, w.before args s = true) (hin : ∀ w ∈ u_ws C T N, w ∈ WA) (ty0 : Nat → FieldType) (hty : ∀ k, k < N → parseFieldDescriptor (T k).2.2.1 = some (ty0 k)) (hnm : ∀ a, a < N → ∀ b, b < N → a ≠ b → (T a).2.1 ≠ (T b).2.1)
    (hown : s.vm.findClass own = some m.cls) (hK : va_K G.1 vwCl (tyL G) s) (hC : Ci G K0 K ad s M H locs n0) (hinj : ∀ i j, ad i = ad j → i = j) (hin2 : meth.name = "<init>")
    {k : Nat} {q q' : Nat × Nat} {fs : List Value} (hk : K k = q) (hq : q.1 ≠ 0) (hq' : q'.1 ≠ 0) (hlt : ad k < s.heap.size + n0) (he : ent ad G.2.1 q k (M.1 k) (M.2.1 k) (M.2.2 k) = .inr (ci, fs)) (hc : vwCl[ci]? = some (C, T, N)) (j : Nat) (hj : j < N) {f d o : String} (hT : (T j).1 = o ∧ (T j).2.1 = f ∧ (T j).2.2.1 = d) (hlink : Cond.fieldLink own index o f d ∈ WA)
    (hfin : (T j).2.2.2 = fin) (hdecl : fin = true → o = own) {ty : FieldType} {v : Value} (hd : parseFieldDescriptor d = some ty) (hn : narrow ty v = v) (hfit : fits ty v = true) (hl : j < fs.length) {M' : Mem} (hset : ent ad G.2.1 q' k (M'.1 k) (M'.2.1 k) (M'.2.2 k) = .inr (ci, fs.set j v)) (hM : ∀ k', k' ≠ k → M'.1 k' = M.1 k' ∧ M'.2.1 k' = M.2.1 k' ∧ M'.2.2 k' = M.2.2 k')
    (hdg : decode cc pc = .ok (.putfield index, 3)) (kk : ∀ (H1 : Heap) (locs1 : List Loc), Ci G K0 (setk K k q') ad s M' H1 locs1 n0 → W p l e R s m args below meth c H1 locs1 cells slots Q (F0 m (pc + 3) ls rest)) : W p l e R s m args below meth c H locs cells slots Q (F0 m pc ls (v :: .ref (ad k) :: rest)) := by
  obtain ⟨e1, e2, e3⟩ := hT
  subst e1; subst e2; subst e3
  have hlk := hts _ hlink
  have hapt := va_apart (own := own) hts hin ty0 hty hnm hK hc
  have hcell : va_at G.1 vwCl (ad k, .inr (ci, fs)) H := by
    have h := hC.1 k (by rw [kdN_in hlt, hk]; exact hq)
    rw [kdN_in hlt, hk, he] at h
    exact h
  obtain ⟨r, h1, cell, q1, q2, q3, q4⟩ := hcell
  have hr : r = (C, T, N) := Option.some.inj (h1.symm.trans hc)
  subst hr
  obtain ⟨hS, hfc, kC, hkC, hkind⟩ := hK.1 ci _ hc
  obtain ⟨cf, kf, fi, f, hi, hsl⟩ := hS j hj
  have hlay := hts _ (hin _ (u_in_lay hj))
  unfold u_lay at hlay
  have hst := (u_facts hfc hkC (u_lays hts hin hj) hi).1
  cases fin with
  | false =>
    rw [if_neg (by rw [hfin]; decide)] at hlay
    have h6 := u_store hfc hkC hkind hlay hi hd hn hfit
    refine W.putK hx hb (f := f) ⟨hown, hlk, ⟨_, _, _, hi⟩, hst⟩ (by rw [q2]; exact h6) q1 q3 (by rw [hsl]; exact k2_hasslot (q4 j hj)) rfl rfl hdg fun H' e1 e2 e3 => ?_
    rw [hsl] at e1 ⊢
    refine kk H' _ (hC.set hinj hk hq hq' hlt ?_ e2 e3 hM)
    rw [hset]
    exact ⟨_, hc, t_OB.to (V := updV (vp_V fs) j v) ⟨_, e1, q2, q3, t_set q4 hapt hj v⟩ (fun j _ => vp_updV_set hl v j)⟩
  | true =>
    rw [if_pos hfin] at hlay
    have hcf : m.cls = cf := by
      obtain ⟨_, _, c', _, _, _, -, -, hf', -, -, -, hown2, -⟩ := Cond.laysFinal_spec hlay
      have e1 : c' = cf := by have := hi.symm.trans hf'; simp at this; exact this.1.symm
      rw [hdecl rfl] at hown2
      rw [← e1]; exact Option.some.inj (hown.symm.trans hown2)
    have h6 := u_fits hfc hkC hkind (Or.inr hlay) hi hd hn hfit
    refine W.putFinK hx hb hown hlk hi hst hcf hin2 (by rw [q2]; exact h6) q1 q3 (by rw [hsl]; exact k2_hasslot (q4 j hj)) rfl rfl hdg fun H' e1 e2 e3 => ?_
    rw [hsl] at e1 ⊢
    refine kk H' _ (hC.set hinj hk hq hq' hlt ?_ e2 e3 hM)
    rw [hset]
    exact ⟨_, hc, t_OB.to (V := updV (vp_V fs) j v) ⟨_, e1, q2, q3, t_set q4 hapt hj v⟩ (fun j _ => vp_updV_set hl v j)⟩
/-- the same world, said by other kinds -/
theorem Ci.as_kind (hC : Ci G K0 K ad s M H locs n0) {k : Nat} {q q' : Nat × Nat} (hk : K k = q) (hq : q.1 ≠ 0) (hq' : q'.1 ≠ 0) (he : ent ad G.2.1 q' k (M.1 k) (M.2.1 k) (M.2.2 k) = ent ad G.2.1 q k (M.1 k) (M.2.1 k) (M.2.2 k)) : Ci G K0 (setk K k q') ad s M H locs n0 := by
  obtain ⟨hw, hS, hz, hn⟩ := hC
  refine ⟨fun k' hk' => ?_, hS, hz, hn.set hq' (by rw [hk]; exact hq)⟩
  have hl := kdN_lt hk'
  rw [kdN_in hl] at hk' ⊢
  by_cases e : k' = k
  · subst e
    rw [setk_s, he]
    have h2 := hw k' (by rw [kdN_in hl, hk]; exact hq)
    rw [kdN_in hl, hk] at h2
    exact h2
  · rw [setk_o e] at hk' ⊢
    have h2 := hw k' (by rw [kdN_in hl]; exact hk')
    rw [kdN_in hl] at h2
    exact h2
theorem Ci.eqK {K' : Nat → Nat × Nat} (hC : Ci G K0 K ad s M H locs n0) (h : K = K') : Ci G K0 K' ad s M H locs n0 := h ▸ hC
/-- a constructor's call comes back -/
theorem c_back {st0 : List Value} {a : Array Value} {n1 ms : Nat} {K1 : Nat → Nat × Nat} {M' : Mem} (hC : Ci G K0 K ad s M H locs n0) (hn1 : nzE K1 K)
    (hr : va_Run p l e R s m args below meth c H locs n0 slots n1 ms (F0 m pc ls st0) rest (Qk G K K1 ad H.size n1 M' a) (AS K ad H.size))
    (kk : ∀ (H1 : Heap) (locs1 : List Loc), Ci G K0 K1 ad s M' H1 locs1 (n0 + n1) → W p l e R s m args below meth c H1 locs1 (n0 + n1) (slots + ms) Q (F0 m (pc + 3) ls rest)) : W p l e R s m args below meth c H locs n0 slots Q (F0 m pc ls st0) := by
  obtain ⟨hw, hS, hz, hn⟩ := hC
  intro T hT X
  obtain ⟨v', st₀, t, T', L, h0, X', hL, e1, e2, ⟨hv, hw', hF, hsz⟩, st⟩ := hr T hT X
  cases hv
  have hA : AS K ad H.size = AS K0 ad H.size := AS_nz hn
  rw [hA] at hF hL
  obtain ⟨k1, k2, k3⟩ := vx_keep h0 e1 hS (fun q hq h => AS.old hq h) (fun q h => AS.mono hS.1 h) hL hF
  have hub := X'.heapSize
  have hsz2 : T'.heap.size = s.heap.size + (n0 + n1) := by rw [← e1] at hsz; omega
  obtain ⟨t2, a1, b1⟩ := kk T'.heap (locs ++ L) ⟨by rw [e1]; rw [hz, Nat.add_assoc] at hw'; exact hw', k3, hsz2, fun i => (hn1 i).trans (hn i)⟩ T' rfl X'
  exact ⟨t2, st t2 a1, b1⟩
/-- a method's call comes back: nothing is new -/
theorem c_backM {st0 : List Value} {a : Array Value} {M' : Mem} (hC : Ci G K0 K ad s M H locs n0)
    (hr : va_Run p l e R s m args below meth c H locs n0 slots 0 0 (F0 m pc ls st0) rest (Qg G (kdN K ad (s.heap.size + n0)) ad H.size M' none a) (AS (kdN K ad (s.heap.size + n0)) ad H.size))
    (kk : ∀ (H1 : Heap) (locs1 : List Loc), Ci G K0 K ad s M' H1 locs1 n0 → W p l e R s m args below meth c H1 locs1 n0 slots Q (F0 m (pc + 3) ls rest)) : W p l e R s m args below meth c H locs n0 slots Q (F0 m pc ls st0) := by
  obtain ⟨hw, hS, hz, hn⟩ := hC
  intro T hT X
  obtain ⟨v', st₀, t, T', L, h0, X', hL, e1, e2, ⟨hv, hw', hF⟩, st⟩ := hr T hT X
  cases hv
  have hA : AS (kdN K ad (s.heap.size + n0)) ad H.size = AS K0 ad H.size := (AS_kdN (by omega)).trans (AS_nz hn)
  rw [hA] at hF hL
  obtain ⟨k1, k2, k3⟩ := vx_keep h0 e1 hS (fun q hq h => AS.old hq h) (fun q h => AS.mono hS.1 h) hL hF
  have hub := X'.heapSize
  obtain ⟨t2, a1, b1⟩ := kk T'.heap (locs ++ L) ⟨by rw [e1]; exact hw', k3, by omega, hn⟩ T' rfl X'
  exact ⟨t2, st t2 a1, b1⟩
theorem Ci.pk {av : List Value} {U : State} (hK : va_K G.1 vwCl (tyL G) s) (hsx : Sx G (AS K0 ad s.heap.size) s s.heap) (hex : Ex (AS K0 ad s.heap.size) s s.heap) (hC : Ci G K0 K ad s M H locs n0) (hU : U.heap = H) (hW : s.WarmedH U.vm) : Pk G K ad H.size av M av.toArray U := by
  have hA : ∀ q, AS K ad H.size q → AS K0 ad s.heap.size q := fun q h => by
    rw [AS_nz hC.2.2.2] at h; exact AS.mono hC.2.1.1 h
  exact ⟨rfl, by rw [hU], by rw [hU, hC.2.2.1]; exact hC.1, va_K.moved hW.alike hK, by rw [hU]; exact hsx.at hC.2.1.2.1 hW hA, by rw [hU]; exact hex.at hC.2.1.2.1 hW hA⟩
theorem Ci.pg {av : List Value} {U : State} (hinj : ∀ i j, ad i = ad j → i = j) (hK : va_K G.1 vwCl (tyL G) s) (hsx : Sx G (AS K0 ad s.heap.size) s s.heap) (hC : Ci G K0 K ad s M H locs n0) (hU : U.heap = H) (hW : s.WarmedH U.vm) : Pg G (kdN K ad (s.heap.size + n0)) ad H.size av M av.toArray U := by
  have hA : ∀ q, AS (kdN K ad (s.heap.size + n0)) ad H.size q → AS K0 ad s.heap.size q := fun q h => by
    rw [AS_kdN (by rw [hC.2.2.1]; exact Nat.le_refl _), AS_nz hC.2.2.2] at h; exact AS.mono hC.2.1.1 h
  exact ⟨rfl, by rw [hU], by rw [hU]; exact hC.1, fun k k' _ _ h => hinj _ _ h, va_K.moved hW.alike hK, by rw [hU]; exact hsx.at hC.2.1.2.1 hW hA⟩
/-- a call of a constructor -/
theorem c_callI {b : Nat} {y : MethodName} {bytes : ByteArray} {maxL nL n1 ms index : Nat} {rm : Room} {own : String} {K1 : Nat → Nat × Nat} {M' : Mem} (hx : p.tables.exec = Jvm.exec) (hb : c.code = cc) (hml : c.maxLocals = nL) (hown : s.vm.findClass own = some m.cls) (hts : ∀ w ∈ WA, w.before args s = true) (hK : va_K G.1 vwCl (tyL G) s) (hsx : Sx G (AS K0 ad s.heap.size) s s.heap) (hex : Ex (AS K0 ad s.heap.size) s s.heap) (hC : Ci G K0 K ad s M H locs n0) (hn1 : nzE K1 K)
    {As : List Value} {nA : Nat} (hM : Met l y (Cond.code y bytes maxL none :: WA) rm (Pk G K ad H.size (.ref (ad b) :: As) M) (Qk G K K1 ad H.size n1 M') n1 ms (AS K ad H.size)) (hci : Cond.initialized y.cls ∈ WA ∧ Cond.instanceMethod y ∈ WA ∧ Cond.code y bytes maxL none ∈ WA) (hl : Cond.methodLink own index y ∈ WA) (hy : y.name = "<init>" ∧ (y.cls ≠ "java/lang/invoke/MethodHandle" ∧ y.cls ≠ "java/lang/invoke/VarHandle" ∧ (parseMethodDescriptor y.desc).map (fun d => d.parameters.length) = some nA)) (hnA : As.length = nA)
    (hrc : rm.cells = n1) (hrs : rm.slots = ms) (hR : rm.frames + 1 ≤ R.frames ∧ 8 + (maxL + 11) + rm.locals ≤ R.locals) (hsize : ls.size = nL) {st : List Value} (hst : st = As.reverse ++ .ref (ad b) :: rest) (hW : (rest.map fun v => v.category).sum ≤ 8) (hdg : decode cc pc = .ok (.invokespecial index, 3)) (hf : n0 + n1 ≤ R.cells ∧ slots + ms ≤ R.slots)
    (kk : ∀ (H1 : Heap) (locs1 : List Loc), Ci G K0 K1 ad s M' H1 locs1 (n0 + n1) → W p l e R s m args below meth c H1 locs1 (n0 + n1) (slots + ms) Q (F0 m (pc + 3) ls rest)) : W p l e R s m args below meth c H locs n0 slots Q (F0 m pc ls st) := by
  subst hst
  exact c_back hC hn1 (va_runI (As := As) (rest := rest) ⟨hx, hb, hml, hown, hts⟩ hM (cwI nA hts (fun w h => ⟨ws_good hci.2.2 w h, wa_good w (ws_good hci.2.2 w h)⟩) rfl hrc hrs (hts _ hci.1) (hts _ hl) (hts _ hci.2.1) hy.1 hy.2 hR) ⟨pk_blind, fun U hU hW => hC.pk hK hsx hex hU hW⟩ rfl hnA hsize rfl (lv_room hW) hdg hf) kk
theorem c_callIN {b : Nat} {y : MethodName} {bytes : ByteArray} {maxL nL n1 ms index : Nat} {rm : Room} {own : String} {K1 : Nat → Nat × Nat} {M' : Mem} (hx : p.tables.exec = Jvm.exec) (hb : c.code = cc) (hml : c.maxLocals = nL) (hown : s.vm.findClass own = some m.cls) (hts : ∀ w ∈ WA, w.before args s = true) (hK : va_K G.1 vwCl (tyL G) s) (hsx : Sx G (AS K0 ad s.heap.size) s s.heap) (hex : Ex (AS K0 ad s.heap.size) s s.heap) (hC : Ci G K0 K ad s M H locs n0) (hn1 : nzE K1 K)
    {As : List Value} {nA : Nat} (hM : Met l y (Cond.code y bytes maxL none :: WA) rm (Pk G K ad H.size (.ref (ad b) :: As) M) (Qk G K K1 ad H.size n1 M') n1 ms (AS K ad H.size)) (hci : Cond.initialized y.cls ∈ WA ∧ Cond.instanceMethod y ∈ WA ∧ Cond.code y bytes maxL none ∈ WA) (hl : (own, index, y) ∈ nestW) (hy : y.name = "<init>" ∧ (y.cls ≠ "java/lang/invoke/MethodHandle" ∧ y.cls ≠ "java/lang/invoke/VarHandle" ∧ (parseMethodDescriptor y.desc).map (fun d => d.parameters.length) = some nA)) (hnA : As.length = nA)
    (hrc : rm.cells = n1) (hrs : rm.slots = ms) (hR : rm.frames + 1 ≤ R.frames ∧ 8 + (maxL + 11) + rm.locals ≤ R.locals) (hsize : ls.size = nL) {st : List Value} (hst : st = As.reverse ++ .ref (ad b) :: rest) (hW : (rest.map fun v => v.category).sum ≤ 8) (hdg : decode cc pc = .ok (.invokespecial index, 3)) (hf : n0 + n1 ≤ R.cells ∧ slots + ms ≤ R.slots)
    (kk : ∀ (H1 : Heap) (locs1 : List Loc), Ci G K0 K1 ad s M' H1 locs1 (n0 + n1) → W p l e R s m args below meth c H1 locs1 (n0 + n1) (slots + ms) Q (F0 m (pc + 3) ls rest)) : W p l e R s m args below meth c H locs n0 slots Q (F0 m pc ls st) := by
  subst hst
  exact c_back hC hn1 (va_runIN (As := As) (rest := rest) ⟨hx, hb, hml, hown, hts⟩ hM ⟨va_cnB nA hts (fun w h => ⟨ws_good hci.2.2 w h, wa_good w (ws_good hci.2.2 w h)⟩) rfl hrc hrs (hex.2.1 _ hl) (hts _ hci.1) hy.2 hR, hy.1, hts _ hci.2.1⟩ ⟨pk_blind, fun U hU hW => hC.pk hK hsx hex hU hW⟩ rfl hnA hsize rfl (lv_room hW) hdg hf) kk
theorem c_callV {b : Nat} {C : String} {y : MethodName} {bytes : ByteArray} {maxL nL index : Nat} {rm : Room} {own : String} {M' : Mem} (hx : p.tables.exec = Jvm.exec) (hb : c.code = cc) (hml : c.maxLocals = nL) (hown : s.vm.findClass own = some m.cls) (hts : ∀ w ∈ WA, w.before args s = true) (hK : va_K G.1 vwCl (tyL G) s) (hsx : Sx G (AS K0 ad s.heap.size) s s.heap) (hC : Ci G K0 K ad s M H locs n0) (hinj : ∀ i j, ad i = ad j → i = j)
    (hM : Met l y (Cond.code y bytes maxL none :: WA) rm (Pg G (kdN K ad (s.heap.size + n0)) ad H.size [.ref (ad b)] M) (Qg G (kdN K ad (s.heap.size + n0)) ad H.size M' none) 0 0 (AS (kdN K ad (s.heap.size + n0)) ad H.size)) (hcv : cvF C y bytes maxL none 0) (hl : Cond.methodLink own index y ∈ WA) (hrc : rm.cells = 0) (hrs : rm.slots = 0) (hR : rm.frames + 1 ≤ R.frames ∧ 8 + (maxL + 11) + rm.locals ≤ R.locals)
    {ci : Nat} {q : Nat × Nat} {fs : List Value} {T : u_T} {N : Nat} (hk : kdN K ad (s.heap.size + n0) b = q) (hq : q.1 ≠ 0) (he : ent ad G.2.1 q b (M.1 b) (M.2.1 b) (M.2.2 b) = .inr (ci, fs)) (hc : vwCl[ci]? = some (C, T, N))
    (hsize : ls.size = nL) (hW : (rest.map fun v => v.category).sum ≤ 8) (hdg : decode cc pc = .ok (.invokevirtual index, 3)) (hf : n0 + 0 ≤ R.cells ∧ slots + 0 ≤ R.slots)
    (kk : ∀ (H1 : Heap) (locs1 : List Loc), Ci G K0 K ad s M' H1 locs1 n0 → W p l e R s m args below meth c H1 locs1 n0 slots Q (F0 m (pc + 3) ls rest)) : W p l e R s m args below meth c H locs n0 slots Q (F0 m pc ls (.ref (ad b) :: rest)) := by
  obtain ⟨c1, c2, c3, c4, c5⟩ := hcv
  have hG : GoodIn WA (wsV own index C y (Cond.code y bytes maxL none :: WA)) := fun w h => by
    have : w ∈ WA := by
      rcases List.mem_append.mp h with h | h
      · simp only [List.mem_cons, List.not_mem_nil, or_false] at h
        rcases h with rfl | rfl | rfl | rfl
        · exact hl
        · exact c1
        · exact c2
        · exact c3
      · exact ws_good c4 w h
    exact ⟨this, wa_good w this⟩
  exact c_backM hC (va_runV (C := C) (b := ad b) (As := []) (rest := rest) ⟨hx, hb, hml, hown, hts⟩ hM (cwV 0 hts hG rfl hrc hrs c5 hR) ⟨pg_blind, va_recv hK (va_P1 (hC.inv.at hk hq he)) hc (q0 := 0) rfl, fun U hU hW => hC.pg hinj hK hsx hU hW⟩ rfl rfl hsize rfl (lv_room hW) hdg hf) kk
theorem c_ret {n1 ms : Nat} (hx : p.tables.exec = Jvm.exec) (hb : c.code = cc) (hr : meth.sig.returnType = none) (hlk : meth.locks = false) (hC : Ci G K0 K ad s M H locs n1) (hdg : decode cc pc = .ok (.return_, 1)) : W p l e R s m args below meth c H locs n1 ms (MQ below (Qk G K0 K ad s.heap.size n1 M) args s n1 ms (AS K0 ad s.heap.size)) (F0 m pc ls []) :=
  W.vret hx hb hr (fun t ht _ => ⟨rfl, by rw [ht]; exact hC.1, by
    refine ⟨by rw [ht]; exact hC.2.1.1, fun q h1 h2 => by rw [ht]; exact hC.2.1.2.1 q h1 h2⟩, by rw [ht, hC.2.2.1]; exact Nat.le_refl _⟩) hC.2.1.2.2 hdg hlk
theorem c_body {y : MethodName} {bytes : ByteArray} {maxL n1 ms N d : Nat} {own : String} {As : List Value} {K1 : Nat → Nat × Nat} {M' : Mem} (hy : plainName y.cls = true) (hyo : y.cls = own) (hyi : y.name = "<init>") (hinj : ∀ i j, ad i = ad j → i = j)
    (body : ∀ p e s m args below meth c, Cc p s m args meth c bytes maxL own G K0 ad → s.heap.size = N → ∀ (H : Heap) (ls : Array Slot), Ci G K0 K0 ad s M H [] 0 → lv_has ls maxL (lv_args 0 As) → W p l e (rmO d n1 ms) s m args below meth c H [] 0 0 (MQ below (Qk G K0 K1 ad s.heap.size n1 M') args s n1 ms (AS K0 ad s.heap.size)) (F0 m 0 ls [])) (hlen : (lg_sl As).length ≤ maxL) :
    Met l y (Cond.code y bytes maxL none :: WA) (rmO d n1 ms) (Pk G K0 ad N As M) (Qk G K0 K1 ad N n1 M') n1 ms (AS K0 ad N) := by
  refine Met.ofW (cc := bytes) (maxL := maxL) (ret := none) hy rfl ?_
  intro p e s m args below meth c s₁ B hml hv
  obtain ⟨rfl, hsz, hw, hK, hsx, hex⟩ := hv
  have hts := atoms_spec (ws := Cond.code y bytes maxL none :: WA) B.pre
  have hown : s.vm.findClass own = some m.cls := hyo ▸ findClass_of_methodNamed B.named
  have hin : meth.name = "<init>" := hyi ▸ (name_of_methodNamed B.named B.method).1
  subst hsz
  have hl := lv_entry As (n := maxL) hlen
  rw [lg_entry_eq]
  generalize (lg_sl As ++ List.replicate (maxL - (lg_sl As).length) Slot.unset).toArray = ls at hl ⊢
  exact body p e s m _ below meth c ⟨B.exec, B.bytes, hml, B.returns, hown, fun w h => hts w (List.mem_cons_of_mem _ h), B.notSynchronized, hK, hsx, hex, hin, hinj⟩ rfl _ ls ⟨hw, va_S.rf, rfl, fun _ => Iff.rfl⟩ hl
end CU
