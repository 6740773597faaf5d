/-! copies of bytes; the array that the StringBuilder grows to -/
def fitB (f : Nat → Int32) (n : Nat) : Bool := (List.range n).all (fun i => fits .byte (.int (f i)))
theorem fitB_s {f : Nat → Int32} {n : Nat} (h : fitB f n = true) : ∀ i, i < n → fits .byte (.int (f i)) = true := fun i hi => List.all_eq_true.mp h i (List.mem_range.mpr hi)
def stF (i : Nat) : Nat → Int32 := fun j => (stB i).getD j 0
def cpS (M : Mem) (i k2 dp : Nat) : Mem := (fun a => if a = k2 then va_cpy (stF i) (M.1 k2) 0 dp (stLen i) else M.1 a, M.2)
theorem cpS_o {M : Mem} {i b dp : Nat} (k' : Nat) (h : k' ≠ b) : (cpS M i b dp).1 k' = M.1 k' ∧ (cpS M i b dp).2.1 k' = M.2.1 k' ∧ (cpS M i b dp).2.2 k' = M.2.2 k' := ⟨if_neg h, rfl, rfl⟩
theorem cpS_s {M : Mem} {i b dp : Nat} : (cpS M i b dp).1 b = va_cpy (stF i) (M.1 b) 0 dp (stLen i) := if_pos rfl
theorem st_len : ∀ i, i < 12 → (Int32.ofNat (stLen i)).toNatClampNeg = stLen i ∧ ¬ Int32.ofNat (stLen i) < 0 ∧ stLen i ≤ 8 := by decide +kernel
theorem st_fit : ∀ i, i < 12 → ∀ j, j < 8 → fits .byte (.int (stF i j)) = true := by decide +kernel
theorem i_nn {x : Int32} (h : ¬ x < 0) : x = Int32.ofNat x.toNatClampNeg := by
  have hz0 : (0 : Int) ≤ x.toInt := by
    have := Int32.not_lt.mp h
    simpa using Int32.le_iff_toInt_le.mp this
  have e : x.toInt = (x.toInt.toNat : Int) := by omega
  show x = Int32.ofNat x.toInt.toNat
  calc x = Int32.ofInt x.toInt := (Int32.ofInt_toInt x).symm
    _ = Int32.ofInt (x.toInt.toNat : Int) := by rw [← e]
    _ = Int32.ofNat x.toInt.toNat := rfl
theorem i_s9 {x : Int32} (h : okb x 9 = true) : (x + 1).toNatClampNeg = x.toNatClampNeg + 1 := by
  have h9 := okb_lt h
  have h0 : ¬ x < 0 := fun hn => (okb_in h) (Or.inl hn)
  have e := i_nn h0
  have key : ∀ n, n < 9 → (Int32.ofNat n + 1).toNatClampNeg = n + 1 := by decide
  rw [← key _ h9, ← e]
theorem i_n9 {x : Int32} (h : okb x 9 = true) : x.toNatClampNeg < 9 := okb_lt h
section GD
variable {p : Program} {l : Launch} {e : Env} {R : Room} {s : State} {m : MethodId} {args : Array Value} {below : List Frame} {meth : Method} {c : Code} {H : Heap} {locs : List Loc} {cells slots : Nat} {Q : State → Prop}
variable {cc : ByteArray} {pc : Nat} {ls : Array Slot} {rest : List Value} {G : GT} {kd : Nat → Nat × Nat} {ad : Nat → Nat} {M : Mem} {H0 : Heap}
theorem g_copyB (hx : p.tables.exec = Jvm.exec) (hb : c.code = cc) (hml : c.maxLocals = ls.size) {own : String} {index : Nat} (hown : s.vm.findClass own = some m.cls) (hlink : (Cond.methodLink own index arraycopyName).before args s = true) (hnat : (Cond.native arraycopyName).before args s = true) (hstat : (Cond.static arraycopyName).before args s = true) (hini : (Cond.initialized "java/lang/System").before args s = true)
    (hK : va_K G.1 vwCl (tyL G) s) (hap : Apt kd ad) (hI : Inv G kd ad H0 M H locs) {k1 k2 n0 n1 : Nat} (hk1 : kd k1 = (11, n0)) (hk2 : kd k2 = (11, n1)) {N : Nat} {sp dp n : Int32} (e1 : sp = 0) (e2 : dp = 0) (e3 : n.toNatClampNeg = N ∧ ¬ n < 0) (h4 : N ≤ n0) (h5 : N ≤ n1) (hfit : ∀ i, i < N → fits .byte (.int (M.1 k1 i)) = true) (hroom : 1 ≤ R.frames ∧ (rest.map fun v => v.category).sum + (nativeFrameWords "java/lang/System" "arraycopy" 5 + 11) ≤ R.locals) (hdg : decode cc pc = .ok (.invokestatic index, 3)) {M' : Mem} (hM : M' = cpy M k1 k2 0 0 N)
    (kk : ∀ (H1 : Heap) (locs1 : List Loc), Inv G kd ad H0 M' H1 locs1 → W p l e R s m args below meth c H1 locs1 cells slots Q (F0 m (pc + 3) ls rest)) : W p l e R s m args below meth c H locs cells slots Q (F0 m pc ls (.int n :: .int dp :: .ref (ad k2) :: .int sp :: .ref (ad k1) :: rest)) := by
  subst hM; subst e1; subst e2
  obtain ⟨e3, h3⟩ := e3
  have nn : ∀ z : Int32, ¬ z < 0 → z.toInt = (z.toNatClampNeg : Int) := by
    intro z hz
    have hz0 : (0 : Int) ≤ z.toInt := by
      have := Int32.not_lt.mp hz
      simpa using Int32.le_iff_toInt_le.mp this
    show z.toInt = ((z.toInt.toNat : Nat) : Int)
    omega
  have z0 : (0 : Int32).toNatClampNeg = 0 := rfl
  intro T hT X
  have hc0 : H[ad k1]? = some (vp_cell (G.2.1 1) (n0, .inl (M.1 k1))) := hI.at hk1 (by simp) rfl
  have hc1 : H[ad k2]? = some (vp_cell (G.2.1 1) (n1, .inl (M.1 k2))) := hI.at hk2 (by simp) rfl
  obtain ⟨-, ka, hka, cm0, hkk0⟩ := (hK.2 1 _ rfl).1 n0 (fun j => .int (M.1 k1 j))
  obtain ⟨-, kb, hkb, cm1, hkk1⟩ := (hK.2 1 _ rfl).1 n1 (fun j => .int (M.1 k2 j))
  obtain ⟨vm', X', step⟩ := X.arraycopy hx hown hlink hnat hstat hini (src := ad k1) (dst := ad k2) (cs := (vp_cell (G.2.1 1) (n0, .inl (M.1 k1)))) (cd := (vp_cell (G.2.1 1) (n1, .inl (M.1 k2)))) (srcPos := 0) (destPos := 0) (n := n) (by rw [hT]; exact hc0) (by rw [hT]; exact hc1)
    (fun _ h => by cases h) (fun _ h => by cases h) (fun h => by cases h) (fun h => by cases h) hka hkb hkk0 hkk1 (by simp [refKind]) (by decide) (by decide) h3
    (by rw [nn 0 (by decide), nn n h3, e3, z0]; show ¬ _ > ((arrV (G.2.1 1) n0 (fun j => .int (M.1 k1 j))).slots.size : Int); rw [arrV_size]; omega)
    (by rw [nn 0 (by decide), nn n h3, e3, z0]; show ¬ _ > ((arrV (G.2.1 1) n1 (fun j => .int (M.1 k2 j))).slots.size : Int); rw [arrV_size]; omega)
    (fun vm₁ _ i hi => by
      have e : (vp_cell (G.2.1 1) (n0, .inl (M.1 k1))).slots.getD ((0 : Int32).toNatClampNeg + i) .null = .int (M.1 k1 i) := by
        show (arrV (G.2.1 1) n0 (fun j => .int (M.1 k1 j))).slots.getD _ _ = _
        rw [z0, Nat.zero_add, Array.getD_eq_getD_getElem?, arrV_read _ _ (by omega)]
        rfl
      refine ⟨?_, ?_⟩
      · rw [e]; exact hfit i (by omega)
      · rw [e]; exact trivial)
    (g := F0 m pc ls (.int n :: .int 0 :: .ref (ad k2) :: .int 0 :: .ref (ad k1) :: rest)) rfl (by rw [hml]) (rest := rest) rfl (by rw [hb]; exact hdg) hroom.1 (by have := hroom.2; show 2 * 0 + _ + _ ≤ _; omega)
  have e1 : copied (vp_cell (G.2.1 1) (n0, .inl (M.1 k1))) (vp_cell (G.2.1 1) (n1, .inl (M.1 k2))) 0 0 n = vp_cell (G.2.1 1) (n1, .inl (va_cpy (M.1 k1) (M.1 k2) (0 : Int32).toNatClampNeg (0 : Int32).toNatClampNeg n.toNatClampNeg)) := va_copied (fun z => .int z) (G.2.1 1) (G.2.1 1) (M.1 k1) (M.1 k2) (by rw [z0, e3]; omega)
  rw [z0, e3] at e1
  rw [e1] at X' step
  have hl : ad k2 < H.size := (Array.getElem?_eq_some_iff.mp hc1).1
  have hheap : ((T.setVm vm').setCell (ad k2) (vp_cell (G.2.1 1) (n1, .inl (va_cpy (M.1 k1) (M.1 k2) 0 0 N)))).heap = H.setIfInBounds (ad k2) (vp_cell (G.2.1 1) (n1, .inl (va_cpy (M.1 k1) (M.1 k2) 0 0 N))) := by rw [← hT]; rfl
  have oq : ∀ q : Nat, q ≠ ad k2 → (H.setIfInBounds (ad k2) (vp_cell (G.2.1 1) (n1, .inl (va_cpy (M.1 k1) (M.1 k2) 0 0 N))))[q]? = H[q]? := fun q hq => by simp [Array.getElem?_setIfInBounds, Ne.symm hq]
  have hcell : (H.setIfInBounds (ad k2) (vp_cell (G.2.1 1) (n1, .inl (va_cpy (M.1 k1) (M.1 k2) 0 0 N))))[ad k2]? = some (vp_cell (G.2.1 1) (n1, .inl (va_cpy (M.1 k1) (M.1 k2) 0 0 N))) := by simp [Array.getElem?_setIfInBounds, hl]
  obtain ⟨t, a1, b1⟩ := kk _ _ ⟨fun k hk => by
      by_cases e : k = k2
      · subst e
        rw [cpy_s, hk2]; exact hcell
      · obtain ⟨q1, q2, q3⟩ := cpy_o (M := M) (a := k1) (sp := 0) (dp := 0) (n := N) k e
        rw [q1, q2, q3]
        exact (hI.1 k hk).kept (oq _ (fun q => e (hap _ _ hk (by rw [hk2]; simp) q))),
    by simp; exact hI.2.1, fun q g1 g2 => by
      rw [oq q (fun e => g2 (by rw [e]; exact Or.inl ⟨k2, by rw [hk2]; simp, rfl⟩))]
      exact hI.2.2.1 q g1 g2, fun q hq => by
      rcases List.mem_append.mp hq with h | h
      · exact hI.2.2.2 q h
      · obtain ⟨z, -, hz⟩ := List.mem_map.mp h
        rw [← hz]
        exact Or.inl ⟨k2, by rw [hk2]; simp, rfl⟩⟩ _ hheap X'
  exact ⟨t, step t a1, b1⟩
theorem g_copyS (hx : p.tables.exec = Jvm.exec) (hb : c.code = cc) (hml : c.maxLocals = ls.size) {own : String} {index : Nat} (hown : s.vm.findClass own = some m.cls) (hlink : (Cond.methodLink own index arraycopyName).before args s = true) (hnat : (Cond.native arraycopyName).before args s = true) (hstat : (Cond.static arraycopyName).before args s = true) (hini : (Cond.initialized "java/lang/System").before args s = true)
    (hK : va_K G.1 vwCl (tyL G) s) (hap : Apt kd ad) (hsx : Sx G (AS kd ad s.heap.size) s s.heap) (hI : Inv G kd ad s.heap M H locs) {i0 k2 n1 : Nat} (hi0 : i0 < 12) (hk2 : kd k2 = (11, n1)) {dp : Int32} (hc : (!(decide (dp < 0)) && decide (dp.toNatClampNeg + stLen i0 ≤ n1)) = true) (hroom : 1 ≤ R.frames ∧ (rest.map fun v => v.category).sum + (nativeFrameWords "java/lang/System" "arraycopy" 5 + 11) ≤ R.locals) (hdg : decode cc pc = .ok (.invokestatic index, 3)) {M' : Mem} (hM : M' = cpS M i0 k2 dp.toNatClampNeg)
    (kk : ∀ (H1 : Heap) (locs1 : List Loc), Inv G kd ad s.heap M' H1 locs1 → W p l e R s m args below meth c H1 locs1 cells slots Q (F0 m (pc + 3) ls rest)) : W p l e R s m args below meth c H locs cells slots Q (F0 m pc ls (.int (Int32.ofNat (stLen i0)) :: .int dp :: .ref (ad k2) :: .int 0 :: .ref (G.2.2 (200 + i0)) :: rest)) := by
  subst hM
  rw [Bool.and_eq_true] at hc
  obtain ⟨h2, h5⟩ := hc
  have h2 : ¬ dp < 0 := fun h => by rw [decide_eq_true h] at h2; exact absurd h2 (by decide)
  have h5 : dp.toNatClampNeg + stLen i0 ≤ n1 := of_decide_eq_true h5
  obtain ⟨hN, h3, h8⟩ := st_len i0 hi0
  have nn : ∀ z : Int32, ¬ z < 0 → z.toInt = (z.toNatClampNeg : Int) := by
    intro z hz
    have hz0 : (0 : Int) ≤ z.toInt := by
      have := Int32.not_lt.mp hz
      simpa using Int32.le_iff_toInt_le.mp this
    show z.toInt = ((z.toInt.toNat : Nat) : Int)
    omega
  have z0 : (0 : Int32).toNatClampNeg = 0 := rfl
  intro T hT X
  have hX : va_T .byte (G.2.2 (200 + i0)) (stLen i0) (fun j => .int (stF i0 j)) (AS kd ad s.heap.size) s s.heap := (hsx.2.2.2.1.2.1 i0 hi0).2.2.2
  obtain ⟨scr, hs1, hs2, hs3, hs4, -, hs5, hs7⟩ := hX
  have hc0 : H[G.2.2 (200 + i0)]? = some scr := by rw [hI.2.2.1 _ (Array.getElem?_eq_some_iff.mp hs1).1 hs7]; exact hs1
  have hc1 : H[ad k2]? = some (vp_cell (G.2.1 1) (n1, .inl (M.1 k2))) := hI.at hk2 (by simp) rfl
  obtain ⟨hs6, ka, hka, cm0, hkk0⟩ := hs2
  obtain ⟨-, kb, hkb, cm1, hkk1⟩ := (hK.2 1 _ rfl).1 n1 (fun j => .int (M.1 k2 j))
  obtain ⟨vm', X', step⟩ := X.arraycopy hx hown hlink hnat hstat hini (src := G.2.2 (200 + i0)) (dst := ad k2) (cs := scr) (cd := (vp_cell (G.2.1 1) (n1, .inl (M.1 k2)))) (srcPos := 0) (destPos := dp) (n := Int32.ofNat (stLen i0)) (by rw [hT]; exact hc0) (by rw [hT]; exact hc1)
    hs6 (fun _ h => by cases h) hs3 (fun h => by cases h) hka hkb hkk0 hkk1 (by simp [refKind]) (by decide) h2 h3
    (by rw [nn 0 (by decide), nn _ h3, z0, hN]; omega)
    (by rw [nn dp h2, nn _ h3, hN]; show ¬ _ > ((arrV (G.2.1 1) n1 (fun j => .int (M.1 k2 j))).slots.size : Int); rw [arrV_size]; omega)
    (fun vm₁ _ i hi => by
      rw [hN] at hi
      have e : scr.slots.getD ((0 : Int32).toNatClampNeg + i) .null = .int (stF i0 i) := by
        rw [z0, Nat.zero_add, Array.getD_eq_getD_getElem?, hs5 _ hi]
        rfl
      refine ⟨?_, ?_⟩
      · rw [e]; exact st_fit i0 hi0 i (by omega)
      · rw [e]; exact trivial)
    (g := F0 m pc ls (.int (Int32.ofNat (stLen i0)) :: .int dp :: .ref (ad k2) :: .int 0 :: .ref (G.2.2 (200 + i0)) :: rest)) rfl (by rw [hml]) (rest := rest) rfl (by rw [hb]; exact hdg) hroom.1 (by have := hroom.2; show 2 * 0 + _ + _ ≤ _; omega)
  have e1 : copied scr (vp_cell (G.2.1 1) (n1, .inl (M.1 k2))) 0 dp (Int32.ofNat (stLen i0)) = vp_cell (G.2.1 1) (n1, .inl (va_cpy (stF i0) (M.1 k2) (0 : Int32).toNatClampNeg dp.toNatClampNeg (Int32.ofNat (stLen i0)).toNatClampNeg)) := va_copiedX (fun z => .int z) scr (G.2.1 1) (stF i0) (M.1 k2) hs5 (by rw [z0, hN]; omega)
  rw [z0, hN] at e1
  rw [e1] at X' step
  have hl : ad k2 < H.size := (Array.getElem?_eq_some_iff.mp hc1).1
  have hheap : ((T.setVm vm').setCell (ad k2) (vp_cell (G.2.1 1) (n1, .inl (va_cpy (stF i0) (M.1 k2) 0 dp.toNatClampNeg (stLen i0))))).heap = H.setIfInBounds (ad k2) (vp_cell (G.2.1 1) (n1, .inl (va_cpy (stF i0) (M.1 k2) 0 dp.toNatClampNeg (stLen i0)))) := by rw [← hT]; rfl
  have oq : ∀ q : Nat, q ≠ ad k2 → (H.setIfInBounds (ad k2) (vp_cell (G.2.1 1) (n1, .inl (va_cpy (stF i0) (M.1 k2) 0 dp.toNatClampNeg (stLen i0)))))[q]? = H[q]? := fun q hq => by simp [Array.getElem?_setIfInBounds, Ne.symm hq]
  have hcell : (H.setIfInBounds (ad k2) (vp_cell (G.2.1 1) (n1, .inl (va_cpy (stF i0) (M.1 k2) 0 dp.toNatClampNeg (stLen i0)))))[ad k2]? = some (vp_cell (G.2.1 1) (n1, .inl (va_cpy (stF i0) (M.1 k2) 0 dp.toNatClampNeg (stLen i0)))) := by simp [Array.getElem?_setIfInBounds, hl]
  obtain ⟨t, a1, b1⟩ := kk _ _ ⟨fun k hk => by
      by_cases e : k = k2
      · subst e
        rw [cpS_s, hk2]; exact hcell
      · obtain ⟨q1, q2, q3⟩ := cpS_o (M := M) (i := i0) (dp := dp.toNatClampNeg) k e
        rw [q1, q2, q3]
        exact (hI.1 k hk).kept (oq _ (fun q => e (hap _ _ hk (by rw [hk2]; simp) q))),
    by simp; exact hI.2.1, fun q g1 g2 => by
      rw [oq q (fun e => g2 (by rw [e]; exact Or.inl ⟨k2, by rw [hk2]; simp, rfl⟩))]
      exact hI.2.2.1 q g1 g2, fun q hq => by
      rcases List.mem_append.mp hq with h | h
      · exact hI.2.2.2 q h
      · obtain ⟨z, -, hz⟩ := List.mem_map.mp h
        rw [← hz]
        exact Or.inl ⟨k2, by rw [hk2]; simp, rfl⟩⟩ _ hheap X'
  exact ⟨t, step t a1, b1⟩
def Qc (G : GT) (kd : Nat → Nat × Nat) (ad : Nat → Nat) (sz id N : Nat) (M' : Mem) : Array Value → State → Outcome → State → Prop := fun _ st oc t => ∃ ad' : Nat → Nat, oc = .returned (some (.ref (ad' id))) ∧ Ext kd ad (setk kd id (11, N)) ad' sz ∧ Apt (setk kd id (11, N)) ad' ∧ Wd G (setk kd id (11, N)) ad' M' t.heap ∧ va_F (AS kd ad sz) st t
theorem g_bodyC {y : MethodName} {bytes : ByteArray} {maxL mc ms n id N : Nat} {ret : Option FieldType} {own : String} {As : List Value} {M' : Mem} {d : Nat} (hy : plainName y.cls = true) (hyo : y.cls = own)
    (body : ∀ p e s m args below meth c, Cx p s m args meth c bytes maxL ret own G kd ad → s.heap.size = n → At p l e (rmO d mc ms) s m args below meth c 0 0 (MQ below (Qc G kd ad s.heap.size id N M') args s mc ms (AS kd ad s.heap.size)) G kd ad maxL 0 (lv_args 0 As) [] M) (hlen : (lg_sl As).length ≤ maxL) :
    Met l y (Cond.code y bytes maxL ret :: WA) (rmO d mc ms) (Pg G kd ad n As M) (Qc G kd ad n id N M') mc ms (AS kd ad n) := by
  refine Met.ofW (cc := bytes) (maxL := maxL) (ret := ret) hy rfl ?_
  intro p e s m args below meth c s₁ B hml hv
  obtain ⟨rfl, hsz, hw, hap, hK, hsx⟩ := hv
  have hts := atoms_spec (ws := Cond.code y bytes maxL ret :: WA) B.pre
  have hown : s.vm.findClass own = some m.cls := hyo ▸ findClass_of_methodNamed B.named
  subst hsz
  have hl := lv_entry As (n := maxL) hlen
  rw [lg_entry_eq]
  generalize (lg_sl As ++ List.replicate (maxL - (lg_sl As).length) Slot.unset).toArray = ls at hl ⊢
  exact body p e s m _ below meth c ⟨B.exec, B.bytes, hml, B.returns, hown, fun w h => hts w (List.mem_cons_of_mem _ h), B.notSynchronized, hK, hap, hsx⟩ rfl _ _ ls ⟨hw, va_S.rf⟩ hl
theorem g_callC {st0 : List Value} {a : Array Value} {mc ms id N : Nat} {M' : Mem} (hr : va_Run p l e R s m args below meth c H locs cells slots mc ms (F0 m pc ls st0) rest (Qc G kd ad H.size id N M' a) (AS kd ad H.size)) (hI : Inv G kd ad s.heap M H locs)
    (kk : ∀ (ad1 : Nat → Nat) (H1 : Heap) (locs1 : List Loc), Ext kd ad (setk kd id (11, N)) ad1 s.heap.size → Apt (setk kd id (11, N)) ad1 → Inv G (setk kd id (11, N)) ad1 s.heap M' H1 locs1 → W p l e R s m args below meth c H1 locs1 (cells + mc) (slots + ms) Q (F0 m (pc + 3) ls (.ref (ad1 id) :: rest))) : W p l e R s m args below meth c H locs cells slots Q (F0 m pc ls st0) := by
  intro T hT X
  obtain ⟨v', st₀, t, T', L, h0, X', hL, e1, e2, ⟨ad1, hv, hE, hAp, hw, hF⟩, st⟩ := hr T hT X
  cases hv
  obtain ⟨k1, k2, k3⟩ := vx_keep h0 e1 hI.2 (fun q hq h => AS.old hq h) (fun q h => AS.mono hI.2.1 h) hL (by rw [← h0] at hF; rw [h0] at hF; exact hF)
  have hE' := hE.le hI.2.1
  obtain ⟨t2, a1, b1⟩ := kk ad1 T'.heap (locs ++ L) hE' hAp ⟨by rw [e1]; exact hw, by rw [hE'.AS]; exact k3⟩ T' rfl X'
  exact ⟨t2, st t2 a1, b1⟩
theorem g_callSC {y : MethodName} {bytes : ByteArray} {maxL nL mc ms n index id N : Nat} {ret : Option FieldType} {rm : Room} {own : String} {As : List Value} {M' : Mem} (hx : p.tables.exec = Jvm.exec) (hb : c.code = cc) (hml : c.maxLocals = nL) (hown : s.vm.findClass own = some m.cls) (hts : ∀ w ∈ WA, w.before args s = true) (hK : va_K G.1 vwCl (tyL G) s) (hap : Apt kd ad) (hsx : Sx G (AS kd ad s.heap.size) s s.heap) (hI : Inv G kd ad s.heap M H locs)
    (hM : Met l y (Cond.code y bytes maxL ret :: WA) rm (Pg G kd ad H.size As M) (Qc G kd ad H.size id N M') mc ms (AS kd ad H.size)) (hcv : csF y bytes maxL ret n) (hl : Cond.methodLink own index y ∈ WA) (hrc : rm.cells = mc) (hrs : rm.slots = ms) (hR : rm.frames + 1 ≤ R.frames ∧ 8 + (maxL + 11) + rm.locals ≤ R.locals)
    (hn : As.length = n) (hsize : ls.size = nL) {st : List Value} (hst : st = As.reverse ++ rest) (hW : (rest.map fun v => v.category).sum ≤ 8) (hdg : decode cc pc = .ok (.invokestatic index, 3)) (hf : cells + mc ≤ R.cells ∧ slots + ms ≤ R.slots)
    (kk : ∀ (ad1 : Nat → Nat) (H1 : Heap) (locs1 : List Loc), Ext kd ad (setk kd id (11, N)) ad1 s.heap.size → Apt (setk kd id (11, N)) ad1 → Inv G (setk kd id (11, N)) ad1 s.heap M' H1 locs1 → W p l e R s m args below meth c H1 locs1 (cells + mc) (slots + ms) Q (F0 m (pc + 3) ls (.ref (ad1 id) :: rest))) : W p l e R s m args below meth c H locs cells slots Q (F0 m pc ls st) := by
  subst hst
  obtain ⟨c1, c3, c4, c5⟩ := hcv
  have hG : GoodIn WA (va_wsS own index y (Cond.code y bytes maxL ret :: WA)) := fun w h => by
    have : w ∈ WA := by
      rcases List.mem_append.mp h with h | h
      · simp only [List.mem_cons, List.not_mem_nil, or_false] at h
        rcases h with rfl | rfl | rfl
        · exact hl
        · exact c1
        · exact c3
      · exact ws_good c4 w h
    exact ⟨this, wa_good w this⟩
  exact g_callC (va_runS (As := As) (rest := rest) ⟨hx, hb, hml, hown, hts⟩ hM (va_cwS n hts hG rfl hrc hrs c5 hR) ⟨pg_blind, fun U hU hW => pg_of hap hK hsx hI hU hW⟩ rfl hn hsize rfl (lv_room hW) hdg hf) hI kk
theorem g_callTv {b : Nat} {y : MethodName} {bytes : ByteArray} {maxL nL mc ms n index : Nat} {ret : Option FieldType} {rm : Room} {own : String} {As : List Value} {M' : Mem} (hx : p.tables.exec = Jvm.exec) (hb : c.code = cc) (hml : c.maxLocals = nL) (hown : s.vm.findClass own = some m.cls) (hts : ∀ w ∈ WA, w.before args s = true) (hK : va_K G.1 vwCl (tyL G) s) (hap : Apt kd ad) (hsx : Sx G (AS kd ad s.heap.size) s s.heap) (hI : Inv G kd ad s.heap M H locs)
    (hM : Met l y (Cond.code y bytes maxL ret :: WA) rm (Pg G kd ad H.size (.ref (G.2.2 (100 + b)) :: As) M) (Qg G kd ad H.size M' none) mc ms (AS kd ad H.size)) (hcv : cvF "java/lang/String" y bytes maxL ret n) (hl : Cond.methodLink own index y ∈ WA) (hrc : rm.cells = mc) (hrs : rm.slots = ms) (hR : rm.frames + 1 ≤ R.frames ∧ 8 + (maxL + 11) + rm.locals ≤ R.locals)
    (hbw : b < 12) (hn : As.length = n) (hsize : ls.size = nL) {st : List Value} (hst : st = As.reverse ++ .ref (G.2.2 (100 + b)) :: rest) (hW : (rest.map fun v => v.category).sum ≤ 8) (hdg : decode cc pc = .ok (.invokevirtual index, 3)) (hf : cells + mc ≤ R.cells ∧ slots + ms ≤ R.slots)
    (kk : ∀ (H1 : Heap) (locs1 : List Loc), Inv G kd ad s.heap M' H1 locs1 → W p l e R s m args below meth c H1 locs1 (cells + mc) (slots + ms) Q (F0 m (pc + 3) ls rest)) : W p l e R s m args below meth c H locs cells slots Q (F0 m pc ls st) := by
  subst hst
  obtain ⟨c1, c2, c3, c4, c5⟩ := hcv
  have hG : GoodIn WA (wsV own index "java/lang/String" y (Cond.code y bytes maxL ret :: WA)) := fun w h => by
    have : w ∈ WA := by
      rcases List.mem_append.mp h with h | h
      · simp only [List.mem_cons, List.not_mem_nil, or_false] at h
        rcases h with rfl | rfl | rfl | rfl
        · exact hl
        · exact c1
        · exact c2
        · exact c3
      · exact ws_good c4 w h
    exact ⟨this, wa_good w this⟩
  exact g_call (va_runV (C := "java/lang/String") (b := G.2.2 (100 + b)) (As := As) (rest := rest) ⟨hx, hb, hml, hown, hts⟩ hM (cwV n hts hG rfl hrc hrs c5 hR) ⟨pg_blind, st_recv hsx hbw hI, fun U hU hW => pg_of hap hK hsx hI hU hW⟩ rfl hn hsize rfl (lv_room hW) hdg hf) hI kk
end GD
set_option maxHeartbeats 4000000 in
theorem tJ7_copyOf_9075b (l : Launch) {G : GT} {kd : Nat → Nat × Nat} {ad : Nat → Nat} {M : Mem} {k id n0 N : Nat} {v : Int32} (hk : kd k = (11, n0)) (hid : id = 154 ∨ id = 155) (h0 : (kd id).1 = 0) (h9 : kd 133 = (9, 0)) (hL : Low kd) (hsb : sbv 133 (M.1 133 0) ≠ id) (hv : v.toNatClampNeg = N ∧ ¬ v < 0) (hN : n0 < N ∧ N ≤ 70) (hm : imin (Int32.ofNat n0) v = Int32.ofNat n0) (hn0 : (Int32.ofNat n0).toNatClampNeg = n0 ∧ ¬ Int32.ofNat n0 < 0) (hne : v ≠ Int32.ofNat n0) (hfit : ∀ i, i < n0 → fits .byte (.int (M.1 k i)) = true) (n : Nat) :
    Met l yJ7_copyOf_9075b (Cond.code yJ7_copyOf_9075b cJ7_copyOf_9075b 3 (some (.array .byte)) :: WA) (rmO 2 1 N) (Pg G kd ad n [.ref (ad k), .int v] M) (Qc G kd ad n id N (cpy (zr M id) k id 0 0 n0)) 1 N (AS kd ad n) := by
  have hki : k ≠ id := fun e => by rw [e] at hk; rw [hk] at h0; cases h0
  refine g_bodyC (own := RJ7) (by decide) rfl ?_ (Nat.le_of_ble_eq_true rfl)
  intro p e s m args below meth c C _ H locs ls hI hl
  obtain ⟨hx, hb, hml, hr, hown, hts, hlk, hK, hap, hsx⟩ := C
  have hl : lv_has ls 3 [(0, .ref (ad k)), (1, .int v)] := hl
  refine lv_iload_n hx hb (dc tbJ7_copyOf_9075b_k 0 rfl) rfl (lv_at hl 1 rfl) ?_
  refine lv_aload_n hx hb (dc tbJ7_copyOf_9075b_k 1 rfl) rfl (lv_at hl 0 rfl) ?_
  refine g_alenB hx hb hK hI hk (v := Int32.ofNat n0) rfl (dc tbJ7_copyOf_9075b_k 2 rfl) ?_
  refine lv_icmp_ne (tgt := 14) hx hb (dc tbJ7_copyOf_9075b_k 3 rfl) rfl (fun c4 => ?_) (fun c4 => ?_)
  · refine lv_iload_n hx hb (dc tbJ7_copyOf_9075b_k 8 rfl) rfl (lv_at hl 1 rfl) ?_
    refine g_newb hx hb q_t1_73 hts hK hap hL hI hid h0 h9 hsb hv (by omega) ⟨Nat.le_of_ble_eq_true rfl, Nat.le_of_eq (Nat.zero_add N)⟩ dJ7_copyOf_9075b_15 (fun H1 hsz hI hap => ?_)
    have hE : Ext kd ad (setk kd id (11, N)) (adx ad id H.size) s.heap.size := Ext.new h0 hsz
    have ek : adx ad id H.size k = ad k := adx_o hki
    generalize adx ad id H.size = ad' at hI hap hE ek ⊢
    have hk' : setk kd id (11, N) k = (11, n0) := (setk_o hki).trans hk
    refine lv_astore_n (lv' := [(2, .ref (ad' id)), (0, .ref (ad k)), (1, .int v)]) hx hb (dc tbJ7_copyOf_9075b_k 9 rfl) rfl hl (by decide) rfl (fun ls hl => ?_)
    rw [← ek] at hl
    refine lv_aload_n hx hb (dc tbJ7_copyOf_9075b_k 10 rfl) rfl (lv_at hl 1 rfl) ?_
    refine lv_iconst (v := 0) hx hb (dc tbJ7_copyOf_9075b_k 11 rfl) ic_0 ?_
    refine lv_aload_n hx hb (dc tbJ7_copyOf_9075b_k 12 rfl) rfl (lv_at hl 0 rfl) ?_
    refine lv_iconst (v := 0) hx hb (dc tbJ7_copyOf_9075b_k 13 rfl) ic_0 ?_
    refine lv_aload_n hx hb (dc tbJ7_copyOf_9075b_k 14 rfl) rfl (lv_at hl 1 rfl) ?_
    refine g_alenB hx hb hK hI hk' (v := Int32.ofNat n0) rfl (dc tbJ7_copyOf_9075b_k 15 rfl) ?_
    refine lv_iload_n hx hb (dc tbJ7_copyOf_9075b_k 16 rfl) rfl (lv_at hl 2 rfl) ?_
    refine va_mmin hx hb (hml.trans hl.1.symm) hown (hts _ q_t4_22) (hts _ q_t2_200) (hts _ q_t1_22) (hts _ q_t2_201) (Nat.le_of_ble_eq_true rfl) (Nat.le_of_ble_eq_true rfl) (Nat.le_of_ble_eq_true rfl) (Nat.le_of_eq (Nat.zero_add N)) (dc tbJ7_copyOf_9075b_k 17 rfl) ?_
    refine lv_et (show (if _ then _ else _) = Int32.ofNat n0 from hm) ?_
    refine g_copyB hx hb (hml.trans hl.1.symm) hown (hts _ q_t4_23) (hts _ q_t3_89) (hts _ q_t3_88) (hts _ q_t1_20) hK hap hI hk' setk_s rfl rfl hn0 (Nat.le_refl _) (Nat.le_of_lt hN.1) (fun i hi => by rw [(zr_o (M := M) k hki).1]; exact hfit i hi) ⟨Nat.le_of_ble_eq_true rfl, Nat.le_of_ble_eq_true rfl⟩ (dc tbJ7_copyOf_9075b_k 18 rfl) rfl (fun H locs hI => ?_)
    refine lv_aload_n hx hb (dc tbJ7_copyOf_9075b_k 19 rfl) rfl (lv_at hl 0 rfl) ?_
    refine W.widen (k := 1) (n := N) (Nat.le_of_ble_eq_true rfl) (Nat.le_of_eq (Nat.zero_add N)) ?_
    exact W.aret hx hb hr (Or.inr ⟨_, rfl⟩) (Or.inr ⟨_, rfl⟩) (fun t ht _ => ⟨ad', rfl, hE, hap, by rw [ht]; exact hI.1, by rw [← hE.AS]; exact hI.2.F ht⟩) (fun q hq => by rw [← hE.AS]; exact hI.2.2.2 q hq) (dc tbJ7_copyOf_9075b_k 20 rfl) hlk
  · exact absurd c4 hne
theorem sb_up {g : Int32} (h : g = 0 ∨ g = 1) : (sbv 133 (g + 1) = 154 ∨ sbv 133 (g + 1) = 155) ∧ sbv 133 g ≠ sbv 133 (g + 1) ∧ (Int32.ofNat (sbn (g + 1))).toNatClampNeg = sbn (g + 1) ∧ ¬ Int32.ofNat (sbn (g + 1)) < 0 ∧ sbn g < sbn (g + 1) ∧ sbn (g + 1) ≤ 70 ∧ imin (Int32.ofNat (sbn g)) (Int32.ofNat (sbn (g + 1))) = Int32.ofNat (sbn g) ∧ (Int32.ofNat (sbn g)).toNatClampNeg = sbn g ∧ ¬ Int32.ofNat (sbn g) < 0 ∧ Int32.ofNat (sbn (g + 1)) ≠ Int32.ofNat (sbn g) ∧ sbv 133 (g + 1) ≠ 133 := by
  rcases h with rfl | rfl <;> decide
theorem Sb.up {kd : Nat → Nat × Nat} {g : Int32} (hS : Sb kd g) (h : g = 0 ∨ g = 1) : (kd (sbv 133 (g + 1))).1 = 0 ∧ Sb (setk kd (sbv 133 (g + 1)) (11, sbn (g + 1))) (g + 1) := by
  rcases h with rfl | rfl
  · have e : sbv 133 ((0 : Int32) + 1) = 154 := by decide
    have e2 : sbn ((0 : Int32) + 1) = 34 := by decide
    refine ⟨by rw [e]; exact (hS.2.2.1 rfl).1, ?_⟩
    unfold Sb
    rw [e, e2]
    exact ⟨(setk_o (by decide)).trans hS.1, setk_s, fun h => absurd h (by decide), fun _ => by rw [setk_o (by decide)]; exact (hS.2.2.1 rfl).2, by decide⟩
  · have e : sbv 133 ((1 : Int32) + 1) = 155 := by decide
    have e2 : sbn ((1 : Int32) + 1) = 70 := by decide
    refine ⟨by rw [e]; exact hS.2.2.2.1 rfl, ?_⟩
    unfold Sb
    rw [e, e2]
    exact ⟨(setk_o (by decide)).trans hS.1, setk_s, fun h => absurd h (by decide), fun h => absurd h (by decide), by decide⟩
def mJ5_ensureCapacityInternal_d00df (x1 : Int32) (M : Mem) : Option (Mem × Unit) := bnd (((Int32.ofNat (sbn (rd M 133 0))) >>> ((rd M 133 1) &&& 31))) (fun x2_10 => ite2 ((x1 - x2_10) ≤ 0) (some (M, ())) (cap (mJ5_newCapacity_0f7a4 x1 M) (fun r6 => chk (decide (rd M 133 0 = 0 ∨ rd M 133 0 = 1) && (decide (r6 <<< ((rd M 133 1) &&& 31) = Int32.ofNat (sbn (rd M 133 0 + 1))) && fitB (M.1 (sbv 133 (rd M 133 0))) (sbn (rd M 133 0)))) (bnd (wr (cpy (zr M (sbv 133 (rd M 133 0 + 1))) (sbv 133 (rd M 133 0)) (sbv 133 (rd M 133 0 + 1)) 0 0 (sbn (rd M 133 0))) 133 0 (rd M 133 0 + 1)) (fun M9 => some (M9, ()))))))
set_option maxHeartbeats 4000000 in
set_option maxRecDepth 100000 in
theorem tJ5_ensureCapacityInternal_d00df (l : Launch) {G : GT} {kd : Nat → Nat × Nat} {ad : Nat → Nat} {M : Mem} (hS : Sb kd (rd M 133 0)) (hLo : Low kd) {x1 : Int32} {MO : Mem} {vo : Unit} (hf : mJ5_ensureCapacityInternal_d00df x1 M = some (MO, vo)) (n : Nat) : Met l yJ5_ensureCapacityInternal_d00df (Cond.code yJ5_ensureCapacityInternal_d00df cJ5_ensureCapacityInternal_d00df 3 none :: WA) (rmO 3 1 70) (Pg G kd ad n [.ref (ad 133), .int x1] M) (Qr G kd ad n MO none) 1 70 (AS kd ad n) := by
  refine g_bodyR (own := RJ5) (by decide) rfl ?_ (Nat.le_of_ble_eq_true rfl)
  intro p e s m args below meth c C _ H locs ls hI hl
  obtain ⟨hx, hb, hml, hr, hown, hts, hlk, hK, hap, hsx⟩ := id C
  have hl : lv_has ls 3 [(0, .ref (ad 133)), (1, .int x1)] := hl
  unfold mJ5_ensureCapacityInternal_d00df at hf
  refine lv_aload_n hx hb (dc tbJ5_ensureCapacityInternal_d00df_k 0 rfl) rfl (lv_at hl 0 rfl) ?_
  refine ggSB_0 hx hb hts hown hK hI hS.1 q_t2_68 (dc tbJ5_ensureCapacityInternal_d00df_k 1 rfl) ?_
  refine g_alenB hx hb hK hI hS.2.1 (v := Int32.ofNat (sbn (rd M 133 0))) rfl (dc tbJ5_ensureCapacityInternal_d00df_k 2 rfl) ?_
  refine lv_aload_n hx hb (dc tbJ5_ensureCapacityInternal_d00df_k 3 rfl) rfl (lv_at hl 0 rfl) ?_
  refine ggSB_1 hx hb hts hown hK hI hS.1 q_t2_69 (dc tbJ5_ensureCapacityInternal_d00df_k 4 rfl) ?_
  refine lv_ishr hx hb (dc tbJ5_ensureCapacityInternal_d00df_k 5 rfl) ?_
  obtain ⟨x2_10, e2, hf⟩ := bnd_s hf
  refine lv_ei e2 ?_
  refine lv_istore_n (lv' := [(2, .int x2_10), (0, .ref (ad 133)), (1, .int x1)]) hx hb (dc tbJ5_ensureCapacityInternal_d00df_k 6 rfl) rfl hl (by decide) rfl (fun ls hl => ?_)
  refine lv_iload_n hx hb (dc tbJ5_ensureCapacityInternal_d00df_k 7 rfl) rfl (lv_at hl 2 rfl) ?_
  refine lv_iload_n hx hb (dc tbJ5_ensureCapacityInternal_d00df_k 8 rfl) rfl (lv_at hl 0 rfl) ?_
  refine lv_isub hx hb (dc tbJ5_ensureCapacityInternal_d00df_k 9 rfl) ?_
  refine lv_if_le (tgt := 38) hx hb (dc tbJ5_ensureCapacityInternal_d00df_k 10 rfl) rfl (fun c3 => ?_) (fun c3 => ?_)
  · have hf := ite_t c3 hf
    cases hf
    refine W.widen (k := 1) (n := 70) (Nat.zero_le _) (Nat.zero_le _) ?_
    exact g_vretR hx hb hr hlk Ext.refl hLo hS hap hI (dc tbJ5_ensureCapacityInternal_d00df_k 22 rfl)
  · have hf := ite_f c3 hf
    refine lv_aload_n hx hb (dc tbJ5_ensureCapacityInternal_d00df_k 11 rfl) rfl (lv_at hl 1 rfl) ?_
    refine lv_aload_n hx hb (dc tbJ5_ensureCapacityInternal_d00df_k 12 rfl) rfl (lv_at hl 1 rfl) ?_
    refine ggSB_0 hx hb hts hown hK hI hS.1 q_t2_68 (dc tbJ5_ensureCapacityInternal_d00df_k 13 rfl) ?_
    refine lv_aload_n hx hb (dc tbJ5_ensureCapacityInternal_d00df_k 14 rfl) rfl (lv_at hl 1 rfl) ?_
    refine lv_iload_n hx hb (dc tbJ5_ensureCapacityInternal_d00df_k 15 rfl) rfl (lv_at hl 2 rfl) ?_
    obtain ⟨r6, q5, hf⟩ := cap_s hf
    refine g_callUi (n := 1) hx hb hml hown hts hK hap hsx hI (tJ5_newCapacity_0f7a4 l  hS q5 H.size) q_t3_239 q_t10_26 q_t4_1 q_t1_7 q_t4_2 q_wk_1 (by decide +kernel) rfl rfl ⟨Nat.le_of_ble_eq_true rfl, Nat.le_of_ble_eq_true rfl⟩ hS.1 (by simp) rfl rfl rfl hl.1 rfl (Nat.le_of_ble_eq_true rfl) (dc tbJ5_ensureCapacityInternal_d00df_k 16 rfl) ⟨Nat.le_of_ble_eq_true rfl, Nat.le_of_ble_eq_true rfl⟩ (fun H locs hI => ?_)
    refine lv_aload_n hx hb (dc tbJ5_ensureCapacityInternal_d00df_k 17 rfl) rfl (lv_at hl 1 rfl) ?_
    refine ggSB_1 hx hb hts hown hK hI hS.1 q_t2_69 (dc tbJ5_ensureCapacityInternal_d00df_k 18 rfl) ?_
    refine lv_ishl hx hb (dc tbJ5_ensureCapacityInternal_d00df_k 19 rfl) ?_
    obtain ⟨h7, hf⟩ := chk_s hf
    rw [Bool.and_eq_true, Bool.and_eq_true] at h7
    obtain ⟨hg, hq, hft⟩ := h7
    have hg := of_decide_eq_true hg
    have hq := of_decide_eq_true hq
    obtain ⟨u1, u2, u3, u4, u5, u6, u7, u8, u9, u10, u11⟩ := sb_up hg
    obtain ⟨w1, w2⟩ := hS.up hg
    obtain ⟨M9, e9, hf⟩ := bnd_s hf
    refine lv_et hq ?_
    refine g_callSC (n := 2) hx hb hml hown hts hK hap hsx hI (tJ7_copyOf_9075b l hS.2.1 u1 w1 hS.1 hLo u2 ⟨u3, u4⟩ ⟨u5, u6⟩ u7 ⟨u8, u9⟩ u10 (fitB_s hft) H.size) ⟨q_t4_13, q_t1_27, q_t4_14, (by decide +kernel)⟩ q_t4_12 rfl rfl ⟨Nat.le_of_ble_eq_true rfl, Nat.le_of_ble_eq_true rfl⟩ rfl hl.1 rfl (Nat.le_of_ble_eq_true rfl) (dc tbJ5_ensureCapacityInternal_d00df_k 20 rfl) ⟨Nat.le_of_ble_eq_true rfl, by show 0 + 0 + sbn (rd M 133 0 + 1) ≤ 70; omega⟩ (fun ad1 H locs hE hap hI => ?_)
    have e133 : ad1 133 = ad 133 := (hE.1 133 (by rw [hS.1]; simp)).2
    rw [← e133]
    refine g_put hx hb hts inWJ4 tyJ4 tyJ4_ok nmJ4 hown hK hap hI w2.1 (by simp) rfl rfl 0 (by decide) ⟨rfl, rfl, rfl⟩ q_t2_68 rfl (ty := .array .byte) (by decide +kernel) rfl rfl (Nat.le_of_ble_eq_true rfl) (M' := M9) (by rw [e9, wr_s]; rfl) (by rw [e9]; exact wr_o) (dc tbJ5_ensureCapacityInternal_d00df_k 21 rfl) (fun H locs hI => ?_)
    have e0 : rd M9 133 0 = rd M 133 0 + 1 := by rw [e9]; unfold rd; rw [wr_s]; exact if_pos rfl
    cases hf
    refine W.widen (k := 1) (n := 70) (Nat.le_of_ble_eq_true rfl) (by show 0 + 0 + sbn (rd M 133 0 + 1) ≤ 70; omega) ?_
    exact g_vretR hx hb hr hlk hE (hLo.set) (by rw [e0]; exact w2) hap hI (dc tbJ5_ensureCapacityInternal_d00df_k 22 rfl)
