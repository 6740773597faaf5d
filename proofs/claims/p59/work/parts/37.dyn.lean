/-! strings and builders that are made: worlds that grow, rows, calls -/
theorem i_nn {x : Int32} (h : ¬ x < 0) : x = Int32.ofNat x.toNatClampNeg := by
  have hz0 : (0 : Int) ≤ x.toInt := by
    have := Int32.not_lt.mp h
    simpa using Int32.le_iff_toInt_le.mp this
  have e : x.toInt = (x.toInt.toNat : Int) := by omega
  show x = Int32.ofNat x.toInt.toNat
  calc x = Int32.ofInt x.toInt := (Int32.ofInt_toInt x).symm
    _ = Int32.ofInt (x.toInt.toNat : Int) := by rw [← e]
    _ = Int32.ofNat x.toInt.toNat := rfl
def kDs (kd : Nat → Nat × Nat) (k a n : Nat) : Prop := kd k = (15, a) ∧ kd a = (11, n)
def kSb (kd : Nat → Nat × Nat) (k a n : Nat) : Prop := kd k = (9, a) ∧ kd a = (11, n)
def fitB (f : Nat → Int32) (n : Nat) : Bool := (List.range n).all (fun i => fits .byte (.int (f i)))
theorem fitB_s {f : Nat → Int32} {n : Nat} (h : fitB f n = true) : ∀ i, i < n → fits .byte (.int (f i)) = true := fun i hi => List.all_eq_true.mp h i (List.mem_range.mpr hi)
theorem fitB_o {f : Nat → Int32} {n : Nat} (h : ∀ i, i < n → fits .byte (.int (f i)) = true) : fitB f n = true := List.all_eq_true.mpr (fun i hi => h i (List.mem_range.mp hi))
def cpok (M : Mem) (k1 n0 n1 : Nat) (sp dp n : Int32) : Bool := ((!(decide (sp < 0)) && !(decide (dp < 0))) && (!(decide (n < 0)) && decide (sp.toNatClampNeg + n.toNatClampNeg ≤ n0))) && (decide (dp.toNatClampNeg + n.toNatClampNeg ≤ n1) && fitB (M.1 k1) n0)
theorem cpok_s {M : Mem} {k1 n0 n1 : Nat} {sp dp n : Int32} (h : cpok M k1 n0 n1 sp dp n = true) : ¬ sp < 0 ∧ ¬ dp < 0 ∧ ¬ n < 0 ∧ sp.toNatClampNeg + n.toNatClampNeg ≤ n0 ∧ dp.toNatClampNeg + n.toNatClampNeg ≤ n1 ∧ fitB (M.1 k1) n0 = true := by
  simp only [cpok, Bool.and_eq_true, Bool.not_eq_true', decide_eq_false_iff_not, decide_eq_true_eq] at h
  exact ⟨h.1.1.1, h.1.1.2, h.1.2.1, h.1.2.2, h.2.1, h.2.2⟩
def cpS (M : Mem) (i k2 dp : Nat) : Mem := (fun a => if a = k2 then va_cpy (fun j => (stB i).getD j 0) (M.1 k2) 0 dp (stLen i) else M.1 a, M.2)
theorem cpS_o {M : Mem} {i b dp : Nat} (k' : Nat) (h : k' ≠ b) : (cpS M i b dp).1 k' = M.1 k' ∧ (cpS M i b dp).2.1 k' = M.2.1 k' ∧ (cpS M i b dp).2.2 k' = M.2.2 k' := ⟨if_neg h, rfl, rfl⟩
theorem cpS_s {M : Mem} {i b dp : Nat} : (cpS M i b dp).1 b = va_cpy (fun j => (stB i).getD j 0) (M.1 b) 0 dp (stLen i) := if_pos rfl
theorem st_len : ∀ i, i < 19 → (Int32.ofNat (stLen i)).toNatClampNeg = stLen i ∧ ¬ Int32.ofNat (stLen i) < 0 ∧ stLen i ≤ 10 := by decide +kernel
theorem st_fit : ∀ i, i < 19 → ∀ j, j < 10 → fits .byte (.int ((stB i).getD j 0)) = true := by decide +kernel
/-- the world grows: cells stay cells, new ones lie behind sz -/
def Kx (K K' : Nat → Nat × Nat) (ad : Nat → Nat) (sz : Nat) : Prop := (∀ j, (K j).1 ≠ 0 → (K' j).1 ≠ 0) ∧ ∀ j, (K j).1 = 0 → (K' j).1 ≠ 0 → sz ≤ ad j
theorem Kx.rf {K : Nat → Nat × Nat} {ad : Nat → Nat} {sz : Nat} : Kx K K ad sz := ⟨fun _ h => h, fun _ h h' => absurd h h'⟩
theorem Kx.le {K K' : Nat → Nat × Nat} {ad : Nat → Nat} {sz sz' : Nat} (h : Kx K K' ad sz') (hs : sz ≤ sz') : Kx K K' ad sz := ⟨h.1, fun j h1 h2 => Nat.le_trans hs (h.2 j h1 h2)⟩
theorem Kx.trans {K K1 K2 : Nat → Nat × Nat} {ad : Nat → Nat} {sz : Nat} (h : Kx K K1 ad sz) (h' : Kx K1 K2 ad sz) : Kx K K2 ad sz := by
  refine ⟨fun j hj => h'.1 j (h.1 j hj), fun j hj hj2 => ?_⟩
  by_cases e : (K1 j).1 = 0
  · exact h'.2 j e hj2
  · exact h.2 j hj e
theorem Kx.set {K : Nat → Nat × Nat} {ad : Nat → Nat} {sz id : Nat} {q : Nat × Nat} (hq : q.1 ≠ 0) (h : (K id).1 = 0 → sz ≤ ad id) : Kx K (setk K id q) ad sz := by
  refine ⟨fun j hj => ?_, fun j hj hj2 => ?_⟩
  · by_cases e : j = id
    · subst e; rw [setk_s]; exact hq
    · rw [setk_o e]; exact hj
  · by_cases e : j = id
    · subst e; exact h hj
    · rw [setk_o e] at hj2; exact absurd hj hj2
theorem Kx.AS {K K' : Nat → Nat × Nat} {ad : Nat → Nat} {sz : Nat} (h : Kx K K' ad sz) : AS K' ad sz = AS K ad sz := by
  funext q
  refine propext ⟨fun hq => hq.elim (fun ⟨k, hk, e⟩ => ?_) Or.inr, fun hq => hq.elim (fun ⟨k, hk, e⟩ => Or.inl ⟨k, h.1 k hk, e⟩) Or.inr⟩
  by_cases h1 : (K k).1 = 0
  · exact Or.inr (by rw [e]; exact h.2 k h1 hk)
  · exact Or.inl ⟨k, h1, e⟩
/-- every address from n on has a number -/
def Su (ad : Nat → Nat) (n : Nat) : Prop := ∀ q, n ≤ q → ∃ id, ad id = q ∧ ad (id + 1) = q + 1
theorem Su.le {ad : Nat → Nat} {n n' : Nat} (h : Su ad n) (hn : n ≤ n') : Su ad n' := fun q hq => h q (Nat.le_trans hn hq)
def Sm (M M' : Mem) (j : Nat) : Prop := M'.1 j = M.1 j ∧ M'.2.1 j = M.2.1 j ∧ M'.2.2 j = M.2.2 j
theorem Sm.rf {M : Mem} {j : Nat} : Sm M M j := ⟨rfl, rfl, rfl⟩
theorem Sm.trans {M M1 M2 : Mem} {j : Nat} (h : Sm M M1 j) (h' : Sm M1 M2 j) : Sm M M2 j := ⟨h'.1.trans h.1, h'.2.1.trans h.2.1, h'.2.2.trans h.2.2⟩
abbrev PS : Type := (Nat → Nat × Nat) → Mem → Option Value → Prop
def Qs (G : GT) (K : Nat → Nat × Nat) (ad : Nat → Nat) (sz : Nat) (P : PS) : Array Value → State → Outcome → State → Prop := fun _ st oc t => ∃ K' M' v, oc = .returned v ∧ P K' M' v ∧ Kx K K' ad sz ∧ Wd G K' ad M' t.heap ∧ va_F (AS K ad sz) st t
theorem Cx.kx {p : Program} {s : State} {m : MethodId} {args : Array Value} {meth : Method} {c : Code} {cc : ByteArray} {nL : Nat} {ret : Option FieldType} {own : String} {G : GT} {kd kd' : Nat → Nat × Nat} {ad : Nat → Nat} (C : Cx p s m args meth c cc nL ret own G kd ad) (hX : Kx kd kd' ad s.heap.size) (hinj : ∀ i j, ad i = ad j → i = j) : Cx p s m args meth c cc nL ret own G kd' ad := by
  obtain ⟨h1, h2, h3, h4, h5, h6, h7, h8, -, h9⟩ := C
  exact ⟨h1, h2, h3, h4, h5, h6, h7, h8, fun _ _ _ _ h => hinj _ _ h, by rw [hX.AS]; exact h9⟩
section DY
variable {p : Program} {l : Launch} {e : Env} {R : Room} {s : State} {m : MethodId} {args : Array Value} {below : List Frame} {meth : Method} {c : Code} {H : Heap} {locs : List Loc} {cells slots : Nat} {Q : State → Prop}
variable {cc : ByteArray} {pc : Nat} {ls : Array Slot} {rest : List Value} {G : GT} {kd : Nat → Nat × Nat} {ad : Nat → Nat} {M : Mem} {H0 : Heap}
theorem ggSB_0 (hx : p.tables.exec = Jvm.exec) (hb : c.code = cc) (hts : ∀ w ∈ WA, w.before args s = true) {own : String} {index k a : Nat} (hown : s.vm.findClass own = some m.cls) (hK : va_K G.1 vwCl (tyLs G) s) (hI : Inv G kd ad H0 M H locs) (hk : kd k = (9, a)) (hlink : Cond.fieldLink own index "java/lang/AbstractStringBuilder" "value" "[B" ∈ WA) (hdg : decode cc pc = .ok (.getfield index, 3)) (kk : W p l e R s m args below meth c H locs cells slots Q (F0 m (pc + 3) ls (.ref (ad a) :: rest))) : W p l e R s m args below meth c H locs cells slots Q (F0 m pc ls (.ref (ad k) :: rest)) :=
  g_get hx hb hts inWJ4 hown hK hI hk (by simp) rfl rfl 0 (by decide) ⟨rfl, rfl, rfl⟩ hlink rfl hdg kk
theorem ggSB_1 (hx : p.tables.exec = Jvm.exec) (hb : c.code = cc) (hts : ∀ w ∈ WA, w.before args s = true) {own : String} {index k a : Nat} (hown : s.vm.findClass own = some m.cls) (hK : va_K G.1 vwCl (tyLs G) s) (hI : Inv G kd ad H0 M H locs) (hk : kd k = (9, a)) (hlink : Cond.fieldLink own index "java/lang/AbstractStringBuilder" "coder" "B" ∈ WA) (hdg : decode cc pc = .ok (.getfield index, 3)) (kk : W p l e R s m args below meth c H locs cells slots Q (F0 m (pc + 3) ls (.int (rd M k 1) :: rest))) : W p l e R s m args below meth c H locs cells slots Q (F0 m pc ls (.ref (ad k) :: rest)) :=
  g_get hx hb hts inWJ4 hown hK hI hk (by simp) rfl rfl 1 (by decide) ⟨rfl, rfl, rfl⟩ hlink rfl hdg kk
theorem ggSB_2 (hx : p.tables.exec = Jvm.exec) (hb : c.code = cc) (hts : ∀ w ∈ WA, w.before args s = true) {own : String} {index k a : Nat} (hown : s.vm.findClass own = some m.cls) (hK : va_K G.1 vwCl (tyLs G) s) (hI : Inv G kd ad H0 M H locs) (hk : kd k = (9, a)) (hlink : Cond.fieldLink own index "java/lang/AbstractStringBuilder" "maybeLatin1" "Z" ∈ WA) (hdg : decode cc pc = .ok (.getfield index, 3)) (kk : W p l e R s m args below meth c H locs cells slots Q (F0 m (pc + 3) ls (.int (rd M k 2) :: rest))) : W p l e R s m args below meth c H locs cells slots Q (F0 m pc ls (.ref (ad k) :: rest)) :=
  g_get hx hb hts inWJ4 hown hK hI hk (by simp) rfl rfl 2 (by decide) ⟨rfl, rfl, rfl⟩ hlink rfl hdg kk
theorem ggSB_3 (hx : p.tables.exec = Jvm.exec) (hb : c.code = cc) (hts : ∀ w ∈ WA, w.before args s = true) {own : String} {index k a : Nat} (hown : s.vm.findClass own = some m.cls) (hK : va_K G.1 vwCl (tyLs G) s) (hI : Inv G kd ad H0 M H locs) (hk : kd k = (9, a)) (hlink : Cond.fieldLink own index "java/lang/AbstractStringBuilder" "count" "I" ∈ WA) (hdg : decode cc pc = .ok (.getfield index, 3)) (kk : W p l e R s m args below meth c H locs cells slots Q (F0 m (pc + 3) ls (.int (rd M k 3) :: rest))) : W p l e R s m args below meth c H locs cells slots Q (F0 m pc ls (.ref (ad k) :: rest)) :=
  g_get hx hb hts inWJ4 hown hK hI hk (by simp) rfl rfl 3 (by decide) ⟨rfl, rfl, rfl⟩ hlink rfl hdg kk
theorem gpSB_3 (hx : p.tables.exec = Jvm.exec) (hb : c.code = cc) (hts : ∀ w ∈ WA, w.before args s = true) {own : String} {index k a : Nat} (hown : s.vm.findClass own = some m.cls) (hK : va_K G.1 vwCl (tyLs G) s) (hap : Apt kd ad) (hI : Inv G kd ad H0 M H locs) (hk : kd k = (9, a)) (hlink : Cond.fieldLink own index "java/lang/AbstractStringBuilder" "count" "I" ∈ WA) {v : Int32} (hdg : decode cc pc = .ok (.putfield index, 3)) {M' : Mem} (hM : M' = wr M k 3 v) (kk : ∀ (H1 : Heap) (locs1 : List Loc), Inv G kd ad H0 M' H1 locs1 → W p l e R s m args below meth c H1 locs1 cells slots Q (F0 m (pc + 3) ls rest)) : W p l e R s m args below meth c H locs cells slots Q (F0 m pc ls (.int v :: .ref (ad k) :: rest)) := by
  subst hM
  exact g_put hx hb hts inWJ4 tyJ4 tyJ4_ok nmJ4 hown hK hap hI hk (by simp) rfl rfl 3 (by decide) ⟨rfl, rfl, rfl⟩ hlink rfl (ty := .int) (by decide +kernel) rfl rfl (Nat.le_of_ble_eq_true rfl) (by rw [wr_s]; rfl) wr_o hdg kk
theorem ggST_0 (hx : p.tables.exec = Jvm.exec) (hb : c.code = cc) (hts : ∀ w ∈ WA, w.before args s = true) {own : String} {index k a : Nat} (hown : s.vm.findClass own = some m.cls) (hK : va_K G.1 vwCl (tyLs G) s) (hI : Inv G kd ad H0 M H locs) (hk : kd k = (15, a)) (hlink : Cond.fieldLink own index "java/lang/String" "value" "[B" ∈ WA) (hdg : decode cc pc = .ok (.getfield index, 3)) (kk : W p l e R s m args below meth c H locs cells slots Q (F0 m (pc + 3) ls (.ref (ad a) :: rest))) : W p l e R s m args below meth c H locs cells slots Q (F0 m pc ls (.ref (ad k) :: rest)) :=
  g_get hx hb hts inWJ0 hown hK hI hk (by simp) rfl rfl 0 (by decide) ⟨rfl, rfl, rfl⟩ hlink rfl hdg kk
theorem ggST_1 (hx : p.tables.exec = Jvm.exec) (hb : c.code = cc) (hts : ∀ w ∈ WA, w.before args s = true) {own : String} {index k a : Nat} (hown : s.vm.findClass own = some m.cls) (hK : va_K G.1 vwCl (tyLs G) s) (hI : Inv G kd ad H0 M H locs) (hk : kd k = (15, a)) (hlink : Cond.fieldLink own index "java/lang/String" "coder" "B" ∈ WA) (hdg : decode cc pc = .ok (.getfield index, 3)) (kk : W p l e R s m args below meth c H locs cells slots Q (F0 m (pc + 3) ls (.int (rd M k 1) :: rest))) : W p l e R s m args below meth c H locs cells slots Q (F0 m pc ls (.ref (ad k) :: rest)) :=
  g_get hx hb hts inWJ0 hown hK hI hk (by simp) rfl rfl 1 (by decide) ⟨rfl, rfl, rfl⟩ hlink rfl hdg kk
theorem ggST_2 (hx : p.tables.exec = Jvm.exec) (hb : c.code = cc) (hts : ∀ w ∈ WA, w.before args s = true) {own : String} {index k a : Nat} (hown : s.vm.findClass own = some m.cls) (hK : va_K G.1 vwCl (tyLs G) s) (hI : Inv G kd ad H0 M H locs) (hk : kd k = (15, a)) (hlink : Cond.fieldLink own index "java/lang/String" "hash" "I" ∈ WA) (hdg : decode cc pc = .ok (.getfield index, 3)) (kk : W p l e R s m args below meth c H locs cells slots Q (F0 m (pc + 3) ls (.int (rd M k 2) :: rest))) : W p l e R s m args below meth c H locs cells slots Q (F0 m pc ls (.ref (ad k) :: rest)) :=
  g_get hx hb hts inWJ0 hown hK hI hk (by simp) rfl rfl 2 (by decide) ⟨rfl, rfl, rfl⟩ hlink rfl hdg kk
theorem ggST_3 (hx : p.tables.exec = Jvm.exec) (hb : c.code = cc) (hts : ∀ w ∈ WA, w.before args s = true) {own : String} {index k a : Nat} (hown : s.vm.findClass own = some m.cls) (hK : va_K G.1 vwCl (tyLs G) s) (hI : Inv G kd ad H0 M H locs) (hk : kd k = (15, a)) (hlink : Cond.fieldLink own index "java/lang/String" "hashIsZero" "Z" ∈ WA) (hdg : decode cc pc = .ok (.getfield index, 3)) (kk : W p l e R s m args below meth c H locs cells slots Q (F0 m (pc + 3) ls (.int (rd M k 3) :: rest))) : W p l e R s m args below meth c H locs cells slots Q (F0 m pc ls (.ref (ad k) :: rest)) :=
  g_get hx hb hts inWJ0 hown hK hI hk (by simp) rfl rfl 3 (by decide) ⟨rfl, rfl, rfl⟩ hlink rfl hdg kk
theorem g_copyD (hx : p.tables.exec = Jvm.exec) (hb : c.code = cc) (hml : c.maxLocals = ls.size) {own : String} {index : Nat} (hown : s.vm.findClass own = some m.cls) (hlink : (Cond.methodLink own index arraycopyName).before args s = true) (hnat : (Cond.native arraycopyName).before args s = true) (hstat : (Cond.static arraycopyName).before args s = true) (hini : (Cond.initialized "java/lang/System").before args s = true)
    (hK : va_K G.1 vwCl (tyLs G) s) (hap : Apt kd ad) (hI : Inv G kd ad s.heap M H locs) {k1 k2 n0 n1 : Nat} (hk1 : kd k1 = (11, n0)) (hk2 : kd k2 = (11, n1)) {sp dp n : Int32} (hc : cpok M k1 n0 n1 sp dp n = true) (hroom : 1 ≤ R.frames ∧ (rest.map fun v => v.category).sum + (nativeFrameWords "java/lang/System" "arraycopy" 5 + 11) ≤ R.locals) (hdg : decode cc pc = .ok (.invokestatic index, 3)) {M' : Mem} (hM : M' = cpy M k1 k2 sp.toNatClampNeg dp.toNatClampNeg n.toNatClampNeg)
    (kk : ∀ (H1 : Heap) (locs1 : List Loc), Inv G kd ad s.heap M' H1 locs1 → W p l e R s m args below meth c H1 locs1 cells slots Q (F0 m (pc + 3) ls rest)) : W p l e R s m args below meth c H locs cells slots Q (F0 m pc ls (.int n :: .int dp :: .ref (ad k2) :: .int sp :: .ref (ad k1) :: rest)) := by
  subst hM
  obtain ⟨h1, h2, h3, h4, h5, hfit⟩ := cpok_s hc
  have nn : ∀ z : Int32, ¬ z < 0 → z.toInt = (z.toNatClampNeg : Int) := by
    intro z hz
    have hz0 : (0 : Int) ≤ z.toInt := by
      have := Int32.not_lt.mp hz
      simpa using Int32.le_iff_toInt_le.mp this
    show z.toInt = ((z.toInt.toNat : Nat) : Int)
    omega
  intro T hT X
  have hc0 : H[ad k1]? = some (vp_cell (G.2.1 1) (n0, .inl (M.1 k1))) := hI.at hk1 (by simp) rfl
  have hc1 : H[ad k2]? = some (vp_cell (G.2.1 1) (n1, .inl (M.1 k2))) := hI.at hk2 (by simp) rfl
  obtain ⟨-, ka, hka, cm0, hkk0⟩ := (hK.2 1 _ rfl).1 n0 (fun j => .int (M.1 k1 j))
  obtain ⟨-, kb, hkb, cm1, hkk1⟩ := (hK.2 1 _ rfl).1 n1 (fun j => .int (M.1 k2 j))
  obtain ⟨vm', X', step⟩ := X.arraycopy hx hown hlink hnat hstat hini (src := ad k1) (dst := ad k2) (cs := (vp_cell (G.2.1 1) (n0, .inl (M.1 k1)))) (cd := (vp_cell (G.2.1 1) (n1, .inl (M.1 k2)))) (srcPos := sp) (destPos := dp) (n := n) (by rw [hT]; exact hc0) (by rw [hT]; exact hc1)
    (fun _ h => by cases h) (fun _ h => by cases h) (fun h => by cases h) (fun h => by cases h) hka hkb hkk0 hkk1 (by simp [refKind]) h1 h2 h3
    (by rw [nn sp h1, nn n h3]; show ¬ _ > ((arrV (G.2.1 1) n0 (fun j => .int (M.1 k1 j))).slots.size : Int); rw [arrV_size]; omega)
    (by rw [nn dp h2, nn n h3]; show ¬ _ > ((arrV (G.2.1 1) n1 (fun j => .int (M.1 k2 j))).slots.size : Int); rw [arrV_size]; omega)
    (fun vm₁ _ i hi => by
      have e : (vp_cell (G.2.1 1) (n0, .inl (M.1 k1))).slots.getD (sp.toNatClampNeg + i) .null = .int (M.1 k1 (sp.toNatClampNeg + i)) := by
        show (arrV (G.2.1 1) n0 (fun j => .int (M.1 k1 j))).slots.getD _ _ = _
        rw [Array.getD_eq_getD_getElem?, arrV_read _ _ (by omega)]
        rfl
      refine ⟨?_, ?_⟩
      · rw [e]; exact fitB_s hfit _ (by omega)
      · rw [e]; exact trivial)
    (g := F0 m pc ls (.int n :: .int dp :: .ref (ad k2) :: .int sp :: .ref (ad k1) :: rest)) rfl (by rw [hml]) (rest := rest) rfl (by rw [hb]; exact hdg) hroom.1 (by have := hroom.2; show 2 * 0 + _ + _ ≤ _; omega)
  have e1 : copied (vp_cell (G.2.1 1) (n0, .inl (M.1 k1))) (vp_cell (G.2.1 1) (n1, .inl (M.1 k2))) sp dp n = vp_cell (G.2.1 1) (n1, .inl (va_cpy (M.1 k1) (M.1 k2) sp.toNatClampNeg dp.toNatClampNeg n.toNatClampNeg)) := va_copied (fun z => .int z) (G.2.1 1) (G.2.1 1) (M.1 k1) (M.1 k2) (by omega)
  rw [e1] at X' step
  have hl : ad k2 < H.size := (Array.getElem?_eq_some_iff.mp hc1).1
  have hheap : ((T.setVm vm').setCell (ad k2) (vp_cell (G.2.1 1) (n1, .inl (va_cpy (M.1 k1) (M.1 k2) sp.toNatClampNeg dp.toNatClampNeg n.toNatClampNeg)))).heap = H.setIfInBounds (ad k2) (vp_cell (G.2.1 1) (n1, .inl (va_cpy (M.1 k1) (M.1 k2) sp.toNatClampNeg dp.toNatClampNeg n.toNatClampNeg))) := by rw [← hT]; rfl
  have oq : ∀ q : Nat, q ≠ ad k2 → (H.setIfInBounds (ad k2) (vp_cell (G.2.1 1) (n1, .inl (va_cpy (M.1 k1) (M.1 k2) sp.toNatClampNeg dp.toNatClampNeg n.toNatClampNeg))))[q]? = H[q]? := fun q hq => by simp [Array.getElem?_setIfInBounds, Ne.symm hq]
  have hcell : (H.setIfInBounds (ad k2) (vp_cell (G.2.1 1) (n1, .inl (va_cpy (M.1 k1) (M.1 k2) sp.toNatClampNeg dp.toNatClampNeg n.toNatClampNeg))))[ad k2]? = some (vp_cell (G.2.1 1) (n1, .inl (va_cpy (M.1 k1) (M.1 k2) sp.toNatClampNeg dp.toNatClampNeg n.toNatClampNeg))) := by simp [Array.getElem?_setIfInBounds, hl]
  obtain ⟨t, a1, b1⟩ := kk _ _ ⟨fun k hk => by
      by_cases e : k = k2
      · subst e
        rw [cpy_s, hk2]; exact hcell
      · obtain ⟨q1, q2, q3⟩ := cpy_o (M := M) (a := k1) (sp := sp.toNatClampNeg) (dp := dp.toNatClampNeg) (n := n.toNatClampNeg) k e
        rw [q1, q2, q3]
        exact (hI.1 k hk).kept (oq _ (fun q => e (hap _ _ hk (by rw [hk2]; simp) q))),
    by simp; exact hI.2.1, fun q g1 g2 => by
      rw [oq q (fun e => g2 (by rw [e]; exact Or.inl ⟨k2, by rw [hk2]; simp, rfl⟩))]
      exact hI.2.2.1 q g1 g2, fun q hq => by
      rcases List.mem_append.mp hq with h | h
      · exact hI.2.2.2 q h
      · obtain ⟨z, -, hz⟩ := List.mem_map.mp h
        rw [← hz]
        exact Or.inl ⟨k2, by rw [hk2]; simp, rfl⟩⟩ _ hheap X'
  exact ⟨t, step t a1, b1⟩
theorem g_copyS (hx : p.tables.exec = Jvm.exec) (hb : c.code = cc) (hml : c.maxLocals = ls.size) {own : String} {index : Nat} (hown : s.vm.findClass own = some m.cls) (hlink : (Cond.methodLink own index arraycopyName).before args s = true) (hnat : (Cond.native arraycopyName).before args s = true) (hstat : (Cond.static arraycopyName).before args s = true) (hini : (Cond.initialized "java/lang/System").before args s = true)
    (hK : va_K G.1 vwCl (tyLs G) s) (hap : Apt kd ad) (hsx : Sx G (AS kd ad s.heap.size) s s.heap) (hI : Inv G kd ad s.heap M H locs) {i0 k2 n1 : Nat} (hi0 : i0 < 19) (hk2 : kd k2 = (11, n1)) {dp : Int32} (hc : (!(decide (dp < 0)) && decide (dp.toNatClampNeg + stLen i0 ≤ n1)) = true) (hroom : 1 ≤ R.frames ∧ (rest.map fun v => v.category).sum + (nativeFrameWords "java/lang/System" "arraycopy" 5 + 11) ≤ R.locals) (hdg : decode cc pc = .ok (.invokestatic index, 3)) {M' : Mem} (hM : M' = cpS M i0 k2 dp.toNatClampNeg)
    (kk : ∀ (H1 : Heap) (locs1 : List Loc), Inv G kd ad s.heap M' H1 locs1 → W p l e R s m args below meth c H1 locs1 cells slots Q (F0 m (pc + 3) ls rest)) : W p l e R s m args below meth c H locs cells slots Q (F0 m pc ls (.int (Int32.ofNat (stLen i0)) :: .int dp :: .ref (ad k2) :: .int 0 :: .ref (G.2.2 (200 + i0)) :: rest)) := by
  subst hM
  rw [Bool.and_eq_true] at hc
  obtain ⟨h2, h5⟩ := hc
  have h2 : ¬ dp < 0 := fun h => by rw [decide_eq_true h] at h2; exact absurd h2 (by decide)
  have h5 : dp.toNatClampNeg + stLen i0 ≤ n1 := of_decide_eq_true h5
  obtain ⟨hN, h3, h8⟩ := st_len i0 hi0
  have nn : ∀ z : Int32, ¬ z < 0 → z.toInt = (z.toNatClampNeg : Int) := by
    intro z hz
    have hz0 : (0 : Int) ≤ z.toInt := by
      have := Int32.not_lt.mp hz
      simpa using Int32.le_iff_toInt_le.mp this
    show z.toInt = ((z.toInt.toNat : Nat) : Int)
    omega
  have z0 : (0 : Int32).toNatClampNeg = 0 := rfl
  intro T hT X
  have hX : va_T .byte (G.2.2 (200 + i0)) (stLen i0) (fun j => .int ((stB i0).getD j 0)) (AS kd ad s.heap.size) s s.heap := (hsx.2.2.2.1.2.1 i0 hi0).2.2.2
  obtain ⟨scr, hs1, hs2, hs3, hs4, -, hs5, hs7⟩ := hX
  have hc0 : H[G.2.2 (200 + i0)]? = some scr := by rw [hI.2.2.1 _ (Array.getElem?_eq_some_iff.mp hs1).1 hs7]; exact hs1
  have hc1 : H[ad k2]? = some (vp_cell (G.2.1 1) (n1, .inl (M.1 k2))) := hI.at hk2 (by simp) rfl
  obtain ⟨hs6, ka, hka, cm0, hkk0⟩ := hs2
  obtain ⟨-, kb, hkb, cm1, hkk1⟩ := (hK.2 1 _ rfl).1 n1 (fun j => .int (M.1 k2 j))
  obtain ⟨vm', X', step⟩ := X.arraycopy hx hown hlink hnat hstat hini (src := G.2.2 (200 + i0)) (dst := ad k2) (cs := scr) (cd := (vp_cell (G.2.1 1) (n1, .inl (M.1 k2)))) (srcPos := 0) (destPos := dp) (n := Int32.ofNat (stLen i0)) (by rw [hT]; exact hc0) (by rw [hT]; exact hc1)
    hs6 (fun _ h => by cases h) hs3 (fun h => by cases h) hka hkb hkk0 hkk1 (by simp [refKind]) (by decide) h2 h3
    (by rw [nn 0 (by decide), nn _ h3, z0, hN]; omega)
    (by rw [nn dp h2, nn _ h3, hN]; show ¬ _ > ((arrV (G.2.1 1) n1 (fun j => .int (M.1 k2 j))).slots.size : Int); rw [arrV_size]; omega)
    (fun vm₁ _ i hi => by
      rw [hN] at hi
      have e : scr.slots.getD ((0 : Int32).toNatClampNeg + i) .null = .int ((stB i0).getD i 0) := by
        rw [z0, Nat.zero_add, Array.getD_eq_getD_getElem?, hs5 _ hi]
        rfl
      refine ⟨?_, ?_⟩
      · rw [e]; exact st_fit i0 hi0 i (by omega)
      · rw [e]; exact trivial)
    (g := F0 m pc ls (.int (Int32.ofNat (stLen i0)) :: .int dp :: .ref (ad k2) :: .int 0 :: .ref (G.2.2 (200 + i0)) :: rest)) rfl (by rw [hml]) (rest := rest) rfl (by rw [hb]; exact hdg) hroom.1 (by have := hroom.2; show 2 * 0 + _ + _ ≤ _; omega)
  have e1 : copied scr (vp_cell (G.2.1 1) (n1, .inl (M.1 k2))) 0 dp (Int32.ofNat (stLen i0)) = vp_cell (G.2.1 1) (n1, .inl (va_cpy (fun j => (stB i0).getD j 0) (M.1 k2) (0 : Int32).toNatClampNeg dp.toNatClampNeg (Int32.ofNat (stLen i0)).toNatClampNeg)) := va_copiedX (fun z => .int z) scr (G.2.1 1) (fun j => (stB i0).getD j 0) (M.1 k2) hs5 (by rw [z0, hN]; omega)
  rw [z0, hN] at e1
  rw [e1] at X' step
  have hl : ad k2 < H.size := (Array.getElem?_eq_some_iff.mp hc1).1
  have hheap : ((T.setVm vm').setCell (ad k2) (vp_cell (G.2.1 1) (n1, .inl (va_cpy (fun j => (stB i0).getD j 0) (M.1 k2) 0 dp.toNatClampNeg (stLen i0))))).heap = H.setIfInBounds (ad k2) (vp_cell (G.2.1 1) (n1, .inl (va_cpy (fun j => (stB i0).getD j 0) (M.1 k2) 0 dp.toNatClampNeg (stLen i0)))) := by rw [← hT]; rfl
  have oq : ∀ q : Nat, q ≠ ad k2 → (H.setIfInBounds (ad k2) (vp_cell (G.2.1 1) (n1, .inl (va_cpy (fun j => (stB i0).getD j 0) (M.1 k2) 0 dp.toNatClampNeg (stLen i0)))))[q]? = H[q]? := fun q hq => by simp [Array.getElem?_setIfInBounds, Ne.symm hq]
  have hcell : (H.setIfInBounds (ad k2) (vp_cell (G.2.1 1) (n1, .inl (va_cpy (fun j => (stB i0).getD j 0) (M.1 k2) 0 dp.toNatClampNeg (stLen i0)))))[ad k2]? = some (vp_cell (G.2.1 1) (n1, .inl (va_cpy (fun j => (stB i0).getD j 0) (M.1 k2) 0 dp.toNatClampNeg (stLen i0)))) := by simp [Array.getElem?_setIfInBounds, hl]
  obtain ⟨t, a1, b1⟩ := kk _ _ ⟨fun k hk => by
      by_cases e : k = k2
      · subst e
        rw [cpS_s, hk2]; exact hcell
      · obtain ⟨q1, q2, q3⟩ := cpS_o (M := M) (i := i0) (dp := dp.toNatClampNeg) k e
        rw [q1, q2, q3]
        exact (hI.1 k hk).kept (oq _ (fun q => e (hap _ _ hk (by rw [hk2]; simp) q))),
    by simp; exact hI.2.1, fun q g1 g2 => by
      rw [oq q (fun e => g2 (by rw [e]; exact Or.inl ⟨k2, by rw [hk2]; simp, rfl⟩))]
      exact hI.2.2.1 q g1 g2, fun q hq => by
      rcases List.mem_append.mp hq with h | h
      · exact hI.2.2.2 q h
      · obtain ⟨z, -, hz⟩ := List.mem_map.mp h
        rw [← hz]
        exact Or.inl ⟨k2, by rw [hk2]; simp, rfl⟩⟩ _ hheap X'
  exact ⟨t, step t a1, b1⟩
theorem Wd.fresh {id : Nat} {H : Heap} (h : Wd G kd ad M H) (hid : ad id = H.size) : (kd id).1 = 0 := by
  by_cases e : (kd id).1 = 0
  · exact e
  · have := h.lt e; omega
theorem Inv.push (hI : Inv G kd ad s.heap M H locs) {id : Nat} {q : Nat × Nat} (hq : q.1 ≠ 0) (hid : ad id = H.size) {H1 : Heap} (z1 : H1.size = ad id + 1) (o1 : ∀ x, x < ad id → H1[x]? = H[x]?)
    (hat : va_at G.1 vwCl (ad id, ent ad G.2.1 q id (fun _ => 0) (fun _ => 0) (fun _ => 0)) H1) : Inv G (setk kd id q) ad s.heap (zr M id) H1 locs := by
  have hsz : s.heap.size ≤ ad id := by rw [hid]; exact hI.2.1
  refine ⟨fun k hk => ?_, ?_⟩
  · by_cases ek : k = id
    · subst ek
      rw [setk_s, zr_s.1, zr_s.2.1, zr_s.2.2]
      exact hat
    · rw [setk_o ek] at hk ⊢
      obtain ⟨z1', z2', z3'⟩ := zr_o (M := M) (j := id) k ek
      rw [z1', z2', z3']
      exact (hI.1 k hk).kept (o1 _ (by rw [hid]; exact hI.1.lt hk))
  · rw [(Kx.set hq (fun _ => hsz)).AS]
    exact ⟨by omega, fun x h1 h2 => (o1 x (Nat.lt_of_lt_of_le h1 hsz)).trans (hI.2.2.1 x h1 h2), hI.2.2.2⟩
theorem d_newb {id N : Nat} (hx : p.tables.exec = Jvm.exec) (hb : c.code = cc) (hw : Cond.arrayClass .byte ∈ WA) (hts : ∀ w ∈ WA, w.before args s = true) (hK : va_K G.1 vwCl (tyLs G) s) (hI : Inv G kd ad s.heap M H locs) (hid : ad id = H.size)
    {v : Int32} (hv : v.toNatClampNeg = N ∧ ¬ v < 0) (hbytes : N * 1 ≤ 536870912) (hR : cells + 1 ≤ R.cells ∧ slots + N ≤ R.slots) (hdg : decode cc pc = .ok (.newarray .byte, 2))
    (kk : ∀ (H1 : Heap), Inv G (setk kd id (11, N)) ad s.heap (zr M id) H1 locs → W p l e R s m args below meth c H1 locs (cells + 1) (slots + N) Q (F0 m (pc + 2) ls (.ref (ad id) :: rest))) : W p l e R s m args below meth c H locs cells slots Q (F0 m pc ls (.int v :: rest)) := by
  refine va_newaK hx hb (show Cond.before (Cond.arrayClass (newarray.typeOf .byte)) args s = true from hts _ hw) rfl hdg rfl hv.2 hv.1 hbytes hR.1 hR.2 hid.symm fun H1 cA1 e1 z1 o1 hAr hNm => ?_
  have hcA : cA1 = G.2.1 1 := Option.some.inj (hNm.symm.trans (hK.2 1 _ rfl).2)
  subst hcA
  refine kk H1 (hI.push (by simp) hid z1 o1 ?_)
  show H1[ad id]? = some (vp_cell (G.2.1 1) (N, .inl (fun _ => 0)))
  rw [vp_cell_i]
  exact e1
theorem d_newo {C : String} {T : u_T} {N ci index j : Nat} (hx : p.tables.exec = Jvm.exec) (hb : c.code = cc) (hts : ∀ w ∈ WA, w.before args s = true) (hin : ∀ w ∈ u_ws C T N, w ∈ WA) (ty : Nat → FieldType) (hty : ∀ k, k < N → parseFieldDescriptor (T k).2.2.1 = some (ty k)) {own : String} (hown : s.vm.findClass own = some m.cls) (hcl : Cond.classLink own index C ∈ WA) (hinst : Cond.instantiable C N ∈ WA) (hini : Cond.initialized C ∈ WA)
    (hK : va_K G.1 vwCl (tyLs G) s) (hI : Inv G kd ad s.heap M H locs) (hid : ad j = H.size) {q : Nat × Nat} (hq : q.1 ≠ 0) (hc : vwCl[ci]? = some (C, T, N)) {fs : List Value} (hent : ent ad G.2.1 q j (fun _ => 0) (fun _ => 0) (fun _ => 0) = .inr (ci, fs)) (hfs : ∀ k, k < N → defaultValue (ty k) = vp_V fs k)
    (hR : cells + 1 ≤ R.cells ∧ slots + N ≤ R.slots) (hdg : decode cc pc = .ok (.new index, 3))
    (kk : ∀ (H1 : Heap), H1.size = ad j + 1 → Inv G (setk kd j q) ad s.heap (zr M j) H1 locs → W p l e R s m args below meth c H1 locs (cells + 1) (slots + N) Q (F0 m (pc + 3) ls (.ref (ad j) :: rest))) : W p l e R s m args below meth c H locs cells slots Q (F0 m pc ls rest) := by
  have hKn := hK.1 ci _ hc
  refine W.newcK hx hb hown (hts _ hcl) (hts _ hinst) (hts _ hini) rfl hdg hR.1 hR.2 hKn.2.1 hid.symm fun H1 kC hkC e1 z1 o1 => ?_
  refine kk H1 z1 (hI.push hq hid z1 o1 ?_)
  rw [hent]
  exact ⟨_, hc, (u_born ty hts hin hKn hkC e1 hty).to hfs⟩
/-- a cell is changed, its kind too -/
theorem Inv.setK (hI : Inv G kd ad s.heap M H locs) (hinj : ∀ i j, ad i = ad j → i = j) {k i : Nat} {q' : Nat × Nat} (hk : (kd k).1 ≠ 0) (hq' : q'.1 ≠ 0) {M' : Mem} {H1 : Heap}
    (hat : va_at G.1 vwCl (ad k, ent ad G.2.1 q' k (M'.1 k) (M'.2.1 k) (M'.2.2 k)) H1) (z : H1.size = H.size) (oq : ∀ x, x ≠ ad k → H1[x]? = H[x]?) (hM : ∀ k', k' ≠ k → M'.1 k' = M.1 k' ∧ M'.2.1 k' = M.2.1 k' ∧ M'.2.2 k' = M.2.2 k') : Inv G (setk kd k q') ad s.heap M' H1 (locs ++ [⟨ad k, i⟩]) := by
  refine ⟨fun k' hk' => ?_, ?_⟩
  · by_cases e : k' = k
    · subst e; rw [setk_s]; exact hat
    · obtain ⟨e1, e2, e3⟩ := hM k' e
      rw [setk_o e] at hk' ⊢
      rw [e1, e2, e3]
      exact (hI.1 k' hk').kept (oq _ (fun q => e (hinj _ _ q)))
  · rw [(Kx.set hq' (fun h => absurd h hk)).AS]
    exact hI.2.put z oq (Or.inl ⟨k, hk, rfl⟩)
theorem d_put (fin : Bool) (hx : p.tables.exec = Jvm.exec) (hb : c.code = cc) {own C : String} {T : u_T} {N ci index : Nat} (hts : ∀ w ∈ WA, w.before args s = true) (hin : ∀ w ∈ u_ws C T N, w ∈ WA) (ty0 : Nat → FieldType) (hty : ∀ k, k < N → parseFieldDescriptor (T k).2.2.1 = some (ty0 k)) (hnm : ∀ a, a < N → ∀ b, b < N → a ≠ b → (T a).2.1 ≠ (T b).2.1)
    (hown : s.vm.findClass own = some m.cls) (hK : va_K G.1 vwCl (tyLs G) s) (hI : Inv G kd ad s.heap M H locs) (hinj : ∀ i j, ad i = ad j → i = j) (hin2 : fin = true → meth.name = "<init>")
    {k : Nat} {q q' : Nat × Nat} {fs : List Value} (hk : kd k = q) (hq : q.1 ≠ 0) (hq' : q'.1 ≠ 0) (he : ent ad G.2.1 q k (M.1 k) (M.2.1 k) (M.2.2 k) = .inr (ci, fs)) (hc : vwCl[ci]? = some (C, T, N)) (j : Nat) (hj : j < N) {f d o : String} (hT : (T j).1 = o ∧ (T j).2.1 = f ∧ (T j).2.2.1 = d) (hlink : Cond.fieldLink own index o f d ∈ WA)
    (hfin : (T j).2.2.2 = fin) (hdecl : fin = true → o = own) {ty : FieldType} {v : Value} (hd : parseFieldDescriptor d = some ty) (hn : narrow ty v = v) (hfit : fits ty v = true) (hl : j < fs.length) {M' : Mem} (hset : ent ad G.2.1 q' k (M'.1 k) (M'.2.1 k) (M'.2.2 k) = .inr (ci, fs.set j v)) (hM : ∀ k', k' ≠ k → M'.1 k' = M.1 k' ∧ M'.2.1 k' = M.2.1 k' ∧ M'.2.2 k' = M.2.2 k')
    (hdg : decode cc pc = .ok (.putfield index, 3)) (kk : ∀ (H1 : Heap) (locs1 : List Loc), Inv G (setk kd k q') ad s.heap M' H1 locs1 → W p l e R s m args below meth c H1 locs1 cells slots Q (F0 m (pc + 3) ls rest)) : W p l e R s m args below meth c H locs cells slots Q (F0 m pc ls (v :: .ref (ad k) :: rest)) := by
  obtain ⟨e1, e2, e3⟩ := hT
  subst e1; subst e2; subst e3
  have hlk := hts _ hlink
  have hapt := va_apart (own := own) hts hin ty0 hty hnm hK hc
  obtain ⟨r, h1, cell, q1, q2, q3, q4⟩ := hI.at hk hq he
  have hr : r = (C, T, N) := Option.some.inj (h1.symm.trans hc)
  subst hr
  obtain ⟨hS, hfc, kC, hkC, hkind⟩ := hK.1 ci _ hc
  obtain ⟨cf, kf, fi, f, hi, hsl⟩ := hS j hj
  have hlay := hts _ (hin _ (u_in_lay hj))
  unfold u_lay at hlay
  have hst := (u_facts hfc hkC (u_lays hts hin hj) hi).1
  have hkn : (kd k).1 ≠ 0 := by rw [hk]; exact hq
  cases fin with
  | false =>
    rw [if_neg (by rw [hfin]; decide)] at hlay
    have h6 := u_store hfc hkC hkind hlay hi hd hn hfit
    refine W.putK hx hb (f := f) ⟨hown, hlk, ⟨_, _, _, hi⟩, hst⟩ (by rw [q2]; exact h6) q1 q3 (by rw [hsl]; exact k2_hasslot (q4 j hj)) rfl rfl hdg fun H' e1 e2 e3 => ?_
    rw [hsl] at e1 ⊢
    refine kk H' _ (hI.setK hinj hkn hq' ?_ e2 e3 hM)
    rw [hset]
    exact ⟨_, hc, t_OB.to (V := updV (vp_V fs) j v) ⟨_, e1, q2, q3, t_set q4 hapt hj v⟩ (fun j _ => vp_updV_set hl v j)⟩
  | true =>
    rw [if_pos hfin] at hlay
    have hcf : m.cls = cf := by
      obtain ⟨_, _, c', _, _, _, -, -, hf', -, -, -, hown2, -⟩ := Cond.laysFinal_spec hlay
      have e1 : c' = cf := by have := hi.symm.trans hf'; simp at this; exact this.1.symm
      rw [hdecl rfl] at hown2
      rw [← e1]; exact Option.some.inj (hown.symm.trans hown2)
    have h6 := u_fits hfc hkC hkind (Or.inr hlay) hi hd hn hfit
    refine W.putFinK hx hb hown hlk hi hst hcf (hin2 rfl) (by rw [q2]; exact h6) q1 q3 (by rw [hsl]; exact k2_hasslot (q4 j hj)) rfl rfl hdg fun H' e1 e2 e3 => ?_
    rw [hsl] at e1 ⊢
    refine kk H' _ (hI.setK hinj hkn hq' ?_ e2 e3 hM)
    rw [hset]
    exact ⟨_, hc, t_OB.to (V := updV (vp_V fs) j v) ⟨_, e1, q2, q3, t_set q4 hapt hj v⟩ (fun j _ => vp_updV_set hl v j)⟩
theorem g_callTv {b : Nat} {y : MethodName} {bytes : ByteArray} {maxL nL mc ms n index : Nat} {ret : Option FieldType} {rm : Room} {own : String} {As : List Value} {M' : Mem} (hx : p.tables.exec = Jvm.exec) (hb : c.code = cc) (hml : c.maxLocals = nL) (hown : s.vm.findClass own = some m.cls) (hts : ∀ w ∈ WA, w.before args s = true) (hK : va_K G.1 vwCl (tyLs G) s) (hap : Apt kd ad) (hsx : Sx G (AS kd ad s.heap.size) s s.heap) (hI : Inv G kd ad s.heap M H locs)
    (hM : Met l y (Cond.code y bytes maxL ret :: WA) rm (Pg G kd ad H.size (.ref (G.2.2 (100 + b)) :: As) M) (Qg G kd ad H.size M' none) mc ms (AS kd ad H.size)) (hcv : cvF "java/lang/String" y bytes maxL ret n) (hl : Cond.methodLink own index y ∈ WA) (hrc : rm.cells = mc) (hrs : rm.slots = ms) (hR : rm.frames + 1 ≤ R.frames ∧ 8 + (maxL + 11) + rm.locals ≤ R.locals)
    (hbw : b < 19) (hn : As.length = n) (hsize : ls.size = nL) {st : List Value} (hst : st = As.reverse ++ .ref (G.2.2 (100 + b)) :: rest) (hW : (rest.map fun v => v.category).sum ≤ 8) (hdg : decode cc pc = .ok (.invokevirtual index, 3)) (hf : cells + mc ≤ R.cells ∧ slots + ms ≤ R.slots)
    (kk : ∀ (H1 : Heap) (locs1 : List Loc), Inv G kd ad s.heap M' H1 locs1 → W p l e R s m args below meth c H1 locs1 (cells + mc) (slots + ms) Q (F0 m (pc + 3) ls rest)) : W p l e R s m args below meth c H locs cells slots Q (F0 m pc ls st) := by
  subst hst
  obtain ⟨c1, c2, c3, c4, c5⟩ := hcv
  have hG : GoodIn WA (wsV own index "java/lang/String" y (Cond.code y bytes maxL ret :: WA)) := fun w h => by
    have : w ∈ WA := by
      rcases List.mem_append.mp h with h | h
      · simp only [List.mem_cons, List.not_mem_nil, or_false] at h
        rcases h with rfl | rfl | rfl | rfl
        · exact hl
        · exact c1
        · exact c2
        · exact c3
      · exact ws_good c4 w h
    exact ⟨this, wa_good w this⟩
  exact g_call (va_runV (C := "java/lang/String") (b := G.2.2 (100 + b)) (As := As) (rest := rest) ⟨hx, hb, hml, hown, hts⟩ hM (cwV n hts hG rfl hrc hrs c5 hR) ⟨pg_blind, st_recv hsx hbw hI, fun U hU hW => pg_of hap hK hsx hI hU hW⟩ rfl hn hsize rfl (lv_room hW) hdg hf) hI kk
theorem g_callUi {b : Nat} {C : String} {y : MethodName} {bytes : ByteArray} {maxL nL mc ms n index : Nat} {ret : Option FieldType} {rm : Room} {own : String} {As : List Value} {M' : Mem} {r : Int32} (hx : p.tables.exec = Jvm.exec) (hb : c.code = cc) (hml : c.maxLocals = nL) (hown : s.vm.findClass own = some m.cls) (hts : ∀ w ∈ WA, w.before args s = true) (hK : va_K G.1 vwCl (tyLs G) s) (hap : Apt kd ad) (hsx : Sx G (AS kd ad s.heap.size) s s.heap) (hI : Inv G kd ad s.heap M H locs)
    (hM : Met l y (Cond.code y bytes maxL ret :: WA) rm (Pg G kd ad H.size (.ref (ad b) :: As) M) (Qg G kd ad H.size M' (some (.int r))) mc ms (AS kd ad H.size)) (hl : Cond.methodLink own index y ∈ WA) (h2 : Cond.sameMethod y.cls y.cls y.name y.desc ∈ WA) (h3 : Cond.instanceMethod y ∈ WA) (h4 : Cond.initialized y.cls ∈ WA) (h5 : Cond.code y bytes maxL ret ∈ WA) (hsel : Cond.selects C y y ∈ WA) (hf9 : (y.cls ≠ "java/lang/invoke/MethodHandle" ∧ y.cls ≠ "java/lang/invoke/VarHandle" ∧ (parseMethodDescriptor y.desc).map (fun d => d.parameters.length) = some n)) (hrc : rm.cells = mc) (hrs : rm.slots = ms) (hR : rm.frames + 1 ≤ R.frames ∧ 8 + (maxL + 11) + rm.locals ≤ R.locals)
    {ci : Nat} {q : Nat × Nat} {fs : List Value} {T : u_T} {N : Nat} (hk : kd b = q) (hq : q.1 ≠ 0) (he : ent ad G.2.1 q b (M.1 b) (M.2.1 b) (M.2.2 b) = .inr (ci, fs)) (hc : vwCl[ci]? = some (C, T, N))
    (hn : As.length = n) (hsize : ls.size = nL) {st : List Value} (hst : st = As.reverse ++ .ref (ad b) :: rest) (hW : (rest.map fun v => v.category).sum ≤ 8) (hdg : decode cc pc = .ok (.invokevirtual index, 3)) (hf : cells + mc ≤ R.cells ∧ slots + ms ≤ R.slots)
    (kk : ∀ (H1 : Heap) (locs1 : List Loc), Inv G kd ad s.heap M' H1 locs1 → W p l e R s m args below meth c H1 locs1 (cells + mc) (slots + ms) Q (F0 m (pc + 3) ls (.int r :: rest))) : W p l e R s m args below meth c H locs cells slots Q (F0 m pc ls st) := by
  subst hst
  have hG : GoodIn WA (va_wsU own index C y.cls y y (Cond.code y bytes maxL ret :: WA)) := fun w h => by
    have : w ∈ WA := by
      rcases List.mem_append.mp h with h | h
      · simp only [List.mem_cons, List.not_mem_nil, or_false] at h
        rcases h with rfl | rfl | rfl | rfl | rfl
        · exact hl
        · exact h2
        · exact hsel
        · exact h3
        · exact h4
      · exact ws_good h5 w h
    exact ⟨this, wa_good w this⟩
  exact g_call (va_runU (C := C) (b := ad b) (As := As) (rest := rest) ⟨hx, hb, hml, hown, hts⟩ hM (va_cwU n hts hG rfl hrc hrs rfl hf9 hR) ⟨pg_blind, va_recv hK (va_P1 (hI.at hk hq he)) hc (q0 := 0) rfl, fun U hU hW => pg_of hap hK hsx hI hU hW⟩ rfl hn hsize rfl (lv_room hW) hdg hf) hI kk
theorem g_callUv {b : Nat} {C : String} {y : MethodName} {bytes : ByteArray} {maxL nL mc ms n index : Nat} {ret : Option FieldType} {rm : Room} {own : String} {As : List Value} {M' : Mem}  (hx : p.tables.exec = Jvm.exec) (hb : c.code = cc) (hml : c.maxLocals = nL) (hown : s.vm.findClass own = some m.cls) (hts : ∀ w ∈ WA, w.before args s = true) (hK : va_K G.1 vwCl (tyLs G) s) (hap : Apt kd ad) (hsx : Sx G (AS kd ad s.heap.size) s s.heap) (hI : Inv G kd ad s.heap M H locs)
    (hM : Met l y (Cond.code y bytes maxL ret :: WA) rm (Pg G kd ad H.size (.ref (ad b) :: As) M) (Qg G kd ad H.size M' none) mc ms (AS kd ad H.size)) (hl : Cond.methodLink own index y ∈ WA) (h2 : Cond.sameMethod y.cls y.cls y.name y.desc ∈ WA) (h3 : Cond.instanceMethod y ∈ WA) (h4 : Cond.initialized y.cls ∈ WA) (h5 : Cond.code y bytes maxL ret ∈ WA) (hsel : Cond.selects C y y ∈ WA) (hf9 : (y.cls ≠ "java/lang/invoke/MethodHandle" ∧ y.cls ≠ "java/lang/invoke/VarHandle" ∧ (parseMethodDescriptor y.desc).map (fun d => d.parameters.length) = some n)) (hrc : rm.cells = mc) (hrs : rm.slots = ms) (hR : rm.frames + 1 ≤ R.frames ∧ 8 + (maxL + 11) + rm.locals ≤ R.locals)
    {ci : Nat} {q : Nat × Nat} {fs : List Value} {T : u_T} {N : Nat} (hk : kd b = q) (hq : q.1 ≠ 0) (he : ent ad G.2.1 q b (M.1 b) (M.2.1 b) (M.2.2 b) = .inr (ci, fs)) (hc : vwCl[ci]? = some (C, T, N))
    (hn : As.length = n) (hsize : ls.size = nL) {st : List Value} (hst : st = As.reverse ++ .ref (ad b) :: rest) (hW : (rest.map fun v => v.category).sum ≤ 8) (hdg : decode cc pc = .ok (.invokevirtual index, 3)) (hf : cells + mc ≤ R.cells ∧ slots + ms ≤ R.slots)
    (kk : ∀ (H1 : Heap) (locs1 : List Loc), Inv G kd ad s.heap M' H1 locs1 → W p l e R s m args below meth c H1 locs1 (cells + mc) (slots + ms) Q (F0 m (pc + 3) ls rest)) : W p l e R s m args below meth c H locs cells slots Q (F0 m pc ls st) := by
  subst hst
  have hG : GoodIn WA (va_wsU own index C y.cls y y (Cond.code y bytes maxL ret :: WA)) := fun w h => by
    have : w ∈ WA := by
      rcases List.mem_append.mp h with h | h
      · simp only [List.mem_cons, List.not_mem_nil, or_false] at h
        rcases h with rfl | rfl | rfl | rfl | rfl
        · exact hl
        · exact h2
        · exact hsel
        · exact h3
        · exact h4
      · exact ws_good h5 w h
    exact ⟨this, wa_good w this⟩
  exact g_call (va_runU (C := C) (b := ad b) (As := As) (rest := rest) ⟨hx, hb, hml, hown, hts⟩ hM (va_cwU n hts hG rfl hrc hrs rfl hf9 hR) ⟨pg_blind, va_recv hK (va_P1 (hI.at hk hq he)) hc (q0 := 0) rfl, fun U hU hW => pg_of hap hK hsx hI hU hW⟩ rfl hn hsize rfl (lv_room hW) hdg hf) hI kk
theorem g_callSUi {b : Nat} {C : String} {y : MethodName} {bytes : ByteArray} {maxL nL mc ms n index : Nat} {ret : Option FieldType} {rm : Room} {own : String} {As : List Value} {M' : Mem} {r : Int32} (hx : p.tables.exec = Jvm.exec) (hb : c.code = cc) (hml : c.maxLocals = nL) (hown : s.vm.findClass own = some m.cls) (hts : ∀ w ∈ WA, w.before args s = true) (hK : va_K G.1 vwCl (tyLs G) s) (hap : Apt kd ad) (hsx : Sx G (AS kd ad s.heap.size) s s.heap) (hI : Inv G kd ad s.heap M H locs)
    (hM : Met l y (Cond.code y bytes maxL ret :: WA) rm (Pg G kd ad H.size (.ref (ad b) :: As) M) (Qg G kd ad H.size M' (some (.int r))) mc ms (AS kd ad H.size)) (hl : Cond.methodLink own index y ∈ WA) (h2 : Cond.sameMethod y.cls y.cls y.name y.desc ∈ WA) (h3 : Cond.instanceMethod y ∈ WA) (h4 : Cond.initialized y.cls ∈ WA) (h5 : Cond.code y bytes maxL ret ∈ WA) (hsup : Cond.superclass own y.cls ∈ WA) (hf9 : (y.name ≠ "<init>" ∧ (parseMethodDescriptor y.desc).map (fun d => d.parameters.length) = some n)) (hrc : rm.cells = mc) (hrs : rm.slots = ms) (hR : rm.frames + 1 ≤ R.frames ∧ 8 + (maxL + 11) + rm.locals ≤ R.locals)
    {ci : Nat} {q : Nat × Nat} {fs : List Value} {T : u_T} {N : Nat} (hk : kd b = q) (hq : q.1 ≠ 0) (he : ent ad G.2.1 q b (M.1 b) (M.2.1 b) (M.2.2 b) = .inr (ci, fs)) (hc : vwCl[ci]? = some (C, T, N))
    (hn : As.length = n) (hsize : ls.size = nL) {st : List Value} (hst : st = As.reverse ++ .ref (ad b) :: rest) (hW : (rest.map fun v => v.category).sum ≤ 8) (hdg : decode cc pc = .ok (.invokespecial index, 3)) (hf : cells + mc ≤ R.cells ∧ slots + ms ≤ R.slots)
    (kk : ∀ (H1 : Heap) (locs1 : List Loc), Inv G kd ad s.heap M' H1 locs1 → W p l e R s m args below meth c H1 locs1 (cells + mc) (slots + ms) Q (F0 m (pc + 3) ls (.int r :: rest))) : W p l e R s m args below meth c H locs cells slots Q (F0 m pc ls st) := by
  subst hst
  have hG : GoodIn WA (va_wsSU own index y (Cond.code y bytes maxL ret :: WA)) := fun w h => by
    have : w ∈ WA := by
      rcases List.mem_append.mp h with h | h
      · simp only [List.mem_cons, List.not_mem_nil, or_false] at h
        rcases h with rfl | rfl | rfl | rfl | rfl
        · exact hl
        · exact h2
        · exact hsup
        · exact h3
        · exact h4
      · exact ws_good h5 w h
    exact ⟨this, wa_good w this⟩
  have hKn := (hK.1 ci _ hc).2
  have hcl : ClassAt s C (G.1.1 ci) := ⟨hKn.1, by obtain ⟨kC, hkC, hkind⟩ := hKn.2; exact ⟨kC, hkC, hkind⟩⟩
  exact g_call (va_runSU (C := C) (b := ad b) (As := As) (rest := rest) hcl ⟨hx, hb, hml, hown, hts⟩ hM (va_cwSU n hts hG rfl hrc hrs hf9 hR) ⟨pg_blind, va_recv hK (va_P1 (hI.at hk hq he)) hc (q0 := 0) rfl, fun U hU hW => pg_of hap hK hsx hI hU hW⟩ rfl hn hsize rfl (lv_room hW) hdg hf) hI kk
theorem g_callSUv {b : Nat} {C : String} {y : MethodName} {bytes : ByteArray} {maxL nL mc ms n index : Nat} {ret : Option FieldType} {rm : Room} {own : String} {As : List Value} {M' : Mem}  (hx : p.tables.exec = Jvm.exec) (hb : c.code = cc) (hml : c.maxLocals = nL) (hown : s.vm.findClass own = some m.cls) (hts : ∀ w ∈ WA, w.before args s = true) (hK : va_K G.1 vwCl (tyLs G) s) (hap : Apt kd ad) (hsx : Sx G (AS kd ad s.heap.size) s s.heap) (hI : Inv G kd ad s.heap M H locs)
    (hM : Met l y (Cond.code y bytes maxL ret :: WA) rm (Pg G kd ad H.size (.ref (ad b) :: As) M) (Qg G kd ad H.size M' none) mc ms (AS kd ad H.size)) (hl : Cond.methodLink own index y ∈ WA) (h2 : Cond.sameMethod y.cls y.cls y.name y.desc ∈ WA) (h3 : Cond.instanceMethod y ∈ WA) (h4 : Cond.initialized y.cls ∈ WA) (h5 : Cond.code y bytes maxL ret ∈ WA) (hsup : Cond.superclass own y.cls ∈ WA) (hf9 : (y.name ≠ "<init>" ∧ (parseMethodDescriptor y.desc).map (fun d => d.parameters.length) = some n)) (hrc : rm.cells = mc) (hrs : rm.slots = ms) (hR : rm.frames + 1 ≤ R.frames ∧ 8 + (maxL + 11) + rm.locals ≤ R.locals)
    {ci : Nat} {q : Nat × Nat} {fs : List Value} {T : u_T} {N : Nat} (hk : kd b = q) (hq : q.1 ≠ 0) (he : ent ad G.2.1 q b (M.1 b) (M.2.1 b) (M.2.2 b) = .inr (ci, fs)) (hc : vwCl[ci]? = some (C, T, N))
    (hn : As.length = n) (hsize : ls.size = nL) {st : List Value} (hst : st = As.reverse ++ .ref (ad b) :: rest) (hW : (rest.map fun v => v.category).sum ≤ 8) (hdg : decode cc pc = .ok (.invokespecial index, 3)) (hf : cells + mc ≤ R.cells ∧ slots + ms ≤ R.slots)
    (kk : ∀ (H1 : Heap) (locs1 : List Loc), Inv G kd ad s.heap M' H1 locs1 → W p l e R s m args below meth c H1 locs1 (cells + mc) (slots + ms) Q (F0 m (pc + 3) ls rest)) : W p l e R s m args below meth c H locs cells slots Q (F0 m pc ls st) := by
  subst hst
  have hG : GoodIn WA (va_wsSU own index y (Cond.code y bytes maxL ret :: WA)) := fun w h => by
    have : w ∈ WA := by
      rcases List.mem_append.mp h with h | h
      · simp only [List.mem_cons, List.not_mem_nil, or_false] at h
        rcases h with rfl | rfl | rfl | rfl | rfl
        · exact hl
        · exact h2
        · exact hsup
        · exact h3
        · exact h4
      · exact ws_good h5 w h
    exact ⟨this, wa_good w this⟩
  have hKn := (hK.1 ci _ hc).2
  have hcl : ClassAt s C (G.1.1 ci) := ⟨hKn.1, by obtain ⟨kC, hkC, hkind⟩ := hKn.2; exact ⟨kC, hkC, hkind⟩⟩
  exact g_call (va_runSU (C := C) (b := ad b) (As := As) (rest := rest) hcl ⟨hx, hb, hml, hown, hts⟩ hM (va_cwSU n hts hG rfl hrc hrs hf9 hR) ⟨pg_blind, va_recv hK (va_P1 (hI.at hk hq he)) hc (q0 := 0) rfl, fun U hU hW => pg_of hap hK hsx hI hU hW⟩ rfl hn hsize rfl (lv_room hW) hdg hf) hI kk
theorem g_callOi {b : Nat} {C : String} {x y : MethodName} {bytes : ByteArray} {maxL nL mc ms n index : Nat} {ret : Option FieldType} {rm : Room} {own : String} {As : List Value} {M' : Mem} {r : Int32} (hx : p.tables.exec = Jvm.exec) (hb : c.code = cc) (hml : c.maxLocals = nL) (hown : s.vm.findClass own = some m.cls) (hts : ∀ w ∈ WA, w.before args s = true) (hK : va_K G.1 vwCl (tyLs G) s) (hap : Apt kd ad) (hsx : Sx G (AS kd ad s.heap.size) s s.heap) (hI : Inv G kd ad s.heap M H locs)
    (hM : Met l y (Cond.code y bytes maxL ret :: WA) rm (Pg G kd ad H.size (.ref (ad b) :: As) M) (Qg G kd ad H.size M' (some (.int r))) mc ms (AS kd ad H.size)) (hl : Cond.methodLink own index x ∈ WA) (h2 : Cond.sameMethod x.cls x.cls x.name x.desc ∈ WA) (h1 : Cond.instanceMethod x ∈ WA) (h3 : Cond.instanceMethod y ∈ WA) (h4 : Cond.initialized y.cls ∈ WA) {b0 : ByteArray} {m0 : Nat} {r0 : Option FieldType} (h0 : Cond.code x b0 m0 r0 ∈ WA) (h5 : Cond.code y bytes maxL ret ∈ WA) (hsel : Cond.selects C x y ∈ WA) (hf9 : (x.cls ≠ "java/lang/invoke/MethodHandle" ∧ x.cls ≠ "java/lang/invoke/VarHandle" ∧ (parseMethodDescriptor x.desc).map (fun d => d.parameters.length) = some n)) (hrc : rm.cells = mc) (hrs : rm.slots = ms) (hR : rm.frames + 1 ≤ R.frames ∧ 8 + (maxL + 11) + rm.locals ≤ R.locals)
    {ci : Nat} {q : Nat × Nat} {fs : List Value} {T : u_T} {N : Nat} (hk : kd b = q) (hq : q.1 ≠ 0) (he : ent ad G.2.1 q b (M.1 b) (M.2.1 b) (M.2.2 b) = .inr (ci, fs)) (hc : vwCl[ci]? = some (C, T, N))
    (hn : As.length = n) (hsize : ls.size = nL) {st : List Value} (hst : st = As.reverse ++ .ref (ad b) :: rest) (hW : (rest.map fun v => v.category).sum ≤ 8) (hdg : decode cc pc = .ok (.invokevirtual index, 3)) (hf : cells + mc ≤ R.cells ∧ slots + ms ≤ R.slots)
    (kk : ∀ (H1 : Heap) (locs1 : List Loc), Inv G kd ad s.heap M' H1 locs1 → W p l e R s m args below meth c H1 locs1 (cells + mc) (slots + ms) Q (F0 m (pc + 3) ls (.int r :: rest))) : W p l e R s m args below meth c H locs cells slots Q (F0 m pc ls st) := by
  subst hst
  have hG : GoodIn WA (va_wsO own index C x.cls x y (Cond.code y bytes maxL ret :: WA)) := fun w h => by
    have : w ∈ WA := by
      rcases List.mem_append.mp h with h | h
      · simp only [List.mem_cons, List.not_mem_nil, or_false] at h
        rcases h with rfl | rfl | rfl | rfl | rfl | rfl
        · exact hl
        · exact h2
        · exact h1
        · exact hsel
        · exact h3
        · exact h4
      · exact ws_good h5 w h
    exact ⟨this, wa_good w this⟩
  exact g_call (va_runU (C := C) (b := ad b) (As := As) (rest := rest) ⟨hx, hb, hml, hown, hts⟩ hM (va_cwO n hts hG rfl hrc hrs h0 hf9 hR) ⟨pg_blind, va_recv hK (va_P1 (hI.at hk hq he)) hc (q0 := 0) rfl, fun U hU hW => pg_of hap hK hsx hI hU hW⟩ rfl hn hsize rfl (lv_room hW) hdg hf) hI kk
theorem d_body {y : MethodName} {bytes : ByteArray} {maxL mc ms n : Nat} {ret : Option FieldType} {own : String} {As : List Value} {P : PS} {d : Nat} (hy : plainName y.cls = true) (hyo : y.cls = own)
    (body : ∀ p e s m args below meth c, Cx p s m args meth c bytes maxL ret own G kd ad → meth.name = y.name → s.heap.size = n → At p l e (rmO d mc ms) s m args below meth c 0 0 (MQ below (Qs G kd ad s.heap.size P) args s mc ms (AS kd ad s.heap.size)) G kd ad maxL 0 (lv_args 0 As) [] M) (hlen : (lg_sl As).length ≤ maxL) :
    Met l y (Cond.code y bytes maxL ret :: WA) (rmO d mc ms) (Pg G kd ad n As M) (Qs G kd ad n P) mc ms (AS kd ad n) := by
  refine Met.ofW (cc := bytes) (maxL := maxL) (ret := ret) hy rfl ?_
  intro p e s m args below meth c s₁ B hml hv
  obtain ⟨rfl, hsz, hw, hap, hK, hsx⟩ := hv
  have hts := atoms_spec (ws := Cond.code y bytes maxL ret :: WA) B.pre
  have hown : s.vm.findClass own = some m.cls := hyo ▸ findClass_of_methodNamed B.named
  subst hsz
  have hl := lv_entry As (n := maxL) hlen
  rw [lg_entry_eq]
  generalize (lg_sl As ++ List.replicate (maxL - (lg_sl As).length) Slot.unset).toArray = ls at hl ⊢
  exact body p e s m _ below meth c ⟨B.exec, B.bytes, hml, B.returns, hown, fun w h => hts w (List.mem_cons_of_mem _ h), B.notSynchronized, hK, hap, hsx⟩ (name_of_methodNamed B.named B.method).1 rfl _ _ ls ⟨hw, va_S.rf⟩ hl
theorem d_vret {kd0 : Nat → Nat × Nat} {P : PS} (hx : p.tables.exec = Jvm.exec) (hb : c.code = cc) (hr : meth.sig.returnType = none) (hlk : meth.locks = false) (hX : Kx kd0 kd ad s.heap.size) (hI : Inv G kd ad s.heap M H locs) (hP : P kd M none) (hdg : decode cc pc = .ok (.return_, 1)) : W p l e R s m args below meth c H locs cells slots (MQ below (Qs G kd0 ad s.heap.size P) args s cells slots (AS kd0 ad s.heap.size)) (F0 m pc ls []) :=
  W.vret hx hb hr (fun t ht _ => ⟨kd, M, none, rfl, hP, hX, by rw [ht]; exact hI.1, by rw [← hX.AS]; exact hI.2.F ht⟩) (fun q hq => by rw [← hX.AS]; exact hI.2.2.2 q hq) hdg hlk
theorem d_iret {kd0 : Nat → Nat × Nat} {P : PS} (hx : p.tables.exec = Jvm.exec) (hb : c.code = cc) (hr : meth.sig.returnType = some .int) (hlk : meth.locks = false) (hX : Kx kd0 kd ad s.heap.size) (hI : Inv G kd ad s.heap M H locs) {v : Int32} (hP : P kd M (some (.int v))) (hdg : decode cc pc = .ok (.ireturn, 1)) : W p l e R s m args below meth c H locs cells slots (MQ below (Qs G kd0 ad s.heap.size P) args s cells slots (AS kd0 ad s.heap.size)) (F0 m pc ls [.int v]) :=
  W.iret hx hb hr (fun t ht _ => ⟨kd, M, _, rfl, hP, hX, by rw [ht]; exact hI.1, by rw [← hX.AS]; exact hI.2.F ht⟩) (fun q hq => by rw [← hX.AS]; exact hI.2.2.2 q hq) hdg hlk
theorem d_aret {kd0 : Nat → Nat × Nat} {P : PS} (hx : p.tables.exec = Jvm.exec) (hb : c.code = cc) {rt : FieldType} (hr : meth.sig.returnType = some rt) (hrt : (∃ n, rt = .object n) ∨ ∃ t, rt = .array t) (hlk : meth.locks = false) (hX : Kx kd0 kd ad s.heap.size) (hI : Inv G kd ad s.heap M H locs) {a : Nat} (hP : P kd M (some (.ref a))) (hdg : decode cc pc = .ok (.areturn, 1)) : W p l e R s m args below meth c H locs cells slots (MQ below (Qs G kd0 ad s.heap.size P) args s cells slots (AS kd0 ad s.heap.size)) (F0 m pc ls [.ref a]) :=
  W.aret hx hb hr hrt (Or.inr ⟨_, rfl⟩) (fun t ht _ => ⟨kd, M, _, rfl, hP, hX, by rw [ht]; exact hI.1, by rw [← hX.AS]; exact hI.2.F ht⟩) (fun q hq => by rw [← hX.AS]; exact hI.2.2.2 q hq) hdg hlk
theorem d_back {st0 : List Value} {a : Array Value} {mc ms : Nat} {P : PS} (hr : va_Run p l e R s m args below meth c H locs cells slots mc ms (F0 m pc ls st0) rest (Qs G kd ad H.size P a) (AS kd ad H.size)) (hI : Inv G kd ad s.heap M H locs)
    (kk : ∀ (K1 : Nat → Nat × Nat) (M1 : Mem) (v : Option Value) (H1 : Heap) (locs1 : List Loc), P K1 M1 v → Kx kd K1 ad s.heap.size → Inv G K1 ad s.heap M1 H1 locs1 → W p l e R s m args below meth c H1 locs1 (cells + mc) (slots + ms) Q (F0 m (pc + 3) ls (v.toList ++ rest))) : W p l e R s m args below meth c H locs cells slots Q (F0 m pc ls st0) := by
  intro T hT X
  obtain ⟨v', st₀, t, T', L, h0, X', hL, e1, e2, ⟨K1, M1, v, hv, hP, hX, hw, hF⟩, st⟩ := hr T hT X
  cases hv
  obtain ⟨k1, k2, k3⟩ := vx_keep h0 e1 hI.2 (fun q hq h => AS.old hq h) (fun q h => AS.mono hI.2.1 h) hL (by rw [← h0] at hF; rw [h0] at hF; exact hF)
  have hX' := hX.le hI.2.1
  obtain ⟨t2, a1, b1⟩ := kk K1 M1 _ T'.heap (locs ++ L) hP hX' ⟨by rw [e1]; exact hw, by rw [hX'.AS]; exact k3⟩ T' rfl X'
  exact ⟨t2, st t2 a1, b1⟩
theorem d_callV {b : Nat} {C : String} {y : MethodName} {bytes : ByteArray} {maxL nL mc ms n index : Nat} {ret : Option FieldType} {rm : Room} {own : String} {As : List Value} {P : PS} (hx : p.tables.exec = Jvm.exec) (hb : c.code = cc) (hml : c.maxLocals = nL) (hown : s.vm.findClass own = some m.cls) (hts : ∀ w ∈ WA, w.before args s = true) (hK : va_K G.1 vwCl (tyLs G) s) (hap : Apt kd ad) (hsx : Sx G (AS kd ad s.heap.size) s s.heap) (hI : Inv G kd ad s.heap M H locs)
    (hM : Met l y (Cond.code y bytes maxL ret :: WA) rm (Pg G kd ad H.size (.ref (ad b) :: As) M) (Qs G kd ad H.size P) mc ms (AS kd ad H.size)) (hcv : cvF C y bytes maxL ret n) (hl : Cond.methodLink own index y ∈ WA) (hrc : rm.cells = mc) (hrs : rm.slots = ms) (hR : rm.frames + 1 ≤ R.frames ∧ 8 + (maxL + 11) + rm.locals ≤ R.locals)
    {ci : Nat} {q : Nat × Nat} {fs : List Value} {T : u_T} {N : Nat} (hk : kd b = q) (hq : q.1 ≠ 0) (he : ent ad G.2.1 q b (M.1 b) (M.2.1 b) (M.2.2 b) = .inr (ci, fs)) (hc : vwCl[ci]? = some (C, T, N))
    (hn : As.length = n) (hsize : ls.size = nL) {st : List Value} (hst : st = As.reverse ++ .ref (ad b) :: rest) (hW : (rest.map fun v => v.category).sum ≤ 8) (hdg : decode cc pc = .ok (.invokevirtual index, 3)) (hf : cells + mc ≤ R.cells ∧ slots + ms ≤ R.slots)
    (kk : ∀ (K1 : Nat → Nat × Nat) (M1 : Mem) (v : Option Value) (H1 : Heap) (locs1 : List Loc), P K1 M1 v → Kx kd K1 ad s.heap.size → Inv G K1 ad s.heap M1 H1 locs1 → W p l e R s m args below meth c H1 locs1 (cells + mc) (slots + ms) Q (F0 m (pc + 3) ls (v.toList ++ rest))) : W p l e R s m args below meth c H locs cells slots Q (F0 m pc ls st) := by
  subst hst
  obtain ⟨c1, c2, c3, c4, c5⟩ := hcv
  have hG : GoodIn WA (wsV own index C y (Cond.code y bytes maxL ret :: WA)) := fun w h => by
    have : w ∈ WA := by
      rcases List.mem_append.mp h with h | h
      · simp only [List.mem_cons, List.not_mem_nil, or_false] at h
        rcases h with rfl | rfl | rfl | rfl
        · exact hl
        · exact c1
        · exact c2
        · exact c3
      · exact ws_good c4 w h
    exact ⟨this, wa_good w this⟩
  exact d_back (va_runV (C := C) (b := ad b) (As := As) (rest := rest) ⟨hx, hb, hml, hown, hts⟩ hM (cwV n hts hG rfl hrc hrs c5 hR) ⟨pg_blind, va_recv hK (va_P1 (hI.at hk hq he)) hc (q0 := 0) rfl, fun U hU hW => pg_of hap hK hsx hI hU hW⟩ rfl hn hsize rfl (lv_room hW) hdg hf) hI kk
theorem d_callU {b : Nat} {C : String} {y : MethodName} {bytes : ByteArray} {maxL nL mc ms n index : Nat} {ret : Option FieldType} {rm : Room} {own : String} {As : List Value} {P : PS} (hx : p.tables.exec = Jvm.exec) (hb : c.code = cc) (hml : c.maxLocals = nL) (hown : s.vm.findClass own = some m.cls) (hts : ∀ w ∈ WA, w.before args s = true) (hK : va_K G.1 vwCl (tyLs G) s) (hap : Apt kd ad) (hsx : Sx G (AS kd ad s.heap.size) s s.heap) (hI : Inv G kd ad s.heap M H locs)
    (hM : Met l y (Cond.code y bytes maxL ret :: WA) rm (Pg G kd ad H.size (.ref (ad b) :: As) M) (Qs G kd ad H.size P) mc ms (AS kd ad H.size)) (hl : Cond.methodLink own index y ∈ WA) (h2 : Cond.sameMethod y.cls y.cls y.name y.desc ∈ WA) (h3 : Cond.instanceMethod y ∈ WA) (h4 : Cond.initialized y.cls ∈ WA) (h5 : Cond.code y bytes maxL ret ∈ WA) (hsel : Cond.selects C y y ∈ WA) (hf9 : (y.cls ≠ "java/lang/invoke/MethodHandle" ∧ y.cls ≠ "java/lang/invoke/VarHandle" ∧ (parseMethodDescriptor y.desc).map (fun d => d.parameters.length) = some n)) (hrc : rm.cells = mc) (hrs : rm.slots = ms) (hR : rm.frames + 1 ≤ R.frames ∧ 8 + (maxL + 11) + rm.locals ≤ R.locals)
    {ci : Nat} {q : Nat × Nat} {fs : List Value} {T : u_T} {N : Nat} (hk : kd b = q) (hq : q.1 ≠ 0) (he : ent ad G.2.1 q b (M.1 b) (M.2.1 b) (M.2.2 b) = .inr (ci, fs)) (hc : vwCl[ci]? = some (C, T, N))
    (hn : As.length = n) (hsize : ls.size = nL) {st : List Value} (hst : st = As.reverse ++ .ref (ad b) :: rest) (hW : (rest.map fun v => v.category).sum ≤ 8) (hdg : decode cc pc = .ok (.invokevirtual index, 3)) (hf : cells + mc ≤ R.cells ∧ slots + ms ≤ R.slots)
    (kk : ∀ (K1 : Nat → Nat × Nat) (M1 : Mem) (v : Option Value) (H1 : Heap) (locs1 : List Loc), P K1 M1 v → Kx kd K1 ad s.heap.size → Inv G K1 ad s.heap M1 H1 locs1 → W p l e R s m args below meth c H1 locs1 (cells + mc) (slots + ms) Q (F0 m (pc + 3) ls (v.toList ++ rest))) : W p l e R s m args below meth c H locs cells slots Q (F0 m pc ls st) := by
  subst hst
  have hG : GoodIn WA (va_wsU own index C y.cls y y (Cond.code y bytes maxL ret :: WA)) := fun w h => by
    have : w ∈ WA := by
      rcases List.mem_append.mp h with h | h
      · simp only [List.mem_cons, List.not_mem_nil, or_false] at h
        rcases h with rfl | rfl | rfl | rfl | rfl
        · exact hl
        · exact h2
        · exact hsel
        · exact h3
        · exact h4
      · exact ws_good h5 w h
    exact ⟨this, wa_good w this⟩
  exact d_back (va_runU (C := C) (b := ad b) (As := As) (rest := rest) ⟨hx, hb, hml, hown, hts⟩ hM (va_cwU n hts hG rfl hrc hrs rfl hf9 hR) ⟨pg_blind, va_recv hK (va_P1 (hI.at hk hq he)) hc (q0 := 0) rfl, fun U hU hW => pg_of hap hK hsx hI hU hW⟩ rfl hn hsize rfl (lv_room hW) hdg hf) hI kk
theorem d_callSU {b : Nat} {C : String} {y : MethodName} {bytes : ByteArray} {maxL nL mc ms n index : Nat} {ret : Option FieldType} {rm : Room} {own : String} {As : List Value} {P : PS} (hx : p.tables.exec = Jvm.exec) (hb : c.code = cc) (hml : c.maxLocals = nL) (hown : s.vm.findClass own = some m.cls) (hts : ∀ w ∈ WA, w.before args s = true) (hK : va_K G.1 vwCl (tyLs G) s) (hap : Apt kd ad) (hsx : Sx G (AS kd ad s.heap.size) s s.heap) (hI : Inv G kd ad s.heap M H locs)
    (hM : Met l y (Cond.code y bytes maxL ret :: WA) rm (Pg G kd ad H.size (.ref (ad b) :: As) M) (Qs G kd ad H.size P) mc ms (AS kd ad H.size)) (hl : Cond.methodLink own index y ∈ WA) (h2 : Cond.sameMethod y.cls y.cls y.name y.desc ∈ WA) (h3 : Cond.instanceMethod y ∈ WA) (h4 : Cond.initialized y.cls ∈ WA) (h5 : Cond.code y bytes maxL ret ∈ WA) (hsup : Cond.superclass own y.cls ∈ WA) (hf9 : (y.name ≠ "<init>" ∧ (parseMethodDescriptor y.desc).map (fun d => d.parameters.length) = some n)) (hrc : rm.cells = mc) (hrs : rm.slots = ms) (hR : rm.frames + 1 ≤ R.frames ∧ 8 + (maxL + 11) + rm.locals ≤ R.locals)
    {ci : Nat} {q : Nat × Nat} {fs : List Value} {T : u_T} {N : Nat} (hk : kd b = q) (hq : q.1 ≠ 0) (he : ent ad G.2.1 q b (M.1 b) (M.2.1 b) (M.2.2 b) = .inr (ci, fs)) (hc : vwCl[ci]? = some (C, T, N))
    (hn : As.length = n) (hsize : ls.size = nL) {st : List Value} (hst : st = As.reverse ++ .ref (ad b) :: rest) (hW : (rest.map fun v => v.category).sum ≤ 8) (hdg : decode cc pc = .ok (.invokespecial index, 3)) (hf : cells + mc ≤ R.cells ∧ slots + ms ≤ R.slots)
    (kk : ∀ (K1 : Nat → Nat × Nat) (M1 : Mem) (v : Option Value) (H1 : Heap) (locs1 : List Loc), P K1 M1 v → Kx kd K1 ad s.heap.size → Inv G K1 ad s.heap M1 H1 locs1 → W p l e R s m args below meth c H1 locs1 (cells + mc) (slots + ms) Q (F0 m (pc + 3) ls (v.toList ++ rest))) : W p l e R s m args below meth c H locs cells slots Q (F0 m pc ls st) := by
  subst hst
  have hG : GoodIn WA (va_wsSU own index y (Cond.code y bytes maxL ret :: WA)) := fun w h => by
    have : w ∈ WA := by
      rcases List.mem_append.mp h with h | h
      · simp only [List.mem_cons, List.not_mem_nil, or_false] at h
        rcases h with rfl | rfl | rfl | rfl | rfl
        · exact hl
        · exact h2
        · exact hsup
        · exact h3
        · exact h4
      · exact ws_good h5 w h
    exact ⟨this, wa_good w this⟩
  have hKn := (hK.1 ci _ hc).2
  have hcl : ClassAt s C (G.1.1 ci) := ⟨hKn.1, by obtain ⟨kC, hkC, hkind⟩ := hKn.2; exact ⟨kC, hkC, hkind⟩⟩
  exact d_back (va_runSU (C := C) (b := ad b) (As := As) (rest := rest) hcl ⟨hx, hb, hml, hown, hts⟩ hM (va_cwSU n hts hG rfl hrc hrs hf9 hR) ⟨pg_blind, va_recv hK (va_P1 (hI.at hk hq he)) hc (q0 := 0) rfl, fun U hU hW => pg_of hap hK hsx hI hU hW⟩ rfl hn hsize rfl (lv_room hW) hdg hf) hI kk
theorem d_callS {y : MethodName} {bytes : ByteArray} {maxL nL mc ms n index : Nat} {ret : Option FieldType} {rm : Room} {own : String} {As : List Value} {P : PS} (hx : p.tables.exec = Jvm.exec) (hb : c.code = cc) (hml : c.maxLocals = nL) (hown : s.vm.findClass own = some m.cls) (hts : ∀ w ∈ WA, w.before args s = true) (hK : va_K G.1 vwCl (tyLs G) s) (hap : Apt kd ad) (hsx : Sx G (AS kd ad s.heap.size) s s.heap) (hI : Inv G kd ad s.heap M H locs)
    (hM : Met l y (Cond.code y bytes maxL ret :: WA) rm (Pg G kd ad H.size (As) M) (Qs G kd ad H.size P) mc ms (AS kd ad H.size)) (hcv : csF y bytes maxL ret n) (hl : Cond.methodLink own index y ∈ WA) (hrc : rm.cells = mc) (hrs : rm.slots = ms) (hR : rm.frames + 1 ≤ R.frames ∧ 8 + (maxL + 11) + rm.locals ≤ R.locals)
    (hn : As.length = n) (hsize : ls.size = nL) {st : List Value} (hst : st = As.reverse ++ rest) (hW : (rest.map fun v => v.category).sum ≤ 8) (hdg : decode cc pc = .ok (.invokestatic index, 3)) (hf : cells + mc ≤ R.cells ∧ slots + ms ≤ R.slots)
    (kk : ∀ (K1 : Nat → Nat × Nat) (M1 : Mem) (v : Option Value) (H1 : Heap) (locs1 : List Loc), P K1 M1 v → Kx kd K1 ad s.heap.size → Inv G K1 ad s.heap M1 H1 locs1 → W p l e R s m args below meth c H1 locs1 (cells + mc) (slots + ms) Q (F0 m (pc + 3) ls (v.toList ++ rest))) : W p l e R s m args below meth c H locs cells slots Q (F0 m pc ls st) := by
  subst hst
  obtain ⟨c1, c3, c4, c5⟩ := hcv
  have hG : GoodIn WA (va_wsS own index y (Cond.code y bytes maxL ret :: WA)) := fun w h => by
    have : w ∈ WA := by
      rcases List.mem_append.mp h with h | h
      · simp only [List.mem_cons, List.not_mem_nil, or_false] at h
        rcases h with rfl | rfl | rfl
        · exact hl
        · exact c1
        · exact c3
      · exact ws_good c4 w h
    exact ⟨this, wa_good w this⟩
  exact d_back (va_runS (As := As) (rest := rest) ⟨hx, hb, hml, hown, hts⟩ hM (va_cwS n hts hG rfl hrc hrs c5 hR) ⟨pg_blind, fun U hU hW => pg_of hap hK hsx hI hU hW⟩ rfl hn hsize rfl (lv_room hW) hdg hf) hI kk
theorem d_callI {b : Nat} {y : MethodName} {bytes : ByteArray} {maxL nL mc ms n index : Nat} {rm : Room} {own : String} {As : List Value} {P : PS} (hx : p.tables.exec = Jvm.exec) (hb : c.code = cc) (hml : c.maxLocals = nL) (hown : s.vm.findClass own = some m.cls) (hts : ∀ w ∈ WA, w.before args s = true) (hK : va_K G.1 vwCl (tyLs G) s) (hap : Apt kd ad) (hsx : Sx G (AS kd ad s.heap.size) s s.heap) (hI : Inv G kd ad s.heap M H locs)
    (hM : Met l y (Cond.code y bytes maxL none :: WA) rm (Pg G kd ad H.size (.ref (ad b) :: As) M) (Qs G kd ad H.size P) mc ms (AS kd ad H.size)) (hci : Cond.initialized y.cls ∈ WA ∧ Cond.instanceMethod y ∈ WA ∧ Cond.code y bytes maxL none ∈ WA) (hl : Cond.methodLink own index y ∈ WA) (hy : y.name = "<init>" ∧ (y.cls ≠ "java/lang/invoke/MethodHandle" ∧ y.cls ≠ "java/lang/invoke/VarHandle" ∧ (parseMethodDescriptor y.desc).map (fun d => d.parameters.length) = some n)) (hrc : rm.cells = mc) (hrs : rm.slots = ms) (hR : rm.frames + 1 ≤ R.frames ∧ 8 + (maxL + 11) + rm.locals ≤ R.locals)
    (hn : As.length = n) (hsize : ls.size = nL) {st : List Value} (hst : st = As.reverse ++ .ref (ad b) :: rest) (hW : (rest.map fun v => v.category).sum ≤ 8) (hdg : decode cc pc = .ok (.invokespecial index, 3)) (hf : cells + mc ≤ R.cells ∧ slots + ms ≤ R.slots)
    (kk : ∀ (K1 : Nat → Nat × Nat) (M1 : Mem) (v : Option Value) (H1 : Heap) (locs1 : List Loc), P K1 M1 v → Kx kd K1 ad s.heap.size → Inv G K1 ad s.heap M1 H1 locs1 → W p l e R s m args below meth c H1 locs1 (cells + mc) (slots + ms) Q (F0 m (pc + 3) ls (v.toList ++ rest))) : W p l e R s m args below meth c H locs cells slots Q (F0 m pc ls st) := by
  subst hst
  exact d_back (va_runI (As := As) (rest := rest) ⟨hx, hb, hml, hown, hts⟩ hM (cwI n hts (fun w h => ⟨ws_good hci.2.2 w h, wa_good w (ws_good hci.2.2 w h)⟩) rfl hrc hrs (hts _ hci.1) (hts _ hl) (hts _ hci.2.1) hy.1 hy.2 hR) ⟨pg_blind, fun U hU hW => pg_of hap hK hsx hI hU hW⟩ rfl hn hsize rfl (lv_room hW) hdg hf) hI kk
end DY
