/-! objects are made; the text of the law -/
def PgE (G : GT) (kd : Nat → Nat × Nat) (ad : Nat → Nat) (sz : Nat) (av : List Value) (M : Mem) : Array Value → State → Prop := va_Pc av (fun U => (U.heap.size = sz ∧ Wd G kd ad M U.heap ∧ Apt kd ad ∧ va_K G.1 vwCl (tyLs G) U ∧ Sx G (AS kd ad sz) U U.heap) ∧ Ex (AS kd ad sz) U U.heap)
section TX
variable {p : Program} {l : Launch} {e : Env} {R : Room} {s : State} {m : MethodId} {args : Array Value} {below : List Frame} {meth : Method} {c : Code} {H : Heap} {locs : List Loc} {cells slots : Nat} {Q : State → Prop}
variable {cc : ByteArray} {pc : Nat} {ls : Array Slot} {rest : List Value} {G : GT} {kd : Nat → Nat × Nat} {ad : Nat → Nat} {M : Mem} {H0 : Heap}
theorem W.bnd {g : JFrame} (kk : H.size ≤ s.heap.size + cells → W p l e R s m args below meth c H locs cells slots Q g) : W p l e R s m args below meth c H locs cells slots Q g := by
  intro T hT X
  have h := X.heapSize
  rw [hT] at h
  exact kk (by omega) T hT X
theorem pgE_blind {sz : Nat} {av : List Value} : FrameBlind (PgE G kd ad sz av M) := by
  intro a U g mk ⟨q0, q1, q6⟩
  have h := pg_blind (G := G) (kd := kd) (ad := ad) (M := M) (sz := sz) (av := av) a U g mk ⟨q0, q1⟩
  exact ⟨h.1, h.2, va_AO.moved (u := U) (U := U.calling g mk a) (Vm.Alike.refl U.vm) q6.1, fun q hq => va_Nw.same rfl rfl (q6.2.1 q hq), va_Z.moved (u := U) (U := U.calling g mk a) (Vm.Alike.refl U.vm) q6.2.2⟩
theorem pgE_of {av : List Value} {U : State} (hap : Apt kd ad) (hK : va_K G.1 vwCl (tyLs G) s) (hsx : Sx G (AS kd ad s.heap.size) s s.heap) (hex : Ex (AS kd ad s.heap.size) s s.heap) (hI : Inv G kd ad s.heap M H locs) (hU : U.heap = H) (hW : s.WarmedH U.vm) : PgE G kd ad H.size av M av.toArray U :=
  ⟨rfl, (pg_of (av := av) hap hK hsx hI hU hW).2, by rw [hU]; exact hex.at hI.2.2.1 hW (fun q => AS.mono hI.2.1)⟩
theorem d_bodyE {y : MethodName} {bytes : ByteArray} {maxL mc ms n : Nat} {ret : Option FieldType} {own : String} {As : List Value} {P : PS} {d : Nat} (hy : plainName y.cls = true) (hyo : y.cls = own)
    (body : ∀ p e s m args below meth c, Cx p s m args meth c bytes maxL ret own G kd ad → Ex (AS kd ad s.heap.size) s s.heap → s.heap.size = n → At p l e (rmO d mc ms) s m args below meth c 0 0 (MQ below (Qs G kd ad s.heap.size P) args s mc ms (AS kd ad s.heap.size)) G kd ad maxL 0 (lv_args 0 As) [] M) (hlen : (lg_sl As).length ≤ maxL) :
    Met l y (Cond.code y bytes maxL ret :: WA) (rmO d mc ms) (PgE G kd ad n As M) (Qs G kd ad n P) mc ms (AS kd ad n) := by
  refine Met.ofW (cc := bytes) (maxL := maxL) (ret := ret) hy rfl ?_
  intro p e s m args below meth c s₁ B hml hv
  obtain ⟨rfl, ⟨hsz, hw, hap, hK, hsx⟩, hex⟩ := hv
  have hts := atoms_spec (ws := Cond.code y bytes maxL ret :: WA) B.pre
  have hown : s.vm.findClass own = some m.cls := hyo ▸ findClass_of_methodNamed B.named
  subst hsz
  have hl := lv_entry As (n := maxL) hlen
  rw [lg_entry_eq]
  generalize (lg_sl As ++ List.replicate (maxL - (lg_sl As).length) Slot.unset).toArray = ls at hl ⊢
  exact body p e s m _ below meth c ⟨B.exec, B.bytes, hml, B.returns, hown, fun w h => hts w (List.mem_cons_of_mem _ h), B.notSynchronized, hK, hap, hsx⟩ hex rfl _ _ ls ⟨hw, va_S.rf⟩ hl
theorem d_callVE {b : Nat} {C : String} {y : MethodName} {bytes : ByteArray} {maxL nL mc ms n index : Nat} {ret : Option FieldType} {rm : Room} {own : String} {As : List Value} {P : PS} (hx : p.tables.exec = Jvm.exec) (hb : c.code = cc) (hml : c.maxLocals = nL) (hown : s.vm.findClass own = some m.cls) (hts : ∀ w ∈ WA, w.before args s = true) (hK : va_K G.1 vwCl (tyLs G) s) (hap : Apt kd ad) (hsx : Sx G (AS kd ad s.heap.size) s s.heap) (hex : Ex (AS kd ad s.heap.size) s s.heap) (hI : Inv G kd ad s.heap M H locs)
    (hM : Met l y (Cond.code y bytes maxL ret :: WA) rm (PgE G kd ad H.size (.ref (ad b) :: As) M) (Qs G kd ad H.size P) mc ms (AS kd ad H.size)) (hcv : cvF C y bytes maxL ret n) (hl : Cond.methodLink own index y ∈ WA) (hrc : rm.cells = mc) (hrs : rm.slots = ms) (hR : rm.frames + 1 ≤ R.frames ∧ 8 + (maxL + 11) + rm.locals ≤ R.locals)
    {ci : Nat} {q : Nat × Nat} {fs : List Value} {T : u_T} {N : Nat} (hk : kd b = q) (hq : q.1 ≠ 0) (he : ent ad G.2.1 q b (M.1 b) (M.2.1 b) (M.2.2 b) = .inr (ci, fs)) (hc : vwCl[ci]? = some (C, T, N))
    (hn : As.length = n) (hsize : ls.size = nL) {st : List Value} (hst : st = As.reverse ++ .ref (ad b) :: rest) (hW : (rest.map fun v => v.category).sum ≤ 8) (hdg : decode cc pc = .ok (.invokevirtual index, 3)) (hf : cells + mc ≤ R.cells ∧ slots + ms ≤ R.slots)
    (kk : ∀ (K1 : Nat → Nat × Nat) (M1 : Mem) (v : Option Value) (H1 : Heap) (locs1 : List Loc), P K1 M1 v → Kx kd K1 ad s.heap.size → Inv G K1 ad s.heap M1 H1 locs1 → W p l e R s m args below meth c H1 locs1 (cells + mc) (slots + ms) Q (F0 m (pc + 3) ls (v.toList ++ rest))) : W p l e R s m args below meth c H locs cells slots Q (F0 m pc ls st) := by
  subst hst
  obtain ⟨c1, c2, c3, c4, c5⟩ := hcv
  have hG : GoodIn WA (wsV own index C y (Cond.code y bytes maxL ret :: WA)) := fun w h => by
    have : w ∈ WA := by
      rcases List.mem_append.mp h with h | h
      · simp only [List.mem_cons, List.not_mem_nil, or_false] at h
        rcases h with rfl | rfl | rfl | rfl
        · exact hl
        · exact c1
        · exact c2
        · exact c3
      · exact ws_good c4 w h
    exact ⟨this, wa_good w this⟩
  exact d_back (va_runV (C := C) (b := ad b) (As := As) (rest := rest) ⟨hx, hb, hml, hown, hts⟩ hM (cwV n hts hG rfl hrc hrs c5 hR) ⟨pgE_blind, va_recv hK (va_P1 (hI.at hk hq he)) hc (q0 := 0) rfl, fun U hU hW => pgE_of hap hK hsx hex hI hU hW⟩ rfl hn hsize rfl (lv_room hW) hdg hf) hI kk
/-- a constructor is called on what was just made -/
theorem d_ctor {b : Nat} {y : MethodName} {bytes : ByteArray} {maxL nL nc ms index : Nat} {rm : Room} {own : String} {K0 KF : Nat → Nat × Nat} {M' : Mem} (hx : p.tables.exec = Jvm.exec) (hb : c.code = cc) (hml : c.maxLocals = nL) (hown : s.vm.findClass own = some m.cls) (hts : ∀ w ∈ WA, w.before args s = true) (hK : va_K G.1 vwCl (tyLs G) s) (hsx : Sx G (AS kd ad s.heap.size) s s.heap) (hex : Ex (AS kd ad s.heap.size) s s.heap) (hI : Inv G kd ad s.heap M H locs)
    (hag : ∀ k, ad k < H.size → K0 k = kd k) (hnew : ∀ k, (K0 k).1 ≠ 0 → ad k < H.size + nc) (hnz : nzE KF K0)
    (hM : Met l y (Cond.code y bytes maxL none :: WA) rm (Pk G K0 ad H.size [.ref (ad b)] M) (Qk G K0 KF ad H.size nc M') nc ms (AS K0 ad H.size)) (hci : Cond.initialized y.cls ∈ WA ∧ Cond.instanceMethod y ∈ WA ∧ Cond.code y bytes maxL none ∈ WA) (hl : Cond.methodLink own index y ∈ WA) (hy : y.name = "<init>" ∧ (y.cls ≠ "java/lang/invoke/MethodHandle" ∧ y.cls ≠ "java/lang/invoke/VarHandle" ∧ (parseMethodDescriptor y.desc).map (fun d => d.parameters.length) = some 0))
    (hrc : rm.cells = nc) (hrs : rm.slots = ms) (hR : rm.frames + 1 ≤ R.frames ∧ 8 + (maxL + 11) + rm.locals ≤ R.locals) (hsize : ls.size = nL) (hW : (rest.map fun v => v.category).sum ≤ 8) (hdg : decode cc pc = .ok (.invokespecial index, 3)) (hf : cells + nc ≤ R.cells ∧ slots + ms ≤ R.slots)
    (kk : ∀ (H1 : Heap) (locs1 : List Loc), Kx kd KF ad s.heap.size → Inv G KF ad s.heap M' H1 locs1 → W p l e R s m args below meth c H1 locs1 (cells + nc) (slots + ms) Q (F0 m (pc + 3) ls rest)) : W p l e R s m args below meth c H locs cells slots Q (F0 m pc ls (.ref (ad b) :: rest)) := by
  have hlt : ∀ k, (kd k).1 ≠ 0 → ad k < H.size := fun k hk => hI.1.lt hk
  have hA : AS K0 ad H.size = AS kd ad H.size := by
    funext q
    refine propext ⟨fun z => z.elim (fun ⟨k, h1, h2⟩ => ?_) Or.inr, fun z => z.elim (fun ⟨k, h1, h2⟩ => Or.inl ⟨k, by rw [hag k (hlt k h1)]; exact h1, h2⟩) Or.inr⟩
    by_cases e : ad k < H.size
    · exact Or.inl ⟨k, by rw [← hag k e]; exact h1, h2⟩
    · exact Or.inr (by omega)
  have hWd : Wd G (kdN K0 ad H.size) ad M H := fun k hk => by
    have h9 := kdN_lt hk
    rw [kdN_in h9, hag k h9] at hk ⊢
    exact hI.1 k hk
  have hpk : ∀ U : State, U.heap = H → s.WarmedH U.vm → Pk G K0 ad H.size [.ref (ad b)] M [.ref (ad b)].toArray U := fun U hU hW =>
    ⟨rfl, by rw [hU], by rw [hU]; exact hWd, va_K.moved hW.alike hK, by rw [hU, hA]; exact hsx.at hI.2.2.1 hW (fun q => AS.mono hI.2.1), by rw [hU, hA]; exact hex.at hI.2.2.1 hW (fun q => AS.mono hI.2.1)⟩
  have hr := va_runI (meth := meth) (l := l) (e := e) (R := R) (below := below) (locs := locs) (cells := cells) (slots := slots) (H := H) (As := []) (rest := rest) (g := F0 m pc ls (.ref (ad b) :: rest)) ⟨hx, hb, hml, hown, hts⟩ hM (cwI 0 hts (fun w h => ⟨ws_good hci.2.2 w h, wa_good w (ws_good hci.2.2 w h)⟩) rfl hrc hrs (hts _ hci.1) (hts _ hl) (hts _ hci.2.1) hy.1 hy.2 hR) ⟨pk_blind, fun U hU hW => hpk U hU hW⟩ rfl rfl hsize rfl (lv_room hW) hdg hf
  intro T hT X
  obtain ⟨v', st₀, t, T', L, h0, X', hL, e1, e2, ⟨hv, hw', hF, hsz⟩, st⟩ := hr T hT X
  cases hv
  rw [hA] at hF hL
  obtain ⟨k1, k2, k3⟩ := vx_keep h0 e1 hI.2 (fun q hq h => AS.old hq h) (fun q h => AS.mono hI.2.1 h) hL (by rw [← h0] at hF; rw [h0] at hF; exact hF)
  have hX : Kx kd KF ad s.heap.size := by
    refine ⟨fun k hk => (hnz k).mpr (by rw [hag k (hlt k hk)]; exact hk), fun k hk hk2 => ?_⟩
    by_cases e : ad k < H.size
    · have := (hnz k).mp hk2
      rw [hag k e] at this
      exact absurd hk this
    · have := hI.2.1
      omega
  obtain ⟨t2, a1, b1⟩ := kk T'.heap (locs ++ L) hX ⟨by
    rw [e1]
    intro k hk
    have h9 := hnew k ((hnz k).mp hk)
    have := hw' k (by rw [kdN_in h9]; exact hk)
    rw [kdN_in h9] at this
    exact this, by rw [hX.AS]; exact k3⟩ T' rfl X'
  exact ⟨t2, st t2 a1, b1⟩
theorem e_sbi {k : Nat} {M : Mem} : mJ4_init_da8c8 k M = some (wr (zr M (k + 1)) k 1 0, ()) := rfl
/-- a builder is made -/
theorem d_sb {kB : Nat} {nL index : Nat} {own : String} (hx : p.tables.exec = Jvm.exec) (hb : c.code = cc) (hml : c.maxLocals = nL) (hown : s.vm.findClass own = some m.cls) (hts : ∀ w ∈ WA, w.before args s = true) (hK : va_K G.1 vwCl (tyLs G) s) (hsx : Sx G (AS kd ad s.heap.size) s s.heap) (hex : Ex (AS kd ad s.heap.size) s s.heap) (hI : Inv G kd ad s.heap M H locs) (hinj : ∀ i j, ad i = ad j → i = j)
    (hkB : kd kB = (29, 0)) (hz : H.size = ad kB + 1) (h1 : ad (kB + 1) = ad kB + 1) (hz0 : M.1 kB = fun _ => 0) (hl : Cond.methodLink own index yJ4_init_da8c8 ∈ WA) (hR : 13 ≤ R.frames ∧ 400 ≤ R.locals) (hsize : ls.size = nL) (hW : (rest.map fun v => v.category).sum ≤ 8) (hdg : decode cc pc = .ok (.invokespecial index, 3)) (hf : cells + 1 ≤ R.cells ∧ slots + 16 ≤ R.slots)
    (kk : ∀ (K1 : Nat → Nat × Nat) (M1 : Mem) (H1 : Heap) (locs1 : List Loc), SBx K1 M1 kB (kB + 1) 16 [] → (∀ j, (kd j).1 ≠ 0 → j ≠ kB → K1 j = kd j ∧ Sm M M1 j) → (kd (kB + 1)).1 = 0 → Kx kd K1 ad s.heap.size → Inv G K1 ad s.heap M1 H1 locs1 → W p l e R s m args below meth c H1 locs1 (cells + 1) (slots + 16) Q (F0 m (pc + 3) ls rest)) : W p l e R s m args below meth c H locs cells slots Q (F0 m pc ls (.ref (ad kB) :: rest)) := by
  have hlt : ∀ k, (kd k).1 ≠ 0 → ad k < H.size := fun k hk => hI.1.lt hk
  have h10 : (kd (kB + 1)).1 = 0 := by
    by_cases e : (kd (kB + 1)).1 = 0
    · exact e
    · have := hlt _ e; omega
  have hne : kB ≠ kB + 1 := by omega
  let KF := setk (setk kd kB (9, kB + 1)) (kB + 1) (11, 16)
  have hKF : ∀ j, KF j = setk (setk kd kB (9, kB + 1)) (kB + 1) (11, 16) j := fun _ => rfl
  have hKB : kSB KF kB := ⟨(setk_o hne).trans setk_s, setk_s⟩
  refine d_ctor (K0 := setk KF kB (29, 0)) (KF := KF) (nc := 1) (ms := 16) hx hb hml hown hts hK hsx hex hI (fun k hk => ?_) (fun k hk => ?_) (fun k => ?_) (tJ4_init_da8c8 l hinj hKB (fun j hj => by rw [show j = 0 by omega, Nat.add_zero, Nat.add_zero, h1, hz]) (by omega) e_sbi) ci_J4_init_da8c8 hl ⟨rfl, by decide +kernel⟩ rfl rfl ⟨by show 4 * 1 + 8 + 1 ≤ _; have := hR.1; omega, by show 8 + (1 + 11) + (64 * 1 + 128) ≤ _; have := hR.2; omega⟩ hsize hW hdg hf (fun H1 locs1 hX hI => ?_)
  · by_cases e : k = kB
    · subst e; rw [setk_s, hkB]
    · have e2 : k ≠ kB + 1 := fun z => by rw [z, h1] at hk; omega
      rw [setk_o e, hKF, setk_o e2, setk_o e]
  · by_cases e : k = kB
    · rw [e]; omega
    · by_cases e2 : k = kB + 1
      · rw [e2, h1]; omega
      · rw [setk_o e, hKF, setk_o e2, setk_o e] at hk
        have := hlt k hk; omega
  · by_cases e : k = kB
    · subst e
      rw [setk_s]
      show (setk (setk kd k (9, k + 1)) (k + 1) (11, 16) k).1 ≠ 0 ↔ _
      rw [setk_o hne, setk_s]; simp
    · rw [setk_o e]
  · refine kk KF _ H1 locs1 ⟨hKB, ?_, ?_, by simp, by omega, fun j hj => absurd hj (by simp), fitB_o (fun i _ => ?_), fun c hc => absurd hc (by simp)⟩ (fun j hj hjk => ⟨?_, ?_⟩) h10 hX hI
    · rw [wr_at, if_pos rfl]
    · rw [wr_at, if_neg (by decide), (zr_s1 (M := M) hne).1, hz0]; rfl
    · rw [(wr_o (M := zr M (kB + 1)) (j := 1) (v := 0) (kB + 1) (Ne.symm hne)).1, zr_s.1]; rfl
    · have e2 : j ≠ kB + 1 := fun z => hj (by rw [z]; exact h10)
      show setk (setk kd kB (9, kB + 1)) (kB + 1) (11, 16) j = kd j
      rw [setk_o e2, setk_o hjk]
    · have e2 : j ≠ kB + 1 := fun z => hj (by rw [z]; exact h10)
      exact (zr_s1 e2).trans (wr_s1 hjk)
end TX
/-- one bend of the text -/
def bt (q : Bool × Nat) : List Nat := (if q.1 then stN 13 else stN 14) ++ dg q.2 ++ stN 12
def txs (l0 : Nat) (its : List (Bool × Nat)) : List Nat := stN 11 ++ dg l0 ++ stN 12 ++ its.flatMap bt
theorem st_lens : (stN 11).length = 4 ∧ (stN 12).length = 1 ∧ (stN 13).length = 3 ∧ (stN 14).length = 5 ∧ (stN 15).length = 9 ∧ (stN 16).length = 10 ∧ (stN 17).length = 8 ∧ (stN 18).length = 9 := by decide +kernel
theorem dg_3 {v : Nat} (h : 100 ≤ v ∧ v < 1000) : (dg v).length = 3 := by
  rw [dg_len, if_neg (by omega), d2_len, if_pos (by omega)]
theorem bt_len {q : Bool × Nat} (h : 100 ≤ q.2 ∧ q.2 < 1000) : 7 ≤ (bt q).length ∧ (bt q).length ≤ 9 := by
  unfold bt
  obtain ⟨u1, u2, u3, u4, -⟩ := st_lens
  rw [List.length_append, List.length_append, dg_3 h, u2]
  cases q.1
  · rw [if_neg (by simp), u4]; omega
  · rw [if_pos rfl, u3]; omega
theorem txs_app {l0 : Nat} {its : List (Bool × Nat)} {q : Bool × Nat} : txs l0 (its ++ [q]) = txs l0 its ++ bt q := by
  unfold txs
  rw [List.flatMap_append]
  simp only [List.flatMap_cons, List.flatMap_nil, List.append_nil, List.append_assoc]
theorem txs_len {l0 : Nat} (h0 : 100 ≤ l0 ∧ l0 < 1000) : ∀ (its : List (Bool × Nat)), (∀ q ∈ its, 100 ≤ q.2 ∧ q.2 < 1000) → 8 ≤ (txs l0 its).length ∧ (txs l0 its).length ≤ 8 + 9 * its.length := by
  obtain ⟨u1, u2, -⟩ := st_lens
  have hb : (stN 11 ++ dg l0 ++ stN 12).length = 8 := by rw [List.length_append, List.length_append, u1, u2, dg_3 h0]
  intro its h
  unfold txs
  rw [List.length_append, hb]
  have : (its.flatMap bt).length ≤ 9 * its.length := by
    induction its with
    | nil => simp
    | cons q r ih =>
      have h1 := bt_len (h q List.mem_cons_self)
      have h2 := ih (fun z hz => h z (List.mem_cons_of_mem _ hz))
      rw [List.flatMap_cons, List.length_append, List.length_cons]
      omega
  omega
