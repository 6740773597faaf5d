/-! the memory: cell number, slot; the world that it stands for -/
abbrev Mem : Type := (Nat → Nat → Int32) × (Nat → Nat → Int64) × (Nat → Nat → UInt64)
def rd (M : Mem) (k j : Nat) : Int32 := M.1 k j
def rl (M : Mem) (k j : Nat) : Int64 := M.2.1 k j
def wr (M : Mem) (k j : Nat) (v : Int32) : Mem := (fun a => if a = k then upd (M.1 k) j v else M.1 a, M.2)
def wl (M : Mem) (k j : Nat) (v : Int64) : Mem := (M.1, fun a => if a = k then vp_updL (M.2.1 k) j v else M.2.1 a, M.2.2)
def wd (M : Mem) (k j : Nat) (v : UInt64) : Mem := (M.1, M.2.1, fun a => if a = k then vf_upd (M.2.2 k) j v else M.2.2 a)
def cpy (M : Mem) (k1 k2 sp dp n : Nat) : Mem := (fun a => if a = k2 then va_cpy (M.1 k1) (M.1 k2) sp dp n else M.1 a, M.2)
abbrev GT : Type := va_G × (Nat → ClassId) × (Nat → Nat)
abbrev tyLs (G : GT) : List (ClassId × FieldType) := [(G.2.1 0, .int), (G.2.1 1, .byte), (G.2.1 2, .boolean), (G.2.1 3, .long), (G.2.1 4, .object "SheetFolder$Part")]
def rfz (v : Int32) (a : Nat) : Value := if v = 0 then .null else .ref a
abbrev eHist (ad : Nat → Nat) (k : Nat) (r : Nat → Int32) : List Value := [.ref (ad (k + 1)), .int (r 1), .int (r 2)]
abbrev ePart (ad : Nat → Nat) (k : Nat) (r : Nat → Int32) : List Value := [.int (r 0), .ref (ad (k + 1)), .int (r 2), .int (r 3), .int (r 4), .int (r 5), .ref (ad (k + 2)), .int (r 7), .int (r 8), .int (r 9), .int (r 10), .ref (ad (k + 3)), .ref (ad (k + 4)), .int (r 13), .int (r 14), .ref (ad (k + 5)), .ref (ad (k + 6)), .ref (ad (k + 7))]
abbrev ePlaces (ad : Nat → Nat) (k : Nat) (r : Nat → Int32) : List Value := [.ref (ad (k + 1)), .ref (ad (k + 2)), .ref (ad (k + 3)), .ref (ad (k + 4)), .ref (ad (k + 5)), .ref (ad (k + 6)), .int (r 6), .int (r 7), .int (r 8)]
abbrev ePlanner (ad : Nat → Nat) (k : Nat) (r : Nat → Int32) : List Value := [.int (r 0), .int (r 1), .ref (ad (k + 1)), .int (r 3), .ref (ad (k + 2)), .ref (ad (k + 9)), .int (r 6), .ref (ad (k + 17)), .ref (ad (k + 18)), .ref (ad (k + 19)), .ref (ad (k + 20)), .ref (ad (k + 21)), .ref (ad (k + 22))]
abbrev eReader (ad : Nat → Nat) (k : Nat) (r : Nat → Int32) : List Value := [.int (r 0), .int (r 1), .ref (ad (if r 2 = 1 then 1 else 4)), .int (r 3), .int (r 4), .int (r 5), .int (r 6), .int (r 7), .ref (ad (k + 1))]
abbrev eRoot (ad : Nat → Nat) (_ : Nat) (r : Nat → Int32) : List Value := [.ref (ad 1), .int (r 1), .ref (ad 2), .ref (ad 5), .ref (ad 13), .ref (ad 21), .ref (ad 103), .ref (ad 110), .ref (ad 133)]
/-- an object under construction: its reference fields from the n-th on are null -/
def rfn (n i a : Nat) : Value := if i < n then .ref a else .null
abbrev uHist (ad : Nat → Nat) (n k : Nat) (r : Nat → Int32) : List Value := [rfn n 0 (ad (k + 1)), .int (r 1), .int (r 2)]
abbrev uPart (ad : Nat → Nat) (n k : Nat) (r : Nat → Int32) : List Value := [.int (r 0), rfn n 0 (ad (k + 1)), .int (r 2), .int (r 3), .int (r 4), .int (r 5), rfn n 1 (ad (k + 2)), .int (r 7), .int (r 8), .int (r 9), .int (r 10), rfn n 2 (ad (k + 3)), rfn n 3 (ad (k + 4)), .int (r 13), .int (r 14), rfn n 4 (ad (k + 5)), rfn n 5 (ad (k + 6)), rfn n 6 (ad (k + 7))]
abbrev uPlaces (ad : Nat → Nat) (n k : Nat) (r : Nat → Int32) : List Value := [rfn n 0 (ad (k + 1)), rfn n 1 (ad (k + 2)), rfn n 2 (ad (k + 3)), rfn n 3 (ad (k + 4)), rfn n 4 (ad (k + 5)), rfn n 5 (ad (k + 6)), .int (r 6), .int (r 7), .int (r 8)]
abbrev uPlanner (ad : Nat → Nat) (n k : Nat) (r : Nat → Int32) : List Value := [.int (r 0), .int (r 1), rfn n 0 (ad (k + 1)), .int (r 3), rfn n 1 (ad (k + 2)), rfn n 2 (ad (k + 9)), .int (r 6), rfn n 3 (ad (k + 17)), rfn n 4 (ad (k + 18)), rfn n 5 (ad (k + 19)), rfn n 6 (ad (k + 20)), rfn n 7 (ad (k + 21)), rfn n 8 (ad (k + 22))]
abbrev uReader (ad : Nat → Nat) (n k : Nat) (r : Nat → Int32) : List Value := [.int (r 0), .int (r 1), rfn n 0 (ad (if r 2 = 1 then 1 else 4)), .int (r 3), .int (r 4), .int (r 5), .int (r 6), .int (r 7), rfn n 1 (ad (k + 1))]
abbrev uRoot (ad : Nat → Nat) (n _ : Nat) (r : Nat → Int32) : List Value := [rfn n 0 (ad 1), .int (r 1), rfn n 1 (ad 2), rfn n 2 (ad 5), rfn n 3 (ad 13), rfn n 4 (ad 21), rfn n 5 (ad 103), rfn n 6 (ad 110), rfn n 7 (ad 133)]
abbrev eSB (ad : Nat → Nat) (a _ : Nat) (r : Nat → Int32) : List Value := [.ref (ad a), .int (r 1), .int (r 2), .int (r 3)]
abbrev uSB (ad : Nat → Nat) (n k : Nat) (r : Nat → Int32) : List Value := [rfn n 0 (ad (k + 1)), .int (r 1), .int (r 2), .int (r 3)]
abbrev eLaw (ad : Nat → Nat) (b : Nat) (k : Nat) (r : Nat → Int32) : List Value := [.ref b, .int (r 1), .int (r 2), .ref (ad (k + 2)), .ref (ad (k + 3)), .int (r 5), .int (r 6), .int (r 7), .int (r 8)]
abbrev uLaw (ad : Nat → Nat) (n k : Nat) (r : Nat → Int32) : List Value := [rfn n 0 (ad (k + 1)), .int (r 1), .int (r 2), rfn n 1 (ad (k + 2)), rfn n 2 (ad (k + 3)), .int (r 5), .int (r 6), .int (r 7), .int (r 8)]
abbrev eStr (ad : Nat → Nat) (a _ : Nat) (r : Nat → Int32) : List Value := [.ref (ad a), .int (r 1), .int (r 2), .int (r 3)]
abbrev uStr (_ : Nat → Nat) (_ _ : Nat) (r : Nat → Int32) : List Value := [.null, .int (r 1), .int (r 2), .int (r 3)]
/-- what the cell of kind c, number k holds -/
def ent (ad : Nat → Nat) (cA : Nat → ClassId) (c : Nat × Nat) (k : Nat) (r : Nat → Int32) (q : Nat → Int64) (u : Nat → UInt64) : va_E :=
  match c.1 with
  | 1 => .inr (3, ePart ad k r)
  | 2 => .inr (4, ePlaces ad k r)
  | 3 => .inr (5, ePlanner ad k r)
  | 4 => .inr (2, eHist ad k r)
  | 5 => .inr (6, eReader ad k r)
  | 6 => .inr (8, eRoot ad k r)
  | 8 => .inl (cA 4, c.2, .inr (.inr (.inr (.inr (fun j => some (ad (k + 1 + 8 * j)))))))
  | 10 => .inl (cA 0, c.2, .inl r)
  | 11 => .inl (cA 1, c.2, .inl r)
  | 12 => .inl (cA 2, c.2, .inl r)
  | 13 => .inl (cA 3, c.2, .inr (.inl q))
  | 14 => .inl (cA 5, c.2, .inr (.inr (.inr (.inl u))))
  | 9 => .inr (1, eSB ad c.2 k r)
  | 15 => .inr (0, eStr ad c.2 k r)
  | 16 => .inr (9, eLaw ad c.2 k r)
  | 21 => .inr (3, uPart ad c.2 k r)
  | 22 => .inr (4, uPlaces ad c.2 k r)
  | 23 => .inr (5, uPlanner ad c.2 k r)
  | 24 => .inr (2, uHist ad c.2 k r)
  | 25 => .inr (6, uReader ad c.2 k r)
  | 26 => .inr (8, uRoot ad c.2 k r)
  | 28 => .inl (cA 4, 10, .inr (.inr (.inr (.inr (fun j => if j < c.2 then some (ad (k + 1 + 8 * j)) else none)))))
  | 29 => .inr (1, uSB ad c.2 k r)
  | 35 => .inr (0, uStr ad c.2 k r)
  | 36 => .inr (9, uLaw ad c.2 k r)
  | _ => .inl (cA 0, 0, .inl r)
def Wd (G : GT) (kd : Nat → Nat × Nat) (ad : Nat → Nat) (M : Mem) (H : Heap) : Prop := ∀ k, (kd k).1 ≠ 0 → va_at G.1 vwCl (ad k, ent ad G.2.1 (kd k) k (M.1 k) (M.2.1 k) (M.2.2 k)) H
def Apt (kd : Nat → Nat × Nat) (ad : Nat → Nat) : Prop := ∀ k k', (kd k).1 ≠ 0 → (kd k').1 ≠ 0 → ad k = ad k' → k = k'
def AS (kd : Nat → Nat × Nat) (ad : Nat → Nat) (sz : Nat) : Nat → Prop := fun q => (∃ k, (kd k).1 ≠ 0 ∧ q = ad k) ∨ sz ≤ q
def Inv (G : GT) (kd : Nat → Nat × Nat) (ad : Nat → Nat) (H0 : Heap) (M : Mem) (H : Heap) (locs : List Loc) : Prop := Wd G kd ad M H ∧ va_S (AS kd ad H0.size) H0 H locs
/-- what is told of statics: the two of Throwable, the texts of exceptions, classes that fit, the words of statements -/
abbrev sxMsgs : List (String × Nat × String) := [("SheetFolder", 68, "length is not 0 to the number of bytes in the buffer"), ("SheetFolder", 278, "the step is refused"), ("SheetFolder", 369, "there is no such bend"), ("SheetFolder", 371, "there is no such leg"), ("SheetFolder", 373, "a parameter is out of range")]
abbrev sxW : List Cond := [.castable "java/lang/IllegalArgumentException" "java/lang/IllegalArgumentException", .castable "java/lang/IndexOutOfBoundsException" "java/lang/IndexOutOfBoundsException", .castable "java/lang/IllegalStateException" "java/lang/IllegalStateException", .declares (Bundle.initS "java/lang/RuntimeException"), .declares (Bundle.initS "java/lang/Exception"), .declares (Bundle.initS Bundle.tN)]
abbrev wNm : List String := ["SHEET", "LEG", "UP", "DOWN", "BACK", "BEAM", "TABLE", "WING", "GAUGE", "FLANGE", "COST"]
abbrev wF0 : List Int32 := [1, 1, 1, 1, 0, 0, 0, 0, 0, 0, 0]
abbrev wF1 : List Int32 := [60, 9999, 9999, 9999, 999, 9999, 9999, 9999, 9999, 9999, 99]
abbrev wF2 : List Int32 := [200, 0, 0, 0, 300, 9999, 9999, 9999, 9999, 0, 99]
abbrev wF3 : List Int32 := [100, 0, 0, 0, 0, 0, 0, 0, 0, 0, 99]
abbrev wFs : List (String × String × String × List Int32) := [("SheetFolder$Word", "leastOfFirst", "I", wF0), ("SheetFolder$Word", "mostOfFirst", "I", wF1), ("SheetFolder$Word", "mostOfSecond", "I", wF2), ("SheetFolder$Word", "mostOfThird", "I", wF3)]
theorem sxW_on : ∀ w ∈ sxW, w.onTables = true := by decide +kernel
theorem sxW_moved {u U : State} (hvm : u.vm.Alike U.vm) (h : ∀ w ∈ sxW, w.before #[] u = true) : ∀ w ∈ sxW, w.before #[] U = true := by
  have tr : ∀ {c : Cond}, c.onTables = true → c.before #[] (u.setVm U.vm) = true → c.before #[] U = true := by
    intro c hc h
    have e := Cond.onTables_vm (A := #[]) (A' := #[]) (U := u) (U' := U) U.vm c hc
    have hU : U.setVm U.vm = U := rfl
    rw [hU] at e
    rw [← e]
    exact h
  intro w hw
  have h0 := h w hw
  simp only [sxW, List.mem_cons, List.not_mem_nil, or_false] at hw
  rcases hw with rfl | rfl | rfl | rfl | rfl | rfl
  · exact tr rfl (by rw [Cond.castable_setVm hvm]; exact h0)
  · exact tr rfl (by rw [Cond.castable_setVm hvm]; exact h0)
  · exact tr rfl (by rw [Cond.castable_setVm hvm]; exact h0)
  · exact tr rfl (by rw [Cond.declares_setVm hvm]; exact h0)
  · exact tr rfl (by rw [Cond.declares_setVm hvm]; exact h0)
  · exact tr rfl (by rw [Cond.declares_setVm hvm]; exact h0)
/-- String constants, Word's texts and ALL, what the JDK's own statics hold: addresses in G.2.2 (50 ALL, 51 DigitOnes, 52 DigitTens, 100 + i the i-th String, 200 + i its bytes) -/
def Tx (G : GT) (A : Nat → Prop) (U : State) (H : Heap) : Prop :=
  (∀ i, i < 19 → va_O "java/lang/String" (G.2.2 (100 + i)) A U H ∧ va_OF "java/lang/String" "coder" "B" (.int 0) (G.2.2 (100 + i)) A U H ∧ va_OF "java/lang/String" "value" "[B" (.ref (G.2.2 (200 + i))) (G.2.2 (100 + i)) A U H ∧ va_T .byte (G.2.2 (200 + i)) (stLen i) (fun j => .int ((stB i).getD j 0)) A U H) ∧
  (∀ q ∈ sxStr, vk_R q.1 q.2.1 q.2.2.1 (G.2.2 (100 + q.2.2.2)) U) ∧
  va_Ef 11 "SheetFolder$Word" "text" "Ljava/lang/String;" (fun i => .ref (G.2.2 (100 + i))) G.2.2 A U H ∧
  (va_Z "SheetFolder$Word" "ALL" "[LSheetFolder$Word;" (.ref (G.2.2 50)) A U H ∧ va_T (.object "SheetFolder$Word") (G.2.2 50) 11 (fun i => .ref (G.2.2 i)) A U H) ∧
  va_Z "java/lang/String" "COMPACT_STRINGS" "Z" (.int 1) A U H ∧
  (∃ v : Value, v.category = 1 ∧ va_Z "jdk/internal/util/Preconditions" "SIOOBE_FORMATTER" "Ljava/util/function/BiFunction;" v A U H) ∧
  (va_Z "java/lang/Integer" "DigitOnes" "[B" (.ref (G.2.2 51)) A U H ∧ va_T .byte (G.2.2 51) 100 (fun j => .int (dgOnes.getD j 0)) A U H) ∧
  (va_Z "java/lang/Integer" "DigitTens" "[B" (.ref (G.2.2 52)) A U H ∧ va_T .byte (G.2.2 52) 100 (fun j => .int (dgTens.getD j 0)) A U H) ∧
  va_T .int (G.2.2 400) (G.2.2 401) (fun j => .int (Int32.ofNat (G.2.2 (1000 + j)))) A U H
theorem Tx.by {G : GT} {A B : Nat → Prop} {u U : State} {H H1 : Heap} (h : Tx G A u H) (hR : ∀ q ∈ sxStr, ∀ a, vk_R q.1 q.2.1 q.2.2.1 a u → vk_R q.1 q.2.1 q.2.2.1 a U)
    (fO : ∀ E t, va_O E t A u H → va_O E t B U H1) (fF : ∀ o n d v t, va_OF o n d v t A u H → va_OF o n d v t B U H1) (fT : ∀ ty t N f, va_T ty t N f A u H → va_T ty t N f B U H1) (fZ : ∀ C n d v, va_Z C n d v A u H → va_Z C n d v B U H1) : Tx G B U H1 := by
  obtain ⟨h1, h2, h3, h4, h5, ⟨v, h0, h6⟩, h7, h8, h9⟩ := h
  exact ⟨fun i hi => ⟨fO _ _ (h1 i hi).1, fF _ _ _ _ _ (h1 i hi).2.1, fF _ _ _ _ _ (h1 i hi).2.2.1, fT _ _ _ _ (h1 i hi).2.2.2⟩, fun q hq => hR q hq _ (h2 q hq), fun i hi => fF _ _ _ _ _ (h3 i hi), ⟨fZ _ _ _ _ h4.1, fT _ _ _ _ h4.2⟩, fZ _ _ _ _ h5, ⟨v, h0, fZ _ _ _ _ h6⟩, ⟨fZ _ _ _ _ h7.1, fT _ _ _ _ h7.2⟩, ⟨fZ _ _ _ _ h8.1, fT _ _ _ _ h8.2⟩, fT _ _ _ _ h9⟩
theorem Tx.same {G : GT} {A : Nat → Prop} {u U : State} {H : Heap} (hv : U.vm = u.vm) (h : Tx G A u H) : Tx G A U H := by
  have ha : u.vm.Alike U.vm := by rw [hv]; exact Vm.Alike.refl u.vm
  exact h.by (fun q _ a h => vk_R.same hv h) (fun _ _ h => h.moved ha) (fun _ _ _ _ _ h => h.moved ha) (fun _ _ _ _ h => h.moved ha) (fun _ _ _ _ h => h.moved ha)
theorem Tx.at {G : GT} {A B : Nat → Prop} {s U : State} {H1 : Heap} (h : Tx G A s s.heap) (hS : ∀ q : Nat, q < s.heap.size → ¬ A q → H1[q]? = s.heap[q]?) (hW : s.WarmedH U.vm) (hAB : ∀ q, B q → A q) : Tx G B U H1 :=
  h.by (fun q _ a h => vk_R.warm hW h) (fun _ _ h => ((h.kept hS).narrow hAB).moved hW.alike) (fun _ _ _ _ _ h => ((h.kept hS).narrow hAB).moved hW.alike) (fun _ _ _ _ h => ((h.kept hS).narrow hAB).moved hW.alike) (fun _ _ _ _ h => ((h.kept hS).narrow hAB).moved hW.alike)
def Sx (G : GT) (A : Nat → Prop) (U : State) (H : Heap) : Prop := vx_Zq Bundle.tN "UNASSIGNED_STACK" Bundle.steD A U H ∧ vx_Zq Bundle.tN "SUPPRESSED_SENTINEL" Bundle.listD A U H ∧ (∀ q ∈ sxMsgs, ∃ sa, vk_R q.1 q.2.1 q.2.2 sa U) ∧ ((∀ w ∈ sxW, w.before #[] U = true) ∧ Tx G A U H) ∧ va_En "SheetFolder$Word" "LSheetFolder$Word;" wNm wFs G.2.2 A U H
/-- what holds all through a method's body -/
def Cx (p : Program) (s : State) (m : MethodId) (args : Array Value) (meth : Method) (c : Code) (cc : ByteArray) (nL : Nat) (ret : Option FieldType) (own : String) (G : GT) (kd : Nat → Nat × Nat) (ad : Nat → Nat) : Prop :=
  p.tables.exec = Jvm.exec ∧ c.code = cc ∧ c.maxLocals = nL ∧ meth.sig.returnType = ret ∧ s.vm.findClass own = some m.cls ∧ (∀ w ∈ WA, w.before args s = true) ∧ meth.locks = false ∧ va_K G.1 vwCl (tyLs G) s ∧ Apt kd ad ∧ Sx G (AS kd ad s.heap.size) s s.heap
def Pg (G : GT) (kd : Nat → Nat × Nat) (ad : Nat → Nat) (sz : Nat) (av : List Value) (M : Mem) : Array Value → State → Prop := va_Pc av (fun U => U.heap.size = sz ∧ Wd G kd ad M U.heap ∧ Apt kd ad ∧ va_K G.1 vwCl (tyLs G) U ∧ Sx G (AS kd ad sz) U U.heap)
def Qg (G : GT) (kd : Nat → Nat × Nat) (ad : Nat → Nat) (sz : Nat) (M : Mem) (v : Option Value) : Array Value → State → Outcome → State → Prop := fun _ st oc t => oc = .returned v ∧ Wd G kd ad M t.heap ∧ va_F (AS kd ad sz) st t
abbrev rmO (d mc ms : Nat) : Room := { frames := 4 * d + 8, cells := mc, slots := ms, locals := 64 * d + 128 }
/-! mirrors -/
def chk {α : Type} (b : Bool) (x : Option α) : Option α := if b = true then x else none
theorem chk_s {α : Type} {b : Bool} {x : Option α} {y : α} (h : chk b x = some y) : b = true ∧ x = some y := by
  unfold chk at h
  split at h
  · exact ⟨by assumption, h⟩
  · cases h
def bnd {α β : Type} (e : α) (k : α → Option β) : Option β := k e
theorem bnd_s {α β : Type} {e : α} {k : α → Option β} {y : β} (h : bnd e k = some y) : ∃ x, x = e ∧ k x = some y := ⟨e, rfl, h⟩
def cal {ρ β : Type} (x : Option (Mem × ρ)) (k : Mem → ρ → Option β) : Option β := match x with
  | none => none
  | some q => k q.1 q.2
theorem cal_s {ρ β : Type} {x : Option (Mem × ρ)} {k : Mem → ρ → Option β} {y : β} (h : cal x k = some y) : ∃ M r, x = some (M, r) ∧ k M r = some y := by
  cases x with
  | none => cases h
  | some q => exact ⟨q.1, q.2, rfl, h⟩
def cap {ρ β : Type} (x : Option ρ) (k : ρ → Option β) : Option β := match x with
  | none => none
  | some q => k q
theorem cap_s {ρ β : Type} {x : Option ρ} {k : ρ → Option β} {y : β} (h : cap x k = some y) : ∃ r, x = some r ∧ k r = some y := by
  cases x with
  | none => cases h
  | some q => exact ⟨q, rfl, h⟩
def ite2 {α : Type} (c : Prop) [Decidable c] (a b : Option α) : Option α := if c then a else b
theorem ite_t {α : Type} {c : Prop} [Decidable c] {a b : Option α} {y : α} (hc : c) (h : ite2 c a b = some y) : a = some y := by
  unfold ite2 at h; rwa [if_pos hc] at h
theorem ite_f {α : Type} {c : Prop} [Decidable c] {a b : Option α} {y : α} (hc : ¬ c) (h : ite2 c a b = some y) : b = some y := by
  unfold ite2 at h; rwa [if_neg hc] at h
def okb (i : Int32) (n : Nat) : Bool := !(decide (i < 0)) && decide (i.toNatClampNeg < n)
theorem okb_in {i : Int32} {n : Nat} (h : okb i n = true) : vp_in i n := by
  simp only [okb, Bool.and_eq_true, Bool.not_eq_true', decide_eq_false_iff_not, decide_eq_true_eq] at h
  intro q
  rcases q with q | q
  · exact h.1 q
  · omega
/-! worlds -/
theorem Wd.kept {G : GT} {kd : Nat → Nat × Nat} {ad : Nat → Nat} {M : Mem} {H H1 : Heap} (h : Wd G kd ad M H) (hq : ∀ k, (kd k).1 ≠ 0 → H1[ad k]? = H[ad k]?) : Wd G kd ad M H1 := fun k hk => (h k hk).kept (hq k hk)
theorem Wd.lt {G : GT} {kd : Nat → Nat × Nat} {ad : Nat → Nat} {M : Mem} {H : Heap} (h : Wd G kd ad M H) {k : Nat} (hk : (kd k).1 ≠ 0) : ad k < H.size := (h k hk).lt
theorem Inv.set {G : GT} {kd : Nat → Nat × Nat} {ad : Nat → Nat} {H0 : Heap} {M M' : Mem} {H H1 : Heap} {locs : List Loc} (hI : Inv G kd ad H0 M H locs) (hap : Apt kd ad) {k i : Nat} (hk : (kd k).1 ≠ 0)
    (hat : va_at G.1 vwCl (ad k, ent ad G.2.1 (kd k) k (M'.1 k) (M'.2.1 k) (M'.2.2 k)) H1) (z : H1.size = H.size) (oq : ∀ q, q ≠ ad k → H1[q]? = H[q]?)
    (hM : ∀ k', k' ≠ k → M'.1 k' = M.1 k' ∧ M'.2.1 k' = M.2.1 k' ∧ M'.2.2 k' = M.2.2 k') : Inv G kd ad H0 M' H1 (locs ++ [⟨ad k, i⟩]) := by
  refine ⟨fun k' hk' => ?_, hI.2.put z oq (Or.inl ⟨k, hk, rfl⟩)⟩
  by_cases e : k' = k
  · subst e; exact hat
  · obtain ⟨e1, e2, e3⟩ := hM k' e
    rw [e1, e2, e3]
    exact (hI.1 k' hk').kept (oq _ (fun q => e (hap _ _ hk' hk q)))
theorem wr_o {M : Mem} {k j : Nat} {v : Int32} (k' : Nat) (h : k' ≠ k) : (wr M k j v).1 k' = M.1 k' ∧ (wr M k j v).2.1 k' = M.2.1 k' ∧ (wr M k j v).2.2 k' = M.2.2 k' := ⟨if_neg h, rfl, rfl⟩
theorem wl_o {M : Mem} {k j : Nat} {v : Int64} (k' : Nat) (h : k' ≠ k) : (wl M k j v).1 k' = M.1 k' ∧ (wl M k j v).2.1 k' = M.2.1 k' ∧ (wl M k j v).2.2 k' = M.2.2 k' := ⟨rfl, if_neg h, rfl⟩
theorem wd_o {M : Mem} {k j : Nat} {v : UInt64} (k' : Nat) (h : k' ≠ k) : (wd M k j v).1 k' = M.1 k' ∧ (wd M k j v).2.1 k' = M.2.1 k' ∧ (wd M k j v).2.2 k' = M.2.2 k' := ⟨rfl, rfl, if_neg h⟩
theorem cpy_o {M : Mem} {a b sp dp n : Nat} (k' : Nat) (h : k' ≠ b) : (cpy M a b sp dp n).1 k' = M.1 k' ∧ (cpy M a b sp dp n).2.1 k' = M.2.1 k' ∧ (cpy M a b sp dp n).2.2 k' = M.2.2 k' := ⟨if_neg h, rfl, rfl⟩
theorem wr_s {M : Mem} {k j : Nat} {v : Int32} : (wr M k j v).1 k = upd (M.1 k) j v := if_pos rfl
theorem wl_s {M : Mem} {k j : Nat} {v : Int64} : (wl M k j v).2.1 k = vp_updL (M.2.1 k) j v := if_pos rfl
theorem wd_s {M : Mem} {k j : Nat} {v : UInt64} : (wd M k j v).2.2 k = vf_upd (M.2.2 k) j v := if_pos rfl
theorem cpy_s {M : Mem} {a b sp dp n : Nat} : (cpy M a b sp dp n).1 b = va_cpy (M.1 a) (M.1 b) sp dp n := if_pos rfl
