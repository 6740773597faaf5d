/-! growth: the world gets the StringBuilder's second or third array -/
def Ext (kd : Nat → Nat × Nat) (ad : Nat → Nat) (kd' : Nat → Nat × Nat) (ad' : Nat → Nat) (sz : Nat) : Prop :=
  (∀ k, (kd k).1 ≠ 0 → kd' k = kd k ∧ ad' k = ad k) ∧ ∀ k, (kd k).1 = 0 → (kd' k).1 ≠ 0 → sz ≤ ad' k
section EXT
variable {kd kd' kd1 kd2 : Nat → Nat × Nat} {ad ad' ad1 ad2 : Nat → Nat} {sz sz' : Nat}
theorem Ext.refl : Ext kd ad kd ad sz := ⟨fun _ _ => ⟨rfl, rfl⟩, fun _ h h' => absurd h h'⟩
theorem Ext.trans (h : Ext kd ad kd1 ad1 sz) (h' : Ext kd1 ad1 kd2 ad2 sz') (hs : sz ≤ sz') : Ext kd ad kd2 ad2 sz := by
  refine ⟨fun k hk => ?_, fun k hk hk2 => ?_⟩
  · obtain ⟨e1, e2⟩ := h.1 k hk
    obtain ⟨e3, e4⟩ := h'.1 k (by rw [e1]; exact hk)
    exact ⟨e3.trans e1, e4.trans e2⟩
  · by_cases h1 : (kd1 k).1 = 0
    · exact Nat.le_trans hs (h'.2 k h1 hk2)
    · rw [(h'.1 k h1).2]; exact h.2 k hk h1
theorem Ext.AS (h : Ext kd ad kd' ad' sz) : AS kd' ad' sz = AS kd ad sz := by
  funext q
  refine propext ⟨fun hq => hq.elim (fun ⟨k, hk, e⟩ => ?_) Or.inr, fun hq => hq.elim (fun ⟨k, hk, e⟩ => ?_) Or.inr⟩
  · by_cases h1 : (kd k).1 = 0
    · exact Or.inr (by rw [e]; exact h.2 k h1 hk)
    · exact Or.inl ⟨k, h1, by rw [e]; exact (h.1 k h1).2⟩
  · obtain ⟨e1, e2⟩ := h.1 k hk
    exact Or.inl ⟨k, by rw [e1]; exact hk, by rw [e, e2]⟩
/-- no cell but the StringBuilder refers to 154 or 155 -/
def lowAt : Nat → Nat → Prop
  | 0, _ => True
  | 1, k => k ≤ 146
  | 2, k => k ≤ 147
  | 3, k => k ≤ 131
  | 4, k => k ≤ 152
  | 5, k => k ≤ 152
  | 6, _ => True
  | 8, k => k = 22
  | 10, _ => True
  | 11, _ => True
  | 12, _ => True
  | 13, _ => True
  | 14, _ => True
  | _, _ => False
def Low (kd : Nat → Nat × Nat) : Prop := ∀ k, k ≠ 133 → lowAt (kd k).1 k
theorem ent_ad {cA : Nat → ClassId} {k : Nat} {r : Nat → Int32} {q : Nat → Int64} {u : Nat → UInt64} (hL : Low kd) (hk : k ≠ 133) (had : ∀ j, j ≠ 154 → j ≠ 155 → ad' j = ad j) : ent ad' cA (kd k) k r q u = ent ad cA (kd k) k r q u := by
  have h := hL k hk
  generalize kd k = c at h
  obtain ⟨c1, c2⟩ := c
  match c1, h with
  | 0, _ => rfl
  | 1, h =>
    have h : k ≤ 146 := h
    show Sum.inr (5, ePart ad' k r) = Sum.inr (5, ePart ad k r)
    unfold ePart
    rw [had (k + 1) (by omega) (by omega), had (k + 2) (by omega) (by omega), had (k + 3) (by omega) (by omega), had (k + 4) (by omega) (by omega), had (k + 5) (by omega) (by omega), had (k + 6) (by omega) (by omega), had (k + 7) (by omega) (by omega)]
  | 2, h =>
    have h : k ≤ 147 := h
    show Sum.inr (6, ePlaces ad' k r) = Sum.inr (6, ePlaces ad k r)
    unfold ePlaces
    rw [had (k + 1) (by omega) (by omega), had (k + 2) (by omega) (by omega), had (k + 3) (by omega) (by omega), had (k + 4) (by omega) (by omega), had (k + 5) (by omega) (by omega), had (k + 6) (by omega) (by omega)]
  | 3, h =>
    have h : k ≤ 131 := h
    show Sum.inr (7, ePlanner ad' k r) = Sum.inr (7, ePlanner ad k r)
    unfold ePlanner
    rw [had (k + 1) (by omega) (by omega), had (k + 2) (by omega) (by omega), had (k + 9) (by omega) (by omega), had (k + 17) (by omega) (by omega), had (k + 18) (by omega) (by omega), had (k + 19) (by omega) (by omega), had (k + 20) (by omega) (by omega), had (k + 21) (by omega) (by omega), had (k + 22) (by omega) (by omega)]
  | 4, h =>
    have h : k ≤ 152 := h
    show Sum.inr (4, eHist ad' k r) = Sum.inr (4, eHist ad k r)
    unfold eHist
    rw [had (k + 1) (by omega) (by omega)]
  | 5, h =>
    have h : k ≤ 152 := h
    show Sum.inr (8, eReader ad' k r) = Sum.inr (8, eReader ad k r)
    unfold eReader
    rw [had (k + 1) (by omega) (by omega), had (if r 2 = 1 then 1 else 4) (by split <;> omega) (by split <;> omega)]
  | 6, _ =>
    show Sum.inr (10, eRoot ad' k r) = Sum.inr (10, eRoot ad k r)
    unfold eRoot
    rw [had 1 (by omega) (by omega), had 2 (by omega) (by omega), had 5 (by omega) (by omega), had 13 (by omega) (by omega), had 21 (by omega) (by omega), had 103 (by omega) (by omega), had 110 (by omega) (by omega), had 133 (by omega) (by omega)]
  | 8, h =>
    have h : k = 22 := h
    subst h
    have e : (fun j => some (ad' (22 + 1 + 8 * j))) = (fun j => some (ad (22 + 1 + 8 * j))) := by
      funext j
      rw [had _ (by omega) (by omega)]
    show (Sum.inl (cA 4, c2, .inr (.inr (.inr (.inr (fun j => some (ad' (22 + 1 + 8 * j))))))) : va_E) = Sum.inl (cA 4, c2, .inr (.inr (.inr (.inr (fun j => some (ad (22 + 1 + 8 * j)))))))
    rw [e]
  | 10, _ => rfl
  | 11, _ => rfl
  | 12, _ => rfl
  | 13, _ => rfl
  | 14, _ => rfl
theorem Low.set (hL : Low kd) {id N : Nat} : Low (setk kd id (11, N)) := fun k hk => by
  by_cases e : k = id
  · subst e; rw [setk_s]; trivial
  · rw [setk_o e]; exact hL k hk
def adx (ad : Nat → Nat) (id a : Nat) : Nat → Nat := fun j => if j = id then a else ad j
theorem adx_s {id a : Nat} : adx ad id a id = a := if_pos rfl
theorem adx_o {id a j : Nat} (h : j ≠ id) : adx ad id a j = ad j := if_neg h
theorem Ext.new {id N a : Nat} (h0 : (kd id).1 = 0) (ha : sz ≤ a) : Ext kd ad (setk kd id (11, N)) (adx ad id a) sz := by
  refine ⟨fun k hk => ?_, fun k hk hk2 => ?_⟩
  · have e : k ≠ id := fun e => hk (by rw [e]; exact h0)
    exact ⟨setk_o e, adx_o e⟩
  · by_cases e : k = id
    · subst e; rw [adx_s]; exact ha
    · rw [setk_o e] at hk2; exact absurd hk hk2
/-- the StringBuilder (number 133) with its level g -/
def Sb (kd : Nat → Nat × Nat) (g : Int32) : Prop := kd 133 = (9, 0) ∧ kd (sbv 133 g) = (11, sbn g) ∧ (g = 0 → (kd 154).1 = 0 ∧ (kd 155).1 = 0) ∧ (g = 1 → (kd 155).1 = 0) ∧ (g = 0 ∨ g = 1 ∨ g = 2)
end EXT
section GRW
variable {p : Program} {l : Launch} {e : Env} {R : Room} {s : State} {m : MethodId} {args : Array Value} {below : List Frame} {meth : Method} {c : Code} {H : Heap} {locs : List Loc} {cells slots : Nat} {Q : State → Prop}
variable {cc : ByteArray} {pc : Nat} {ls : Array Slot} {rest : List Value} {G : GT} {kd : Nat → Nat × Nat} {ad : Nat → Nat} {M : Mem} {H0 : Heap}
theorem g_newb {id N : Nat} (hx : p.tables.exec = Jvm.exec) (hb : c.code = cc) (hw : Cond.arrayClass .byte ∈ WA) (hts : ∀ w ∈ WA, w.before args s = true) (hK : va_K G.1 vwCl (tyL G) s) (hap : Apt kd ad) (hL : Low kd) (hI : Inv G kd ad s.heap M H locs) (hid : id = 154 ∨ id = 155) (h0 : (kd id).1 = 0) (h9 : kd 133 = (9, 0)) (hsb : sbv 133 (M.1 133 0) ≠ id)
    {v : Int32} (hv : v.toNatClampNeg = N ∧ ¬ v < 0) (hbytes : N * 1 ≤ 536870912) (hR : cells + 1 ≤ R.cells ∧ slots + N ≤ R.slots) (hdg : decode cc pc = .ok (.newarray .byte, 2))
    (kk : ∀ (H1 : Heap), s.heap.size ≤ H.size → Inv G (setk kd id (11, N)) (adx ad id H.size) s.heap (zr M id) H1 locs → Apt (setk kd id (11, N)) (adx ad id H.size) → W p l e R s m args below meth c H1 locs (cells + 1) (slots + N) Q (F0 m (pc + 2) ls (.ref (adx ad id H.size id) :: rest))) : W p l e R s m args below meth c H locs cells slots Q (F0 m pc ls (.int v :: rest)) := by
  rw [adx_s] at kk
  refine va_newaK hx hb (show Cond.before (Cond.arrayClass (newarray.typeOf .byte)) args s = true from hts _ hw) rfl hdg rfl hv.2 hv.1 hbytes hR.1 hR.2 rfl fun H1 cA1 e1 z1 o1 hAr hNm => ?_
  have hcA : cA1 = G.2.1 1 := Option.some.inj (hNm.symm.trans (hK.2 1 _ rfl).2)
  subst hcA
  have hsz := hI.2.1
  have hext : Ext kd ad (setk kd id (11, N)) (adx ad id H.size) s.heap.size := Ext.new h0 hsz
  refine kk H1 hsz ⟨fun k hk => ?_, ?_⟩ (fun k k' hk hk' he => ?_)
  · by_cases ek : k = id
    · subst ek
      rw [setk_s, adx_s]
      show H1[H.size]? = some (vp_cell (G.2.1 1) (N, .inl ((zr M k).1 k)))
      rw [zr_s.1, vp_cell_i]
      exact e1
    · rw [setk_o ek] at hk ⊢
      rw [adx_o ek]
      obtain ⟨z1', z2', z3'⟩ := zr_o (M := M) (j := id) k ek
      rw [z1', z2', z3']
      have hat := hI.1 k hk
      have hent : ent (adx ad id H.size) G.2.1 (kd k) k (M.1 k) (M.2.1 k) (M.2.2 k) = ent ad G.2.1 (kd k) k (M.1 k) (M.2.1 k) (M.2.2 k) := by
        by_cases e9 : k = 133
        · subst e9
          rw [h9]
          show Sum.inr (1, eSB (adx ad id H.size) 133 (M.1 133)) = Sum.inr (1, eSB ad 133 (M.1 133))
          unfold eSB
          rw [adx_o hsb]
        · exact ent_ad hL e9 (fun j h1 h2 => adx_o (by rcases hid with rfl | rfl <;> assumption))
      rw [hent]
      exact hat.kept (o1 _ hat.lt)
  · rw [hext.AS]
    exact ⟨Nat.le_trans hI.2.1 (by omega), fun x h1 h2 => (o1 x (Nat.lt_of_lt_of_le h1 hI.2.1)).trans (hI.2.2.1 x h1 h2), hI.2.2.2⟩
  · by_cases ek : k = id
    · by_cases ek' : k' = id
      · rw [ek, ek']
      · rw [setk_o ek'] at hk'
        rw [ek, adx_s, adx_o ek'] at he
        have := hI.1.lt hk'
        omega
    · by_cases ek' : k' = id
      · rw [setk_o ek] at hk
        rw [ek', adx_s, adx_o ek] at he
        have := hI.1.lt hk
        omega
      · rw [setk_o ek] at hk
        rw [setk_o ek'] at hk'
        rw [adx_o ek, adx_o ek'] at he
        exact hap _ _ hk hk' he
end GRW
