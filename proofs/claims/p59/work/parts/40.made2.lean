/-! numbers appended; texts told -/
def d2 (v : Nat) : List Nat := if v < 10 then [48 + v] else [48 + v / 10, 48 + v % 10]
/-- the digits of a number below 10000 -/
def dg (v : Nat) : List Nat := if v < 100 then d2 v else d2 (v / 100) ++ [48 + v % 100 / 10, 48 + v % 10]
theorem d2_len {v : Nat} : (d2 v).length = if v < 10 then 1 else 2 := by unfold d2; split <;> rfl
theorem dg_len {v : Nat} : (dg v).length = if v < 100 then (d2 v).length else (d2 (v / 100)).length + 2 := by
  unfold dg
  split
  · rfl
  · rw [List.length_append]; rfl
theorem dg_b {v : Nat} (h : v < 10000) : 1 ≤ (dg v).length ∧ (dg v).length ≤ 4 := by
  rw [dg_len]
  have h1 : ∀ u, (d2 u).length = 1 ∨ (d2 u).length = 2 := fun u => by rw [d2_len]; split <;> simp
  have a1 := h1 v
  have a2 := h1 (v / 100)
  split <;> omega
theorem d2_7 {v : Nat} (h : v < 100) : As7 (d2 v) := by
  unfold d2 As7
  split
  · intro c hc; rw [List.mem_singleton] at hc; omega
  · intro c hc
    simp only [List.mem_cons, List.not_mem_nil, or_false] at hc
    rcases hc with rfl | rfl <;> omega
theorem dg_7 {v : Nat} (h : v < 10000) : As7 (dg v) := by
  unfold dg
  split
  · exact d2_7 (by omega)
  · refine (d2_7 (by omega)).app ?_
    intro c hc
    simp only [List.mem_cons, List.not_mem_nil, or_false] at hc
    rcases hc with rfl | rfl <;> omega
theorem dg_tab : ∀ v, v < 100 → dgOnes.getD v 0 = Int32.ofNat (48 + v % 10) ∧ dgTens.getD v 0 = Int32.ofNat (48 + v / 10) := by decide +kernel
theorem nar_b : ∀ c, c < 128 → vp_nar .byte (Int32.ofNat c) = Int32.ofNat c := by decide +kernel
theorem o_dec {q : Nat} (h : 1 ≤ q) (h' : q < 100000) : Int32.ofNat q + (-1 : Int32) = Int32.ofNat (q - 1) := by
  have e : ((-1 : Int32)).toInt = -1 := rfl
  rw [i_eq, i_add (by rw [t_of h', e]; omega) (by rw [t_of h', e]; omega), t_of h', t_of (by omega), e]
  omega
theorem o_neg {v : Nat} (h : v < 100000) : (-(Int32.ofNat v)).toInt = -(v : Int) := by rw [i_neg (by rw [t_of h]; omega), t_of h]
theorem o_nn {v : Nat} (h : v < 100000) : -(-(Int32.ofNat v)) = Int32.ofNat v := by rw [i_eq, i_neg (by rw [o_neg h]; omega), o_neg h, t_of h]; omega
theorem o_ok {v n : Nat} (h : v < 100000) (h' : v < n) : okb (Int32.ofNat v) n = true := ok_in (by rw [t_of h]; omega) (by rw [t_of h]; omega)
/-- one or two digits, written down from q -/
def gcM (M : Mem) (a q v : Nat) : Mem := if v < 10 then wr M a (q - 1) (Int32.ofNat (48 + v % 10)) else wr (wr M a (q - 1) (Int32.ofNat (48 + v % 10))) a (q - 2) (Int32.ofNat (48 + v / 10))
theorem gc_1 {a m v q : Nat} {ih : Int32 → Int32 → Int32 → Mem → Option (Mem × Int32)} {M : Mem} (hv : v < 100) (hq : (d2 v).length ≤ q) (hqm : q ≤ m) (hm : m ≤ 402) : Sf (mJ6_getChars_ba4f3_b22 a m ih (-(Int32.ofNat v)) (Int32.ofNat q) 0 M) (fun y => y = (gcM M a q v, Int32.ofNat (q - (d2 v).length))) := by
  rw [d2_len] at hq ⊢
  have q1 : 1 ≤ q := by revert hq; split <;> omega
  have nv := o_neg (v := v) (by omega)
  have e100 : ((-100 : Int32)).toInt = -100 := rfl
  have e9 : ((-9 : Int32)).toInt = -9 := rfl
  unfold mJ6_getChars_ba4f3_b22
  refine Sf.i (fun _ => ?_) (fun h => absurd (i_lt.mpr (by rw [nv, e100]; omega)) h)
  refine Sf.b (fun x hx => ?_)
  rw [o_dec q1 (by omega)] at hx
  subst hx
  rw [o_nn (by omega)]
  refine Sf.k (o_ok (by omega) (by omega)) (Sf.k (o_ok (by omega) (by omega)) (Sf.b (fun M8 h8 => ?_)))
  rw [c_of (by omega), c_of (by omega), (dg_tab v hv).1, nar_b _ (by omega)] at h8
  refine Sf.i (fun h9 => ?_) (fun h9 => ?_)
  · have hv9 : v < 10 := by have := i_le.mp h9; rw [nv, e9] at this; omega
    unfold mJ6_getChars_ba4f3_b104
    refine Sf.i (fun _ => Sf.ok ?_) (fun h => absurd rfl h)
    unfold gcM
    rw [if_pos hv9, if_pos hv9, h8]
  · have hv9 : ¬ v < 10 := fun z => h9 (i_le.mpr (by rw [nv, e9]; omega))
    rw [if_neg hv9] at hq
    refine Sf.b (fun x hx => ?_)
    rw [o_dec (by omega) (by omega)] at hx
    subst hx
    refine Sf.k (o_ok (by omega) (by omega)) (Sf.k (o_ok (by omega) (by omega)) (Sf.b (fun M9 h9' => ?_)))
    rw [c_of (by omega), c_of (by omega), (dg_tab v hv).2, nar_b _ (by omega), h8] at h9'
    unfold mJ6_getChars_ba4f3_b104
    refine Sf.i (fun _ => Sf.ok ?_) (fun h => absurd rfl h)
    unfold gcM
    rw [if_neg hv9, if_neg hv9, h9']
    rfl
theorem gc_v {M : Mem} {a q v : Nat} (hv : v < 100) (hq : (d2 v).length ≤ q) : (∀ j, j ≠ a → Sm M (gcM M a q v) j) ∧ ∀ j, (gcM M a q v).1 a j = if q - (d2 v).length ≤ j ∧ j < q then Int32.ofNat ((d2 v).getD (j - (q - (d2 v).length)) 0) else M.1 a j := by
  by_cases h : v < 10
  · have e2 : d2 v = [48 + v] := by unfold d2; rw [if_pos h]
    have e3 : gcM M a q v = wr M a (q - 1) (Int32.ofNat (48 + v % 10)) := by unfold gcM; rw [if_pos h]
    rw [e2] at hq ⊢
    rw [e3]
    refine ⟨fun j hj => wr_s1 hj, fun j => ?_⟩
    rw [wr_at]
    simp only [List.length_cons, List.length_nil] at *
    by_cases e : j = q - 1
    · rw [if_pos e, if_pos (by omega), show j - (q - (0 + 1)) = 0 by omega, show v % 10 = v by omega]; rfl
    · rw [if_neg e, if_neg (by omega)]
  · have e2 : d2 v = [48 + v / 10, 48 + v % 10] := by unfold d2; rw [if_neg h]
    have e3 : gcM M a q v = wr (wr M a (q - 1) (Int32.ofNat (48 + v % 10))) a (q - 2) (Int32.ofNat (48 + v / 10)) := by unfold gcM; rw [if_neg h]
    rw [e2] at hq ⊢
    rw [e3]
    refine ⟨fun j hj => (wr_s1 hj).trans (wr_s1 hj), fun j => ?_⟩
    rw [wr_at, wr_at]
    simp only [List.length_cons, List.length_nil] at *
    by_cases e : j = q - 2
    · rw [if_pos e, if_pos (by omega), show j - (q - (0 + 1 + 1)) = 0 by omega]; rfl
    · rw [if_neg e]
      by_cases e1 : j = q - 1
      · rw [if_pos e1, if_pos (by omega), show j - (q - (0 + 1 + 1)) = 1 by omega]; rfl
      · rw [if_neg e1, if_neg (by omega)]
theorem gl22 {a m n : Nat} : mJ6_getChars_ba4f3_l22 a m (n + 1) = mJ6_getChars_ba4f3_b22 a m (mJ6_getChars_ba4f3_l22 a m n) := rfl
theorem e_gch {a m v q : Nat} {M : Mem} (hv : v < 10000) (hq : (dg v).length ≤ q) (hqm : q ≤ m) (hm : m ≤ 402) : Sf (mJ6_getChars_ba4f3 a m (Int32.ofNat v) (Int32.ofNat q) M) (fun y => (∀ j, j ≠ a → Sm M y.1 j) ∧ ∀ j, y.1.1 a j = if q - (dg v).length ≤ j ∧ j < q then Int32.ofNat ((dg v).getD (j - (q - (dg v).length)) 0) else M.1 a j) := by
  have hb := dg_b hv
  have nv := o_neg (v := v) (by omega)
  have e100 : ((-100 : Int32)).toInt = -100 := rfl
  have p100 : ((100 : Int32)).toInt = 100 := rfl
  unfold mJ6_getChars_ba4f3
  refine Sf.i (fun _ => ?_) (fun h => absurd (i_le.mpr (by rw [t_of (by omega), Int32.toInt_zero]; omega)) h)
  unfold mJ6_getChars_ba4f3_b12
  refine Sf.i (fun _ => ?_) (fun h => absurd rfl h)
  refine Sf.b (fun x hx => ?_)
  subst hx
  show Sf (mJ6_getChars_ba4f3_l22 a m (4999 + 1) (-(Int32.ofNat v)) (Int32.ofNat q) 0 M) _
  rw [gl22]
  by_cases h1 : v < 100
  · have ed : dg v = d2 v := by unfold dg; rw [if_pos h1]
    rw [ed] at hq ⊢
    refine (gc_1 h1 hq hqm hm).mono (fun y e => ?_)
    subst e
    exact gc_v h1 hq
  · have ed : dg v = d2 (v / 100) ++ [48 + v % 100 / 10, 48 + v % 10] := by unfold dg; rw [if_neg h1]
    have hl : (dg v).length = (d2 (v / 100)).length + 2 := by rw [ed, List.length_append]; rfl
    have hl2 : 1 ≤ (d2 (v / 100)).length := by rw [d2_len]; split <;> omega
    unfold mJ6_getChars_ba4f3_b22
    refine Sf.i (fun h => absurd (i_lt.mp h) (by rw [nv, e100]; omega)) (fun _ => ?_)
    refine Sf.b (fun x3 h3 => ?_)
    have e3 : x3 = -(Int32.ofNat (v / 100)) := by
      rw [h3, i_eq, Int32.toInt_div_of_ne_right _ _ (by decide), nv, o_neg (by omega), p100, Int.neg_tdiv, Int.tdiv_eq_ediv_of_nonneg (by omega)]
      omega
    refine Sf.b (fun x4 h4 => ?_)
    have e4 : x4 = Int32.ofNat (v % 100) := by
      have m1 : (x3 * (100 : Int32)).toInt = -((v / 100 : Nat) : Int) * 100 := by rw [e3]; rw [i_mulr p100 (by rw [o_neg (by omega)]; omega) (by rw [o_neg (by omega)]; omega), o_neg (by omega)]
      rw [h4, i_eq, i_sub (by rw [m1, nv]; omega) (by rw [m1, nv]; omega), m1, nv, t_of (by omega)]
      omega
    refine Sf.b (fun x hx => ?_)
    rw [o_dec (by omega) (by omega)] at hx
    subst hx
    subst e4
    refine Sf.k (o_ok (by omega) (by omega)) (Sf.k (o_ok (by omega) (by omega)) (Sf.b (fun M8 h8 => ?_)))
    rw [c_of (by omega), c_of (by omega), (dg_tab _ (by omega)).1, nar_b _ (by omega)] at h8
    refine Sf.b (fun x hx => ?_)
    rw [o_dec (by omega) (by omega)] at hx
    subst hx
    refine Sf.k (o_ok (by omega) (by omega)) (Sf.k (o_ok (by omega) (by omega)) (Sf.b (fun M9 h9 => ?_)))
    rw [c_of (by omega), c_of (by omega), (dg_tab _ (by omega)).2, nar_b _ (by omega)] at h9
    rw [e3]
    show Sf (mJ6_getChars_ba4f3_l22 a m (4998 + 1) (-(Int32.ofNat (v / 100))) (Int32.ofNat (q - 1 - 1)) 0 M9) _
    rw [gl22]
    have hq2 : (d2 (v / 100)).length ≤ q - 1 - 1 := by omega
    refine (gc_1 (by omega) hq2 (by omega) hm).mono (fun y e => ?_)
    subst e
    obtain ⟨g1, g2⟩ := gc_v (M := M9) (a := a) (q := q - 1 - 1) (v := v / 100) (by omega) hq2
    refine ⟨fun j hj => ?_, fun j => ?_⟩
    · refine Sm.trans ?_ (g1 j hj)
      rw [h9, h8]
      exact (wr_s1 hj).trans (wr_s1 hj)
    · show (gcM M9 a (q - 1 - 1) (v / 100)).1 a j = _
      rw [g2, h9, wr_at, h8, wr_at, hl, ed, getD_app]
      by_cases z1 : j = q - 1
      · rw [if_neg (by omega), if_neg (by omega), if_pos z1, if_pos (by omega), if_neg (by omega), show j - (q - ((d2 (v / 100)).length + 2)) - (d2 (v / 100)).length = 1 by omega, show v % 100 % 10 = v % 10 by omega]
        rfl
      · by_cases z2 : j = q - 1 - 1
        · rw [if_neg (by omega), if_pos z2, if_pos (by omega), if_neg (by omega), show j - (q - ((d2 (v / 100)).length + 2)) - (d2 (v / 100)).length = 0 by omega]
          rfl
        · by_cases z3 : q - 1 - 1 - (d2 (v / 100)).length ≤ j ∧ j < q - 1 - 1
          · rw [if_pos z3, if_pos (by omega), if_pos (by omega), show q - 1 - 1 - (d2 (v / 100)).length = q - ((d2 (v / 100)).length + 2) by omega]
          · rw [if_neg z3, if_neg z2, if_neg z1, if_neg (by omega)]
theorem ss_b {v p x : Nat} {M : Mem} {ih : Int32 → Int32 → Int32 → Int32 → Option Int32} (hv : v < 10000) (hp : p ≤ 10000) (hx : x < 10) : mJ6_stringSize_0f7a4_b16 M ih (-(Int32.ofNat v)) 0 (-(Int32.ofNat p)) (Int32.ofNat x) = if v < p then some (Int32.ofNat x) else ih (-(Int32.ofNat v)) 0 ((10 : Int32) * -(Int32.ofNat p)) (Int32.ofNat x + 1) := by
  have e10 : ((10 : Int32)).toInt = 10 := rfl
  have nv := o_neg (v := v) (by omega)
  have np := o_neg (v := p) (by omega)
  unfold mJ6_stringSize_0f7a4_b16 ite2 bnd
  rw [if_neg (fun h => by have := i_le.mp h; rw [e10, t_of (by omega)] at this; omega)]
  by_cases h : v < p
  · rw [if_pos h, if_neg (fun z => by have := i_le.mp z; rw [nv, np] at this; omega)]
    congr 1
    rw [i_eq, i_add (by rw [t_of (by omega), Int32.toInt_zero]; omega) (by rw [t_of (by omega), Int32.toInt_zero]; omega), Int32.toInt_zero]; omega
  · rw [if_neg h, if_pos (i_le.mpr (by rw [nv, np]; omega))]
theorem ss_n {p : Nat} (hp : p ≤ 1000) : (10 : Int32) * -(Int32.ofNat p) = -(Int32.ofNat (10 * p)) := by
  have e10 : ((10 : Int32)).toInt = 10 := rfl
  have np := o_neg (v := p) (by omega)
  rw [i_eq, i_mulc e10 (by rw [np]; omega) (by rw [np]; omega), np, o_neg (by omega)]
  omega
theorem sl16 {M : Mem} {n : Nat} : mJ6_stringSize_0f7a4_l16 M (n + 1) = mJ6_stringSize_0f7a4_b16 M (mJ6_stringSize_0f7a4_l16 M n) := rfl
theorem e_ss {v : Nat} {M : Mem} (hv : v < 10000) : mJ6_stringSize_0f7a4 (Int32.ofNat v) M = some (Int32.ofNat (dg v).length) := by
  have i1 : ∀ x, x < 10 → Int32.ofNat x + 1 = Int32.ofNat (x + 1) := fun x hx => o_add (b := 1) (by omega)
  unfold mJ6_stringSize_0f7a4 ite2 bnd
  rw [if_neg (fun h => by have := i_lt.mp h; rw [t_of (by omega), Int32.toInt_zero] at this; omega)]
  unfold mJ6_stringSize_0f7a4_b11
  show mJ6_stringSize_0f7a4_l16 M (4999 + 1) (-(Int32.ofNat v)) 0 (-(Int32.ofNat 10)) (Int32.ofNat 1) = _
  rw [sl16, ss_b hv (by omega) (by omega), dg_len, d2_len, d2_len]
  by_cases h1 : v < 10
  · rw [if_pos h1, if_pos (by omega), if_pos h1]
  · rw [if_neg h1, ss_n (by omega), i1 1 (by omega)]
    show mJ6_stringSize_0f7a4_l16 M (4998 + 1) (-(Int32.ofNat v)) 0 (-(Int32.ofNat 100)) (Int32.ofNat 2) = _
    rw [sl16, ss_b hv (by omega) (by omega)]
    by_cases h2 : v < 100
    · rw [if_pos h2, if_pos h2, if_neg h1]
    · rw [if_neg h2, if_neg h2, ss_n (by omega), i1 2 (by omega)]
      show mJ6_stringSize_0f7a4_l16 M (4997 + 1) (-(Int32.ofNat v)) 0 (-(Int32.ofNat 1000)) (Int32.ofNat 3) = _
      rw [sl16, ss_b hv (by omega) (by omega)]
      by_cases h3 : v < 1000
      · rw [if_pos h3, if_pos (by omega)]
      · rw [if_neg h3, if_neg (by omega), ss_n (by omega), i1 3 (by omega)]
        show mJ6_stringSize_0f7a4_l16 M (4996 + 1) (-(Int32.ofNat v)) 0 (-(Int32.ofNat 10000)) (Int32.ofNat 4) = _
        rw [sl16, ss_b hv (by omega) (by omega), if_pos (by omega)]
set_option maxHeartbeats 4000000 in
theorem tJ5_append_i (l : Launch) {G : GT} {kd : Nat → Nat × Nat} {ad : Nat → Nat} {M : Mem} {k a m : Nat} {t : List Nat} (hinj : ∀ i j, ad i = ad j → i = j) (hS : SBx kd M k a m t) (hak : a ≠ k) {v : Nat} (hv : v < 10000) (hq : t.length + (dg v).length ≤ 200) (n : Nat) (hsu : Su ad n) :
    Met l yJ5_append_c97b9 (Cond.code yJ5_append_c97b9 cJ5_append_c97b9 4 (some (.object "java/lang/AbstractStringBuilder")) :: WA) (rmO 5 1 1000) (Pg G kd ad n [.ref (ad k), .int (Int32.ofNat v)] M) (Qs G kd ad n (PA kd ad M k a m t (dg v))) 1 1000 (AS kd ad n) := by
  refine d_body (own := RJ5) (by decide) rfl ?_ (Nat.le_of_ble_eq_true rfl)
  intro p e s m' args below meth c C _ hsz H locs ls hI hl
  subst hsz
  have C0 := C
  obtain ⟨hx, hb, hml, hr, hown, hts, hlk, hK, hap, hsx⟩ := C
  have hl : lv_has ls 4 [(0, .ref (ad k)), (1, .int (Int32.ofNat v))] := hl
  have hb4 := dg_b hv
  refine lv_aload_n hx hb (dc tbJ5_append_c97b9_k 0 rfl) rfl (lv_at hl 0 rfl) ?_
  refine ggSB_3 hx hb hts hown hK hI hS.1.1 q_t2_52 (dc tbJ5_append_c97b9_k 1 rfl) ?_
  refine lv_et (b := Int32.ofNat t.length) hS.2.2.1 ?_
  refine lv_istore_n (lv' := [(2, .int (Int32.ofNat t.length)), (0, .ref (ad k)), (1, .int (Int32.ofNat v))]) hx hb (dc tbJ5_append_c97b9_k 2 rfl) rfl hl (by decide) rfl (fun ls hl => ?_)
  refine lv_iload_n hx hb (dc tbJ5_append_c97b9_k 3 rfl) rfl (lv_at hl 0 rfl) ?_
  refine lv_iload_n hx hb (dc tbJ5_append_c97b9_k 4 rfl) rfl (lv_at hl 2 rfl) ?_
  refine g_callSi hx hb hml hown hts hK hap hsx hI (tJ6_stringSize_0f7a4 l (e_ss hv) H.size) cs_J6_stringSize_0f7a4 q_t4_74 rfl rfl ⟨Nat.le_of_ble_eq_true rfl, Nat.le_of_ble_eq_true rfl⟩ rfl hl.1 rfl (Nat.le_of_ble_eq_true rfl) (dc tbJ5_append_c97b9_k 5 rfl) ⟨Nat.le_of_ble_eq_true rfl, Nat.le_of_ble_eq_true rfl⟩ (fun H locs hI => ?_)
  refine lv_iadd hx hb (dc tbJ5_append_c97b9_k 6 rfl) ?_
  refine lv_et (o_add (by omega)) ?_
  refine lv_istore_n (lv' := [(3, .int (Int32.ofNat (t.length + (dg v).length))), (2, .int (Int32.ofNat t.length)), (0, .ref (ad k)), (1, .int (Int32.ofNat v))]) hx hb (dc tbJ5_append_c97b9_k 7 rfl) rfl hl (by decide) rfl (fun ls hl => ?_)
  refine lv_aload_n hx hb (dc tbJ5_append_c97b9_k 8 rfl) rfl (lv_at hl 2 rfl) ?_
  refine lv_iload_n hx hb (dc tbJ5_append_c97b9_k 9 rfl) rfl (lv_at hl 0 rfl) ?_
  refine d_callU (n := 1) hx hb hml hown hts hK hap hsx hI (tJ5_ensureCapacityInternal_d00df l hinj hS.1 hS.2.1 hS.2.2.2.2.1 hq hS.2.2.2.2.2.2.1 H.size (hsu.le hI.2.1)) q_t3_218 q_t5_115 q_t3_220 q_t1_7 q_t3_221 q_wk_0 (by decide +kernel) rfl rfl ⟨Nat.le_of_ble_eq_true rfl, Nat.le_of_ble_eq_true rfl⟩ hS.1.1 (by simp) rfl rfl rfl hl.1 rfl (Nat.le_of_ble_eq_true rfl) (dc tbJ5_append_c97b9_k 10 rfl) ⟨Nat.le_of_ble_eq_true rfl, Nat.le_of_ble_eq_true rfl⟩ (fun K1 M1 v0 H locs hP hX hI => ?_)
  have hv0 : v0 = none := hP.1
  subst hv0
  obtain ⟨a1, m1, hkS, hak1, hqm, hmm, hKe, hMe, haa⟩ := hS.ens hq hak hP
  have hC := C0.kx hX hinj
  obtain ⟨-, -, -, -, -, -, -, -, hap, hsx⟩ := hC
  refine lv_aload_n hx hb (dc tbJ5_append_c97b9_k 11 rfl) rfl (lv_at hl 2 rfl) ?_
  refine g_callUi (n := 0) hx hb hml hown hts hK hap hsx hI (tJ5_isLatin1_aae02 l hkS.1 (e_lat hkS.2.1) H.size) q_t4_11 q_t4_13 q_t4_12 q_t1_7 q_t4_15 q_t4_14 (by decide +kernel) rfl rfl ⟨Nat.le_of_ble_eq_true rfl, Nat.le_of_ble_eq_true rfl⟩ hkS.1.1 (by simp) rfl rfl rfl hl.1 rfl (Nat.le_of_ble_eq_true rfl) (dc tbJ5_append_c97b9_k 12 rfl) ⟨Nat.le_of_ble_eq_true rfl, Nat.le_of_ble_eq_true rfl⟩ (fun H locs hI => ?_)
  refine lv_if_eq (tgt := 37) hx hb (dc tbJ5_append_c97b9_k 13 rfl) rfl (fun c9 => absurd c9 (by decide)) (fun _ => ?_)
  refine lv_iload_n hx hb (dc tbJ5_append_c97b9_k 14 rfl) rfl (lv_at hl 3 rfl) ?_
  refine lv_iload_n hx hb (dc tbJ5_append_c97b9_k 15 rfl) rfl (lv_at hl 0 rfl) ?_
  refine lv_aload_n hx hb (dc tbJ5_append_c97b9_k 16 rfl) rfl (lv_at hl 2 rfl) ?_
  refine ggSB_0 hx hb hts hown hK hI hkS.1.1 q_t2_49 (dc tbJ5_append_c97b9_k 17 rfl) ?_
  obtain ⟨⟨M2, r2⟩, hg, hg1, hg2⟩ := e_gch (a := a1) (m := m1) (v := v) (q := t.length + (dg v).length) (M := M1) hv (by omega) hqm hkS.2.2.2.2.1
  refine g_callSi hx hb hml hown hts hK hap hsx hI (tJ6_getChars_ba4f3 l hkS.1.2 hg H.size) cs_J6_getChars_ba4f3 q_t4_77 rfl rfl ⟨Nat.le_of_ble_eq_true rfl, Nat.le_of_ble_eq_true rfl⟩ rfl hl.1 rfl (Nat.le_of_ble_eq_true rfl) (dc tbJ5_append_c97b9_k 18 rfl) ⟨Nat.le_of_ble_eq_true rfl, Nat.le_of_ble_eq_true rfl⟩ (fun H locs hI => ?_)
  refine lv_pop hx hb (dc tbJ5_append_c97b9_k 19 rfl) rfl ?_
  refine lv_goto (tgt := 48) hx hb (dc tbJ5_append_c97b9_k 20 rfl) rfl ?_
  refine lv_aload_n hx hb (dc tbJ5_append_c97b9_k 28 rfl) rfl (lv_at hl 2 rfl) ?_
  refine lv_iload_n hx hb (dc tbJ5_append_c97b9_k 29 rfl) rfl (lv_at hl 0 rfl) ?_
  refine gpSB_3 hx hb hts hown hK hap hI hkS.1.1 q_t2_52 (dc tbJ5_append_c97b9_k 30 rfl) rfl (fun H locs hI => ?_)
  refine lv_aload_n hx hb (dc tbJ5_append_c97b9_k 31 rfl) rfl (lv_at hl 2 rfl) ?_
  refine W.widen (k := 1) (n := 1000) (Nat.le_of_ble_eq_true rfl) (Nat.le_of_ble_eq_true rfl) ?_
  refine d_aret hx hb hr (Or.inl ⟨_, rfl⟩) hlk hX hI ⟨rfl, a1, m1, hkS.put hak1 (dg_7 hv) hqm (fun j => ?_) (hg1 k (Ne.symm hak1)), hak1, hmm, hKe, fun j hj hjk hja => ?_, haa⟩ (dc tbJ5_append_c97b9_k 32 rfl)
  · rw [hg2, Nat.add_sub_cancel]
  · have hja : j ≠ a1 := by
      rcases haa with e | e
      · rw [e]; exact hja
      · exact fun e2 => hj (by rw [e2]; exact e)
    exact ((hMe j hj).trans (hg1 j hja)).trans (wr_s1 hjk)
set_option maxHeartbeats 4000000 in
theorem tJ4_append_s (l : Launch) {G : GT} {kd : Nat → Nat × Nat} {ad : Nat → Nat} {M : Mem} {k a m : Nat} {t : List Nat} (hinj : ∀ i j, ad i = ad j → i = j) (hS : SBx kd M k a m t) (hak : a ≠ k) {i0 : Nat} (hi : i0 < 19) (hq : t.length + (stN i0).length ≤ 200) (n : Nat) (hsu : Su ad n) :
    Met l yJ4_append_15ec4 (Cond.code yJ4_append_15ec4 cJ4_append_15ec4 2 (some (.object "java/lang/StringBuilder")) :: WA) (rmO 6 1 1000) (Pg G kd ad n [.ref (ad k), .ref (G.2.2 (100 + i0))] M) (Qs G kd ad n (PA kd ad M k a m t (stN i0))) 1 1000 (AS kd ad n) := by
  refine d_body (own := RJ4) (by decide) rfl ?_ (Nat.le_of_ble_eq_true rfl)
  intro p e s m' args below meth c C _ hsz H locs ls hI hl
  subst hsz
  obtain ⟨hx, hb, hml, hr, hown, hts, hlk, hK, hap, hsx⟩ := C
  have hl : lv_has ls 2 [(0, .ref (ad k)), (1, .ref (G.2.2 (100 + i0)))] := hl
  refine lv_aload_n hx hb (dc tbJ4_append_15ec4_k 0 rfl) rfl (lv_at hl 0 rfl) ?_
  refine lv_aload_n hx hb (dc tbJ4_append_15ec4_k 1 rfl) rfl (lv_at hl 1 rfl) ?_
  refine d_callSU (n := 1) (C := "java/lang/StringBuilder") hx hb hml hown hts hK hap hsx hI (tJ5_append_s l hinj hS hak hi hq H.size (hsu.le hI.2.1)) q_t3_211 q_t5_113 q_t3_212 q_t1_7 q_t3_213 q_t2_61 (by decide +kernel) rfl rfl ⟨Nat.le_of_ble_eq_true rfl, Nat.le_of_ble_eq_true rfl⟩ hS.1.1 (by simp) rfl rfl rfl hl.1 rfl (Nat.le_of_ble_eq_true rfl) (dc tbJ4_append_15ec4_k 2 rfl) ⟨Nat.le_of_ble_eq_true rfl, Nat.le_of_ble_eq_true rfl⟩ (fun K1 M1 v0 H locs hP hX hI => ?_)
  have hv0 := hP.1
  subst hv0
  refine lv_pop hx hb (dc tbJ4_append_15ec4_k 3 rfl) rfl ?_
  refine lv_aload_n hx hb (dc tbJ4_append_15ec4_k 4 rfl) rfl (lv_at hl 0 rfl) ?_
  exact d_aret hx hb hr (Or.inl ⟨_, rfl⟩) hlk hX hI hP (dc tbJ4_append_15ec4_k 5 rfl)
theorem cv_J4_append_15ec4 : cvF RJ4 yJ4_append_15ec4 cJ4_append_15ec4 2 (some (.object "java/lang/StringBuilder")) 1 := ⟨q_t3_208, q_t3_209, q_t1_8, q_t3_210, by decide +kernel⟩
set_option maxHeartbeats 4000000 in
theorem tJ4_append_d (l : Launch) {G : GT} {kd : Nat → Nat × Nat} {ad : Nat → Nat} {M : Mem} {k a m : Nat} {t : List Nat} (hinj : ∀ i j, ad i = ad j → i = j) (hS : SBx kd M k a m t) (hak : a ≠ k) {k2 a2 : Nat} {u : List Nat} (hu : STx kd M k2 a2 u) (ha2 : a2 ≠ a) (ha2k : a2 ≠ k) (hk2k : k2 ≠ k) (hq : t.length + u.length ≤ 200) (n : Nat) (hsu : Su ad n) :
    Met l yJ4_append_15ec4 (Cond.code yJ4_append_15ec4 cJ4_append_15ec4 2 (some (.object "java/lang/StringBuilder")) :: WA) (rmO 6 1 1000) (Pg G kd ad n [.ref (ad k), .ref (ad k2)] M) (Qs G kd ad n (PA kd ad M k a m t u)) 1 1000 (AS kd ad n) := by
  refine d_body (own := RJ4) (by decide) rfl ?_ (Nat.le_of_ble_eq_true rfl)
  intro p e s m' args below meth c C _ hsz H locs ls hI hl
  subst hsz
  obtain ⟨hx, hb, hml, hr, hown, hts, hlk, hK, hap, hsx⟩ := C
  have hl : lv_has ls 2 [(0, .ref (ad k)), (1, .ref (ad k2))] := hl
  refine lv_aload_n hx hb (dc tbJ4_append_15ec4_k 0 rfl) rfl (lv_at hl 0 rfl) ?_
  refine lv_aload_n hx hb (dc tbJ4_append_15ec4_k 1 rfl) rfl (lv_at hl 1 rfl) ?_
  refine d_callSU (n := 1) (C := "java/lang/StringBuilder") hx hb hml hown hts hK hap hsx hI (tJ5_append_d l hinj hS hak hu ha2 ha2k hk2k hq H.size (hsu.le hI.2.1)) q_t3_211 q_t5_113 q_t3_212 q_t1_7 q_t3_213 q_t2_61 (by decide +kernel) rfl rfl ⟨Nat.le_of_ble_eq_true rfl, Nat.le_of_ble_eq_true rfl⟩ hS.1.1 (by simp) rfl rfl rfl hl.1 rfl (Nat.le_of_ble_eq_true rfl) (dc tbJ4_append_15ec4_k 2 rfl) ⟨Nat.le_of_ble_eq_true rfl, Nat.le_of_ble_eq_true rfl⟩ (fun K1 M1 v0 H locs hP hX hI => ?_)
  have hv0 := hP.1
  subst hv0
  refine lv_pop hx hb (dc tbJ4_append_15ec4_k 3 rfl) rfl ?_
  refine lv_aload_n hx hb (dc tbJ4_append_15ec4_k 4 rfl) rfl (lv_at hl 0 rfl) ?_
  exact d_aret hx hb hr (Or.inl ⟨_, rfl⟩) hlk hX hI hP (dc tbJ4_append_15ec4_k 5 rfl)
set_option maxHeartbeats 4000000 in
theorem tJ4_append_i (l : Launch) {G : GT} {kd : Nat → Nat × Nat} {ad : Nat → Nat} {M : Mem} {k a m : Nat} {t : List Nat} (hinj : ∀ i j, ad i = ad j → i = j) (hS : SBx kd M k a m t) (hak : a ≠ k) {v : Nat} (hv : v < 10000) (hq : t.length + (dg v).length ≤ 200) (n : Nat) (hsu : Su ad n) :
    Met l yJ4_append_bf812 (Cond.code yJ4_append_bf812 cJ4_append_bf812 2 (some (.object "java/lang/StringBuilder")) :: WA) (rmO 6 1 1000) (Pg G kd ad n [.ref (ad k), .int (Int32.ofNat v)] M) (Qs G kd ad n (PA kd ad M k a m t (dg v))) 1 1000 (AS kd ad n) := by
  refine d_body (own := RJ4) (by decide) rfl ?_ (Nat.le_of_ble_eq_true rfl)
  intro p e s m' args below meth c C _ hsz H locs ls hI hl
  subst hsz
  obtain ⟨hx, hb, hml, hr, hown, hts, hlk, hK, hap, hsx⟩ := C
  have hl : lv_has ls 2 [(0, .ref (ad k)), (1, .int (Int32.ofNat v))] := hl
  refine lv_aload_n hx hb (dc tbJ4_append_bf812_k 0 rfl) rfl (lv_at hl 0 rfl) ?_
  refine lv_iload_n hx hb (dc tbJ4_append_bf812_k 1 rfl) rfl (lv_at hl 1 rfl) ?_
  refine d_callSU (n := 1) (C := "java/lang/StringBuilder") hx hb hml hown hts hK hap hsx hI (tJ5_append_i l hinj hS hak hv hq H.size (hsu.le hI.2.1)) q_t4_71 q_t5_120 q_t4_72 q_t1_7 q_t4_73 q_t2_61 (by decide +kernel) rfl rfl ⟨Nat.le_of_ble_eq_true rfl, Nat.le_of_ble_eq_true rfl⟩ hS.1.1 (by simp) rfl rfl rfl hl.1 rfl (Nat.le_of_ble_eq_true rfl) (dc tbJ4_append_bf812_k 2 rfl) ⟨Nat.le_of_ble_eq_true rfl, Nat.le_of_ble_eq_true rfl⟩ (fun K1 M1 v0 H locs hP hX hI => ?_)
  have hv0 := hP.1
  subst hv0
  refine lv_pop hx hb (dc tbJ4_append_bf812_k 3 rfl) rfl ?_
  refine lv_aload_n hx hb (dc tbJ4_append_bf812_k 4 rfl) rfl (lv_at hl 0 rfl) ?_
  exact d_aret hx hb hr (Or.inl ⟨_, rfl⟩) hlk hX hI hP (dc tbJ4_append_bf812_k 5 rfl)
theorem cv_J4_append_bf812 : cvF RJ4 yJ4_append_bf812 cJ4_append_bf812 2 (some (.object "java/lang/StringBuilder")) 1 := ⟨q_t4_68, q_t4_69, q_t1_8, q_t4_70, by decide +kernel⟩
