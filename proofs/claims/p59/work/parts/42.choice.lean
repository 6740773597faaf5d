/-! the choices of the law, the text that it makes -/
theorem e_among {x : Int32} {m : Nat} {M : Mem} (hm : m = 3 ∨ m = 4 ∨ m = 5 ∨ m = 9 ∨ m = 30 ∨ m = 60) : ∃ c, c < m ∧ mL_among x (Int32.ofNat m) M = some (Int32.ofNat c) := by
  have ht : (Int32.ofNat m).toInt = (m : Int) := t_of (by omega)
  have hr := i_rng x
  have hd : (x / Int32.ofNat m).toInt = x.toInt.tdiv m := by
    rw [Int32.toInt_div_of_ne_right _ _ (fun e => by have := congrArg Int32.toInt e; rw [ht] at this; have e1 : ((-1 : Int32)).toInt = -1 := rfl; rw [e1] at this; omega), ht]
  have key : -2147483648 ≤ x.toInt.tdiv m * (m : Int) ∧ x.toInt.tdiv m * (m : Int) ≤ 2147483647 ∧ -(m : Int) < x.toInt - x.toInt.tdiv m * (m : Int) ∧ x.toInt - x.toInt.tdiv m * (m : Int) < m := by
    generalize x.toInt = z at hr ⊢
    by_cases h0 : 0 ≤ z
    · rw [Int.tdiv_eq_ediv_of_nonneg h0]
      rcases hm with rfl | rfl | rfl | rfl | rfl | rfl <;> omega
    · obtain ⟨y, rfl⟩ : ∃ y : Int, z = -y := ⟨-z, by omega⟩
      rw [Int.neg_tdiv, Int.tdiv_eq_ediv_of_nonneg (by omega)]
      rcases hm with rfl | rfl | rfl | rfl | rfl | rfl <;> omega
  obtain ⟨k1, k2, k3, k4⟩ := key
  have hp : (x / Int32.ofNat m * Int32.ofNat m).toInt = x.toInt.tdiv m * (m : Int) := i_mul (by rw [hd, ht]) k1 k2
  have hs : (x - x / Int32.ofNat m * Int32.ofNat m).toInt = x.toInt - x.toInt.tdiv m * (m : Int) := by
    rw [i_sub (by rw [hp]; omega) (by rw [hp]; omega), hp]
  have hz : nzb (Int32.ofNat m) = true := by
    unfold nzb
    rw [decide_eq_false (fun e => by have := congrArg Int32.toInt e; rw [ht, Int32.toInt_zero] at this; omega)]
    rfl
  unfold mL_among chk
  rw [if_pos hz]
  show ∃ c, c < m ∧ ite2 _ _ _ = _
  generalize x - x / Int32.ofNat m * Int32.ofNat m = q at hs ⊢
  unfold ite2
  by_cases hq : 0 ≤ q
  · rw [if_pos hq]
    have h1 := i_le.mp hq
    rw [Int32.toInt_zero] at h1
    exact ⟨q.toInt.toNat, by omega, congrArg some (i_eq.mpr (by rw [t_of (by omega)]; omega))⟩
  · rw [if_neg hq]
    have h1 : q.toInt < 0 := by have := i_nle hq; rwa [Int32.toInt_zero] at this
    have h2 : (q + Int32.ofNat m).toInt = q.toInt + m := by rw [i_add (by rw [ht]; omega) (by rw [ht]; omega), ht]
    exact ⟨(q.toInt + m).toNat, by omega, congrArg some (i_eq.mpr (by rw [h2, t_of (by omega)]; omega))⟩
set_option maxHeartbeats 4000000 in
theorem tL_cell (l : Launch) {G : GT} {kd : Nat → Nat × Nat} {ad : Nat → Nat} {M : Mem} {i : Nat} (hi : i < 1000) (hL : G.2.2 401 < 100000) (n : Nat) : Met l yL_cell (Cond.code yL_cell cL_cell 2 (some .int) :: WA) (rmO 0 0 0) (Pg G kd ad n [.ref (G.2.2 400), .int (Int32.ofNat i)] M) (Qs G kd ad n (fun K' M' r => K' = kd ∧ M' = M ∧ ∃ c, r = some (.int c))) 0 0 (AS kd ad n) := by
  refine d_body (own := RL) (by decide) rfl ?_ (Nat.le_of_ble_eq_true rfl)
  intro p e s m args below meth c C _ hsz H locs ls hI hl
  subst hsz
  obtain ⟨hx, hb, hml, hr, hown, hts, hlk, hK, hap, hsx⟩ := C
  have hl : lv_has ls 2 [(0, .ref (G.2.2 400)), (1, .int (Int32.ofNat i))] := hl
  have hT := hsx.2.2.2.1.2.2.2.2.2.2.2.2.2
  refine lv_iload_n hx hb (dc tbL_cell_k 0 rfl) rfl (lv_at hl 1 rfl) ?_
  refine lv_aload_n hx hb (dc tbL_cell_k 1 rfl) rfl (lv_at hl 0 rfl) ?_
  refine va_tlen hx hb hT hI.2 (v := Int32.ofNat (G.2.2 401)) rfl (dc tbL_cell_k 2 rfl) ?_
  refine lv_icmp_ge (tgt := 12) hx hb (dc tbL_cell_k 3 rfl) rfl (fun c9 => ?_) (fun c9 => ?_)
  · refine lv_sipush (v := 7919) hx hb (dc tbL_cell_k 8 rfl) (by decide) ?_
    refine lv_iload_n hx hb (dc tbL_cell_k 9 rfl) rfl (lv_at hl 1 rfl) ?_
    refine lv_sipush (v := 1000) hx hb (dc tbL_cell_k 10 rfl) (by decide) ?_
    refine lv_irem hx hb (dc tbL_cell_k 11 rfl) (by decide) ?_
    refine lv_imul hx hb (dc tbL_cell_k 12 rfl) ?_
    refine lv_iconst (v := 5) hx hb (dc tbL_cell_k 13 rfl) (by decide) ?_
    refine lv_iadd hx hb (dc tbL_cell_k 14 rfl) ?_
    exact d_iret hx hb hr hlk Kx.rf hI ⟨rfl, rfl, _, rfl⟩ (dc tbL_cell_k 15 rfl)
  · have hlt : i < G.2.2 401 := by
      have := i_nle c9
      rw [t_of (by omega), t_of hL] at this
      omega
    refine lv_aload_n hx hb (dc tbL_cell_k 4 rfl) rfl (lv_at hl 0 rfl) ?_
    refine lv_iload_n hx hb (dc tbL_cell_k 5 rfl) rfl (lv_at hl 1 rfl) ?_
    refine va_ti hx hb hT hI.2 (okb_in (o_ok (by omega) hlt)) rfl (dc tbL_cell_k 6 rfl) ?_
    refine lv_goto (tgt := 23) hx hb (dc tbL_cell_k 7 rfl) rfl ?_
    exact d_iret hx hb hr hlk Kx.rf hI ⟨rfl, rfl, _, rfl⟩ (dc tbL_cell_k 15 rfl)
theorem cs_L_cell : csF yL_cell cL_cell 2 (some .int) 2 := ⟨q_t3_196, q_t1_0, q_t3_197, (by decide +kernel)⟩
abbrev PH (kd : Nat → Nat × Nat) (M : Mem) (k0 i m : Nat) : PS := fun K' M' r => K' = kd ∧ M' = wr M k0 1 (Int32.ofNat (i + 1)) ∧ ∃ c, c < m ∧ r = some (.int (Int32.ofNat c))
set_option maxHeartbeats 4000000 in
theorem tL_chosen (l : Launch) {G : GT} {kd : Nat → Nat × Nat} {ad : Nat → Nat} {M : Mem} {k0 i m : Nat} (hk : kLaw (G.2.2 400) kd k0) (hL : G.2.2 401 < 100000) (hm : m = 3 ∨ m = 4 ∨ m = 5 ∨ m = 9 ∨ m = 30 ∨ m = 60) (hi : i < 900) (hat : M.1 k0 1 = Int32.ofNat i) (n : Nat) : Met l yL_chosen (Cond.code yL_chosen cL_chosen 3 (some .int) :: WA) (rmO 1 0 0) (Pg G kd ad n [.ref (ad k0), .int (Int32.ofNat m)] M) (Qs G kd ad n (PH kd M k0 i m)) 0 0 (AS kd ad n) := by
  refine d_body (own := RL) (by decide) rfl ?_ (Nat.le_of_ble_eq_true rfl)
  intro p e s m' args below meth c C _ hsz H locs ls hI hl
  subst hsz
  obtain ⟨hx, hb, hml, hr, hown, hts, hlk, hK, hap, hsx⟩ := C
  have hl : lv_has ls 3 [(0, .ref (ad k0)), (1, .int (Int32.ofNat m))] := hl
  refine lv_aload_n hx hb (dc tbL_chosen_k 0 rfl) rfl (lv_at hl 0 rfl) ?_
  refine ggL_0 hx hb hts hown hK hI hk.1 q_t2_191 (dc tbL_chosen_k 1 rfl) ?_
  refine lv_aload_n hx hb (dc tbL_chosen_k 2 rfl) rfl (lv_at hl 0 rfl) ?_
  refine ggL_1 hx hb hts hown hK hI hk.1 q_t2_192 (dc tbL_chosen_k 3 rfl) ?_
  refine lv_et (b := Int32.ofNat i) hat ?_
  refine d_callS (n := 2) hx hb hml hown hts hK hap hsx hI (tL_cell l (by omega) hL H.size) cs_L_cell q_t3_195 rfl rfl ⟨Nat.le_of_ble_eq_true rfl, Nat.le_of_ble_eq_true rfl⟩ rfl hl.1 rfl (Nat.le_of_ble_eq_true rfl) (dc tbL_chosen_k 4 rfl) ⟨Nat.le_of_ble_eq_true rfl, Nat.le_of_ble_eq_true rfl⟩ (fun K1 M1 v H locs hP hX hI9 => ?_)
  obtain ⟨rfl, rfl, x, rfl⟩ := hP
  have hI := hI9
  refine lv_iload_n hx hb (dc tbL_chosen_k 5 rfl) rfl (lv_at hl 1 rfl) ?_
  obtain ⟨y, hy, hf⟩ := e_among (x := x) (M := M1) hm
  refine g_callSi hx hb hml hown hts hK hap hsx hI (tL_among l hf H.size) cs_L_among q_t3_198 rfl rfl ⟨Nat.le_of_ble_eq_true rfl, Nat.le_of_ble_eq_true rfl⟩ rfl hl.1 rfl (Nat.le_of_ble_eq_true rfl) (dc tbL_chosen_k 6 rfl) ⟨Nat.le_of_ble_eq_true rfl, Nat.le_of_ble_eq_true rfl⟩ (fun H locs hI => ?_)
  refine lv_istore_n (lv' := [(2, .int (Int32.ofNat y)), (0, .ref (ad k0)), (1, .int (Int32.ofNat m))]) hx hb (dc tbL_chosen_k 7 rfl) rfl hl (by decide) rfl (fun ls hl => ?_)
  refine lv_aload_n hx hb (dc tbL_chosen_k 8 rfl) rfl (lv_at hl 1 rfl) ?_
  refine lv_dup hx hb (dc tbL_chosen_k 9 rfl) rfl ?_
  refine ggL_1 hx hb hts hown hK hI hk.1 q_t2_192 (dc tbL_chosen_k 10 rfl) ?_
  refine lv_et (b := Int32.ofNat i) hat ?_
  refine lv_iconst (v := 1) hx hb (dc tbL_chosen_k 11 rfl) (by decide) ?_
  refine lv_iadd hx hb (dc tbL_chosen_k 12 rfl) ?_
  refine lv_et (b := Int32.ofNat (i + 1)) (o_add (b := 1) (by omega)) ?_
  refine gpL_1 hx hb hts hown hK hap hI hk.1 q_t2_192 (dc tbL_chosen_k 13 rfl) rfl (fun H locs hI => ?_)
  refine lv_iload_n hx hb (dc tbL_chosen_k 14 rfl) rfl (lv_at hl 0 rfl) ?_
  exact d_iret hx hb hr hlk Kx.rf hI ⟨rfl, rfl, y, hy, rfl⟩ (dc tbL_chosen_k 15 rfl)
theorem cv_L_chosen : cvF RL yL_chosen cL_chosen 3 (some .int) 1 := ⟨q_t3_193, q_s1_12, q_t1_0, q_t3_194, (by decide +kernel)⟩
