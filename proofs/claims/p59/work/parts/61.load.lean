/-! the law feeds its text, the class loads it -/
section LDx
variable {M M0 : Mem} {u : List Nat} {k a n : Nat}
/-- four letters in an int -/
def pk (c0 c1 c2 c3 : Nat) : Nat := c0 * 16777216 + c1 * 65536 + c2 * 256 + c3
theorem e_or (x c : Nat) (hx : x < 8388608) (hc : c < 256) : (Int32.ofNat x <<< ((8 : Int32) &&& 31)) ||| Int32.ofNat c = Int32.ofNat (x * 256 + c) := by
  rw [← Int32.toBitVec_inj]
  show (BitVec.ofNat 32 x <<< ((8 : BitVec 32) &&& 31).smod 32) ||| BitVec.ofNat 32 c = BitVec.ofNat 32 (x * 256 + c)
  have e8 : ((8 : BitVec 32) &&& 31).smod 32 = 8#32 := by decide
  rw [e8]
  apply BitVec.eq_of_toNat_eq
  rw [BitVec.toNat_or]
  have h1 : (BitVec.ofNat 32 x <<< (8#32)).toNat = x * 256 := by
    show ((BitVec.ofNat 32 x).toNat <<< (8 : Nat)) % 2 ^ 32 = _
    rw [BitVec.toNat_ofNat, Nat.shiftLeft_eq, Nat.mod_eq_of_lt (by omega : x < 2 ^ 32), Nat.mod_eq_of_lt (by omega)]
  rw [h1, BitVec.toNat_ofNat, BitVec.toNat_ofNat, Nat.mod_eq_of_lt (by omega : c < 2 ^ 32), Nat.mod_eq_of_lt (by omega : x * 256 + c < 2 ^ 32)]
  have h2 := Nat.shiftLeft_add_eq_or_of_lt (b := c) (i := 8) (by omega) x
  rw [Nat.shiftLeft_eq] at h2
  exact h2.symm
theorem e_0or (c : Nat) (hc : c < 256) : ((0 : Int32) <<< ((8 : Int32) &&& 31)) ||| Int32.ofNat c = Int32.ofNat c := by
  have h := e_or 0 c (by omega) hc
  rw [Nat.zero_mul, Nat.zero_add] at h
  exact h
/-- a letter of the text, or a space behind it -/
def uc (u : List Nat) (j : Nat) : Nat := if j < u.length then u.getD j 0 else 32
theorem uc_b {u : List Nat} (h : As7 u) (j : Nat) : uc u j < 128 := by
  unfold uc
  split
  · rename_i hj; exact h.at hj
  · decide
theorem e_ch7 : ∀ c, c < 128 → isC ((((Int32.ofNat c) &&& (255 : Int32))).toUInt32 % 65536).toInt32 = true ∧ ((((Int32.ofNat c) &&& (255 : Int32))).toUInt32 % 65536).toInt32 = Int32.ofNat c := by decide +kernel
/-- the text lies there as an object -/
def Ts (u : List Nat) (k a : Nat) (M : Mem) : Prop := rd M k 1 = 0 ∧ As7 u ∧ u.length ≤ 200 ∧ ∀ j, j < u.length → rd M a j = Int32.ofNat (u.getD j 0)
theorem e_tlen (h : Ts u k a M) : mJ0_length_8abf5_ds k a u.length M = some (Int32.ofNat u.length) := by
  unfold mJ0_length_8abf5_ds
  rw [e_cod h.1]
  show some _ = _
  rw [sh_r rfl]
theorem e_tch (h : Ts u k a M) {j : Nat} (hj : j < u.length) : mJ0_charAt_5068e_ds k a u.length (Int32.ofNat j) M = some (Int32.ofNat (u.getD j 0)) := by
  have h2 := h.2.2.1
  have hc := h.2.1.at hj
  obtain ⟨q1, q2⟩ := e_ch7 _ hc
  have e1 : mJ0_isLatin1_aae02_ds k a u.length M = some 1 := by
    unfold mJ0_isLatin1_aae02_ds
    rw [h.1]; rfl
  have e2 : mJ0_checkIndex_df160 (Int32.ofNat j) (Int32.ofNat u.length) M = some () := by
    unfold mJ0_checkIndex_df160 mJ3_checkIndex_8e157 ite2
    rw [if_neg (fun q => by have := i_lt.mp q; rw [t_of (by omega), Int32.toInt_zero] at this; omega), if_pos (i_lt.mpr (by rw [t_of (by omega), t_of (by omega)]; omega))]
    rfl
  have e3 : mJ1_charAt_3b067_ds a u.length (Int32.ofNat j) M = some (Int32.ofNat (u.getD j 0)) := by
    unfold mJ1_charAt_3b067_ds
    rw [e2]
    show chk _ (chk _ _) = _
    rw [chk_t (o_ok (by omega) hj), c_of (by omega), h.2.2.2 j hj, chk_t q1, q2]
  unfold mJ0_charAt_5068e_ds
  rw [e1]
  show ite2 _ _ _ = _
  unfold ite2
  rw [if_neg (by decide), e3]
  show chk _ _ = _
  rw [chk_t (by have := q1; rw [q2] at this; exact this)]
theorem f4_l {n : Nat} : mL_four_ds_l4 k a u.length M (n + 1) = mL_four_ds_b4 k a u.length M (mL_four_ds_l4 k a u.length M n) := rfl
/-- a letter is taken -/
theorem f4_go (h : Ts u k a M) {p i n : Nat} {x : Int32} (hp : p < 1000) (hi : i < 4) : mL_four_ds_l4 k a u.length M (n + 1) (Int32.ofNat p) x (Int32.ofNat (p + i)) = mL_four_ds_l4 k a u.length M n (Int32.ofNat p) ((x <<< ((8 : Int32) &&& 31)) ||| Int32.ofNat (uc u (p + i))) (Int32.ofNat (p + i + 1)) := by
  have h2 := h.2.2.1
  rw [f4_l]
  unfold mL_four_ds_b4
  have e4 : Int32.ofNat p + (4 : Int32) = Int32.ofNat (p + 4) := o_add (b := 4) (by omega)
  have e1 : Int32.ofNat (p + i) + (1 : Int32) = Int32.ofNat (p + i + 1) := o_add (b := 1) (by omega)
  rw [e4, ite_n (fun q => by have := i_le.mp q; rw [t_of (by omega), t_of (by omega)] at this; omega), e_tlen h, cap_e]
  by_cases c : p + i < u.length
  · rw [ite_n (fun q => by have := i_le.mp q; rw [t_of (by omega), t_of (by omega)] at this; omega), e_tch h c, cap_e]
    unfold mL_four_ds_b33
    rw [bnd_e, bnd_e, e1]
    unfold uc
    rw [if_pos c]
  · rw [ite_p (i_le.mpr (by rw [t_of (by omega), t_of (by omega)]; omega))]
    unfold mL_four_ds_b33
    rw [bnd_e, bnd_e, e1]
    unfold uc
    rw [if_neg c]
    rfl
theorem e_four (h : Ts u k a M) {p : Nat} (hp : p < 1000) : mL_four_ds k a u.length (Int32.ofNat p) M = some (Int32.ofNat (pk (uc u p) (uc u (p + 1)) (uc u (p + 2)) (uc u (p + 3)))) := by
  have b0 := uc_b h.2.1 p
  have b1 := uc_b h.2.1 (p + 1)
  have b2 := uc_b h.2.1 (p + 2)
  have b3 := uc_b h.2.1 (p + 3)
  unfold mL_four_ds
  show mL_four_ds_l4 k a u.length M (4999 + 1) (Int32.ofNat p) 0 (Int32.ofNat (p + 0)) = _
  rw [f4_go h hp (i := 0) (by omega)]
  show mL_four_ds_l4 k a u.length M (4998 + 1) (Int32.ofNat p) _ (Int32.ofNat (p + 1)) = _
  rw [f4_go h hp (i := 1) (by omega)]
  show mL_four_ds_l4 k a u.length M (4997 + 1) (Int32.ofNat p) _ (Int32.ofNat (p + 2)) = _
  rw [f4_go h hp (i := 2) (by omega)]
  show mL_four_ds_l4 k a u.length M (4996 + 1) (Int32.ofNat p) _ (Int32.ofNat (p + 3)) = _
  rw [f4_go h hp (i := 3) (by omega)]
  show mL_four_ds_l4 k a u.length M (4995 + 1) (Int32.ofNat p) _ (Int32.ofNat (p + 4)) = _
  rw [f4_l]
  unfold mL_four_ds_b4
  have e4 : Int32.ofNat p + (4 : Int32) = Int32.ofNat (p + 4) := o_add (b := 4) (by omega)
  rw [e4, ite_p (i_le.mpr (Int.le_refl _))]
  show some (((((0 : Int32) <<< ((8 : Int32) &&& 31) ||| Int32.ofNat (uc u p)) <<< ((8 : Int32) &&& 31) ||| Int32.ofNat (uc u (p + 1))) <<< ((8 : Int32) &&& 31) ||| Int32.ofNat (uc u (p + 2))) <<< ((8 : Int32) &&& 31) ||| Int32.ofNat (uc u (p + 3))) = _
  rw [e_0or _ (by omega), e_or _ _ (by omega) (by omega), e_or _ _ (by omega) (by omega), e_or _ _ (by omega) (by omega)]
  unfold pk
  exact congrArg some (congrArg Int32.ofNat (by omega))
/-- a byte of four -/
theorem e_byte {v s c : Nat} (hv : v < 2147483648) (hs : s = 0 ∨ s = 8 ∨ s = 16 ∨ s = 24) (hc : c < 128) (he : v / 2 ^ s % 256 = c) : vp_nar .byte ((Int32.ofNat v >>> (Int32.ofNat s &&& 31)).toInt8.toInt32) = Int32.ofNat c := by
  have hz : (Int32.ofNat v >>> (Int32.ofNat s &&& 31)).toBitVec = (BitVec.ofNat 32 v).sshiftRight s := by
    rcases hs with rfl | rfl | rfl | rfl <;> rfl
  rw [i_eq, cl_byte hz, t_of (by omega), bv_low _ _ (by omega)]
  have h1 : (((BitVec.ofNat 32 v) >>> s).setWidth 8).toNat = c := by
    rw [BitVec.toNat_setWidth, BitVec.toNat_ushiftRight, BitVec.toNat_ofNat, Nat.mod_eq_of_lt (by omega : v < 2 ^ 32), Nat.shiftRight_eq_div_pow]
    exact he
  rw [BitVec.toInt_eq_toNat_of_lt (by rw [h1]; omega), h1]
abbrev SFd (k j : Nat) : Prop := k = 1 ∨ (k = 0 ∧ j = 1)
/-- what the buffer holds -/
def BUF (p : Nat) (f : Nat → Nat) (M : Mem) : Prop := rd M 0 1 = Int32.ofNat p ∧ ∀ j, j < p → rd M 1 j = Int32.ofNat (f j)
theorem ap_l {n : Nat} {x s : Int32} : mX6_append_l3 0 (n + 1) x s M = mX6_append_b3 0 (mX6_append_l3 0 n) x s M := rfl
theorem ap_go {n v s p : Nat} {f : Nat → Nat} (hB : BUF p f M) (hp : p < 600) (hv : v < 2147483648) (hs : s = 0 ∨ s = 8 ∨ s = 16 ∨ s = 24) (hc : f p < 128) (he : v / 2 ^ s % 256 = f p) : ∃ M', BUF (p + 1) f M' ∧ KS SFd M M' ∧ mX6_append_l3 0 (n + 1) (Int32.ofNat v) (Int32.ofNat s) M = mX6_append_l3 0 n (Int32.ofNat v) (Int32.ofNat s + (-8 : Int32)) M' := by
  obtain ⟨b1, b2⟩ := hB
  refine ⟨wr (wr M 1 p (Int32.ofNat (f p))) 0 1 (Int32.ofNat (p + 1)), ⟨rd_we, fun j hj => ?_⟩, (KS.rf.wr (Or.inl rfl)).wr (Or.inr ⟨rfl, rfl⟩), ?_⟩
  · rw [rd_wk (by omega), rd_eq]
    by_cases e : j = p
    · rw [if_pos ⟨rfl, e⟩, e]
    · rw [if_neg (fun q => e q.2)]; exact b2 j (by omega)
  · rw [ap_l]
    unfold mX6_append_b3
    rw [ite_n (fun q => by have := i_lt.mp q; rw [t_of (by omega), Int32.toInt_zero] at this; omega), b1, ite_n (fun q => by have := i_le.mp q; rw [t_of (by omega), show ((600 : Int32)).toInt = 600 from rfl] at this; omega), chk_t (o_ok (by omega) hp), bnd_e, c_of (by omega), e_byte hv hs hc he, bnd_e, rd_wk (by omega), b1, show Int32.ofNat p + (1 : Int32) = Int32.ofNat (p + 1) from o_add (b := 1) (by omega)]
    rfl
theorem e_app {p : Nat} {f : Nat → Nat} (hB : BUF p f M) (hp : p + 4 ≤ 600) (hc : ∀ j, f j < 128) : ∃ M', BUF (p + 4) f M' ∧ KS SFd M M' ∧ mX6_append 0 (Int32.ofNat (pk (f p) (f (p + 1)) (f (p + 2)) (f (p + 3)))) M = some (M', ()) := by
  have c0 := hc p
  have c1 := hc (p + 1)
  have c2 := hc (p + 2)
  have c3 := hc (p + 3)
  have hv : pk (f p) (f (p + 1)) (f (p + 2)) (f (p + 3)) < 2147483648 := by unfold pk; omega
  obtain ⟨M1, B1, k1, e1⟩ := ap_go (n := 4999) (v := pk (f p) (f (p + 1)) (f (p + 2)) (f (p + 3))) (s := 24) hB (by omega) hv (by omega) c0 (by unfold pk; omega)
  obtain ⟨M2, B2, k2, e2⟩ := ap_go (n := 4998) (v := pk (f p) (f (p + 1)) (f (p + 2)) (f (p + 3))) (s := 16) B1 (by omega) hv (by omega) c1 (by unfold pk; omega)
  obtain ⟨M3, B3, k3, e3⟩ := ap_go (n := 4997) (v := pk (f p) (f (p + 1)) (f (p + 2)) (f (p + 3))) (s := 8) B2 (by omega) hv (by omega) c2 (by show _ = f (p + 2); unfold pk; omega)
  obtain ⟨M4, B4, k4, e4⟩ := ap_go (n := 4996) (v := pk (f p) (f (p + 1)) (f (p + 2)) (f (p + 3))) (s := 0) B3 (by omega) hv (by omega) c3 (by show _ = f (p + 3); unfold pk; omega)
  refine ⟨M4, B4, ((k1.trans k2).trans k3).trans k4, ?_⟩
  unfold mX6_append
  rw [show Int32.ofNat 24 + (-8 : Int32) = Int32.ofNat 16 by decide] at e1
  rw [show Int32.ofNat 16 + (-8 : Int32) = Int32.ofNat 8 by decide] at e2
  rw [show Int32.ofNat 8 + (-8 : Int32) = Int32.ofNat 0 by decide] at e3
  rw [show Int32.ofNat 0 + (-8 : Int32) = (-8 : Int32) by decide] at e4
  show mX6_append_l3 0 (4999 + 1) _ (Int32.ofNat 24) M = _
  rw [e1]
  show mX6_append_l3 0 (4998 + 1) _ (Int32.ofNat 16) M1 = _
  rw [e2]
  show mX6_append_l3 0 (4997 + 1) _ (Int32.ofNat 8) M2 = _
  rw [e3]
  show mX6_append_l3 0 (4996 + 1) _ (Int32.ofNat 0) M3 = _
  rw [e4]
  show mX6_append_l3 0 (4995 + 1) _ (-8 : Int32) M4 = _
  rw [ap_l]
  unfold mX6_append_b3
  rw [ite_p (by decide)]
theorem e_feed {p : Nat} {f : Nat → Nat} (hB : BUF p f M) (hp : p + 20 ≤ 600) (hc : ∀ j, f j < 128) : ∃ M' r, BUF (p + 20) f M' ∧ KS SFd M M' ∧ mX6_feed 0 (Int32.ofNat (pk (f p) (f (p + 1)) (f (p + 2)) (f (p + 3)))) (Int32.ofNat (pk (f (p + 4)) (f (p + 5)) (f (p + 6)) (f (p + 7)))) (Int32.ofNat (pk (f (p + 8)) (f (p + 9)) (f (p + 10)) (f (p + 11)))) (Int32.ofNat (pk (f (p + 12)) (f (p + 13)) (f (p + 14)) (f (p + 15)))) (Int32.ofNat (pk (f (p + 16)) (f (p + 17)) (f (p + 18)) (f (p + 19)))) M = some (M', r) := by
  obtain ⟨M1, B1, k1, e1⟩ := e_app hB (by omega) hc
  obtain ⟨M2, B2, k2, e2⟩ := e_app B1 (by omega) hc
  obtain ⟨M3, B3, k3, e3⟩ := e_app B2 (by omega) hc
  obtain ⟨M4, B4, k4, e4⟩ := e_app B3 (by omega) hc
  obtain ⟨M5, B5, k5, e5⟩ := e_app B4 (by omega) hc
  refine ⟨M5, rd M5 0 1, B5, (((k1.trans k2).trans k3).trans k4).trans k5, ?_⟩
  unfold mX6_feed
  rw [hB.1, ite_p (i_le.mpr (by rw [show Int32.ofNat p + (20 : Int32) = Int32.ofNat (p + 20) from o_add (b := 20) (by omega), t_of (by omega), show ((600 : Int32)).toInt = 600 from rfl]; omega)), e1, cal_e, e2, cal_e, e3, cal_e, e4, cal_e, e5, cal_e]
theorem Ts.ks {M' : Mem} (h : Ts u k a M) (hk : KS SFd M M') (h1 : 2 ≤ k) (h2 : 2 ≤ a) : Ts u k a M' := ⟨(hk k 1 (fun q => by rcases q with q | q <;> omega)).trans h.1, h.2.1, h.2.2.1, fun j hj => (hk a j (fun q => by rcases q with q | q <;> omega)).trans (h.2.2.2 j hj)⟩
theorem ld_l2 {n : Nat} {x : Int32} : mL_load_ds_l2 0 k a u.length (n + 1) x M = mL_load_ds_b2 0 k a u.length (mL_load_ds_l2 0 k a u.length n) x M := rfl
/-- all is fed, then loaded -/
theorem e_feeds (h1 : 2 ≤ k) (h2 : 2 ≤ a) : ∀ (r i n : Nat) (M : Mem), OKb (fT (sB sP)) M → Ts u k a M → BUF (20 * i) (uc u) M → u.length ≤ 20 * (i + r) → 20 * i < u.length + 20 → r < n → ∃ M' p, u.length ≤ p ∧ p ≤ 220 ∧ BUF p (uc u) M' ∧ KS SFd M M' ∧ OKb (fT (sB sP)) M' ∧ mL_load_ds_l2 0 k a u.length n (Int32.ofNat (20 * i)) M = calx (mX6_load 0 (Int32.ofNat u.length) M') (fun M10 r9 => some (M10, Sum.inl r9)) := by
  intro r
  induction r with
  | zero =>
    intro i n M hO hT hB hl hi hn
    have h9 := hT.2.2.1
    obtain ⟨n, rfl⟩ : ∃ n', n = n' + 1 := ⟨n - 1, by omega⟩
    refine ⟨M, 20 * i, by omega, by omega, hB, KS.rf, hO, ?_⟩
    rw [ld_l2]
    unfold mL_load_ds_b2
    rw [e_tlen hT, cap_e, ite_p (i_le.mpr (by rw [t_of (by omega), t_of (by omega)]; omega)), cap_e]
  | succ r IH =>
    intro i n M hO hT hB hl hi hn
    have h9 := hT.2.2.1
    obtain ⟨n, rfl⟩ : ∃ n', n = n' + 1 := ⟨n - 1, by omega⟩
    by_cases c : u.length ≤ 20 * i
    · refine ⟨M, 20 * i, by omega, by omega, hB, KS.rf, hO, ?_⟩
      rw [ld_l2]
      unfold mL_load_ds_b2
      rw [e_tlen hT, cap_e, ite_p (i_le.mpr (by rw [t_of (by omega), t_of (by omega)]; omega)), cap_e]
    · obtain ⟨M1, r1, B1, k1, e1⟩ := e_feed hB (by omega) (uc_b hT.2.1)
      have hO1 : OKb (fT (sB sP)) M1 := by
        obtain ⟨y, ey, hy, -⟩ := sX6_feed_ex (s := sP) (x1 := Int32.ofNat (pk (uc u (20 * i)) (uc u (20 * i + 1)) (uc u (20 * i + 2)) (uc u (20 * i + 3)))) (x2 := Int32.ofNat (pk (uc u (20 * i + 4)) (uc u (20 * i + 5)) (uc u (20 * i + 6)) (uc u (20 * i + 7)))) (x3 := Int32.ofNat (pk (uc u (20 * i + 8)) (uc u (20 * i + 9)) (uc u (20 * i + 10)) (uc u (20 * i + 11)))) (x4 := Int32.ofNat (pk (uc u (20 * i + 12)) (uc u (20 * i + 13)) (uc u (20 * i + 14)) (uc u (20 * i + 15)))) (x5 := Int32.ofNat (pk (uc u (20 * i + 16)) (uc u (20 * i + 17)) (uc u (20 * i + 18)) (uc u (20 * i + 19)))) hO
        have hq := ey.symm.trans e1
        injection hq with hq
        rw [hq] at hy; exact hy
      obtain ⟨M2, p, p1, p2, B2, k2, o2, e2⟩ := IH (i + 1) n M1 hO1 (hT.ks k1 h1 h2) (by rw [show 20 * (i + 1) = 20 * i + 20 by omega]; exact B1) (by omega) (by omega) (by omega)
      refine ⟨M2, p, p1, p2, B2, k1.trans k2, o2, ?_⟩
      rw [ld_l2]
      unfold mL_load_ds_b2
      have a4 : Int32.ofNat (20 * i) + (4 : Int32) = Int32.ofNat (20 * i + 4) := o_add (b := 4) (by omega)
      have a8 : Int32.ofNat (20 * i) + (8 : Int32) = Int32.ofNat (20 * i + 8) := o_add (b := 8) (by omega)
      have a12 : Int32.ofNat (20 * i) + (12 : Int32) = Int32.ofNat (20 * i + 12) := o_add (b := 12) (by omega)
      have a16 : Int32.ofNat (20 * i) + (16 : Int32) = Int32.ofNat (20 * i + 16) := o_add (b := 16) (by omega)
      have a20 : Int32.ofNat (20 * i) + (20 : Int32) = Int32.ofNat (20 * (i + 1)) := (o_add (b := 20) (by omega)).trans (by rw [show 20 * i + 20 = 20 * (i + 1) by omega])
      rw [e_tlen hT, cap_e, ite_n (fun q => by have := i_le.mp q; rw [t_of (by omega), t_of (by omega)] at this; omega), a4, a8, a12, a16, e_four hT (by omega), cap_e, e_four hT (by omega), cap_e, e_four hT (by omega), cap_e, e_four hT (by omega), cap_e, e_four hT (by omega), cap_e, e1, cal_e, bnd_e, a20]
      exact e2
end LDx
