/-! the text that is written: the StringBuilder and the reference's chars -/
def byc (M : Mem) (i : Nat) : Int32 := rd M (sbv 133 (rd M 133 0)) i
def SBk (k _ : Nat) : Prop := 133 ≤ k
def SWr (k j : Nat) : Prop := k = 151 ∨ (k = 135 ∧ j = 30)
/-- what holds of the builder -/
def BI (M : Mem) (n : Nat) : Prop := rd M 133 1 = 0 ∧ (rd M 133 3).toInt = (n : Int) ∧ n ≤ sbn (rd M 133 0)
/-- the class adds these, the reference -/
def AC (M : Mem) (n : Nat) (cs : List Int32) (M' : Mem) : Prop := KS SBk M M' ∧ (∀ j, rl M' 129 j = rl M 129 j) ∧ BI M' (n + cs.length) ∧ (∀ i, i < n → byc M' i = byc M i) ∧ ∀ i, i < cs.length → byc M' (n + i) = cs.getD i 0
def PC2 (N : Mem) (n : Nat) (cs : List Int32) (N' : Mem) : Prop := KS SWr N N' ∧ (rd N' 135 30).toInt = ((n + cs.length : Nat) : Int) ∧ (∀ i, i < n → rd N' 151 i = rd N 151 i) ∧ ∀ i, i < cs.length → rd N' 151 (n + i) = cs.getD i 0
/-- the texts are alike -/
def TX (M N : Mem) (n : Nat) : Prop := BI M n ∧ (rd N 135 30).toInt = (n : Int) ∧ ∀ i, i < n → byc M i = rd N 151 i ∧ 0 ≤ (rd N 151 i).toInt ∧ (rd N 151 i).toInt ≤ 127
/-- all of these are chars of seven bits -/
def RGL (cs : List Int32) : Prop := ∀ i, i < cs.length → 0 ≤ (cs.getD i 0).toInt ∧ (cs.getD i 0).toInt ≤ 127
section TXS
variable {M M' M'' N N' N'' : Mem} {n m k : Nat} {cs ds : List Int32} {x x1 v : Int32}
theorem TX.app (h : TX M N n) (a : AC M n cs M') (p : PC2 N n cs N') (hr : RGL cs) : TX M' N' (n + cs.length) := by
  refine ⟨a.2.2.1, p.2.1, fun i hi => ?_⟩
  by_cases q : i < n
  · rw [a.2.2.2.1 i q, p.2.2.1 i q]; exact h.2.2 i q
  · have e : i = n + (i - n) := by omega
    rw [e, a.2.2.2.2 (i - n) (by omega), p.2.2.2 (i - n) (by omega)]
    exact ⟨rfl, hr (i - n) (by omega)⟩
theorem AC.trans (a : AC M n cs M') (b : AC M' (n + cs.length) ds M'') : AC M n (cs ++ ds) M'' := by
  refine ⟨a.1.trans b.1, fun j => (b.2.1 j).trans (a.2.1 j), ?_, fun i hi => ?_, fun i hi => ?_⟩
  · rw [List.length_append, ← Nat.add_assoc]; exact b.2.2.1
  · rw [b.2.2.2.1 i (by omega)]; exact a.2.2.2.1 i hi
  · rw [List.length_append] at hi
    by_cases q : i < cs.length
    · rw [b.2.2.2.1 (n + i) (by omega), a.2.2.2.2 i q, List.getD_eq_getElem?_getD, List.getD_eq_getElem?_getD, List.getElem?_append_left q]
    · have := b.2.2.2.2 (i - cs.length) (by omega)
      rw [show n + cs.length + (i - cs.length) = n + i by omega] at this
      rw [this, List.getD_eq_getElem?_getD, List.getD_eq_getElem?_getD, List.getElem?_append_right (by omega)]
theorem PC2.trans (a : PC2 N n cs N') (b : PC2 N' (n + cs.length) ds N'') : PC2 N n (cs ++ ds) N'' := by
  refine ⟨a.1.trans b.1, ?_, fun i hi => ?_, fun i hi => ?_⟩
  · rw [List.length_append, ← Nat.add_assoc]; exact b.2.1
  · rw [b.2.2.1 i (by omega)]; exact a.2.2.1 i hi
  · rw [List.length_append] at hi
    by_cases q : i < cs.length
    · rw [b.2.2.1 (n + i) (by omega), a.2.2.2 i q, List.getD_eq_getElem?_getD, List.getD_eq_getElem?_getD, List.getElem?_append_left q]
    · have := b.2.2.2 (i - cs.length) (by omega)
      rw [show n + cs.length + (i - cs.length) = n + i by omega] at this
      rw [this, List.getD_eq_getElem?_getD, List.getD_eq_getElem?_getD, List.getElem?_append_right (by omega)]
/-- room: the same text -/
theorem pc_ens (h : BI M n) : Pc (mJ5_ensureCapacityInternal_d00df x1 M) (fun q => KS SBk M q.1 ∧ (∀ j, rl q.1 129 j = rl M 129 j) ∧ BI q.1 n ∧ ∀ i, i < n → byc q.1 i = byc M i) := by
  unfold mJ5_ensureCapacityInternal_d00df
  refine Pc.b (fun x2 _ => Pc.i (fun _ => Pc.ok ⟨KS.rf, fun _ => rfl, h, fun _ _ => rfl⟩) (fun _ => Pc.c (Pc.self _) (fun r6 _ => Pc.k (fun ck => Pc.b (fun M9 e9 => Pc.ok ?_)))))
  rw [Bool.and_eq_true] at ck
  have lv : rd M 133 0 = 0 ∨ rd M 133 0 = 1 := of_decide_eq_true ck.1
  have ids : ∃ a b, sbv 133 (rd M 133 0) = a ∧ sbv 133 (rd M 133 0 + 1) = b ∧ a ≠ b ∧ 133 < a ∧ 133 < b ∧ sbn (rd M 133 0) ≤ sbn (rd M 133 0 + 1) := by
    rcases lv with e | e
    · rw [e]; exact ⟨134, 154, by decide, by decide, by decide, by decide, by decide, by decide⟩
    · rw [e]; exact ⟨154, 155, by decide, by decide, by decide, by decide, by decide, by decide⟩
  obtain ⟨a, b, ea, eb, hab, ha, hb, hn⟩ := ids
  rw [ea, eb] at e9
  have z1 : ∀ c j, c ≠ b → rd (zr M b) c j = rd M c j := fun c j hc => by
    show (if c = b then fun _ => (0 : Int32) else M.1 c) j = M.1 c j
    rw [if_neg hc]
  have r0 : rd M9 133 0 = rd M 133 0 + 1 := by rw [e9]; exact rd_we
  have oth : ∀ c j, c ≠ b → ¬ (c = 133 ∧ j = 0) → rd M9 c j = rd M c j := fun c j hc h0 => by
    rw [e9]
    by_cases q : c = 133
    · subst q
      rw [rd_wj (fun z => h0 ⟨rfl, z⟩), rd_cpk hc, z1 _ _ hc]
    · rw [rd_wk q, rd_cpk hc, z1 _ _ hc]
  refine ⟨fun c j hs => ?_, fun j => ?_, ⟨?_, ?_, ?_⟩, fun i hi => ?_⟩
  · have hc : c < 133 := Nat.lt_of_not_le hs
    exact oth c j (by omega) (by omega)
  · show rl M9 129 j = rl M 129 j
    rw [e9]
    have e : b ≠ 129 := by omega
    show (if 129 = b then fun _ => (0 : Int64) else M.2.1 129) j = M.2.1 129 j
    rw [if_neg (fun z => e z.symm)]
  · show rd M9 133 1 = 0
    rw [oth _ _ (by omega) (by omega)]; exact h.1
  · show (rd M9 133 3).toInt = _
    rw [oth _ _ (by omega) (by omega)]; exact h.2.1
  · show n ≤ sbn (rd M9 133 0)
    rw [r0]; exact Nat.le_trans h.2.2 hn
  · show rd M9 (sbv 133 (rd M9 133 0)) i = rd M (sbv 133 (rd M 133 0)) i
    rw [r0, eb, ea, e9, rd_wk (by omega), rd_cpe (Nat.lt_of_lt_of_le hi h.2.2), z1 _ _ hab]
theorem pc_lat (h : rd M 133 1 = 0) : Pc (mJ5_isLatin1_aae02 M) (fun r => r = 1) := by
  unfold mJ5_isLatin1_aae02
  rw [h]
  exact Pc.i (fun z => absurd z (by decide)) (fun _ => Pc.i (fun _ => Pc.ok rfl) (fun z => absurd rfl z))
theorem sbv_ge {v : Int32} : 133 < sbv 133 v := by
  unfold sbv
  split
  · omega
  · split <;> omega
theorem sbn70 {v : Int32} : sbn v ≤ 70 := by
  unfold sbn
  split
  · omega
  · split <;> omega
/-- a char -/
theorem pc_appC (h : BI M n) (hx : vp_nar .byte x1.toInt8.toInt32 = x1 ∧ ¬ (255 : Int32) < x1) : Pc (mJ4_append_cf468 x1 M) (fun q => AC M n [x1] q.1) := by
  unfold mJ4_append_cf468
  refine Pc.m (Q := fun q => AC M n [x1] q.1) ?_ (fun M3 _ p => Pc.ok p)
  unfold mJ5_append_3fe6f
  refine Pc.m (pc_ens h) (fun M3 _ p => ?_)
  obtain ⟨k3, l3, b3, y3⟩ := p
  have b3 : BI M3 n := b3
  refine Pc.c (pc_lat b3.1) (fun r5 e5 => Pc.i (fun z => absurd (e5 ▸ z) (by decide)) (fun _ => ?_))
  refine Pc.c (Q := fun r => r = 1) ?_ (fun r17 e17 => Pc.i (fun z => absurd (e17 ▸ z) (by decide)) (fun _ => ?_))
  · unfold mJ1_canEncode_fc78d
    exact Pc.i (fun z => absurd z hx.2) (fun _ => Pc.ok rfl)
  refine Pc.b (fun M21 e21 => Pc.k (fun ck => Pc.b (fun M25 e25 => Pc.k (fun _ => Pc.ok ?_))))
  have hc : (rd M3 133 3).toNatClampNeg = n := by rw [i_clamp, b3.2.1]; omega
  have n1 : ((1 : Int32)).toInt = 1 := rfl
  rw [hc, hx.1] at e25
  have hlt : n < sbn (rd M3 133 0) := by
    have := okb_lt ck
    rw [hc] at this
    exact this
  have sg := sbv_ge (v := rd M3 133 0)
  have s70 := sbn70 (v := rd M3 133 0)
  have r0 : rd M25 133 0 = rd M3 133 0 := by rw [e25, rd_wk (by omega), e21, rd_wj (by decide)]
  have r3 : rd M25 133 3 = rd M3 133 3 + 1 := by rw [e25, rd_wk (by omega), e21, rd_we]
  refine ⟨fun c j hs => ?_, fun j => ?_, ⟨?_, ?_, ?_⟩, fun i hi => ?_, fun i hi => ?_⟩
  · have hc : c < 133 := Nat.lt_of_not_le hs
    show rd M25 c j = _
    rw [e25, rd_wk (by omega), e21, rd_wk (by omega)]
    exact k3 c j hs
  · show rl M25 129 j = _
    rw [e25, e21]; exact l3 j
  · show rd M25 133 1 = 0
    rw [e25, rd_wk (by omega), e21, rd_wj (by decide)]; exact b3.1
  · show (rd M25 133 3).toInt = _
    rw [r3, i_add (by rw [b3.2.1]; omega) (by rw [b3.2.1]; omega), b3.2.1]; rfl
  · show n + 1 ≤ sbn (rd M25 133 0)
    rw [r0]; exact hlt
  · show rd M25 (sbv 133 (rd M25 133 0)) i = _
    rw [r0, e25, rd_wj (by omega), e21, rd_wk (by omega)]
    exact y3 i hi
  · have : i = 0 := by have : [x1].length = 1 := rfl; omega
    subst this
    show rd M25 (sbv 133 (rd M25 133 0)) (n + 0) = x1
    rw [r0, e25]; exact rd_we
/-- a string -/
theorem pc_appS (h : BI M n) : Pc (mJ4_append_15ec4 11 M) (fun q => AC M n (stB 11) q.1) := by
  unfold mJ4_append_15ec4
  refine Pc.m (Q := fun q => AC M n (stB 11) q.1) ?_ (fun M3 _ p => Pc.ok p)
  unfold mJ5_append_cf1ce
  have n6 : ((6 : Int32)).toInt = 6 := rfl
  have s6 : (stB 11).length = 6 := by decide
  refine Pc.c (Q := fun r => r = 6) ?_ (fun r er => ?_)
  · rw [sJ0_length (by decide), show (some (Int32.ofNat (stLen 11)) : Option Int32) = some 6 from by decide +kernel]
    exact Pc.ok rfl
  subst er
  refine Pc.m (pc_ens h) (fun M6 _ p => ?_)
  obtain ⟨k3, l3, b3, y3⟩ := p
  have b3 : BI M6 n := b3
  have sg := sbv_ge (v := rd M6 133 0)
  have s70 := sbn70 (v := rd M6 133 0)
  have hc : (rd M6 133 3).toNatClampNeg = n := by rw [i_clamp, b3.2.1]; omega
  have put : Pc (mJ5_putStringAt_47b60 11 (rd M6 133 3) M6) (fun q => q.1 = cpS M6 11 (sbv 133 (rd M6 133 0)) n ∧ n + 6 ≤ sbn (rd M6 133 0)) := by
    unfold mJ5_putStringAt_47b60
    refine Pc.c (Pc.self _) (fun _ _ => Pc.m (Q := fun q => q.1 = cpS M6 11 (sbv 133 (rd M6 133 0)) n ∧ n + 6 ≤ sbn (rd M6 133 0)) ?_ (fun M7 _ p => Pc.ok p))
    unfold mJ0_getBytes_840e7
    rw [show mJ0_coder_7d493 11 M6 = some 0 from rfl, b3.1]
    refine Pc.c (Pc.ok (P := fun r => r = 0) rfl) (fun r er => Pc.i (fun _ => Pc.k (fun ck => Pc.b (fun M5 e5 => Pc.ok ?_))) (fun _ => Pc.n))
    rw [sh_l, hc] at e5 ck
    rw [Bool.and_eq_true] at ck
    exact ⟨e5, by have := of_decide_eq_true ck.2; have e6 : stLen 11 = 6 := s6; omega⟩
  refine Pc.m put (fun M9 _ p => Pc.b (fun M10 e10 => Pc.k (fun _ => Pc.ok ?_)))
  obtain ⟨e9, hle⟩ := p
  have e9 : M9 = cpS M6 11 (sbv 133 (rd M6 133 0)) n := e9
  have o9 : ∀ c j, c ≠ sbv 133 (rd M6 133 0) → rd M9 c j = rd M6 c j := fun c j hcc => by rw [e9]; exact congrFun (cpS_o c hcc).1 j
  have w9 : ∀ j, rd M9 (sbv 133 (rd M6 133 0)) j = va_cpy (stF 11) (M6.1 (sbv 133 (rd M6 133 0))) 0 n (stLen 11) j := fun j => by rw [e9]; exact congrFun cpS_s j
  have r0 : rd M10 133 0 = rd M6 133 0 := by rw [e10, rd_wj (by decide)]; exact o9 _ _ (by omega)
  have r3 : rd M10 133 3 = rd M6 133 3 + 6 := by rw [e10, rd_we, o9 _ _ (by omega)]
  refine ⟨fun c j hs => ?_, fun j => ?_, ⟨?_, ?_, ?_⟩, fun i hi => ?_, fun i hi => ?_⟩
  · have hc : c < 133 := Nat.lt_of_not_le hs
    show rd M10 c j = _
    rw [e10, rd_wk (by omega), o9 _ _ (by omega)]
    exact k3 c j hs
  · show rl M10 129 j = _
    rw [e10, e9]; exact l3 j
  · show rd M10 133 1 = 0
    rw [e10, rd_wj (by decide), o9 _ _ (by omega)]; exact b3.1
  · show (rd M10 133 3).toInt = _
    rw [r3, i_add (by rw [b3.2.1]; omega) (by rw [b3.2.1]; omega), b3.2.1, s6]; rfl
  · show n + (stB 11).length ≤ sbn (rd M10 133 0)
    rw [r0, s6]; exact hle
  · show rd M10 (sbv 133 (rd M10 133 0)) i = _
    rw [r0, e10, rd_wk (by omega), w9]
    unfold va_cpy
    rw [if_neg (by omega)]
    exact y3 i hi
  · show rd M10 (sbv 133 (rd M10 133 0)) (n + i) = _
    rw [r0, e10, rd_wk (by omega), w9]
    unfold va_cpy
    have e6 : stLen 11 = 6 := s6
    rw [if_pos (by omega)]
    show (stB 11).getD (0 + (n + i - n)) 0 = _
    rw [show 0 + (n + i - n) = i by omega]
end TXS
