/-! written alike -/
section WRT
variable {M M' M0 N N' N0 : Mem} {n m k b w : Nat} {x1 v g : Int32}
/-- what is told while it is written -/
def WK (M0 N0 M N : Mem) : Prop := (∀ c j, c < 133 → rd M c j = rd M0 c j) ∧ ∀ j, rd N 136 j = rd N0 136 j
theorem WK.ac {cs : List Int32} (h : WK M0 N0 M N) (a : AC M n cs M') : WK M0 N0 M' N := ⟨fun c j hc => (a.1 c j (by unfold SBk; omega)).trans (h.1 c j hc), h.2⟩
theorem WK.pc {cs : List Int32} (h : WK M0 N0 M N) (p : PC2 N n cs N') : WK M0 N0 M N' := ⟨h.1, fun j => (p.1 136 j (by unfold SWr; omega)).trans (h.2 j)⟩
theorem dgc_r {a : Nat} (h : a ≤ 9) : 0 ≤ (dgc a).toInt ∧ (dgc a).toInt ≤ 127 := by
  unfold dgc
  rw [t_of (by omega)]; omega
theorem rg_D {x : Nat} (hx : x ≤ 9999) : RGL (dgl x) := by
  intro i hi
  unfold dgl at hi ⊢
  by_cases h1 : x < 10
  · rw [if_pos h1] at hi ⊢
    have : i = 0 := by have : [dgc x].length = 1 := rfl; omega
    subst this; exact dgc_r (by omega)
  rw [if_neg h1] at hi ⊢
  by_cases h2 : x < 100
  · rw [if_pos h2] at hi ⊢
    have hl : [dgc (x / 10), dgc (x % 10)].length = 2 := rfl
    rcases (show i = 0 ∨ i = 1 by omega) with e | e
    · subst e; exact dgc_r (by omega)
    · subst e; exact dgc_r (by omega)
  rw [if_neg h2] at hi ⊢
  by_cases h3 : x < 1000
  · rw [if_pos h3] at hi ⊢
    have hl : [dgc (x / 100), dgc (x / 10 % 10), dgc (x % 10)].length = 3 := rfl
    rcases (show i = 0 ∨ i = 1 ∨ i = 2 by omega) with e | e | e
    · subst e; exact dgc_r (by omega)
    · subst e; exact dgc_r (by omega)
    · subst e; exact dgc_r (by omega)
  rw [if_neg h3] at hi ⊢
  have hl : [dgc (x / 1000), dgc (x / 100 % 10), dgc (x / 10 % 10), dgc (x % 10)].length = 4 := rfl
  rcases (show i = 0 ∨ i = 1 ∨ i = 2 ∨ i = 3 by omega) with e | e | e | e
  · subst e; exact dgc_r (by omega)
  · subst e; exact dgc_r (by omega)
  · subst e; exact dgc_r (by omega)
  · subst e; exact dgc_r (by omega)
theorem rg_S : RGL (stB 11) := by unfold RGL; decide
theorem rg_B {up made : Bool} : RGL (bcs up made) := by
  cases up
  · cases made
    · unfold RGL; decide
    · unfold RGL; decide
  · cases made
    · unfold RGL; decide
    · unfold RGL; decide
theorem costs_R (h : SS M0 N0) (hI : MI N0) (hk : WK M0 N0 M N) : R2 (mX1_sumOfCosts 5 M) (mX7_sumOfCosts 135 N) (fun r q => r = q ∧ ∃ x, x ≤ 2376 ∧ r = Int32.ofNat x) := by
  have hns : rd M 5 14 = rd N 136 53 := (hk.1 5 14 (by omega)).trans (h.1.ns.trans (hk.2 53).symm)
  have sb : 0 ≤ (rd N 136 53).toInt ∧ (rd N 136 53).toInt ≤ 8 := by rw [hk.2]; exact h.1.sb
  have n1 : ((1 : Int32)).toInt = 1 := rfl
  have n3 : ((3 : Int32)).toInt = 3 := rfl
  have n8 : ((8 : Int32)).toInt = 8 := rfl
  have n54 : ((54 : Int32)).toInt = 54 := rfl
  have bd : ∀ j, j < 8 → 0 ≤ (rd N 136 (57 + 4 * j)).toInt ∧ (rd N 136 (57 + 4 * j)).toInt ≤ 297 := fun j hj => by
    have e : ∀ j, j < 8 → stdM 136 (57 + 4 * j) = (0, 297) := by decide
    have := hI.1.std 136 (57 + 4 * j)
    rw [e j hj] at this
    rw [hk.2]; exact this
  have lp : ∀ (f1 f2 : Nat) (x : Nat) (j : Nat), j ≤ 8 → x ≤ 297 * j → R2 (mX1_sumOfCosts_l4 5 M f1 (Int32.ofNat x) (Int32.ofNat j)) (mX7_sumOfCosts_l4 135 N f2 (Int32.ofNat x) (Int32.ofNat j)) (fun r q => r = q ∧ ∃ x, x ≤ 2376 ∧ r = Int32.ofNat x) := by
    intro f1
    induction f1 with
    | zero => intro f2 x j _ _; exact R2.nl
    | succ f1 IH =>
      intro f2 x j hj hx
      cases f2 with
      | zero => exact R2.nr
      | succ f2 =>
        unfold mX1_sumOfCosts_l4 mX7_sumOfCosts_l4 mX1_sumOfCosts_b4 mX7_sumOfCosts_b4
        have tj : (Int32.ofNat j).toInt = (j : Int) := t_of (by omega)
        have e53 : rd N (135 + 1) ((53 : Int32)).toNatClampNeg = rd N 136 53 := rfl
        rw [hns, e53]
        refine R2.kr (fun _ => R2.il (fun c => R2.ir (fun _ => R2.ok ⟨rfl, x, by omega, rfl⟩) (fun c2 => absurd c c2)) (fun c => R2.ir (fun c2 => absurd c2 c) (fun _ => R2.il (fun c3 => ?_) (fun c3 => R2.kl (fun _ => ?_)))))
        · have c := i_nle c; have c3 := i_le.mp c3; exfalso; omega
        have c := i_nle c
        rw [tj] at c
        have out : Pc (mX7_stepOf 135 (Int32.ofNat j) (3 : Int32) N) (fun r => r = rd N 136 (57 + 4 * j)) := by
          unfold mX7_stepOf
          refine Pc.k (fun _ => Pc.ok ?_)
          have m4 := i_mulc (a := (4 : Int32)) (b := Int32.ofNat j) (c := 4) rfl (by omega) (by omega)
          have a1 : ((54 : Int32) + (4 : Int32) * Int32.ofNat j).toInt = 54 + 4 * (j : Int) := by rw [i_add (by omega) (by omega)]; omega
          have a2 : ((54 : Int32) + (4 : Int32) * Int32.ofNat j + (3 : Int32)).toNatClampNeg = 57 + 4 * j := by rw [i_clamp, i_add (by omega) (by omega), a1, n3]; omega
          rw [a2]
        have b57 := bd j (by omega)
        obtain ⟨y, hy, ey⟩ : ∃ y : Nat, y ≤ 297 ∧ rd N 136 (57 + 4 * j) = Int32.ofNat y := ⟨(rd N 136 (57 + 4 * j)).toInt.toNat, by omega, o_of b57.1⟩
        refine R2.cr out (fun r er => R2.bl (fun x1' ex => R2.bl (fun j' ej => R2.br (fun x2' ex2 => R2.br (fun j2 ej2 => ?_)))))
        have s3 : rd M 12 j = rd N 136 (57 + 4 * j) := by rw [hk.1 12 j (by omega), hk.2]; exact (h.1.st j (by show (j : Int) < (rd N0 136 53).toInt; rw [← hk.2]; exact c)).2.2
        have es : Int32.ofNat x + Int32.ofNat y = Int32.ofNat (x + y) := (Int32.ofNat_add x y).symm
        have ex : x1' = Int32.ofNat (x + y) := by rw [ex, c_of (by omega), ← es, ← ey]; exact congrArg (Int32.ofNat x + ·) s3
        rw [er, ey, es] at ex2
        rw [ex, ex2, ej, ej2, o_inc (by omega)]
        exact IH f2 (x + y) (j + 1) (by omega) (by omega)
  exact lp 5000 5000 0 0 (by omega) (by omega)
theorem TX.bi (h : TX M N n) : BI M n := h.1
theorem TX.rn (h : TX M N n) : RN N n := h.2.1
theorem TX.len (h : TX M N n) : rd M 133 3 = rd N 135 30 := i_eq.mpr (h.1.2.1.trans h.2.1.symm)
/-- the text's end -/
theorem end_R (h : SS M0 N0) (hI : MI N0) (hk : WK M0 N0 M N) (ht : TX M N n) : R2 (mX6_write_b61 0 g M) (ite2 ((rd N (135 + 1) ((53 : Int32)).toNatClampNeg) ≤ 0) (some (N, (rd N 135 30))) (cal (mX7_putCost 135 N) (fun M11 _ => some (M11, (rd M11 135 30))))) (fun p q => p.2 = q.2 ∧ (∃ n, TX p.1 q.1 n) ∧ WK M0 N0 p.1 q.1) := by
  have hns : rd M 5 14 = rd N 136 53 := (hk.1 5 14 (by omega)).trans (h.1.ns.trans (hk.2 53).symm)
  have e53 : rd N (135 + 1) ((53 : Int32)).toNatClampNeg = rd N 136 53 := rfl
  unfold mX6_write_b61 mX6_write_b97
  rw [hns, e53]
  refine R2.il (fun c => R2.ir (fun _ => R2.kl (fun _ => R2.cl (Pc.ok (P := fun r => r = rd M 133 3) rfl) (fun r8 e8 => R2.kl (fun _ => R2.ok ⟨e8.trans ht.len, ⟨n, ht⟩, hk⟩)))) (fun z => absurd c z)) (fun c => R2.ir (fun z => absurd z c) (fun _ => R2.kl (fun _ => ?_)))
  refine R2.ml (pc_appS ht.bi) (fun M14 _ a => ?_)
  have a : AC M n (stB 11) M14 := a
  have hk14 : WK M0 N0 M14 N := hk.ac a
  -- the reference: the word, then the sum
  intro p q hp hq
  obtain ⟨M11, _, q1, q2⟩ := cal_s hq
  cases q2
  obtain ⟨r16, p1, hp1⟩ := cap_s hp
  obtain ⟨M20, _, p2, hp2⟩ := cal_s hp1
  have key := pc_txt (N := N) (n := n) ht.rn (K := mX7_putCost_l6 135) (cs := []) (P := fun Q => p.2 = rd Q 135 30 ∧ (∃ n, TX p.1 Q n) ∧ WK M0 N0 p.1 Q) (fun _ _ => rfl) (fun N' hp' => ?_) (fun _ _ _ => rfl) 5000 0 N (by omega) (PC2.nil ht.rn)
  · exact key (M11, ()) q1
  · intro q3 hq3
    obtain ⟨r6, u1, u2⟩ := cap_s hq3
    obtain ⟨M10, _, u3, u4⟩ := cal_s u2
    cases u4
    have hk' : WK M0 N0 M14 N' := hk14.pc hp'
    obtain ⟨er, x, hx, ex⟩ := costs_R h hI hk' _ _ p1 u1
    have t1 : TX M14 N' (n + (stB 11).length) := ht.app a hp' rg_S
    subst er
    subst ex
    have c1 : AC M14 (n + (stB 11).length) (dgl x) M20 := pc_appI t1.bi (by omega) (M20, ()) p2
    have d1 : PC2 N' (n + (stB 11).length) (dgl x) M10 := pc_num (by omega) t1.rn (M10, ()) u3
    have t2 := t1.app c1 d1 (rg_D (by omega))
    obtain ⟨r8, v1, v2⟩ := cap_s (chk_s hp2).2
    have v1 : r8 = rd M20 133 3 := by
      have : some (rd M20 133 3) = some r8 := v1
      exact (Option.some.inj this).symm
    have v3 := (chk_s v2).2
    cases v3
    exact ⟨v1.trans t2.len, ⟨_, t2⟩, (hk'.ac c1).pc d1⟩
theorem bend_R (h : SS M0 N0) (hI : MI N0) (hk : WK M0 N0 M N) (ht : TX M N n) (hb : b < nb 5 M0) : R2 (mX6_writeBend 0 (Int32.ofNat b) M) (mX7_putBend 135 (Int32.ofNat b) N) (fun p q => (∃ n, TX p.1 q.1 n) ∧ WK M0 N0 p.1 q.1) := by
  obtain ⟨m, m2, em, hR⟩ := row_at hI h.1
  have n8 := nb8 (pr_9 h.1)
  have m256 := n_256 n8 m2
  have ub : 0 ≤ (rd M 5 2).toInt ∧ (rd M 5 2).toInt ≤ 255 := by rw [hk.1 _ _ (by omega)]; exact h.1.ub
  have hn : (rd N0 136 0).toInt = (nb 5 M0 : Int) := h.1.pb.bn
  have hup : rd N 136 (11 + b) = if (rd M 5 2).toInt.toNat.testBit b then 1 else 0 := by
    rw [hk.2, hk.1 _ _ (by omega)]
    exact h.1.up b (by show (b : Int) < (rd N0 136 0).toInt; omega)
  have e52 : rd N 136 52 = Int32.ofNat m := by rw [hk.2]; exact h.1.ma.symm.trans em
  have em' : rd M 5 13 = Int32.ofNat m := (hk.1 _ _ (by omega)).trans em
  have hf0 := f_has0 m m256 b (by omega)
  intro p q hp hq
  have pq := pc_putB ht.rn (by omega) e52 m256 hup q hq
  have cls : Pc (mX6_writeBend 0 (Int32.ofNat b) M) (fun p => AC M n (bcs ((rd M 5 2).toInt.toNat.testBit b) (m.testBit b)) p.1) := by
    have go : ∀ (gg y : Int32), vp_nar .byte y.toInt8.toInt32 = y ∧ ¬ (255 : Int32) < y → Pc (mX6_writeBend_b22 0 gg (Int32.ofNat b) y M) (fun p => AC M n (y :: (if m.testBit b then [42] else [])) p.1) := by
      intro gg y hy
      unfold mX6_writeBend_b22
      refine Pc.k (fun _ => Pc.m (pc_appC ht.bi hy) (fun M8 _ a => ?_))
      have a : AC M n [y] M8 := a
      have e13 : rd M8 5 13 = Int32.ofNat m := (a.1 5 13 (by unfold SBk; omega)).trans em'
      rw [e13]
      refine Pc.i (fun c => Pc.ok ?_) (fun c => Pc.m (pc_appC a.2.2.1 (by decide)) (fun M12 _ a2 => Pc.ok ?_))
      · rw [hf0.mp c]; exact a
      · have : m.testBit b = true := by
          cases z : m.testBit b with
          | true => rfl
          | false => exact absurd (hf0.mpr z) c
        rw [this]
        exact AC.trans (cs := [y]) a a2
    unfold mX6_writeBend bcs
    refine Pc.c (pc_goesUp ub (by omega)) (fun r2 e2 => ?_)
    cases z : (rd M 5 2).toInt.toNat.testBit b with
    | true =>
      rw [z] at e2
      exact Pc.i (fun y => absurd (e2 ▸ y) (by decide)) (fun _ => go _ 94 (by decide))
    | false =>
      rw [z] at e2
      exact Pc.i (fun _ => go _ 118 (by decide)) (fun y => absurd e2 y)
  have cp := cls p hp
  exact ⟨⟨_, ht.app cp pq rg_B⟩, (hk.ac cp).pc pq⟩
/-- leg by leg -/
theorem legs_R (h : SS M0 N0) (hI : MI N0) (hw : (rd N0 136 1).toInt = (w : Int)) : ∀ (f1 f2 i n : Nat) (g : Int32) (M N : Mem), i < w → WK M0 N0 M N → TX M N n → R2 (mX6_write_b38 0 g (mX6_write_l10 0 f1) (Int32.ofNat i) M) (mX7_write_l12 135 f2 (Int32.ofNat i) N) (fun p q => p.2 = q.2 ∧ (∃ n, TX p.1 q.1 n) ∧ WK M0 N0 p.1 q.1) := by
  have lb : 0 ≤ (rd N0 136 1).toInt ∧ (rd N0 136 1).toInt ≤ 9 := h.1.lb
  have lc : rd M0 5 0 = rd N0 136 1 := h.1.lc
  have hn : (rd N0 136 0).toInt = (nb 5 M0 : Int) := h.1.pb.bn
  have hnb : nb 5 M0 = w - 1 := by unfold nb; rw [lc]; omega
  have n0 : ((0 : Int32)).toInt = 0 := rfl
  have n1 : ((1 : Int32)).toInt = 1 := rfl
  have n2 : ((2 : Int32)).toInt = 2 := rfl
  have n9 : ((9 : Int32)).toInt = 9 := rfl
  intro f1
  induction f1 with
  | zero =>
    intro f2 i n g M N hi hk ht
    unfold mX6_write_b38
    refine R2.kl (fun _ => R2.kl (fun _ => ?_))
    intro p q hp _
    obtain ⟨M27, _, _, hp⟩ := cal_s hp
    obtain ⟨z, _, hp⟩ := bnd_s hp
    cases hp
  | succ f1 IH =>
    intro f2 i n g M N hi hk ht
    cases f2 with
    | zero => exact R2.nr
    | succ f2 =>
      show R2 _ (mX7_write_b12 135 (mX7_write_l12 135 f2) (Int32.ofNat i) N) _
      unfold mX6_write_b38 mX7_write_b12 mX7_write_b49
      have ti : (Int32.ofNat i).toInt = (i : Int) := t_of (by omega)
      have e1 : rd N (135 + 1) ((1 : Int32)).toNatClampNeg = rd N0 136 1 := hk.2 1
      have ei : ((2 : Int32) + Int32.ofNat i).toNatClampNeg = 2 + i := by rw [i_clamp, i_add (by omega) (by omega)]; omega
      have lv : rd M (5 + 1) i = rd N 136 (2 + i) := by rw [hk.1 _ _ (by omega), hk.2]; exact h.1.leg i (by show (i : Int) < (rd N0 136 1).toInt; omega)
      have lr : 0 ≤ (rd N 136 (2 + i)).toInt ∧ (rd N 136 (2 + i)).toInt ≤ 9999 := by
        have e : ∀ i, i < 9 → stdM 136 (2 + i) = (0, 9999) := by decide
        have := hI.1.std 136 (2 + i)
        rw [e i (by omega)] at this
        rw [hk.2]; exact this
      obtain ⟨x, hx, ex⟩ : ∃ x : Nat, x ≤ 9999 ∧ rd N 136 (2 + i) = Int32.ofNat x := ⟨(rd N 136 (2 + i)).toInt.toNat, by omega, o_of lr.1⟩
      rw [c_of (by omega), lv, ex, ei, e1]
      refine R2.kl (fun _ => R2.kl (fun _ => R2.kr (fun _ => R2.ir (fun c => ?_) (fun _ => R2.kr (fun _ => ?_)))))
      · have c := i_le.mp c; omega
      rw [show rd N (135 + 1) (2 + i) = Int32.ofNat x from ex]
      refine R2.ml (pc_appI ht.bi hx) (fun M27 _ a => R2.mr (pc_num hx ht.rn) (fun M15 _ p => ?_))
      have t1 : TX M27 M15 (n + (dgl x).length) := ht.app a p (rg_D hx)
      have hk1 : WK M0 N0 M27 M15 := (hk.ac (M' := M27) a).pc (N' := M15) p
      refine R2.bl (fun i' ei' => ?_)
      rw [ei', o_inc (by omega)]
      show R2 (mX6_write_b10 0 (rd M27 133 0) (mX6_write_l10 0 f1) (Int32.ofNat (i + 1)) M27) _ _
      unfold mX6_write_b10
      have l0 : rd M27 5 0 = rd N0 136 1 := (hk1.1 5 0 (by omega)).trans lc
      have e0 : rd M15 (135 + 1) ((0 : Int32)).toNatClampNeg = rd N0 136 0 := hk1.2 0
      have ti1 : (Int32.ofNat (i + 1)).toInt = ((i + 1 : Nat) : Int) := t_of (by omega)
      rw [l0, e0]
      refine R2.kl (fun _ => R2.kr (fun _ => ?_))
      by_cases hl : w ≤ i + 1
      · -- the last leg
        refine R2.il (fun _ => R2.ir (fun _ => R2.br (fun j ej => ?_)) (fun z => ?_)) (fun z => ?_)
        · rw [ej]
          cases f2 with
          | zero => exact R2.nr
          | succ f2 =>
            show R2 _ (mX7_write_b12 135 (mX7_write_l12 135 f2) (Int32.ofNat (i + 1)) M15) _
            unfold mX7_write_b12
            have e1' : rd M15 (135 + 1) ((1 : Int32)).toNatClampNeg = rd N0 136 1 := hk1.2 1
            rw [e1']
            refine R2.kr (fun _ => R2.ir (fun _ => R2.kr (fun _ => end_R h hI hk1 t1)) (fun z => ?_))
            have z := i_nle z
            omega
        · have z := i_nle z
          omega
        · have z := i_nle z
          omega
      · -- a bend, and on
        refine R2.il (fun z => ?_) (fun _ => R2.ir (fun z => ?_) (fun _ => R2.il (fun z => ?_) (fun _ => R2.il (fun z => ?_) (fun _ => R2.kl (fun _ => ?_)))))
        · have z := i_le.mp z
          omega
        · have z := i_le.mp z
          omega
        · have z := i_le.mp z
          omega
        · have z := i_le.mp z
          omega
        rw [o_dec (by omega) (by omega), show i + 1 - 1 = i by omega]
        refine R2.mm (bend_R h hI hk1 t1 (by omega)) (fun M32 _ M21 _ p => R2.br (fun j ej => ?_))
        obtain ⟨⟨n', t2⟩, hk2⟩ := p
        rw [ej]
        exact IH f2 (i + 1) n' (rd M32 133 0) M32 M21 (by omega) hk2 t2
theorem pc_len0 (h1 : rd M 133 1 = 0) : Pc (mJ4_setLength_d00df (0 : Int32) M) (fun q => KS SBk M q.1 ∧ BI q.1 0) := by
  unfold mJ4_setLength_d00df
  refine Pc.m (Q := fun q => KS SBk M q.1 ∧ BI q.1 0) ?_ (fun M3 _ p => Pc.ok p)
  unfold mJ5_setLength_d00df
  have n0 : ((0 : Int32)).toInt = 0 := rfl
  refine Pc.i (fun _ => ?_) (fun z => absurd (by decide) z)
  have ens : Pc (mJ5_ensureCapacityInternal_d00df (0 : Int32) M) (fun q => q.1 = M) := by
    unfold mJ5_ensureCapacityInternal_d00df
    refine Pc.b (fun x2 e2 => Pc.i (fun _ => Pc.ok rfl) (fun c => ?_))
    exfalso
    have c := i_nle c
    rw [h1, sh_r] at e2
    have s70 := sbn70 (v := rd M 133 0)
    have t2 : x2.toInt = (sbn (rd M 133 0) : Int) := by rw [e2, t_of (by omega)]
    rw [i_sub (by omega) (by omega)] at c
    omega
  refine Pc.m ens (fun M4 _ e4 => ?_)
  have e4 : M4 = M := e4
  subst e4
  refine Pc.i (fun _ => Pc.i (fun _ => Pc.b (fun M7 e7 => Pc.k (fun _ => Pc.ok ⟨?_, ?_, ?_, Nat.zero_le _⟩))) (fun _ => Pc.b (fun M10 e10 => Pc.b (fun M12 e12 => Pc.k (fun _ => Pc.ok ⟨?_, ?_, ?_, Nat.zero_le _⟩))))) (fun _ => Pc.c (Pc.self _) (fun _ _ => Pc.i (fun _ => Pc.n) (fun _ => Pc.n)))
  · show KS SBk M4 M7
    rw [e7]; exact KS.rf.wr (show SBk 133 3 from Nat.le_refl _)
  · show rd M7 133 1 = 0
    rw [e7, rd_wj (by decide)]; exact h1
  · show (rd M7 133 3).toInt = _
    rw [e7, rd_we]; rfl
  · show KS SBk M4 M12
    rw [e12, e10]; exact (KS.rf.wr (show SBk 133 2 from Nat.le_refl _)).wr (show SBk 133 3 from Nat.le_refl _)
  · show rd M12 133 1 = 0
    rw [e12, rd_wj (by decide), e10, rd_wj (by decide)]; exact h1
  · show (rd M12 133 3).toInt = _
    rw [e12, rd_we]; rfl
theorem write_T (h : SS M N) (hI : MI N) (h1 : rd M 133 1 = 0) : R2 (mX6_write 0 M) (mX7_write 135 N) (fun p q => p.2 = q.2 ∧ ∃ n, TX p.1 q.1 n) := by
  have lb : 0 ≤ (rd N 136 1).toInt ∧ (rd N 136 1).toInt ≤ 9 := h.1.lb
  have lc : rd M 5 0 = rd N 136 1 := h.1.lc
  obtain ⟨w, hw⟩ : ∃ w : Nat, (rd N 136 1).toInt = (w : Int) := ⟨(rd N 136 1).toInt.toNat, by omega⟩
  unfold mX6_write mX7_write
  refine R2.ml (pc_len0 h1) (fun M3 _ p => R2.br (fun N1 e1 => R2.br (fun N3 e3 => ?_)))
  obtain ⟨k3, b3⟩ := p
  have k3 : KS SBk M M3 := k3
  have b3 : BI M3 0 := b3
  have hk : WK M N M3 N3 := ⟨fun c j hc => k3 c j (by unfold SBk; omega), fun j => by rw [e3, rd_wk (by decide), e1, rd_wk (by decide)]⟩
  have ht : TX M3 N3 0 := ⟨b3, by rw [e3, rd_we]; rfl, fun i hi => absurd hi (Nat.not_lt_zero _)⟩
  refine R2.mono (Q := fun p q => p.2 = q.2 ∧ (∃ n, TX p.1 q.1 n) ∧ WK M N p.1 q.1) ?_ (fun p q z => ⟨z.1, z.2.1⟩)
  show R2 (mX6_write_b10 0 (rd M3 133 0) (mX6_write_l10 0 4999) 0 M3) _ _
  unfold mX6_write_b10
  have l0 : rd M3 5 0 = rd N 136 1 := (hk.1 5 0 (by omega)).trans lc
  have n0 : ((0 : Int32)).toInt = 0 := rfl
  rw [l0]
  refine R2.kl (fun _ => ?_)
  by_cases hz : w = 0
  · refine R2.il (fun _ => ?_) (fun z => ?_)
    · show R2 _ (mX7_write_b12 135 (mX7_write_l12 135 4999) 0 N3) _
      unfold mX7_write_b12
      have e1' : rd N3 (135 + 1) ((1 : Int32)).toNatClampNeg = rd N 136 1 := hk.2 1
      rw [e1']
      refine R2.kr (fun _ => R2.ir (fun _ => R2.kr (fun _ => end_R h hI hk ht)) (fun z => ?_))
      have z := i_nle z
      omega
    · have z := i_nle z
      omega
  · refine R2.il (fun z => ?_) (fun _ => R2.il (fun z => absurd z (by decide)) (fun _ => R2.il (fun _ => ?_) (fun z => absurd (by decide) z)))
    · have z := i_le.mp z
      omega
    · exact legs_R h hI hw 4999 5000 0 0 _ M3 N3 (by omega) hk ht
theorem an_write (h : SS M N) (hI : MI N) (h1 : rd M 133 1 = 0) : R2 (mX6_write 0 M) (mX7_write 135 N) (fun p q => p.2 = q.2) := (write_T h hI h1).mono (fun p q z => z.1)
end WRT
