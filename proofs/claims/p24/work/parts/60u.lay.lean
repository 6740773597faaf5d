/-! a side, a step's sheet: laid alike -/
section LW
variable {M N M0 N0 : Mem} {f : Nat → Int32} {k k1 : Nat}
/-- what a walk looks at -/
def WI (k k1 : Nat) (up : Nat → Bool) (n : Nat) (x5 : Int32) (M N : Mem) : Prop := rd M k 6 = rd N 136 1 ∧ (0 ≤ (rd N 136 1).toInt ∧ (rd N 136 1).toInt ≤ 9) ∧ (∀ j : Nat, (j : Int) < (rd N 136 1).toInt → rd M (k1 + 1) j = rd N 136 (2 + j)) ∧ (rd N 136 0).toInt = (n : Int) ∧ (∀ b, b < n → (up b = true ↔ ((rd N 136 (11 + b) = 1 ∧ ¬ x5 = 1) ∨ (¬ rd N 136 (11 + b) = 1 ∧ ¬ x5 = 0))))
theorem WI.ks {up : Nat → Bool} {n : Nat} {x5 : Int32} {M' N' : Mem} (h : WI k k1 up n x5 M N) (hd : k1 + 8 ≤ k ∨ k + 7 ≤ k1) (hM : KS (SPl k) M M') (hN : KS SRl N N') : WI k k1 up n x5 M' N' := by
  have e : ∀ j, rd N' 136 j = rd N 136 j := fun j => hN 136 j (by unfold SRl; omega)
  obtain ⟨h1, h2, h3, h4, h5⟩ := h
  refine ⟨?_, ?_, fun j hj => ?_, ?_, fun b hb => ?_⟩
  · rw [hM k 6 (by unfold SPl; omega), e]; exact h1
  · rw [e]; exact h2
  · rw [e] at hj
    rw [hM (k1 + 1) j (by unfold SPl; omega), e]; exact h3 j hj
  · rw [e]; exact h4
  · rw [e]; exact h5 b hb
def vis (s l : Int) (j : Nat) : Prop := if s = 1 then l ≤ (j : Int) else (j : Int) ≤ l
/-- what two walks give -/
def WR (k : Nat) (s l : Int) (M N M' N' : Mem) : Prop := KS (SPl k) M M' ∧ KS SRl N N' ∧ (∀ j : Nat, (j : Int) < (rd N 136 1).toInt → (LG k M N j ∨ vis s l j) → LG k M' N' j) ∧ (∀ c j : Nat, ¬ vis s l j → rd M' c j = rd M c j) ∧ (∀ c j : Nat, 141 ≤ c ∧ c ≤ 144 → ¬ vis s l j → rd N' c j = rd N c j)
theorem walk_l {up : Nat → Bool} {n a t : Nat} {x5 x7 s : Int32} (hd8 : k1 + 8 ≤ k ∨ k + 7 ≤ k1) (hs : s = 1 ∨ s = -1) (ha : a < 2 ^ n) (hn : n ≤ 8) (ht : t < 4) (ht0 : 0 < t) (hu : ∀ b, b < n → ((((x7 >>> (Int32.ofNat b &&& 31)) &&& (1 : Int32)) = 0) ↔ up b = false)) :
    ∀ (nf mf : Nat) (l : Int32) (d : Nat) (x y : Int32) (M N : Mem), WI k k1 up n x5 M N → d < 4 → (-1 ≤ l.toInt ∧ l.toInt ≤ 9) → (s = -1 → l.toInt < (rd N 136 1).toInt) → (s = 1 → 0 ≤ l.toInt) → x = rd N 135 21 → y = rd N 135 22 →
    R2 (mX2_walk_l13 k k1 nf s (Int32.ofNat t) (Int32.ofNat a) x7 x y (Int32.ofNat d) l M) (mX7_laySide_l16 135 mf s (Int32.ofNat t) x5 (Int32.ofNat a) (Int32.ofNat d) l N) (fun p q => WR k s.toInt l.toInt M N p.1 q.1) := by
  intro nf
  induction nf with
  | zero => intro mf l d x y M N _ _ _ _ _ _ _; exact R2.nl
  | succ nf IH =>
    intro mf l d x y M N h hd hl hs1 hs2 hx hy
    cases mf with
    | zero => exact R2.nr
    | succ mf =>
      show R2 (mX2_walk_b13 k k1 (mX2_walk_l13 k k1 nf) s (Int32.ofNat t) (Int32.ofNat a) x7 x y (Int32.ofNat d) l M) (mX7_laySide_b16 135 (mX7_laySide_l16 135 mf) s (Int32.ofNat t) x5 (Int32.ofNat a) (Int32.ofNat d) l N) _
      have sv : s.toInt = 1 ∨ s.toInt = -1 := by
        rcases hs with e | e
        · left; rw [e]; rfl
        · right; rw [e]; rfl
      have h1 := h.1; have h2 := h.2.1; have h3 := h.2.2.1; have h4 := h.2.2.2.1
      have stop : (l.toInt < 0 ∨ (rd N 136 1).toInt ≤ l.toInt) → ∀ j : Nat, (j : Int) < (rd N 136 1).toInt → (LG k M N j ∨ vis s.toInt l.toInt j) → LG k M N j := by
        intro hq j hj hv
        rcases hv with hv | hv
        · exact hv
        · exfalso
          unfold vis at hv
          rcases hs with e | e
          · have e1 : s.toInt = 1 := by rw [e]; rfl
            rw [if_pos e1] at hv
            have := hs2 e
            omega
          · have e1 : ¬ s.toInt = 1 := by rw [e]; decide
            rw [if_neg e1] at hv
            have := hs1 e
            omega
      unfold mX2_walk_b13 mX7_laySide_b16
      refine R2.il (fun c => R2.ir (fun _ => R2.ok ⟨KS.rf, KS.rf, stop (Or.inl ?_), fun _ _ _ => rfl, fun _ _ _ _ => rfl⟩) (fun z => absurd c z)) (fun c => R2.ir (fun z => absurd z c) (fun _ => R2.kr (fun _ => ?_)))
      · have c := i_lt.mp c; exact c
      have c : 0 ≤ l.toInt := i_nlt c
      rw [h1]
      refine R2.il (fun c2 => R2.ir (fun _ => R2.ok ⟨KS.rf, KS.rf, stop (Or.inr ?_), fun _ _ _ => rfl, fun _ _ _ _ => rfl⟩) (fun z => absurd c2 z)) (fun c2 => R2.ir (fun z => absurd z c2) (fun _ => ?_))
      · have c2 := i_le.mp c2; exact c2
      have c2 : l.toInt < (rd N 136 1).toInt := i_nle c2
      obtain ⟨j0, hj0⟩ : ∃ j0 : Nat, l.toInt = (j0 : Int) := ⟨l.toInt.toNat, by omega⟩
      have el : l = Int32.ofNat j0 := by rw [o_of c, hj0]; rfl
      have cl := c_of (a := j0) (by omega)
      refine R2.il (fun c9 => ?_) (fun _ => R2.kl (fun _ => R2.bl (fun len elen => ?_)))
      · have c9 := i_le.mp c9
        rw [show ((9 : Int32)).toInt = 9 from rfl] at c9
        exfalso; omega
      rw [el] at elen ⊢
      rw [cl, h3 j0 (by omega)] at elen
      -- the leg, laid by both; then the turn; then the rest
      intro p q hp hq
      obtain ⟨N1, u, q1, q2⟩ := cal_s hq
      obtain ⟨kN, oN, a1, a2, a3, a4, a5, a6⟩ := pc_layLeg (l := j0) (by omega) _ q1
      have kN : KS SRl N N1 := kN
      have n1 : ((1 : Int32)).toInt = 1 := rfl
      have es := i_sub (a := Int32.ofNat j0) (b := 1) (by rw [← el]; omega) (by rw [← el]; omega)
      have tl : (Int32.ofNat j0).toInt = (j0 : Int) := by rw [← el]; exact hj0
      rw [← elen, ← hx] at a3 a5
      rw [← elen, ← hy] at a4 a6
      rw [← hx] at a1
      rw [← hy] at a2
      refine pc_layL (k := k) (k1 := k1) (by omega) (P := fun p => WR k s.toInt (Int32.ofNat j0).toInt M N p.1 q.1) (fun M1 kM oM b1 b2 b3 b4 b5 b6 => ?_) p hp
      have hW1 : WI k k1 up n x5 M1 N1 := h.ks hd8 kM kN
      have lj : LG k M1 N1 j0 := by
        refine ⟨?_, ?_, ?_, ?_, ?_, ?_⟩
        · rw [b1]; exact a3.symm
        · rw [b2]; exact a4.symm
        · rw [b3, show rd N1 141 j0 = x from a1, show rd N1 143 j0 = x + goX (Int32.ofNat d) len from a3]
        · rw [b4, show rd N1 141 j0 = x from a1, show rd N1 143 j0 = x + goX (Int32.ofNat d) len from a3]
        · rw [b5, show rd N1 142 j0 = y from a2, show rd N1 144 j0 = y + goY (Int32.ofNat d) len from a4]
        · rw [b6, show rd N1 142 j0 = y from a2, show rd N1 144 j0 = y + goY (Int32.ofNat d) len from a4]
      have lo : ∀ j : Nat, j ≠ j0 → LG k M N j → LG k M1 N1 j := by
        intro j hj hg
        obtain ⟨o1, o2, o3, o4⟩ := oN j hj
        unfold LG
        rw [oM _ _ hj, oM _ _ hj, oM _ _ hj, oM _ _ hj, oM _ _ hj, oM _ _ hj]
        have o1 : rd N1 141 j = rd N 141 j := o1
        have o2 : rd N1 142 j = rd N 142 j := o2
        have o3 : rd N1 143 j = rd N 143 j := o3
        have o4 : rd N1 144 j = rd N 144 j := o4
        rw [o1, o2, o3, o4]
        exact hg
      have l1 : rd N1 136 1 = rd N 136 1 := kN 136 1 (by unfold SRl; omega)
      -- the rest
      have rest : ∀ (yb : Int32), (-1 ≤ yb.toInt ∧ yb.toInt ≤ 8) → mX7_laySide_b53 135 (mX7_laySide_l16 135 mf) s (Int32.ofNat t) x5 (Int32.ofNat a) (Int32.ofNat d) (Int32.ofNat j0) yb N1 = some q → Pc (mX2_walk_b217 k k1 (mX2_walk_l13 k k1 nf) s (Int32.ofNat t) (Int32.ofNat a) x7 (x + goX (Int32.ofNat d) len) (y + goY (Int32.ofNat d) len) (Int32.ofNat d) (Int32.ofNat j0) yb M1) (fun p => WR k s.toInt (Int32.ofNat j0).toInt M N p.1 q.1) := by
        intro yb hyb hq3
        refine pc_b217 ha hn ht ht0 hd hyb hu ?_
        refine pc_b53 (N := N1) (P := fun q => Pc (mX2_walk_b272 k k1 (mX2_walk_l13 k k1 nf) s (Int32.ofNat t) (Int32.ofNat a) x7 (x + goX (Int32.ofNat d) len) (y + goY (Int32.ofNat d) len) (Int32.ofNat (turnS up a n t d yb.toInt)) (Int32.ofNat j0) M1) (fun p => WR k s.toInt (Int32.ofNat j0).toInt M N p.1 q.1)) ha hn ht ht0 hd hyb hW1.2.2.2.1 hW1.2.2.2.2 ?_ q hq3
        intro q' hq' p' hp'
        unfold mX7_laySide_b136 at hq'
        unfold mX2_walk_b272 at hp'
        obtain ⟨z, ez, hq'⟩ := bnd_s hq'
        obtain ⟨z', ez', hp'⟩ := bnd_s hp'
        rw [← ez] at ez'
        subst ez'
        have tz : z'.toInt = (j0 : Int) + s.toInt := by
          rw [ez, i_add (by rw [tl]; omega) (by rw [tl]; omega), tl]
        have hd' : turnS up a n t d yb.toInt < 4 := by
          unfold turnS
          split
          · exact Nat.mod_lt _ (by decide)
          · exact hd
        have r := IH mf z' (turnS up a n t d yb.toInt) (x + goX (Int32.ofNat d) len) (y + goY (Int32.ofNat d) len) M1 N1 hW1 hd' (by omega) (fun e => by rw [l1]; rw [e] at tz; rw [show ((-1 : Int32)).toInt = -1 from rfl] at tz; omega) (fun e => by rw [e] at tz; omega) a5.symm a6.symm _ _ hp' hq'
        have nv : ∀ j : Nat, ¬ vis s.toInt (Int32.ofNat j0).toInt j → j ≠ j0 ∧ ¬ vis s.toInt z'.toInt j := by
          intro j hv
          unfold vis at hv ⊢
          rw [tl] at hv
          rw [tz]
          rcases sv with e1 | e1
          · rw [if_pos e1] at hv ⊢; omega
          · rw [if_neg (by omega)] at hv ⊢; omega
        refine ⟨kM.trans r.1, kN.trans r.2.1, fun j hj hv => r.2.2.1 j (by rw [l1]; exact hj) ?_, fun c j hv => ?_, fun c j hc hv => ?_⟩
        · by_cases e : j = j0
          · left; rw [e]; exact lj
          · rcases hv with hv | hv
            · left; exact lo j e hv
            · right
              unfold vis at hv ⊢
              rw [tl] at hv
              rw [tz]
              rcases sv with e1 | e1
              · rw [if_pos e1] at hv ⊢; omega
              · rw [if_neg (by omega)] at hv ⊢; omega
        · obtain ⟨n1, n2⟩ := nv j hv
          rw [r.2.2.2.1 c j n2]; exact oM c j n1
        · obtain ⟨n1, n2⟩ := nv j hv
          rw [r.2.2.2.2 c j hc n2]
          obtain ⟨o1, o2, o3, o4⟩ := oN j n1
          have h4 : c = 141 ∨ c = 142 ∨ c = 143 ∨ c = 144 := by omega
          rcases h4 with rfl | rfl | rfl | rfl
          · exact o1
          · exact o2
          · exact o3
          · exact o4
      refine Pc.i (fun cs => ?_) (fun cs => ?_)
      · have q2 := ite_t cs q2
        exact rest _ (by omega) q2
      · have q2 := ite_f cs q2
        exact rest _ (by omega) q2
/-- a side, from its start on -/
theorem side_R {up : Nat → Bool} {n a t d : Nat} {x5 x7 s l st : Int32} (hd8 : k1 + 8 ≤ k ∨ k + 7 ≤ k1) (hs : s = 1 ∨ s = -1) (ha : a < 2 ^ n) (hn : n ≤ 8) (ht : t < 4) (ht0 : 0 < t) (hu : ∀ b, b < n → ((((x7 >>> (Int32.ofNat b &&& 31)) &&& (1 : Int32)) = 0) ↔ up b = false)) (h : WI k k1 up n x5 M N) (hd : d < 4) (hl : -1 ≤ l.toInt ∧ l.toInt ≤ 9) (hs1 : s = -1 → l.toInt < (rd N 136 1).toInt) (hs2 : s = 1 → 0 ≤ l.toInt) (hst : st = Int32.ofNat d) {tt aa : Int32} (htt : tt = Int32.ofNat t) (haa : aa = Int32.ofNat a) :
    R2 (mX2_walk k k1 l s st tt aa x7 M) (mX7_laySide 135 l s st tt x5 aa N) (fun p q => WR k s.toInt l.toInt M N p.1 q.1) := by
  subst hst; subst htt; subst haa
  unfold mX2_walk mX7_laySide
  refine R2.br (fun N1 e1 => R2.br (fun N2 e2 => ?_))
  have kN : KS SRl N N2 := by rw [e2, e1]; exact (KS.rf.wr (Or.inr (by decide))).wr (Or.inr (by decide))
  have q136 : ∀ j, rd N2 136 j = rd N 136 j := fun j => kN 136 j (by unfold SRl; omega)
  have oc : ∀ c j, 141 ≤ c ∧ c ≤ 144 → rd N2 c j = rd N c j := fun c j hc => by rw [e2, rd_wk (by omega), e1, rd_wk (by omega)]
  have hW : WI k k1 up n x5 M N2 := h.ks hd8 KS.rf kN
  have h21 : (0 : Int32) = rd N2 135 21 := by rw [e2, rd_wj (by decide), e1, rd_we]
  have h22 : (0 : Int32) = rd N2 135 22 := by rw [e2, rd_we]
  refine R2.mono (walk_l hd8 hs ha hn ht ht0 hu 5000 5000 l d 0 0 M N2 hW hd hl (by rw [q136]; exact hs1) hs2 h21 h22) (fun p q r => ⟨r.1, kN.trans r.2.1, fun j hj hv => r.2.2.1 j (by rw [q136]; exact hj) ?_, r.2.2.2.1, fun c j hc hv => ?_⟩)
  · rcases hv with hv | hv
    · left
      unfold LG at hv ⊢
      rw [oc 141 j (by omega), oc 142 j (by omega), oc 143 j (by omega), oc 144 j (by omega)]
      exact hv
    · exact Or.inr hv
  · rw [r.2.2.2.2 c j hc hv]; exact oc c j hc
end LW
