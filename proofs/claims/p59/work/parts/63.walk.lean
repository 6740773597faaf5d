/-! a walk over the legs: where each lies, by places that are given -/
section WKx
variable {M : Mem} {k k1 : Nat}
/-- a leg lies as the places say -/
def LGs (k : Nat) (X Y : Nat → Int32) (dr : Nat → Nat) (len : Nat → Int32) (M : Mem) (j : Nat) : Prop := rd M (k + 1) j = X j + goX (Int32.ofNat (dr j)) (len j) ∧ rd M (k + 2) j = Y j + goY (Int32.ofNat (dr j)) (len j) ∧ rd M (k + 3) j = imin (X j) (X j + goX (Int32.ofNat (dr j)) (len j)) ∧ rd M (k + 4) j = imax (X j) (X j + goX (Int32.ofNat (dr j)) (len j)) ∧ rd M (k + 5) j = imin (Y j) (Y j + goY (Int32.ofNat (dr j)) (len j)) ∧ rd M (k + 6) j = imax (Y j) (Y j + goY (Int32.ofNat (dr j)) (len j))
/-- what the walk reads -/
def WIs (k k1 Lc : Nat) (len : Nat → Int32) (M : Mem) : Prop := rd M k 6 = Int32.ofNat Lc ∧ ∀ j, j < Lc → rd M (k1 + 1) j = len j
theorem WIs.ks {Lc : Nat} {len : Nat → Int32} {M' : Mem} (h : WIs k k1 Lc len M) (hd : k1 + 8 ≤ k ∨ k + 7 ≤ k1) (hM : KS (SPl k) M M') : WIs k k1 Lc len M' := ⟨(hM k 6 (fun q => by have := q.1; omega)).trans h.1, fun j hj => (hM (k1 + 1) j (fun q => by have := q.1; have := q.2; omega)).trans (h.2 j hj)⟩
/-- the places fit together -/
def Fit (s : Int) (Lc : Nat) (X Y : Nat → Int32) (dr : Nat → Nat) (len : Nat → Int32) (up : Nat → Bool) (a n t : Nat) : Prop := ∀ j j' : Nat, (j' : Int) = (j : Int) + s → j < Lc → j' < Lc → X j' = X j + goX (Int32.ofNat (dr j)) (len j) ∧ Y j' = Y j + goY (Int32.ofNat (dr j)) (len j) ∧ dr j' = turnS up a n t (dr j) (if s = 1 then (j : Int) else (j : Int) - 1)
def RW (k Lc : Nat) (X Y : Nat → Int32) (dr : Nat → Nat) (len : Nat → Int32) (s l : Int) (M : Mem) (p : Mem × Unit) : Prop := KS (SPl k) M p.1 ∧ (∀ j : Nat, j < Lc → vis s l j → LGs k X Y dr len p.1 j) ∧ ∀ c j : Nat, ¬ vis s l j → rd p.1 c j = rd M c j
theorem wk_l {up : Nat → Bool} {n a t Lc : Nat} {x7 s : Int32} {X Y : Nat → Int32} {dr : Nat → Nat} {len : Nat → Int32} (hd8 : k1 + 8 ≤ k ∨ k + 7 ≤ k1) (hs : s = 1 ∨ s = -1) (ha : a < 2 ^ n) (hn : n ≤ 8) (ht : t < 4) (ht0 : 0 < t) (hu : ∀ b, b < n → ((((x7 >>> (Int32.ofNat b &&& 31)) &&& (1 : Int32)) = 0) ↔ up b = false)) (hLc : Lc ≤ 9) (hF : Fit s.toInt Lc X Y dr len up a n t) (hdr : ∀ j, dr j < 4) :
    ∀ (nf : Nat) (l : Int32) (d : Nat) (x y : Int32) (M : Mem), WIs k k1 Lc len M → (-1 ≤ l.toInt ∧ l.toInt ≤ 9) → (s = -1 → l.toInt < (Lc : Int)) → (s = 1 → 0 ≤ l.toInt) → (0 ≤ l.toInt → l.toInt < (Lc : Int) → x = X l.toInt.toNat ∧ y = Y l.toInt.toNat ∧ d = dr l.toInt.toNat) →
    Pc (mX2_walk_l13 k k1 nf s (Int32.ofNat t) (Int32.ofNat a) x7 x y (Int32.ofNat d) l M) (RW k Lc X Y dr len s.toInt l.toInt M) := by
  intro nf
  induction nf with
  | zero => intro l d x y M _ _ _ _ _; exact Pc.n
  | succ nf IH =>
    intro l d x y M h hl hs1 hs2 hxy
    show Pc (mX2_walk_b13 k k1 (mX2_walk_l13 k k1 nf) s (Int32.ofNat t) (Int32.ofNat a) x7 x y (Int32.ofNat d) l M) _
    have sv : (s = 1 ∧ s.toInt = 1) ∨ (s = -1 ∧ s.toInt = -1) := by
      rcases hs with e | e
      · exact Or.inl ⟨e, by rw [e]; rfl⟩
      · exact Or.inr ⟨e, by rw [e]; rfl⟩
    have stop : (l.toInt < 0 ∨ (Lc : Int) ≤ l.toInt) → RW k Lc X Y dr len s.toInt l.toInt M (M, ()) := by
      intro hq
      refine ⟨KS.rf, fun j hj hv => ?_, fun _ _ _ => rfl⟩
      exfalso
      unfold vis at hv
      rcases sv with ⟨e, e1⟩ | ⟨e, e1⟩
      · rw [if_pos e1] at hv
        have := hs2 e
        omega
      · rw [if_neg (by omega)] at hv
        have := hs1 e
        omega
    unfold mX2_walk_b13
    refine Pc.i (fun c => Pc.ok (stop (Or.inl (i_lt.mp c)))) (fun c => ?_)
    have c : 0 ≤ l.toInt := i_nlt c
    rw [h.1]
    refine Pc.i (fun c2 => Pc.ok (stop (Or.inr ?_))) (fun c2 => ?_)
    · have c2 := i_le.mp c2
      rw [t_of (by omega)] at c2; exact c2
    have c2 : l.toInt < (Lc : Int) := by have := i_nle c2; rw [t_of (by omega)] at this; exact this
    obtain ⟨j0, hj0⟩ : ∃ j0 : Nat, l.toInt = (j0 : Int) := ⟨l.toInt.toNat, by omega⟩
    have el : l = Int32.ofNat j0 := by rw [o_of c, hj0]; rfl
    obtain ⟨hx, hy, hdd⟩ := hxy c c2
    rw [hj0] at hx hy hdd
    have hx : x = X j0 := hx
    have hy : y = Y j0 := hy
    have hdd : d = dr j0 := hdd
    subst hx
    subst hy
    subst hdd
    have cl := c_of (a := j0) (by omega)
    have tl : (Int32.ofNat j0).toInt = (j0 : Int) := by rw [← el]; exact hj0
    refine Pc.i (fun c9 => ?_) (fun _ => Pc.k (fun _ => Pc.b (fun len' elen => ?_)))
    · have c9 := i_le.mp c9
      rw [show ((9 : Int32)).toInt = 9 from rfl] at c9
      exfalso; omega
    rw [el] at elen ⊢
    rw [cl, h.2 j0 (by omega)] at elen
    subst elen
    refine pc_layL (k := k) (k1 := k1) (by omega) (P := RW k Lc X Y dr len s.toInt (Int32.ofNat j0).toInt M) (fun M1 kM oM b1 b2 b3 b4 b5 b6 => ?_)
    have hW1 := h.ks hd8 kM
    have lj : LGs k X Y dr len M1 j0 := ⟨b1, b2, b3, b4, b5, b6⟩
    have n1 : ((1 : Int32)).toInt = 1 := rfl
    have es := i_sub (a := Int32.ofNat j0) (b := 1) (by rw [tl, n1]; omega) (by rw [tl, n1]; omega)
    have rest : ∀ (yb : Int32), yb.toInt = (if s.toInt = 1 then (j0 : Int) else (j0 : Int) - 1) → Pc (mX2_walk_b217 k k1 (mX2_walk_l13 k k1 nf) s (Int32.ofNat t) (Int32.ofNat a) x7 (X j0 + goX (Int32.ofNat (dr j0)) (len j0)) (Y j0 + goY (Int32.ofNat (dr j0)) (len j0)) (Int32.ofNat (dr j0)) (Int32.ofNat j0) yb M1) (RW k Lc X Y dr len s.toInt (Int32.ofNat j0).toInt M) := by
      intro yb hyb
      have hyb2 : -1 ≤ yb.toInt ∧ yb.toInt ≤ 8 := by rw [hyb]; split <;> omega
      refine pc_b217 ha hn ht ht0 (hdr j0) hyb2 hu ?_
      unfold mX2_walk_b272
      refine Pc.b (fun z ez => ?_)
      have tz : z.toInt = (j0 : Int) + s.toInt := by
        rw [ez, i_add (by rw [tl]; omega) (by rw [tl]; omega), tl]
      have nv : ∀ j : Nat, ¬ vis s.toInt (Int32.ofNat j0).toInt j → j ≠ j0 ∧ ¬ vis s.toInt z.toInt j := by
        intro j hv
        unfold vis at hv ⊢
        rw [tl] at hv
        rw [tz]
        rcases sv with ⟨-, e1⟩ | ⟨-, e1⟩
        · rw [if_pos e1] at hv ⊢; omega
        · rw [if_neg (by omega)] at hv ⊢; omega
      refine (IH z (turnS up a n t (dr j0) yb.toInt) (X j0 + goX (Int32.ofNat (dr j0)) (len j0)) (Y j0 + goY (Int32.ofNat (dr j0)) (len j0)) M1 hW1 (by omega) (fun e => by
        rcases sv with ⟨e2, e3⟩ | ⟨e2, e3⟩
        · rw [e] at e2; exact absurd e2 (by decide)
        · omega) (fun e => by
        rcases sv with ⟨e2, e3⟩ | ⟨e2, e3⟩
        · omega
        · rw [e] at e2; exact absurd e2 (by decide)) (fun g0 g1 => ?_)).mono (fun p r => ⟨kM.trans r.1, fun j hj hv => ?_, fun c j hv => ?_⟩)
      · obtain ⟨f1, f2, f3⟩ := hF j0 z.toInt.toNat (by omega) (by omega) (by omega)
        rw [f1, f2, f3, hyb]
        exact ⟨rfl, rfl, rfl⟩
      · by_cases e : j = j0
        · subst e
          have nz : ¬ vis s.toInt z.toInt j := by
            unfold vis
            rw [tz]
            rcases sv with ⟨-, e1⟩ | ⟨-, e1⟩
            · rw [if_pos e1]; omega
            · rw [if_neg (by omega)]; omega
          unfold LGs
          rw [r.2.2 _ _ nz, r.2.2 _ _ nz, r.2.2 _ _ nz, r.2.2 _ _ nz, r.2.2 _ _ nz, r.2.2 _ _ nz]
          exact lj
        · refine r.2.1 j hj ?_
          unfold vis at hv ⊢
          rw [tl] at hv
          rw [tz]
          rcases sv with ⟨-, e1⟩ | ⟨-, e1⟩
          · rw [if_pos e1] at hv ⊢; omega
          · rw [if_neg (by omega)] at hv ⊢; omega
      · obtain ⟨n1, n2⟩ := nv j hv
        rw [r.2.2 c j n2]; exact oM c j n1
    refine Pc.i (fun cs => rest _ ?_) (fun cs => rest _ ?_)
    · have cs := i_le.mp cs
      rw [Int32.toInt_zero] at cs
      rw [if_neg (by omega), es, tl, n1]
    · have cs := i_nle cs
      rw [Int32.toInt_zero] at cs
      rcases sv with ⟨-, e1⟩ | ⟨-, e1⟩
      · rw [if_pos e1, tl]
      · omega
end WKx
