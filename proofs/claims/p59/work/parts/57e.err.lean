section ER
variable {M : Mem} {k w : Nat} {i : Int32}
theorem pc_bc : Pc (mX1_bendCount k M) (fun r => ((rd M k 0).toInt ≤ 0 ∧ r = 0) ∨ (0 < (rd M k 0).toInt ∧ r = rd M k 0 - 1)) := by
  unfold mX1_bendCount
  refine Pc.i (fun c => Pc.ok (Or.inl ⟨?_, rfl⟩)) (fun c => Pc.ok (Or.inr ⟨?_, rfl⟩))
  · have c := i_le.mp c; exact c
  · have c := i_nle c; exact c
theorem eow_leg : Pc (mX4_errorOfWord 1 k M) (fun e => (0 < (rd M k 0).toInt ∧ e = 4) ∨ ((rd M k 0).toInt ≤ 0 ∧ e = 0)) := by
  unfold mX4_errorOfWord
  refine Pc.i (fun _ => Pc.i (fun c => ?_) (fun c => ?_)) (fun q => absurd rfl q)
  · have c : (rd M k 0).toInt ≤ 0 := i_le.mp c
    exact Pc.ok (Or.inr ⟨c, rfl⟩)
  · have c : 0 < (rd M k 0).toInt := i_nle c
    exact Pc.ok (Or.inl ⟨c, rfl⟩)
theorem eow_bend (hw : w = 2 ∨ w = 3) (hb : 0 ≤ (rd M k 0).toInt ∧ (rd M k 0).toInt ≤ 9) : Pc (mX4_errorOfWord w k M) (fun e => ((rd M k 0).toInt = 0 ∧ e = 4) ∨ ((rd M k 0).toInt = 9 ∧ e = 5) ∨ ((0 < (rd M k 0).toInt ∧ (rd M k 0).toInt < 9) ∧ e = 0)) := by
  have n1 : ((1 : Int32)).toInt = 1 := rfl
  have n8 : ((8 : Int32)).toInt = 8 := rfl
  have z0 : ((0 : Int32)).toInt = 0 := rfl
  have isb : mX5_isBend w M = some 1 := by rcases hw with rfl | rfl <;> rfl
  have go : Pc (mX4_errorOfWord_b19 w k M 0) (fun e => ((rd M k 0).toInt = 0 ∧ e = 4) ∨ ((rd M k 0).toInt = 9 ∧ e = 5) ∨ ((0 < (rd M k 0).toInt ∧ (rd M k 0).toInt < 9) ∧ e = 0)) := by
    unfold mX4_errorOfWord_b19
    rw [isb]
    refine Pc.c (Pc.self _) (fun r er => ?_)
    cases er
    refine Pc.i (fun q => absurd q (by decide)) (fun _ => Pc.i (fun c => ?_) (fun c => ?_))
    · have c := i_eq.mp c
      exact Pc.ok (Or.inl ⟨c, rfl⟩)
    · have c := i_ne c
      rw [z0] at c
      unfold mX4_errorOfWord_b38 mX4_errorOfWord_b39
      rw [isb]
      refine Pc.i (fun _ => Pc.i (fun _ => ?_) (fun q => absurd rfl q)) (fun q => absurd rfl q)
      refine Pc.c (Pc.self _) (fun r er => ?_)
      cases er
      refine Pc.i (fun q => absurd q (by decide)) (fun _ => Pc.c pc_bc (fun r17 p => ?_))
      have e17 : r17.toInt = (rd M k 0).toInt - 1 := by
        rcases p with ⟨p, _⟩ | ⟨p, e⟩
        · exfalso; omega
        · rw [e, i_sub (by omega) (by omega), n1]
      refine Pc.i (fun c8 => ?_) (fun c8 => ?_)
      · have c8 := i_lt.mp c8
        have h4 : ¬ w = 4 := by omega
        unfold mX4_errorOfWord_b70 mX4_errorOfWord_b71
        refine Pc.i (fun q => absurd q h4) (fun _ => Pc.ok (Or.inr (Or.inr ⟨by omega, rfl⟩)))
      · have c8 := i_nlt c8
        have h4 : ¬ w = 4 := by omega
        unfold mX4_errorOfWord_b71
        refine Pc.i (fun q => absurd q h4) (fun _ => Pc.ok (Or.inr (Or.inl ⟨by omega, rfl⟩)))
  unfold mX4_errorOfWord
  exact Pc.i (fun q => by omega) (fun _ => go)
theorem eow_other (hw : w ≠ 1 ∧ w ≠ 2 ∧ w ≠ 3) : Pc (mX4_errorOfWord w k M) (fun e => (w = 4 ∧ 8 ≤ (rd M k 10).toInt ∧ e = 5) ∨ ((w = 4 → (rd M k 10).toInt < 8) ∧ e = 0)) := by
  have isb : mX5_isBend w M = some 0 := by
    unfold mX5_isBend ite2
    rw [if_neg hw.2.1, if_neg hw.2.2]
  have go : Pc (mX4_errorOfWord_b19 w k M 0) (fun e => (w = 4 ∧ 8 ≤ (rd M k 10).toInt ∧ e = 5) ∨ ((w = 4 → (rd M k 10).toInt < 8) ∧ e = 0)) := by
    unfold mX4_errorOfWord_b19
    rw [isb]
    refine Pc.c (Pc.self _) (fun r er => ?_)
    cases er
    refine Pc.i (fun _ => ?_) (fun q => absurd rfl q)
    unfold mX4_errorOfWord_b38 mX4_errorOfWord_b39
    rw [isb]
    refine Pc.i (fun _ => Pc.i (fun _ => ?_) (fun q => absurd rfl q)) (fun q => absurd rfl q)
    refine Pc.c (Pc.self _) (fun r er => ?_)
    cases er
    refine Pc.i (fun _ => ?_) (fun q => absurd rfl q)
    unfold mX4_errorOfWord_b70 mX4_errorOfWord_b71
    refine Pc.i (fun c4 => Pc.i (fun c8 => ?_) (fun c8 => ?_)) (fun c4 => Pc.ok (Or.inr ⟨fun q => absurd q c4, rfl⟩))
    · have c8 := i_lt.mp c8
      exact Pc.ok (Or.inr ⟨fun _ => c8, rfl⟩)
    · have c8 := i_nlt c8
      exact Pc.ok (Or.inl ⟨c4, c8, rfl⟩)
  unfold mX4_errorOfWord
  exact Pc.i (fun q => absurd q hw.1) (fun _ => go)
/-- the ratio of the last back statement -/
def LB (k : Nat) (M : Mem) : Int := if (rd M k 10).toInt ≤ 0 then -1 else (rd M (k + 3) ((rd M k 10).toInt - 1).toNat).toInt
theorem pc_lb (hb : (rd M k 10).toInt ≤ 8) : Pc (mX1_lastBackRatio k M) (fun r => r.toInt = LB k M) := by
  unfold mX1_lastBackRatio LB
  have n1 : ((1 : Int32)).toInt = 1 := rfl
  refine Pc.i (fun c => ?_) (fun c => Pc.k (fun _ => ?_))
  · have c : (rd M k 10).toInt ≤ 0 := i_le.mp c
    rw [if_pos c]; exact Pc.ok rfl
  · have c : 0 < (rd M k 10).toInt := i_nle c
    rw [if_neg (by omega), i_clamp, i_sub (by omega) (by omega), n1]; exact Pc.ok rfl
/-- whether a number is allowed -/
def Alw (w i : Nat) (k : Nat) (M : Mem) : Prop :=
  if i = 0 then ((wF0.getD w 0).toInt ≤ (rd M 2 7).toInt ∧ (rd M 2 7).toInt ≤ (wF1.getD w 0).toInt) ∧ (w = 4 → LB k M < (rd M 2 7).toInt)
  else (0 ≤ (rd M 2 7).toInt ∧ (rd M 2 7).toInt ≤ (if i = 1 then (wF2.getD w 0).toInt else (wF3.getD w 0).toInt)) ∧ (w = 8 → (rd M 3 0).toInt ≤ (rd M 2 7).toInt)
def Err (w i k : Nat) (M : Mem) (e : Int32) : Prop := (rd M 2 6 = 1 ∧ e = 1) ∨ (¬ rd M 2 6 = 1 ∧ ¬ rd M 2 6 = 3 ∧ e = 2) ∨ (rd M 2 6 = 3 ∧ ((e = 0 ∧ Alw w i k M) ∨ (e = 3 ∧ ¬ Alw w i k M)))
theorem pc_ein {x e : Int32} : Pc (mX4_errorIfNot 2 x e M) (fun r => (rd M 2 6 = 1 ∧ r = 1) ∨ (¬ rd M 2 6 = 1 ∧ rd M 2 6 = x ∧ r = e) ∨ (¬ rd M 2 6 = 1 ∧ ¬ rd M 2 6 = x ∧ r = 2)) := by
  unfold mX4_errorIfNot
  exact Pc.i (fun c => Pc.ok (Or.inl ⟨c, rfl⟩)) (fun c => Pc.i (fun c2 => Pc.ok (Or.inr (Or.inl ⟨c, c2, rfl⟩))) (fun c2 => Pc.ok (Or.inr (Or.inr ⟨c, c2, rfl⟩))))
theorem pc_al (x v : Int32) : Pc (mX5_allows w x v M) (fun r => (r = 1 ∧ ((x = 0 ∧ (wF0.getD w 0).toInt ≤ v.toInt ∧ v.toInt ≤ (wF1.getD w 0).toInt) ∨ (¬ x = 0 ∧ x = 1 ∧ 0 ≤ v.toInt ∧ v.toInt ≤ (wF2.getD w 0).toInt) ∨ (¬ x = 0 ∧ ¬ x = 1 ∧ 0 ≤ v.toInt ∧ v.toInt ≤ (wF3.getD w 0).toInt))) ∨ (r = 0 ∧ ((x = 0 ∧ ¬ ((wF0.getD w 0).toInt ≤ v.toInt ∧ v.toInt ≤ (wF1.getD w 0).toInt)) ∨ (¬ x = 0 ∧ x = 1 ∧ ¬ (0 ≤ v.toInt ∧ v.toInt ≤ (wF2.getD w 0).toInt)) ∨ (¬ x = 0 ∧ ¬ x = 1 ∧ ¬ (0 ≤ v.toInt ∧ v.toInt ≤ (wF3.getD w 0).toInt))))) := by
  unfold mX5_allows
  have z0 : ((0 : Int32)).toInt = 0 := rfl
  refine Pc.i (fun c => Pc.i (fun d => ?_) (fun d => Pc.i (fun g => ?_) (fun g => ?_))) (fun c => Pc.i (fun c1 => Pc.i (fun d => ?_) (fun d => Pc.i (fun g => ?_) (fun g => ?_))) (fun c1 => Pc.i (fun d => ?_) (fun d => Pc.i (fun g => ?_) (fun g => ?_))))
  · have d := i_lt.mp d; exact Pc.ok (Or.inr ⟨rfl, Or.inl ⟨c, by omega⟩⟩)
  · have g := i_lt.mp g; exact Pc.ok (Or.inr ⟨rfl, Or.inl ⟨c, by omega⟩⟩)
  · have d := i_nlt d; have g := i_nlt g; exact Pc.ok (Or.inl ⟨rfl, Or.inl ⟨c, by omega⟩⟩)
  · have d := i_lt.mp d; exact Pc.ok (Or.inr ⟨rfl, Or.inr (Or.inl ⟨c, c1, by omega⟩)⟩)
  · have g := i_lt.mp g; exact Pc.ok (Or.inr ⟨rfl, Or.inr (Or.inl ⟨c, c1, by omega⟩)⟩)
  · have d := i_nlt d; have g := i_nlt g; exact Pc.ok (Or.inl ⟨rfl, Or.inr (Or.inl ⟨c, c1, by omega⟩)⟩)
  · have d := i_lt.mp d; exact Pc.ok (Or.inr ⟨rfl, Or.inr (Or.inr ⟨c, c1, by omega⟩)⟩)
  · have g := i_lt.mp g; exact Pc.ok (Or.inr ⟨rfl, Or.inr (Or.inr ⟨c, c1, by omega⟩)⟩)
  · have d := i_nlt d; have g := i_nlt g; exact Pc.ok (Or.inl ⟨rfl, Or.inr (Or.inr ⟨c, c1, by omega⟩)⟩)
theorem pc_eon {i : Nat} (hi : i < 3) (hb : (rd M k 10).toInt ≤ 8) : Pc (mX4_errorOfNumber 2 w k (Int32.ofNat i) M) (Err w i k M) := by
  have ti : (Int32.ofNat i).toInt = (i : Int) := t_of (by omega)
  have i0 : (Int32.ofNat i = 0) ↔ i = 0 := by rw [i_eq, ti]; show (i : Int) = 0 ↔ _; omega
  have i1 : (Int32.ofNat i = 1) ↔ i = 1 := by rw [i_eq, ti]; show (i : Int) = 1 ↔ _; omega
  unfold mX4_errorOfNumber
  refine Pc.c pc_ein (fun r2 p2 => ?_)
  rcases p2 with ⟨p, rfl⟩ | ⟨p, p3, rfl⟩ | ⟨p, p3, rfl⟩
  · exact Pc.i (fun q => absurd q (by decide)) (fun _ => Pc.ok (Or.inl ⟨p, rfl⟩))
  · refine Pc.i (fun _ => ?_) (fun q => absurd rfl q)
    have f74 : ∀ y : Int32, Pc (mX4_errorOfNumber_b74 2 w k M y) (fun e => (y = 0 ∧ e = 3) ∨ (¬ y = 0 ∧ e = 0)) := fun y => by
      unfold mX4_errorOfNumber_b74
      exact Pc.i (fun c => Pc.ok (Or.inl ⟨c, rfl⟩)) (fun c => Pc.ok (Or.inr ⟨c, rfl⟩))
    have fin : ∀ (A : Prop) (y e : Int32), ((y = 1 ∧ A) ∨ (y = 0 ∧ ¬ A)) → ((y = 0 ∧ e = 3) ∨ (¬ y = 0 ∧ e = 0)) → (Alw w i k M ↔ A) → Err w i k M e := by
      intro A y e h1 h2 h3
      refine Or.inr (Or.inr ⟨p3, ?_⟩)
      rcases h1 with ⟨h1, hA⟩ | ⟨h1, hA⟩
      · rcases h2 with ⟨h2, _⟩ | ⟨_, h2⟩
        · rw [h1] at h2; exact absurd h2 (by decide)
        · exact Or.inl ⟨h2, h3.mpr hA⟩
      · rcases h2 with ⟨_, h2⟩ | ⟨h2, _⟩
        · exact Or.inr ⟨h2, fun q => hA (h3.mp q)⟩
        · exact absurd h1 h2
    refine Pc.i (fun c0 => Pc.c (pc_al _ _) (fun r18 p18 => ?_)) (fun c0 => Pc.k (fun _ => ?_))
    · have e0 := i0.mp c0
      have p18 : (r18 = 1 ∧ ((wF0.getD w 0).toInt ≤ (rd M 2 7).toInt ∧ (rd M 2 7).toInt ≤ (wF1.getD w 0).toInt)) ∨ (r18 = 0 ∧ ¬ ((wF0.getD w 0).toInt ≤ (rd M 2 7).toInt ∧ (rd M 2 7).toInt ≤ (wF1.getD w 0).toInt)) := by
        rcases p18 with ⟨e, p | p | p⟩ | ⟨e, p | p | p⟩
        · exact Or.inl ⟨e, p.2⟩
        · exact absurd rfl p.1
        · exact absurd rfl p.1
        · exact Or.inr ⟨e, p.2⟩
        · exact absurd rfl p.1
        · exact absurd rfl p.1
      unfold mX4_errorOfNumber_b47
      refine Pc.i (fun c4 => Pc.i (fun _ => Pc.c (pc_lb hb) (fun r14 p14 => Pc.i (fun c => ?_) (fun c => ?_))) (fun q => absurd c0 q)) (fun c4 => Pc.mono (f74 r18) (fun e he => fin _ _ _ p18 he ?_))
      · have c := i_lt.mp c
        refine Pc.mono (f74 r18) (fun e he => fin _ _ _ p18 he ?_)
        unfold Alw
        rw [if_pos e0]
        exact ⟨fun q => q.1, fun q => ⟨q, fun _ => by omega⟩⟩
      · have c := i_nlt c
        refine Pc.mono (f74 0) (fun e he => fin False 0 e (Or.inr ⟨rfl, id⟩) he ?_)
        unfold Alw
        rw [if_pos e0]
        exact ⟨fun q => by have := q.2 c4; omega, fun q => q.elim⟩
      · unfold Alw
        rw [if_pos e0]
        exact ⟨fun q => q.1, fun q => ⟨q, fun q4 => absurd q4 c4⟩⟩
    · have e0 := mt i0.mpr c0
      unfold mX5_allowsBehind
      have n0 : ((0 : Int32)).toNatClampNeg = 0 := rfl
      have bx : ∀ y : Int32, Pc (mX4_errorOfNumber_b47 2 w k M (Int32.ofNat i) y) (fun e => (y = 0 ∧ e = 3) ∨ (¬ y = 0 ∧ e = 0)) := fun y => by
        unfold mX4_errorOfNumber_b47
        exact Pc.i (fun _ => Pc.i (fun q => absurd q c0) (fun _ => f74 y)) (fun _ => f74 y)
      refine Pc.c (Q := fun r => (r = 1 ∧ Alw w i k M) ∨ (r = 0 ∧ ¬ Alw w i k M)) (Pc.c (pc_al _ _) (fun r p18 => ?_)) (fun r8 p8 => Pc.mono (bx r8) (fun e he => fin _ _ _ p8 he Iff.rfl))
      have p18 : (r = 1 ∧ (0 ≤ (rd M 2 7).toInt ∧ (rd M 2 7).toInt ≤ (if i = 1 then (wF2.getD w 0).toInt else (wF3.getD w 0).toInt))) ∨ (r = 0 ∧ ¬ (0 ≤ (rd M 2 7).toInt ∧ (rd M 2 7).toInt ≤ (if i = 1 then (wF2.getD w 0).toInt else (wF3.getD w 0).toInt))) := by
        rcases p18 with ⟨e, p | p | p⟩ | ⟨e, p | p | p⟩
        · exact absurd p.1 c0
        · rw [if_pos (i1.mp p.2.1)]; exact Or.inl ⟨e, p.2.2⟩
        · rw [if_neg (mt i1.mpr p.2.1)]; exact Or.inl ⟨e, p.2.2⟩
        · exact absurd p.1 c0
        · rw [if_pos (i1.mp p.2.1)]; exact Or.inr ⟨e, p.2.2⟩
        · rw [if_neg (mt i1.mpr p.2.1)]; exact Or.inr ⟨e, p.2.2⟩
      unfold mX5_allowsBehind_b21 Alw
      rw [if_neg e0]
      refine Pc.i (fun c => Pc.ok (Or.inr ⟨rfl, fun q => ?_⟩)) (fun c => Pc.i (fun c8 => Pc.i (fun d => Pc.ok (Or.inr ⟨rfl, fun q => ?_⟩)) (fun d => Pc.ok (Or.inl ⟨rfl, ?_⟩))) (fun c8 => Pc.ok (Or.inl ⟨rfl, ?_⟩)))
      · rcases p18 with ⟨e, _⟩ | ⟨_, p⟩
        · rw [c] at e; exact absurd e (by decide)
        · exact p q.1
      · have d : (rd M 2 7).toInt < (rd M 3 0).toInt := i_lt.mp d
        have := q.2 c8; omega
      · rcases p18 with ⟨_, p⟩ | ⟨e, _⟩
        · have d : (rd M 3 0).toInt ≤ (rd M 2 7).toInt := i_nlt d
          exact ⟨p, fun _ => d⟩
        · exact absurd e c
      · rcases p18 with ⟨_, p⟩ | ⟨e, _⟩
        · exact ⟨p, fun q => absurd q c8⟩
        · exact absurd e c
  · exact Pc.i (fun q => absurd q (by decide)) (fun _ => Pc.ok (Or.inr (Or.inl ⟨p, p3, rfl⟩)))
theorem nc_at : ∀ w, w < 11 → mX5_numberCount w m0 = some (Int32.ofNat (if w = 0 ∨ w = 10 then 3 else if 4 ≤ w ∧ w ≤ 8 then 2 else 1)) := by decide +kernel
theorem tn_at : ∀ w, w < 11 → mX5_toolNumber w m0 = some (if 5 ≤ w ∧ w ≤ 9 then Int32.ofNat (w - 5) else -1) := by decide +kernel
end ER

