/-! what a step costs behind another: alike -/
section PC
variable {M N : Mem} {k b1 s1 b2 s2 n : Nat} {g1 g2 : Int32}
theorem price_R (hP : PR k M (row 136 N)) (hn : (rd N 136 0).toInt = (n : Int)) (hb1 : b1 < n) (hb2 : b2 < n) (hs1 : s1 < 2) (hs2 : s2 < 2) :
    R2 (mX1_priceBetween k (Int32.ofNat (2 * b1 + s1)) g1 (Int32.ofNat (2 * b2 + s2)) g2 M) (mX7_costBehind 135 (Int32.ofNat b1) (Int32.ofNat s1) g1 (Int32.ofNat b2) (Int32.ofNat s2) g2 N) (fun p q => p = q) := by
  have n8 : n ≤ 8 := by have := hP.n8; have e : (row 136 N 0).toInt = (n : Int) := hn; omega
  have hup : ∀ b' : Nat, b' < n → (rd N 136 (11 + b') = if (rd M k 2).toInt.toNat.testBit b' then 1 else 0) := fun b' hb' => hP.up b' (by show (b' : Int) < (rd N 136 0).toInt; omega)
  have n11 : ((11 : Int32)).toInt = 11 := rfl
  have ix : ∀ b : Nat, b < 8 → ((11 : Int32) + Int32.ofNat b).toNatClampNeg = 11 + b := fun b hb => by
    have tb : (Int32.ofNat b).toInt = (b : Int) := t_of (by omega)
    rw [i_clamp, i_add (by omega) (by omega)]; omega
  have t1 : (Int32.ofNat (2 * b1 + s1)).toInt = ((2 * b1 + s1 : Nat) : Int) := t_of (by omega)
  have oinj : (Int32.ofNat s1 = Int32.ofNat s2) ↔ s1 = s2 := ⟨fun h => o_inj (by omega) (by omega) h, fun h => by rw [h]⟩
  have last : ∀ x5 : Int32, R2 (mX1_priceBetween_b54 k M g1 g2 x5) (mX7_costBehind_b55 135 N g1 g2 x5) (fun p q => p = q) := by
    intro x5
    unfold mX1_priceBetween_b54 mX7_costBehind_b55
    refine R2.il (fun c => R2.ir (fun _ => R2.ok rfl) (fun z => absurd c z)) (fun c => R2.ir (fun z => absurd z c) (fun _ => R2.bl (fun v ev => R2.kr (fun _ => R2.br (fun w ew => R2.ok ?_)))))
    rw [ev, ew, hP.co.2.2]
    rfl
  have mid : ∀ x5 : Int32, R2 (mX1_priceBetween_b36 k M (Int32.ofNat (2 * b1 + s1)) g1 (Int32.ofNat (2 * b2 + s2)) g2 x5) (mX7_costBehind_b37 135 N (Int32.ofNat s1) g1 (Int32.ofNat s2) g2 x5) (fun p q => p = q) := by
    intro x5
    unfold mX1_priceBetween_b36 mX7_costBehind_b37
    rw [f_and1 (2 * b1 + s1) (by omega), f_and1 (2 * b2 + s2) (by omega), show (2 * b1 + s1) % 2 = s1 by omega, show (2 * b2 + s2) % 2 = s2 by omega]
    refine R2.il (fun c => R2.ir (fun _ => last x5) (fun z => absurd c z)) (fun c => R2.ir (fun z => absurd z c) (fun _ => R2.bl (fun v ev => R2.kr (fun _ => R2.br (fun w ew => ?_)))))
    have e : v = w := by rw [ev, ew, hP.co.2.1]; rfl
    rw [e]
    exact last w
  unfold mX1_priceBetween mX7_costBehind
  rw [f_shr1 (2 * b1 + s1) (by omega), f_shr1 (2 * b2 + s2) (by omega), show (2 * b1 + s1) / 2 = b1 by omega, show (2 * b2 + s2) / 2 = b2 by omega, ix b1 (by omega), ix b2 (by omega)]
  refine R2.kr (fun _ => R2.kr (fun _ => R2.il (fun c => ?_) (fun _ => R2.cl (pc_goesUp (b := b1) hP.ub (by omega)) (fun r p => R2.cl (pc_goesUp (b := b2) hP.ub (by omega)) (fun r' p' => ?_)))))
  · have c := congrArg Int32.toInt c
    rw [t1, show ((-1 : Int32)).toInt = -1 from rfl] at c
    exfalso; omega
  have e1 : rd N (135 + 1) (11 + b1) = r := by rw [p]; exact hup b1 hb1
  have e2 : rd N (135 + 1) (11 + b2) = r' := by rw [p']; exact hup b2 hb2
  rw [e1, e2]
  refine R2.il (fun c => R2.ir (fun _ => mid 0) (fun z => absurd c z)) (fun c => R2.ir (fun z => absurd z c) (fun _ => R2.bl (fun v ev => R2.kr (fun _ => R2.br (fun w ew => ?_)))))
  have e : v = w := by rw [ev, ew, hP.co.1]; rfl
  rw [e]
  exact mid w
end PC
