/-! mirror words, forward -/
theorem bnd_e {α β : Type} (e : α) (k : α → Option β) : bnd e k = k e := rfl
theorem cal_e {ρ β : Type} (M : Mem) (r : ρ) (k : Mem → ρ → Option β) : cal (some (M, r)) k = k M r := rfl
theorem cap_e {ρ β : Type} (r : ρ) (k : ρ → Option β) : cap (some r) k = k r := rfl
theorem calh_e {ρ β : Type} (M : Mem) (r : ρ) (k : Mem → ρ → Option β) : calh (some (M, .inl r)) k = k M r := rfl
theorem calt_i {ρ β : Type} (M : Mem) (r : ρ) (k : Mem → ρ → Option β) (h : Mem → Nat → Option β) : calt (some (M, .inl r)) k h = k M r := rfl
theorem calt_r {ρ β : Type} (M : Mem) (r : Nat) (k : Mem → ρ → Option β) (h : Mem → Nat → Option β) : calt (some (M, .inr r)) k h = h M r := rfl
theorem calx_i {ρ σ : Type} (M : Mem) (r : ρ) (k : Mem → ρ → Option (Mem × (σ ⊕ Nat))) : calx (some (M, .inl r)) k = k M r := rfl
theorem calx_r {ρ σ : Type} (M : Mem) (r : Nat) (k : Mem → ρ → Option (Mem × (σ ⊕ Nat))) : calx (some (M, .inr r)) k = some (M, .inr r) := rfl
theorem chk_t {α : Type} {b : Bool} {x : Option α} (h : b = true) : chk b x = x := if_pos h
theorem ite_p {α : Type} {c : Prop} [Decidable c] {a b : Option α} (h : c) : ite2 c a b = a := if_pos h
theorem ite_n {α : Type} {c : Prop} [Decidable c] {a b : Option α} (h : ¬ c) : ite2 c a b = b := if_neg h
/-! the fresh memory -/
def Zb (M : Mem) (b : Nat) : Prop := ∀ a, b ≤ a → M.1 a = (fun _ => 0) ∧ M.2.1 a = (fun _ => 0) ∧ M.2.2 a = (fun _ => 0)
theorem zb_up {M : Mem} {b b' : Nat} (h : Zb M b) (hb : b ≤ b') : Zb M b' := fun a ha => h a (Nat.le_trans hb ha)
theorem mem_x {M N : Mem} (h1 : ∀ a, M.1 a = N.1 a) (h2 : ∀ a, M.2.1 a = N.2.1 a) (h3 : ∀ a, M.2.2 a = N.2.2 a) : M = N :=
  Prod.ext (funext h1) (Prod.ext (funext h2) (funext h3))
theorem zb_zr {M : Mem} {b : Nat} (h : Zb M b) {k : Nat} (hk : b ≤ k) : zr M k = M := by
  obtain ⟨z1, z2, z3⟩ := h k hk
  refine mem_x (fun a => ?_) (fun a => ?_) (fun a => ?_)
  · show (if a = k then fun _ => (0 : Int32) else M.1 a) = M.1 a
    split
    · rename_i e; rw [e, z1]
    · rfl
  · show (if a = k then fun _ => (0 : Int64) else M.2.1 a) = M.2.1 a
    split
    · rename_i e; rw [e, z2]
    · rfl
  · show (if a = k then fun _ => (0 : UInt64) else M.2.2 a) = M.2.2 a
    split
    · rename_i e; rw [e, z3]
    · rfl
theorem wr_id {M : Mem} {k j : Nat} {v : Int32} (h : M.1 k j = v) : wr M k j v = M := by
  refine mem_x (fun a => ?_) (fun _ => rfl) (fun _ => rfl)
  show (if a = k then upd (M.1 k) j v else M.1 a) = M.1 a
  split
  · rename_i e
    subst e
    funext i
    show (if i = j then v else M.1 a i) = M.1 a i
    split
    · rename_i e2; rw [e2, h]
    · rfl
  · rfl
theorem zb_wr0 {M : Mem} {b : Nat} (h : Zb M b) {k : Nat} (hk : b ≤ k) (j : Nat) : wr M k j 0 = M := wr_id (by rw [(h k hk).1])
theorem zb_wr {M : Mem} {b : Nat} (h : Zb M b) {k : Nat} (hk : k < b) {j : Nat} {v : Int32} : Zb (wr M k j v) b := fun a ha => by
  obtain ⟨z1, z2, z3⟩ := h a ha
  refine ⟨?_, z2, z3⟩
  show (if a = k then upd (M.1 k) j v else M.1 a) = _
  rw [if_neg (by omega), z1]
theorem zb_0 : Zb m0 0 := fun _ _ => ⟨rfl, rfl, rfl⟩
/-! a part -/
def pH : Nat → Int32 := fun j => if j = 3 then 10 else if j = 4 then 10 else if j = 5 then 40 else if j = 7 then 1 else if j = 8 then 1 else if j = 9 then 1 else 0
def tT : Nat → Int32 := fun j => if j = 0 then 300 else if j = 1 then 600 else if j = 2 then 300 else if j = 3 then 600 else if j = 4 then 200 else if j = 5 then 400 else if j = 7 then 9999 else 0
def ptP (k : Nat) (M : Mem) : Mem := (fun a => if a = k then pH else if a = k + 2 then tT else M.1 a, M.2)
theorem zb_pt {M : Mem} {k : Nat} (h : Zb M k) : Zb (ptP k M) (k + 8) := fun a ha => by
  obtain ⟨z1, z2, z3⟩ := h a (by omega)
  refine ⟨?_, z2, z3⟩
  show (if a = k then pH else if a = k + 2 then tT else M.1 a) = _
  rw [if_neg (by omega), if_neg (by omega), z1]
theorem pt_x {k : Nat} {M : Mem} (h : Zb M k) {H T : Nat → Int32} {N : Mem} (hH : N.1 k = H) (hT : N.1 (k + 2) = T) (hN : ∀ a, a ≠ k → a ≠ k + 2 → N.1 a = M.1 a) (h2 : N.2 = M.2) (eH : H = pH) (eT : T = tT) : N = ptP k M := by
  refine mem_x (fun a => ?_) (fun a => by rw [h2]; rfl) (fun a => by rw [h2]; rfl)
  show N.1 a = (if a = k then pH else if a = k + 2 then tT else M.1 a)
  split
  · rename_i e; rw [e, hH, eH]
  · split
    · rename_i e; rw [e, hT, eT]
    · exact hN a (by assumption) (by assumption)
theorem i_putTool (k0 : Nat) (x1 x2 x3 : Int32) (M : Mem) (n : Nat) (h0 : ¬ x1 < 0) (h5 : ¬ (5 : Int32) ≤ x1) (ho : okb ((2 : Int32) * x1) 10 = true) (ho2 : okb (((2 : Int32) * x1) + (1 : Int32)) 10 = true) (e1 : ((2 : Int32) * x1).toNatClampNeg = n) (e2 : (((2 : Int32) * x1) + (1 : Int32)).toNatClampNeg = n + 1) : mX1_putTool k0 x1 x2 x3 M = some (wr (wr M (k0 + 2) n x2) (k0 + 2) (n + 1) x3, ()) := by
  unfold mX1_putTool
  rw [ite_n h0, ite_n h5, chk_t ho, bnd_e, chk_t ho2, bnd_e, e1, e2]
theorem i_putSheet (k : Nat) (x1 x2 x3 : Int32) (M : Mem) : mX1_putSheet k x1 x2 x3 M = some (wr (wr (wr M k 3 x1) k 4 x2) k 5 x3, ()) := rfl
theorem i_putCosts (k : Nat) (x1 x2 x3 : Int32) (M : Mem) : mX1_putCosts k x1 x2 x3 M = some (wr (wr (wr M k 7 x1) k 8 x2) k 9 x3, ()) := rfl
theorem i_dropSteps (k : Nat) (M : Mem) : mX1_dropSteps k M = some (wr (wr M k 13 0) k 14 0, ()) := rfl
theorem i_clear (k : Nat) (M : Mem) : mX1_clear k M = some (wr (wr (wr (wr (wr (wr (wr (wr (wr (wr (wr (wr (wr (wr (wr (wr (wr (wr (wr (wr (wr M k 0 0) k 2 0) k 10 0) k 3 10) k 4 10) k 5 40) (k + 2) 0 300) (k + 2) 1 600) (k + 2) 2 300) (k + 2) 3 600) (k + 2) 4 200) (k + 2) 5 400) (k + 2) 6 0) (k + 2) 7 9999) (k + 2) 8 0) (k + 2) 9 0) k 7 1) k 8 1) k 9 1) k 13 0) k 14 0, ()) := by
  unfold mX1_clear
  rw [bnd_e, bnd_e, bnd_e, i_putSheet, cal_e]
  rw [i_putTool k 0 300 600 _ 0 (by decide) (by decide) (by decide) (by decide) (by decide) (by decide), cal_e]
  rw [i_putTool k 1 300 600 _ 2 (by decide) (by decide) (by decide) (by decide) (by decide) (by decide), cal_e]
  rw [i_putTool k 2 200 400 _ 4 (by decide) (by decide) (by decide) (by decide) (by decide) (by decide), cal_e]
  rw [i_putTool k 3 0 9999 _ 6 (by decide) (by decide) (by decide) (by decide) (by decide) (by decide), cal_e]
  rw [i_putTool k 4 0 0 _ 8 (by decide) (by decide) (by decide) (by decide) (by decide) (by decide), cal_e]
  rw [i_putCosts, cal_e, i_dropSteps, cal_e]
theorem pt_clear {k : Nat} {M : Mem} (h : Zb M k) : mX1_clear k M = some (ptP k M, ()) := by
  rw [i_clear]
  congr 2
  have z0 := (h k (Nat.le_refl _)).1
  have z2 := (h (k + 2) (by omega)).1
  have n1 : ¬ k = k + 2 := by omega
  have n2 : ¬ k + 2 = k := by omega
  refine pt_x (H := upd (upd (upd (upd (upd (upd (upd (upd (upd (upd (upd (fun _ => 0) 0 0) 2 0) 10 0) 3 10) 4 10) 5 40) 7 1) 8 1) 9 1) 13 0) 14 0) (T := upd (upd (upd (upd (upd (upd (upd (upd (upd (upd (fun _ => 0) 0 300) 1 600) 2 300) 3 600) 4 200) 5 400) 6 0) 7 9999) 8 0) 9 0) h ?_ ?_ ?_ rfl ?_ ?_
  · have a1 : ∀ (N : Mem) (j : Nat) (v : Int32), (wr N (k + 2) j v).1 k = N.1 k := fun _ _ _ => (wr_o k n1).1
    simp only [wr_s, a1, z0]
  · have a2 : ∀ (N : Mem) (j : Nat) (v : Int32), (wr N k j v).1 (k + 2) = N.1 (k + 2) := fun _ _ _ => (wr_o (k + 2) n2).1
    simp only [wr_s, a2, z2]
  · intro a e1 e2
    have b1 : ∀ (N : Mem) (j : Nat) (v : Int32), (wr N k j v).1 a = N.1 a := fun _ _ _ => (wr_o a e1).1
    have b2 : ∀ (N : Mem) (j : Nat) (v : Int32), (wr N (k + 2) j v).1 a = N.1 a := fun _ _ _ => (wr_o a e2).1
    simp only [b1, b2]
  · funext j
    rcases Nat.lt_or_ge j 15 with hj | hj
    · exact (by decide : ∀ i : Fin 15, upd (upd (upd (upd (upd (upd (upd (upd (upd (upd (upd (fun _ => 0) 0 0) 2 0) 10 0) 3 10) 4 10) 5 40) 7 1) 8 1) 9 1) 13 0) 14 0 i.1 = pH i.1) ⟨j, hj⟩
    · simp only [upd, pH]
      repeat (rw [if_neg (by omega)])
      try rfl
  · funext j
    rcases Nat.lt_or_ge j 10 with hj | hj
    · exact (by decide : ∀ i : Fin 10, upd (upd (upd (upd (upd (upd (upd (upd (upd (upd (fun _ => 0) 0 300) 1 600) 2 300) 3 600) 4 200) 5 400) 6 0) 7 9999) 8 0) 9 0 i.1 = tT i.1) ⟨j, hj⟩
    · simp only [upd, tT]
      repeat (rw [if_neg (by omega)])
      try rfl
theorem pt_init {k : Nat} {M : Mem} (h : Zb M k) : mX1_init k M = some (ptP k M, ()) := by
  unfold mX1_init
  simp only [bnd_e, zb_wr0 h (Nat.le_refl k), zb_zr h (Nat.le_add_right k _)]
  rw [pt_clear h, cal_e]
theorem pl_init {k : Nat} {M : Mem} (h : Zb M k) : mX2_init k M = some (M, ()) := by
  unfold mX2_init
  simp only [bnd_e, zb_wr0 h (Nat.le_refl k), zb_zr h (Nat.le_add_right k _)]
theorem hi_init {M : Mem} (h : Zb M 21) : mX0_init 21 M = some (ptP 95 (ptP 87 (ptP 79 (ptP 71 (ptP 63 (ptP 55 (ptP 47 (ptP 39 (ptP 31 (ptP 23 M))))))))), ()) := by
  unfold mX0_init
  have h1 : Zb M 23 := zb_up h (by decide)
  have h2 : Zb (ptP 23 M) 31 := zb_pt (k := 23) h1
  have h3 : Zb (ptP 31 (ptP 23 M)) 39 := zb_pt (k := 31) h2
  have h4 : Zb (ptP 39 (ptP 31 (ptP 23 M))) 47 := zb_pt (k := 39) h3
  have h5 : Zb (ptP 47 (ptP 39 (ptP 31 (ptP 23 M)))) 55 := zb_pt (k := 47) h4
  have h6 : Zb (ptP 55 (ptP 47 (ptP 39 (ptP 31 (ptP 23 M))))) 63 := zb_pt (k := 55) h5
  have h7 : Zb (ptP 63 (ptP 55 (ptP 47 (ptP 39 (ptP 31 (ptP 23 M)))))) 71 := zb_pt (k := 63) h6
  have h8 : Zb (ptP 71 (ptP 63 (ptP 55 (ptP 47 (ptP 39 (ptP 31 (ptP 23 M))))))) 79 := zb_pt (k := 71) h7
  have h9 : Zb (ptP 79 (ptP 71 (ptP 63 (ptP 55 (ptP 47 (ptP 39 (ptP 31 (ptP 23 M)))))))) 87 := zb_pt (k := 79) h8
  have h10 : Zb (ptP 87 (ptP 79 (ptP 71 (ptP 63 (ptP 55 (ptP 47 (ptP 39 (ptP 31 (ptP 23 M))))))))) 95 := zb_pt (k := 87) h9
  simp only [Nat.reduceAdd]
  rw [bnd_e, zb_zr h (by decide), bnd_e, zb_wr0 h (by decide), bnd_e, zb_wr0 h (by decide), bnd_e, zb_zr h (by decide), pt_init h1, cal_e]
  rw [bnd_e, zb_zr h2 (Nat.le_refl _), pt_init h2, cal_e]
  rw [bnd_e, zb_zr h3 (Nat.le_refl _), pt_init h3, cal_e]
  rw [bnd_e, zb_zr h4 (Nat.le_refl _), pt_init h4, cal_e]
  rw [bnd_e, zb_zr h5 (Nat.le_refl _), pt_init h5, cal_e]
  rw [bnd_e, zb_zr h6 (Nat.le_refl _), pt_init h6, cal_e]
  rw [bnd_e, zb_zr h7 (Nat.le_refl _), pt_init h7, cal_e]
  rw [bnd_e, zb_zr h8 (Nat.le_refl _), pt_init h8, cal_e]
  rw [bnd_e, zb_zr h9 (Nat.le_refl _), pt_init h9, cal_e]
  rw [bnd_e, zb_zr h10 (Nat.le_refl _), pt_init h10, cal_e]
/-! loops -/
def fl (M : Mem) (r i n : Nat) (g : Nat → Int32) : Mem := (fun a => if a = r then (fun j => if i ≤ j ∧ j < n then g j else M.1 r j) else M.1 a, M.2)
theorem fl_end (M : Mem) (r n : Nat) (g : Nat → Int32) : fl M r n n g = M := by
  refine mem_x (fun a => ?_) (fun _ => rfl) (fun _ => rfl)
  show (if a = r then (fun j => if n ≤ j ∧ j < n then g j else M.1 r j) else M.1 a) = M.1 a
  split
  · rename_i e
    rw [e]
    funext j
    rw [if_neg (by omega)]
  · rfl
theorem fl_step {M : Mem} {r i n : Nat} {g : Nat → Int32} {v : Int32} (hi : i < n) (hv : v = g i) : fl (wr M r i v) r (i + 1) n g = fl M r i n g := by
  refine mem_x (fun a => ?_) (fun _ => rfl) (fun _ => rfl)
  show (if a = r then (fun j => if i + 1 ≤ j ∧ j < n then g j else (if r = r then upd (M.1 r) i v else M.1 r) j) else (if a = r then upd (M.1 r) i v else M.1 a)) = (if a = r then (fun j => if i ≤ j ∧ j < n then g j else M.1 r j) else M.1 a)
  by_cases e : a = r
  · rw [if_pos e, if_pos e, if_pos rfl]
    funext j
    by_cases ej : j = i
    · subst ej
      rw [if_neg (by omega), if_pos (by omega)]
      show (if j = j then v else M.1 r j) = g j
      rw [if_pos rfl, hv]
    · by_cases eq : i ≤ j ∧ j < n
      · rw [if_pos eq, if_pos (by omega)]
      · rw [if_neg eq, if_neg (by omega)]
        show (if j = i then v else M.1 r j) = M.1 r j
        rw [if_neg ej]
  · rw [if_neg e, if_neg e, if_neg e]
theorem fl_o {M : Mem} {r i n : Nat} {g : Nat → Int32} {a : Nat} (h : a ≠ r) : (fl M r i n g).1 a = M.1 a := if_neg h
theorem i32_n : ∀ i : Fin 300, (Int32.ofNat i.1).toNatClampNeg = i.1 := by decide +kernel
theorem i32_s : ∀ i : Fin 300, Int32.ofNat i.1 + (1 : Int32) = Int32.ofNat (i.1 + 1) := by decide +kernel
theorem i32_n' {i : Nat} (h : i < 300) : (Int32.ofNat i).toNatClampNeg = i := i32_n ⟨i, h⟩
theorem i32_s' {i : Nat} (h : i < 300) : Int32.ofNat i + (1 : Int32) = Int32.ofNat (i + 1) := i32_s ⟨i, h⟩
theorem i32_256 : ∀ i : Fin 256, ¬ (256 : Int32) ≤ Int32.ofNat i.1 ∧ okb (Int32.ofNat i.1) 256 = true := by decide +kernel
theorem i32_86 : ∀ i : Fin 86, ¬ (86 : Int32) ≤ Int32.ofNat i.1 ∧ okb (Int32.ofNat i.1) 86 = true := by decide +kernel
theorem i32_256' {i : Nat} (h : i < 256) : ¬ (256 : Int32) ≤ Int32.ofNat i ∧ okb (Int32.ofNat i) 256 = true := i32_256 ⟨i, h⟩
theorem i32_86' {i : Nat} (h : i < 86) : ¬ (86 : Int32) ≤ Int32.ofNat i ∧ okb (Int32.ofNat i) 86 = true := i32_86 ⟨i, h⟩
theorem fs_l (k0 : Nat) : ∀ (d i f : Nat) (M : Mem), i + d = 256 → d < f → mX3_forgetSteps_l2 k0 f (Int32.ofNat i) M = some (fl M (k0 + 17) i 256 (fun _ => -1), ()) := by
  intro d
  induction d with
  | zero =>
    intro i f M hi hf
    obtain ⟨f', rfl⟩ : ∃ f', f = f' + 1 := ⟨f - 1, by omega⟩
    have hi : i = 256 := by omega
    subst hi
    show mX3_forgetSteps_b2 k0 (mX3_forgetSteps_l2 k0 f') (Int32.ofNat 256) M = _
    unfold mX3_forgetSteps_b2
    rw [ite_p (by decide), fl_end]
  | succ d IH =>
    intro i f M hi hf
    obtain ⟨f', rfl⟩ : ∃ f', f = f' + 1 := ⟨f - 1, by omega⟩
    show mX3_forgetSteps_b2 k0 (mX3_forgetSteps_l2 k0 f') (Int32.ofNat i) M = _
    unfold mX3_forgetSteps_b2
    obtain ⟨c1, c2⟩ := i32_256' (i := i) (by omega)
    rw [ite_n c1, chk_t c2, bnd_e, bnd_e, i32_n' (i := i) (by omega), i32_s' (i := i) (by omega)]
    rw [IH (i + 1) f' _ (by omega) (by omega), fl_step (g := fun _ => -1) (v := -1) (by omega) rfl]
theorem cp_l (k0 k1 : Nat) (hk : k0 ≠ k1) (g : Nat → Int32) : ∀ (d i f : Nat) (M : Mem), i + d = 86 → d < f → M.1 k0 = g → mX7_copy_l2 k0 k1 f (Int32.ofNat i) M = some (fl M k1 i 86 g, ()) := by
  intro d
  induction d with
  | zero =>
    intro i f M hi hf hg
    obtain ⟨f', rfl⟩ : ∃ f', f = f' + 1 := ⟨f - 1, by omega⟩
    have hi : i = 86 := by omega
    subst hi
    show mX7_copy_b2 k0 k1 (mX7_copy_l2 k0 k1 f') (Int32.ofNat 86) M = _
    unfold mX7_copy_b2
    rw [ite_p (by decide), fl_end]
  | succ d IH =>
    intro i f M hi hf hg
    obtain ⟨f', rfl⟩ : ∃ f', f = f' + 1 := ⟨f - 1, by omega⟩
    show mX7_copy_b2 k0 k1 (mX7_copy_l2 k0 k1 f') (Int32.ofNat i) M = _
    unfold mX7_copy_b2
    obtain ⟨c1, c2⟩ := i32_86' (i := i) (by omega)
    have hv : rd M k0 i = g i := by unfold rd; rw [hg]
    rw [ite_n c1, chk_t c2, chk_t c2, bnd_e, bnd_e, i32_n' (i := i) (by omega), i32_s' (i := i) (by omega), hv]
    rw [IH (i + 1) f' _ (by omega) (by omega) (by rw [(wr_o k0 hk).1, hg]), fl_step (g := g) (v := g i) (by omega) rfl]
def lays (k0 : Nat) (M : Mem) : Option (Mem × Unit) := cal (mX7_lay k0 (36 : Int32) (10 : Int32) (10 : Int32) (40 : Int32) M) (fun M4 _ => cal (mX7_lay k0 (39 : Int32) (300 : Int32) (600 : Int32) (300 : Int32) M4) (fun M7 _ => cal (mX7_lay k0 (42 : Int32) (600 : Int32) (200 : Int32) (400 : Int32) M7) (fun M10 _ => cal (mX7_lay k0 (45 : Int32) (0 : Int32) (9999 : Int32) (0 : Int32) M10) (fun M13 _ => cal (mX7_lay k0 (49 : Int32) (1 : Int32) (1 : Int32) (1 : Int32) M13) (fun M16 _ => some (M16, ()))))))
theorem rs_l (k0 : Nat) : ∀ (d i f : Nat) (M : Mem), i + d = 86 → d < f → mX7_reset_l2 k0 f (Int32.ofNat i) M = lays k0 (fl M (k0 + 2) i 86 (fun _ => 0)) := by
  intro d
  induction d with
  | zero =>
    intro i f M hi hf
    obtain ⟨f', rfl⟩ : ∃ f', f = f' + 1 := ⟨f - 1, by omega⟩
    have hi : i = 86 := by omega
    subst hi
    show mX7_reset_b2 k0 (mX7_reset_l2 k0 f') (Int32.ofNat 86) M = _
    unfold mX7_reset_b2
    rw [ite_p (by decide), fl_end]
    rfl
  | succ d IH =>
    intro i f M hi hf
    obtain ⟨f', rfl⟩ : ∃ f', f = f' + 1 := ⟨f - 1, by omega⟩
    show mX7_reset_b2 k0 (mX7_reset_l2 k0 f') (Int32.ofNat i) M = _
    unfold mX7_reset_b2
    obtain ⟨c1, c2⟩ := i32_86' (i := i) (by omega)
    rw [ite_n c1, chk_t c2, bnd_e, bnd_e, i32_n' (i := i) (by omega), i32_s' (i := i) (by omega)]
    rw [IH (i + 1) f' _ (by omega) (by omega), fl_step (g := fun _ => 0) (v := 0) (by omega) rfl]
/-! planner, reader, builder, the class, the model -/
def rP : Nat → Int32 := fun j => if j = 3 then -1 else if j = 1 then -1 else if j = 0 then -1 else 0
def rQ : Nat → Int32 := fun j => if j < 256 then -1 else 0
def plP (M : Mem) : Mem := (fun a => if a = 127 then rQ else if a = 110 then rP else (ptP 119 M).1 a, M.2)
theorem zb_plP {M : Mem} (h : Zb M 110) : Zb (plP M) 133 := fun a ha => by
  obtain ⟨z1, z2, z3⟩ := h a (by omega)
  refine ⟨?_, z2, z3⟩
  show (if a = 127 then rQ else if a = 110 then rP else if a = 119 then pH else if a = 119 + 2 then tT else M.1 a) = _
  rw [if_neg (by omega), if_neg (by omega), if_neg (by omega), if_neg (by omega), z1]
theorem zx_init {M : Mem} (h : Zb M 110) : mX3_init 110 M = some (plP M, ()) := by
  have h1 : Zb (wr M 110 0 (-1)) 111 := zb_wr (zb_up h (by decide)) (by decide)
  have h2 : Zb (wr (wr M 110 0 (-1)) 110 1 (-1)) 111 := zb_wr h1 (by decide)
  have h3 : Zb (wr (wr (wr M 110 0 (-1)) 110 1 (-1)) 110 3 (-1)) 111 := zb_wr h2 (by decide)
  have h4 := zb_up h3 (by decide : 111 ≤ 112)
  have h5 := zb_up h3 (by decide : 111 ≤ 119)
  have h6 : Zb (ptP 119 (wr (wr (wr M 110 0 (-1)) 110 1 (-1)) 110 3 (-1))) 127 := zb_pt (k := 119) h5
  have e6 : wr (ptP 119 (wr (wr (wr M 110 0 (-1)) 110 1 (-1)) 110 3 (-1))) 110 6 0 = ptP 119 (wr (wr (wr M 110 0 (-1)) 110 1 (-1)) 110 3 (-1)) := by
    refine wr_id ?_
    have z0 := (h 110 (Nat.le_refl _)).1
    show (wr (wr (wr M 110 0 (-1)) 110 1 (-1)) 110 3 (-1)).1 110 6 = 0
    rw [wr_s, wr_s, wr_s, z0]
    rfl
  unfold mX3_init
  simp only [Nat.reduceAdd]
  rw [bnd_e, bnd_e, bnd_e, zb_zr h2 (by decide), bnd_e, bnd_e, zb_zr h3 (by decide), pl_init h4, cal_e, bnd_e, zb_zr h3 (by decide), pt_init h5, cal_e]
  rw [bnd_e, e6, bnd_e, zb_zr h6 (by decide), bnd_e, zb_zr h6 (by decide), bnd_e, zb_zr h6 (by decide), bnd_e, zb_zr h6 (by decide), bnd_e, zb_zr h6 (by decide), bnd_e, zb_zr h6 (by decide)]
  unfold mX3_forgetSteps
  rw [show (0 : Int32) = Int32.ofNat 0 from rfl, fs_l 110 256 0 5000 _ rfl (by decide), cal_e]
  congr 2
  refine mem_x (fun a => ?_) (fun _ => rfl) (fun _ => rfl)
  show (if a = 127 then (fun j => if 0 ≤ j ∧ j < 256 then (-1 : Int32) else (ptP 119 (wr (wr (wr M 110 0 (-1)) 110 1 (-1)) 110 3 (-1))).1 127 j) else (ptP 119 (wr (wr (wr M 110 0 (-1)) 110 1 (-1)) 110 3 (-1))).1 a) = (if a = 127 then rQ else if a = 110 then rP else (ptP 119 M).1 a)
  split
  · funext j
    rw [(h6 127 (Nat.le_refl _)).1]
    simp only [rQ, Nat.zero_le, true_and]
  · split
    · rename_i e
      subst e
      have z0 := (h 110 (Nat.le_refl _)).1
      show (wr (wr (wr M 110 0 (-1)) 110 1 (-1)) 110 3 (-1)).1 110 = rP
      rw [wr_s, wr_s, wr_s, z0]
      rfl
    · rename_i e1 e2
      show (if a = 119 then pH else if a = 119 + 2 then tT else (wr (wr (wr M 110 0 (-1)) 110 1 (-1)) 110 3 (-1)).1 a) = (if a = 119 then pH else if a = 119 + 2 then tT else M.1 a)
      rw [(wr_o a e2).1, (wr_o a e2).1, (wr_o a e2).1]
theorem re_init {M : Mem} (h : Zb M 2) : mX4_init M = some (wr M 2 1 (-1), ()) := by
  have h1 : Zb (wr M 2 1 (-1)) 3 := zb_wr (zb_up h (by decide)) (by decide)
  have z : ∀ j, j ≠ 1 → wr (wr M 2 1 (-1)) 2 j 0 = wr M 2 1 (-1) := fun j hj => by
    refine wr_id ?_
    rw [wr_s, (h 2 (Nat.le_refl _)).1]
    exact if_neg hj
  have hc : decide (¬ rd (wr M 2 1 (-1)) 2 2 = 1) = true := by
    refine decide_eq_true ?_
    unfold rd
    rw [wr_s, (h 2 (Nat.le_refl _)).1]
    decide
  unfold mX4_init
  rw [bnd_e, zb_wr0 h (Nat.le_refl _), bnd_e, bnd_e, zb_zr h1 (by decide), chk_t hc, bnd_e, z 3 (by decide), bnd_e, z 4 (by decide), bnd_e, z 5 (by decide), bnd_e, z 6 (by decide), bnd_e, z 7 (by decide), bnd_e, zb_zr h1 (by decide)]
def MA : Mem := ptP 13 (ptP 5 (wr m0 2 1 (-1)))
def MB : Mem := ptP 95 (ptP 87 (ptP 79 (ptP 71 (ptP 63 (ptP 55 (ptP 47 (ptP 39 (ptP 31 (ptP 23 MA)))))))))
def MC : Mem := plP MB
theorem zb_MA : Zb MA 21 := zb_pt (k := 13) (zb_pt (k := 5) (zb_up (zb_wr (b := 3) (zb_up zb_0 (by decide)) (by decide)) (by decide)))
theorem zb_MB : Zb MB 103 := zb_pt (k := 95) (zb_pt (k := 87) (zb_pt (k := 79) (zb_pt (k := 71) (zb_pt (k := 63) (zb_pt (k := 55) (zb_pt (k := 47) (zb_pt (k := 39) (zb_pt (k := 31) (zb_pt (k := 23) (zb_up zb_MA (by decide)))))))))))
theorem zb_MC : Zb MC 133 := zb_plP (zb_up zb_MB (by decide))
theorem root_init : mX6_init m0 = some (MC, ()) := by
  have h2 : Zb (wr m0 2 1 (-1)) 5 := zb_up (zb_wr (b := 3) (zb_up zb_0 (by decide)) (by decide)) (by decide)
  have h3 : Zb (ptP 5 (wr m0 2 1 (-1))) 13 := zb_pt (k := 5) h2
  unfold mX6_init
  rw [bnd_e, zb_zr zb_0 (by decide), bnd_e, zb_wr0 zb_0 (by decide), bnd_e, zb_zr zb_0 (by decide), re_init (zb_up zb_0 (by decide)), cal_e]
  rw [bnd_e, zb_zr h2 (by decide), pt_init h2, cal_e]
  rw [bnd_e, zb_zr h3 (by decide), pt_init h3, cal_e]
  change bnd (zr MA 21) _ = _
  rw [bnd_e, zb_zr zb_MA (by decide), hi_init zb_MA, cal_e]
  change bnd (zr MB 103) _ = _
  rw [bnd_e, zb_zr zb_MB (by decide), pl_init zb_MB, cal_e]
  rw [bnd_e, zb_zr zb_MB (by decide), zx_init (zb_up zb_MB (by decide)), cal_e]
  change bnd (zr MC 133) _ = _
  rw [bnd_e, zb_zr zb_MC (by decide)]
  unfold mJ4_init_da8c8 mJ5_init_d00df
  simp only [Nat.reduceAdd]
  rw [bnd_e, zb_zr zb_MC (by decide), bnd_e, zb_wr0 zb_MC (by decide), chk_t (decide_eq_true (show rd MC 133 0 = 0 from congrFun (zb_MC 133 (by decide)).1 0)), cal_e, cal_e]
def tb : Nat → Int32 := fun j => if j = 36 then 10 else if j = 37 then 10 else if j = 38 then 40 else if j = 39 then 300 else if j = 40 then 600 else if j = 41 then 300 else if j = 42 then 600 else if j = 43 then 200 else if j = 44 then 400 else if j = 46 then 9999 else if j = 49 then 1 else if j = 50 then 1 else if j = 51 then 1 else 0
def rM : Nat → Int32 := fun j => if j = 9 then -1 else 0
def MZ : Mem := (fun a => if a = 136 then tb else if a = 137 then tb else if a = 135 then rM else MC.1 a, MC.2)
theorem zb_MZ : Zb MZ 138 := fun a ha => by
  obtain ⟨z1, z2, z3⟩ := zb_MC a (by omega)
  refine ⟨?_, z2, z3⟩
  show (if a = 136 then tb else if a = 137 then tb else if a = 135 then rM else MC.1 a) = _
  rw [if_neg (by omega), if_neg (by omega), if_neg (by omega), z1]
theorem i_lay (k0 : Nat) (x1 x2 x3 x4 : Int32) (M : Mem) (n : Nat) (h1 : okb x1 86 = true) (h2 : okb (x1 + (1 : Int32)) 86 = true) (h3 : okb (x1 + (2 : Int32)) 86 = true) (e1 : x1.toNatClampNeg = n) (e2 : (x1 + (1 : Int32)).toNatClampNeg = n + 1) (e3 : (x1 + (2 : Int32)).toNatClampNeg = n + 2) : mX7_lay k0 x1 x2 x3 x4 M = some (wr (wr (wr M (k0 + 2) n x2) (k0 + 2) (n + 1) x3) (k0 + 2) (n + 2) x4, ()) := by
  unfold mX7_lay
  rw [chk_t h1, bnd_e, chk_t h2, bnd_e, chk_t h3, bnd_e, e1, e2, e3]
theorem i_lays {M : Mem} (h : M.1 137 = fun _ => 0) : lays 135 M = some ((fun a => if a = 137 then tb else M.1 a, M.2), ()) := by
  unfold lays
  rw [i_lay 135 36 10 10 40 _ 36 (by decide) (by decide) (by decide) (by decide) (by decide) (by decide), cal_e]
  rw [i_lay 135 39 300 600 300 _ 39 (by decide) (by decide) (by decide) (by decide) (by decide) (by decide), cal_e]
  rw [i_lay 135 42 600 200 400 _ 42 (by decide) (by decide) (by decide) (by decide) (by decide) (by decide), cal_e]
  rw [i_lay 135 45 0 9999 0 _ 45 (by decide) (by decide) (by decide) (by decide) (by decide) (by decide), cal_e]
  rw [i_lay 135 49 1 1 1 _ 49 (by decide) (by decide) (by decide) (by decide) (by decide) (by decide), cal_e]
  congr 2
  refine mem_x (fun a => ?_) (fun _ => rfl) (fun _ => rfl)
  simp only [Nat.reduceAdd]
  show (wr (wr (wr (wr (wr (wr (wr (wr (wr (wr (wr (wr (wr (wr (wr M 137 36 10) 137 37 10) 137 38 40) 137 39 300) 137 40 600) 137 41 300) 137 42 600) 137 43 200) 137 44 400) 137 45 0) 137 46 9999) 137 47 0) 137 49 1) 137 50 1) 137 51 1).1 a = (if a = 137 then tb else M.1 a)
  by_cases e : a = 137
  · subst e
    simp only [wr_s, h, if_true]
    funext j
    rcases Nat.lt_or_ge j 60 with hj | hj
    · exact (by decide : ∀ i : Fin 60, upd (upd (upd (upd (upd (upd (upd (upd (upd (upd (upd (upd (upd (upd (upd (fun _ => 0) 36 10) 37 10) 38 40) 39 300) 40 600) 41 300) 42 600) 43 200) 44 400) 45 0) 46 9999) 47 0) 49 1) 50 1) 51 1 i.1 = tb i.1) ⟨j, hj⟩
    · simp only [upd, tb]
      repeat (rw [if_neg (by omega)])
      try rfl
  · have b1 : ∀ (N : Mem) (j : Nat) (v : Int32), (wr N 137 j v).1 a = N.1 a := fun _ _ _ => (wr_o a e).1
    simp only [b1, e, if_false]
theorem md_init : mX7_init 135 MC = some (MZ, ()) := by
  have h0 := zb_up zb_MC (by decide : 133 ≤ 135)
  have h1 : Zb (wr MC 135 9 (-1)) 136 := zb_wr (zb_up zb_MC (by decide)) (by decide)
  unfold mX7_init
  simp only [Nat.reduceAdd]
  rw [bnd_e, zb_zr h0 (by decide), bnd_e, zb_zr h0 (by decide), bnd_e, zb_zr h0 (by decide), bnd_e, zb_zr h0 (by decide), bnd_e, zb_zr h0 (by decide), bnd_e]
  rw [bnd_e, zb_zr h1 (by decide), bnd_e, zb_zr h1 (by decide), bnd_e, zb_zr h1 (by decide), bnd_e, zb_zr h1 (by decide), bnd_e, zb_zr h1 (by decide), bnd_e, zb_zr h1 (by decide), bnd_e, zb_zr h1 (by decide), bnd_e, zb_zr h1 (by decide), bnd_e, zb_zr h1 (by decide), bnd_e, zb_zr h1 (by decide), bnd_e, zb_zr h1 (by decide)]
  unfold mX7_reset
  rw [show (0 : Int32) = Int32.ofNat 0 from rfl, rs_l 135 86 0 5000 _ rfl (by decide)]
  have ef : fl (wr MC 135 9 (-1)) (135 + 2) 0 86 (fun _ => 0) = wr MC 135 9 (-1) := by
    refine mem_x (fun a => ?_) (fun _ => rfl) (fun _ => rfl)
    show (if a = 137 then (fun j => if 0 ≤ j ∧ j < 86 then (0 : Int32) else (wr MC 135 9 (-1)).1 137 j) else (wr MC 135 9 (-1)).1 a) = (wr MC 135 9 (-1)).1 a
    split
    · rename_i e
      rw [e, (h1 137 (by decide)).1]
      funext j
      split <;> rfl
    · rfl
  rw [ef, i_lays (h1 137 (by decide)).1, cal_e]
  unfold mX7_copy
  rw [show (0 : Int32) = Int32.ofNat 0 from rfl, cp_l 137 136 (by decide) tb 86 0 5000 _ rfl (by decide) rfl, cal_e]
  congr 2
  refine mem_x (fun a => ?_) (fun _ => rfl) (fun _ => rfl)
  show (if a = 136 then (fun j => if 0 ≤ j ∧ j < 86 then tb j else (wr MC 135 9 (-1)).1 136 j) else (if a = 137 then tb else if a = 135 then upd (MC.1 135) 9 (-1) else MC.1 a)) = (if a = 136 then tb else if a = 137 then tb else if a = 135 then rM else MC.1 a)
  split
  · funext j
    rw [(h1 136 (by decide)).1]
    split
    · rfl
    · rename_i hj
      unfold tb
      repeat (rw [if_neg (by omega)])
      try rfl
  · rw [(h0 135 (by decide)).1]
    rfl
theorem mstart_s : mstart = some (MZ, ()) := by
  unfold mstart
  rw [bnd_e, zb_zr zb_0 (by decide), root_init, cal_e, bnd_e, zb_zr zb_MC (by decide), md_init, cal_e, bnd_e, zb_zr zb_MZ (by decide), bnd_e, zb_zr zb_MZ (by decide)]
