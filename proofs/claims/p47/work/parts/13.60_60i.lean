/-! part 60.fresh -/
section
/-! mirror words, forward -/
theorem bnd_e {α β : Type} (e : α) (k : α → Option β) : bnd e k = k e := rfl
theorem cal_e {ρ β : Type} (M : Mem) (r : ρ) (k : Mem → ρ → Option β) : cal (some (M, r)) k = k M r := rfl
theorem chk_t {α : Type} {b : Bool} {x : Option α} (h : b = true) : chk b x = x := if_pos h
theorem ite_p {α : Type} {c : Prop} [Decidable c] {a b : Option α} (h : c) : ite2 c a b = a := if_pos h
theorem ite_n {α : Type} {c : Prop} [Decidable c] {a b : Option α} (h : ¬ c) : ite2 c a b = b := if_neg h
/-! the fresh memory -/
def Zb (M : Mem) (b : Nat) : Prop := ∀ a, b ≤ a → M.1 a = (fun _ => 0) ∧ M.2.1 a = (fun _ => 0) ∧ M.2.2 a = (fun _ => 0)
theorem zb_up {M : Mem} {b b' : Nat} (h : Zb M b) (hb : b ≤ b') : Zb M b' := fun a ha => h a (Nat.le_trans hb ha)
theorem mem_x {M N : Mem} (h1 : ∀ a, M.1 a = N.1 a) (h2 : ∀ a, M.2.1 a = N.2.1 a) (h3 : ∀ a, M.2.2 a = N.2.2 a) : M = N :=
  Prod.ext (funext h1) (Prod.ext (funext h2) (funext h3))
theorem zb_zr {M : Mem} {b : Nat} (h : Zb M b) {k : Nat} (hk : b ≤ k) : zr M k = M := by
  obtain ⟨z1, z2, z3⟩ := h k hk
  refine mem_x (fun a => ?_) (fun a => ?_) (fun a => ?_)
  · show (if a = k then fun _ => (0 : Int32) else M.1 a) = M.1 a
    split
    · rename_i e; rw [e, z1]
    · rfl
  · show (if a = k then fun _ => (0 : Int64) else M.2.1 a) = M.2.1 a
    split
    · rename_i e; rw [e, z2]
    · rfl
  · show (if a = k then fun _ => (0 : UInt64) else M.2.2 a) = M.2.2 a
    split
    · rename_i e; rw [e, z3]
    · rfl
theorem wr_id {M : Mem} {k j : Nat} {v : Int32} (h : M.1 k j = v) : wr M k j v = M := by
  refine mem_x (fun a => ?_) (fun _ => rfl) (fun _ => rfl)
  show (if a = k then upd (M.1 k) j v else M.1 a) = M.1 a
  split
  · rename_i e
    subst e
    funext i
    show (if i = j then v else M.1 a i) = M.1 a i
    split
    · rename_i e2; rw [e2, h]
    · rfl
  · rfl
theorem zb_wr0 {M : Mem} {b : Nat} (h : Zb M b) {k : Nat} (hk : b ≤ k) (j : Nat) : wr M k j 0 = M := wr_id (by rw [(h k hk).1])
theorem zb_wr {M : Mem} {b : Nat} (h : Zb M b) {k : Nat} (hk : k < b) {j : Nat} {v : Int32} : Zb (wr M k j v) b := fun a ha => by
  obtain ⟨z1, z2, z3⟩ := h a ha
  refine ⟨?_, z2, z3⟩
  show (if a = k then upd (M.1 k) j v else M.1 a) = _
  rw [if_neg (by omega), z1]
theorem zb_0 : Zb m0 0 := fun _ _ => ⟨rfl, rfl, rfl⟩
/-! a part -/
def pH : Nat → Int32 := fun j => if j = 3 then 10 else if j = 4 then 10 else if j = 5 then 40 else if j = 7 then 1 else if j = 8 then 1 else if j = 9 then 1 else 0
def tT : Nat → Int32 := fun j => if j = 0 then 300 else if j = 1 then 600 else if j = 2 then 300 else if j = 3 then 600 else if j = 4 then 200 else if j = 5 then 400 else if j = 7 then 9999 else 0
def ptP (k : Nat) (M : Mem) : Mem := (fun a => if a = k then pH else if a = k + 2 then tT else M.1 a, M.2)
theorem zb_pt {M : Mem} {k : Nat} (h : Zb M k) : Zb (ptP k M) (k + 8) := fun a ha => by
  obtain ⟨z1, z2, z3⟩ := h a (by omega)
  refine ⟨?_, z2, z3⟩
  show (if a = k then pH else if a = k + 2 then tT else M.1 a) = _
  rw [if_neg (by omega), if_neg (by omega), z1]
theorem pt_x {k : Nat} {M : Mem} (h : Zb M k) {H T : Nat → Int32} {N : Mem} (hH : N.1 k = H) (hT : N.1 (k + 2) = T) (hN : ∀ a, a ≠ k → a ≠ k + 2 → N.1 a = M.1 a) (h2 : N.2 = M.2) (eH : H = pH) (eT : T = tT) : N = ptP k M := by
  refine mem_x (fun a => ?_) (fun a => by rw [h2]; rfl) (fun a => by rw [h2]; rfl)
  show N.1 a = (if a = k then pH else if a = k + 2 then tT else M.1 a)
  split
  · rename_i e; rw [e, hH, eH]
  · split
    · rename_i e; rw [e, hT, eT]
    · exact hN a (by assumption) (by assumption)
theorem i_putTool (k0 : Nat) (x1 x2 x3 : Int32) (M : Mem) (n : Nat) (h0 : ¬ x1 < 0) (h5 : ¬ (5 : Int32) ≤ x1) (ho : okb ((2 : Int32) * x1) 10 = true) (ho2 : okb (((2 : Int32) * x1) + (1 : Int32)) 10 = true) (e1 : ((2 : Int32) * x1).toNatClampNeg = n) (e2 : (((2 : Int32) * x1) + (1 : Int32)).toNatClampNeg = n + 1) : mX1_putTool k0 x1 x2 x3 M = some (wr (wr M (k0 + 2) n x2) (k0 + 2) (n + 1) x3, ()) := by
  unfold mX1_putTool
  rw [ite_n h0, ite_n h5, chk_t ho, bnd_e, chk_t ho2, bnd_e, e1, e2]
theorem i_putSheet (k : Nat) (x1 x2 x3 : Int32) (M : Mem) : mX1_putSheet k x1 x2 x3 M = some (wr (wr (wr M k 3 x1) k 4 x2) k 5 x3, ()) := rfl
theorem i_putCosts (k : Nat) (x1 x2 x3 : Int32) (M : Mem) : mX1_putCosts k x1 x2 x3 M = some (wr (wr (wr M k 7 x1) k 8 x2) k 9 x3, ()) := rfl
theorem i_dropSteps (k : Nat) (M : Mem) : mX1_dropSteps k M = some (wr (wr M k 13 0) k 14 0, ()) := rfl
theorem i_clear (k : Nat) (M : Mem) : mX1_clear k M = some (wr (wr (wr (wr (wr (wr (wr (wr (wr (wr (wr (wr (wr (wr (wr (wr (wr (wr (wr (wr (wr M k 0 0) k 2 0) k 10 0) k 3 10) k 4 10) k 5 40) (k + 2) 0 300) (k + 2) 1 600) (k + 2) 2 300) (k + 2) 3 600) (k + 2) 4 200) (k + 2) 5 400) (k + 2) 6 0) (k + 2) 7 9999) (k + 2) 8 0) (k + 2) 9 0) k 7 1) k 8 1) k 9 1) k 13 0) k 14 0, ()) := by
  unfold mX1_clear
  rw [bnd_e, bnd_e, bnd_e, i_putSheet, cal_e]
  rw [i_putTool k 0 300 600 _ 0 (by decide) (by decide) (by decide) (by decide) (by decide) (by decide), cal_e]
  rw [i_putTool k 1 300 600 _ 2 (by decide) (by decide) (by decide) (by decide) (by decide) (by decide), cal_e]
  rw [i_putTool k 2 200 400 _ 4 (by decide) (by decide) (by decide) (by decide) (by decide) (by decide), cal_e]
  rw [i_putTool k 3 0 9999 _ 6 (by decide) (by decide) (by decide) (by decide) (by decide) (by decide), cal_e]
  rw [i_putTool k 4 0 0 _ 8 (by decide) (by decide) (by decide) (by decide) (by decide) (by decide), cal_e]
  rw [i_putCosts, cal_e, i_dropSteps, cal_e]
theorem pt_clear {k : Nat} {M : Mem} (h : Zb M k) : mX1_clear k M = some (ptP k M, ()) := by
  rw [i_clear]
  congr 2
  have z0 := (h k (Nat.le_refl _)).1
  have z2 := (h (k + 2) (by omega)).1
  have n1 : ¬ k = k + 2 := by omega
  have n2 : ¬ k + 2 = k := by omega
  refine pt_x (H := upd (upd (upd (upd (upd (upd (upd (upd (upd (upd (upd (fun _ => 0) 0 0) 2 0) 10 0) 3 10) 4 10) 5 40) 7 1) 8 1) 9 1) 13 0) 14 0) (T := upd (upd (upd (upd (upd (upd (upd (upd (upd (upd (fun _ => 0) 0 300) 1 600) 2 300) 3 600) 4 200) 5 400) 6 0) 7 9999) 8 0) 9 0) h ?_ ?_ ?_ rfl ?_ ?_
  · have a1 : ∀ (N : Mem) (j : Nat) (v : Int32), (wr N (k + 2) j v).1 k = N.1 k := fun _ _ _ => (wr_o k n1).1
    simp only [wr_s, a1, z0]
  · have a2 : ∀ (N : Mem) (j : Nat) (v : Int32), (wr N k j v).1 (k + 2) = N.1 (k + 2) := fun _ _ _ => (wr_o (k + 2) n2).1
    simp only [wr_s, a2, z2]
  · intro a e1 e2
    have b1 : ∀ (N : Mem) (j : Nat) (v : Int32), (wr N k j v).1 a = N.1 a := fun _ _ _ => (wr_o a e1).1
    have b2 : ∀ (N : Mem) (j : Nat) (v : Int32), (wr N (k + 2) j v).1 a = N.1 a := fun _ _ _ => (wr_o a e2).1
    simp only [b1, b2]
  · funext j
    rcases Nat.lt_or_ge j 15 with hj | hj
    · exact (by decide : ∀ i : Fin 15, upd (upd (upd (upd (upd (upd (upd (upd (upd (upd (upd (fun _ => 0) 0 0) 2 0) 10 0) 3 10) 4 10) 5 40) 7 1) 8 1) 9 1) 13 0) 14 0 i.1 = pH i.1) ⟨j, hj⟩
    · simp only [upd, pH]
      repeat (rw [if_neg (by omega)])
      try rfl
  · funext j
    rcases Nat.lt_or_ge j 10 with hj | hj
    · exact (by decide : ∀ i : Fin 10, upd (upd (upd (upd (upd (upd (upd (upd (upd (upd (fun _ => 0) 0 300) 1 600) 2 300) 3 600) 4 200) 5 400) 6 0) 7 9999) 8 0) 9 0 i.1 = tT i.1) ⟨j, hj⟩
    · simp only [upd, tT]
      repeat (rw [if_neg (by omega)])
      try rfl
theorem pt_init {k : Nat} {M : Mem} (h : Zb M k) : mX1_init k M = some (ptP k M, ()) := by
  unfold mX1_init
  simp only [bnd_e, zb_wr0 h (Nat.le_refl k), zb_zr h (Nat.le_add_right k _)]
  rw [pt_clear h, cal_e]
theorem pl_init {k : Nat} {M : Mem} (h : Zb M k) : mX2_init k M = some (M, ()) := by
  unfold mX2_init
  simp only [bnd_e, zb_wr0 h (Nat.le_refl k), zb_zr h (Nat.le_add_right k _)]
theorem hi_init {M : Mem} (h : Zb M 21) : mX0_init 21 M = some (ptP 95 (ptP 87 (ptP 79 (ptP 71 (ptP 63 (ptP 55 (ptP 47 (ptP 39 (ptP 31 (ptP 23 M))))))))), ()) := by
  unfold mX0_init
  have h1 : Zb M 23 := zb_up h (by decide)
  have h2 : Zb (ptP 23 M) 31 := zb_pt (k := 23) h1
  have h3 : Zb (ptP 31 (ptP 23 M)) 39 := zb_pt (k := 31) h2
  have h4 : Zb (ptP 39 (ptP 31 (ptP 23 M))) 47 := zb_pt (k := 39) h3
  have h5 : Zb (ptP 47 (ptP 39 (ptP 31 (ptP 23 M)))) 55 := zb_pt (k := 47) h4
  have h6 : Zb (ptP 55 (ptP 47 (ptP 39 (ptP 31 (ptP 23 M))))) 63 := zb_pt (k := 55) h5
  have h7 : Zb (ptP 63 (ptP 55 (ptP 47 (ptP 39 (ptP 31 (ptP 23 M)))))) 71 := zb_pt (k := 63) h6
  have h8 : Zb (ptP 71 (ptP 63 (ptP 55 (ptP 47 (ptP 39 (ptP 31 (ptP 23 M))))))) 79 := zb_pt (k := 71) h7
  have h9 : Zb (ptP 79 (ptP 71 (ptP 63 (ptP 55 (ptP 47 (ptP 39 (ptP 31 (ptP 23 M)))))))) 87 := zb_pt (k := 79) h8
  have h10 : Zb (ptP 87 (ptP 79 (ptP 71 (ptP 63 (ptP 55 (ptP 47 (ptP 39 (ptP 31 (ptP 23 M))))))))) 95 := zb_pt (k := 87) h9
  simp only [Nat.reduceAdd]
  rw [bnd_e, zb_zr h (by decide), bnd_e, zb_wr0 h (by decide), bnd_e, zb_wr0 h (by decide), bnd_e, zb_zr h (by decide), pt_init h1, cal_e]
  rw [bnd_e, zb_zr h2 (Nat.le_refl _), pt_init h2, cal_e]
  rw [bnd_e, zb_zr h3 (Nat.le_refl _), pt_init h3, cal_e]
  rw [bnd_e, zb_zr h4 (Nat.le_refl _), pt_init h4, cal_e]
  rw [bnd_e, zb_zr h5 (Nat.le_refl _), pt_init h5, cal_e]
  rw [bnd_e, zb_zr h6 (Nat.le_refl _), pt_init h6, cal_e]
  rw [bnd_e, zb_zr h7 (Nat.le_refl _), pt_init h7, cal_e]
  rw [bnd_e, zb_zr h8 (Nat.le_refl _), pt_init h8, cal_e]
  rw [bnd_e, zb_zr h9 (Nat.le_refl _), pt_init h9, cal_e]
  rw [bnd_e, zb_zr h10 (Nat.le_refl _), pt_init h10, cal_e]
/-! loops -/
def fl (M : Mem) (r i n : Nat) (g : Nat → Int32) : Mem := (fun a => if a = r then (fun j => if i ≤ j ∧ j < n then g j else M.1 r j) else M.1 a, M.2)
theorem fl_end (M : Mem) (r n : Nat) (g : Nat → Int32) : fl M r n n g = M := by
  refine mem_x (fun a => ?_) (fun _ => rfl) (fun _ => rfl)
  show (if a = r then (fun j => if n ≤ j ∧ j < n then g j else M.1 r j) else M.1 a) = M.1 a
  split
  · rename_i e
    rw [e]
    funext j
    rw [if_neg (by omega)]
  · rfl
theorem fl_step {M : Mem} {r i n : Nat} {g : Nat → Int32} {v : Int32} (hi : i < n) (hv : v = g i) : fl (wr M r i v) r (i + 1) n g = fl M r i n g := by
  refine mem_x (fun a => ?_) (fun _ => rfl) (fun _ => rfl)
  show (if a = r then (fun j => if i + 1 ≤ j ∧ j < n then g j else (if r = r then upd (M.1 r) i v else M.1 r) j) else (if a = r then upd (M.1 r) i v else M.1 a)) = (if a = r then (fun j => if i ≤ j ∧ j < n then g j else M.1 r j) else M.1 a)
  by_cases e : a = r
  · rw [if_pos e, if_pos e, if_pos rfl]
    funext j
    by_cases ej : j = i
    · subst ej
      rw [if_neg (by omega), if_pos (by omega)]
      show (if j = j then v else M.1 r j) = g j
      rw [if_pos rfl, hv]
    · by_cases eq : i ≤ j ∧ j < n
      · rw [if_pos eq, if_pos (by omega)]
      · rw [if_neg eq, if_neg (by omega)]
        show (if j = i then v else M.1 r j) = M.1 r j
        rw [if_neg ej]
  · rw [if_neg e, if_neg e, if_neg e]
theorem i32_n : ∀ i : Fin 300, (Int32.ofNat i.1).toNatClampNeg = i.1 := by decide +kernel
theorem i32_s : ∀ i : Fin 300, Int32.ofNat i.1 + (1 : Int32) = Int32.ofNat (i.1 + 1) := by decide +kernel
theorem i32_n' {i : Nat} (h : i < 300) : (Int32.ofNat i).toNatClampNeg = i := i32_n ⟨i, h⟩
theorem i32_s' {i : Nat} (h : i < 300) : Int32.ofNat i + (1 : Int32) = Int32.ofNat (i + 1) := i32_s ⟨i, h⟩
theorem i32_256 : ∀ i : Fin 256, ¬ (256 : Int32) ≤ Int32.ofNat i.1 ∧ okb (Int32.ofNat i.1) 256 = true := by decide +kernel
theorem i32_86 : ∀ i : Fin 86, ¬ (86 : Int32) ≤ Int32.ofNat i.1 ∧ okb (Int32.ofNat i.1) 86 = true := by decide +kernel
theorem i32_256' {i : Nat} (h : i < 256) : ¬ (256 : Int32) ≤ Int32.ofNat i ∧ okb (Int32.ofNat i) 256 = true := i32_256 ⟨i, h⟩
theorem i32_86' {i : Nat} (h : i < 86) : ¬ (86 : Int32) ≤ Int32.ofNat i ∧ okb (Int32.ofNat i) 86 = true := i32_86 ⟨i, h⟩
theorem fs_l (k0 : Nat) : ∀ (d i f : Nat) (M : Mem), i + d = 256 → d < f → mX3_forgetSteps_l2 k0 f (Int32.ofNat i) M = some (fl M (k0 + 17) i 256 (fun _ => -1), ()) := by
  intro d
  induction d with
  | zero =>
    intro i f M hi hf
    obtain ⟨f', rfl⟩ : ∃ f', f = f' + 1 := ⟨f - 1, by omega⟩
    have hi : i = 256 := by omega
    subst hi
    show mX3_forgetSteps_b2 k0 (mX3_forgetSteps_l2 k0 f') (Int32.ofNat 256) M = _
    unfold mX3_forgetSteps_b2
    rw [ite_p (by decide), fl_end]
  | succ d IH =>
    intro i f M hi hf
    obtain ⟨f', rfl⟩ : ∃ f', f = f' + 1 := ⟨f - 1, by omega⟩
    show mX3_forgetSteps_b2 k0 (mX3_forgetSteps_l2 k0 f') (Int32.ofNat i) M = _
    unfold mX3_forgetSteps_b2
    obtain ⟨c1, c2⟩ := i32_256' (i := i) (by omega)
    rw [ite_n c1, chk_t c2, bnd_e, bnd_e, i32_n' (i := i) (by omega), i32_s' (i := i) (by omega)]
    rw [IH (i + 1) f' _ (by omega) (by omega), fl_step (g := fun _ => -1) (v := -1) (by omega) rfl]
theorem cp_l (k0 k1 : Nat) (hk : k0 ≠ k1) (g : Nat → Int32) : ∀ (d i f : Nat) (M : Mem), i + d = 86 → d < f → M.1 k0 = g → mX7_copy_l2 k0 k1 f (Int32.ofNat i) M = some (fl M k1 i 86 g, ()) := by
  intro d
  induction d with
  | zero =>
    intro i f M hi hf hg
    obtain ⟨f', rfl⟩ : ∃ f', f = f' + 1 := ⟨f - 1, by omega⟩
    have hi : i = 86 := by omega
    subst hi
    show mX7_copy_b2 k0 k1 (mX7_copy_l2 k0 k1 f') (Int32.ofNat 86) M = _
    unfold mX7_copy_b2
    rw [ite_p (by decide), fl_end]
  | succ d IH =>
    intro i f M hi hf hg
    obtain ⟨f', rfl⟩ : ∃ f', f = f' + 1 := ⟨f - 1, by omega⟩
    show mX7_copy_b2 k0 k1 (mX7_copy_l2 k0 k1 f') (Int32.ofNat i) M = _
    unfold mX7_copy_b2
    obtain ⟨c1, c2⟩ := i32_86' (i := i) (by omega)
    have hv : rd M k0 i = g i := by unfold rd; rw [hg]
    rw [ite_n c1, chk_t c2, chk_t c2, bnd_e, bnd_e, i32_n' (i := i) (by omega), i32_s' (i := i) (by omega), hv]
    rw [IH (i + 1) f' _ (by omega) (by omega) (by rw [(wr_o k0 hk).1, hg]), fl_step (g := g) (v := g i) (by omega) rfl]
def lays (k0 : Nat) (M : Mem) : Option (Mem × Unit) := cal (mX7_lay k0 (36 : Int32) (10 : Int32) (10 : Int32) (40 : Int32) M) (fun M4 _ => cal (mX7_lay k0 (39 : Int32) (300 : Int32) (600 : Int32) (300 : Int32) M4) (fun M7 _ => cal (mX7_lay k0 (42 : Int32) (600 : Int32) (200 : Int32) (400 : Int32) M7) (fun M10 _ => cal (mX7_lay k0 (45 : Int32) (0 : Int32) (9999 : Int32) (0 : Int32) M10) (fun M13 _ => cal (mX7_lay k0 (49 : Int32) (1 : Int32) (1 : Int32) (1 : Int32) M13) (fun M16 _ => some (M16, ()))))))
theorem rs_l (k0 : Nat) : ∀ (d i f : Nat) (M : Mem), i + d = 86 → d < f → mX7_reset_l2 k0 f (Int32.ofNat i) M = lays k0 (fl M (k0 + 2) i 86 (fun _ => 0)) := by
  intro d
  induction d with
  | zero =>
    intro i f M hi hf
    obtain ⟨f', rfl⟩ : ∃ f', f = f' + 1 := ⟨f - 1, by omega⟩
    have hi : i = 86 := by omega
    subst hi
    show mX7_reset_b2 k0 (mX7_reset_l2 k0 f') (Int32.ofNat 86) M = _
    unfold mX7_reset_b2
    rw [ite_p (by decide), fl_end]
    rfl
  | succ d IH =>
    intro i f M hi hf
    obtain ⟨f', rfl⟩ : ∃ f', f = f' + 1 := ⟨f - 1, by omega⟩
    show mX7_reset_b2 k0 (mX7_reset_l2 k0 f') (Int32.ofNat i) M = _
    unfold mX7_reset_b2
    obtain ⟨c1, c2⟩ := i32_86' (i := i) (by omega)
    rw [ite_n c1, chk_t c2, bnd_e, bnd_e, i32_n' (i := i) (by omega), i32_s' (i := i) (by omega)]
    rw [IH (i + 1) f' _ (by omega) (by omega), fl_step (g := fun _ => 0) (v := 0) (by omega) rfl]
/-! planner, reader, builder, the class, the model -/
def rP : Nat → Int32 := fun j => if j = 3 then -1 else if j = 1 then -1 else if j = 0 then -1 else 0
def rQ : Nat → Int32 := fun j => if j < 256 then -1 else 0
def plP (M : Mem) : Mem := (fun a => if a = 127 then rQ else if a = 110 then rP else (ptP 119 M).1 a, M.2)
theorem zb_plP {M : Mem} (h : Zb M 110) : Zb (plP M) 133 := fun a ha => by
  obtain ⟨z1, z2, z3⟩ := h a (by omega)
  refine ⟨?_, z2, z3⟩
  show (if a = 127 then rQ else if a = 110 then rP else if a = 119 then pH else if a = 119 + 2 then tT else M.1 a) = _
  rw [if_neg (by omega), if_neg (by omega), if_neg (by omega), if_neg (by omega), z1]
theorem zx_init {M : Mem} (h : Zb M 110) : mX3_init 110 M = some (plP M, ()) := by
  have h1 : Zb (wr M 110 0 (-1)) 111 := zb_wr (zb_up h (by decide)) (by decide)
  have h2 : Zb (wr (wr M 110 0 (-1)) 110 1 (-1)) 111 := zb_wr h1 (by decide)
  have h3 : Zb (wr (wr (wr M 110 0 (-1)) 110 1 (-1)) 110 3 (-1)) 111 := zb_wr h2 (by decide)
  have h4 := zb_up h3 (by decide : 111 ≤ 112)
  have h5 := zb_up h3 (by decide : 111 ≤ 119)
  have h6 : Zb (ptP 119 (wr (wr (wr M 110 0 (-1)) 110 1 (-1)) 110 3 (-1))) 127 := zb_pt (k := 119) h5
  have e6 : wr (ptP 119 (wr (wr (wr M 110 0 (-1)) 110 1 (-1)) 110 3 (-1))) 110 6 0 = ptP 119 (wr (wr (wr M 110 0 (-1)) 110 1 (-1)) 110 3 (-1)) := by
    refine wr_id ?_
    have z0 := (h 110 (Nat.le_refl _)).1
    show (wr (wr (wr M 110 0 (-1)) 110 1 (-1)) 110 3 (-1)).1 110 6 = 0
    rw [wr_s, wr_s, wr_s, z0]
    rfl
  unfold mX3_init
  simp only [Nat.reduceAdd]
  rw [bnd_e, bnd_e, bnd_e, zb_zr h2 (by decide), bnd_e, bnd_e, zb_zr h3 (by decide), pl_init h4, cal_e, bnd_e, zb_zr h3 (by decide), pt_init h5, cal_e]
  rw [bnd_e, e6, bnd_e, zb_zr h6 (by decide), bnd_e, zb_zr h6 (by decide), bnd_e, zb_zr h6 (by decide), bnd_e, zb_zr h6 (by decide), bnd_e, zb_zr h6 (by decide), bnd_e, zb_zr h6 (by decide)]
  unfold mX3_forgetSteps
  rw [show (0 : Int32) = Int32.ofNat 0 from rfl, fs_l 110 256 0 5000 _ rfl (by decide), cal_e]
  congr 2
  refine mem_x (fun a => ?_) (fun _ => rfl) (fun _ => rfl)
  show (if a = 127 then (fun j => if 0 ≤ j ∧ j < 256 then (-1 : Int32) else (ptP 119 (wr (wr (wr M 110 0 (-1)) 110 1 (-1)) 110 3 (-1))).1 127 j) else (ptP 119 (wr (wr (wr M 110 0 (-1)) 110 1 (-1)) 110 3 (-1))).1 a) = (if a = 127 then rQ else if a = 110 then rP else (ptP 119 M).1 a)
  split
  · funext j
    rw [(h6 127 (Nat.le_refl _)).1]
    simp only [rQ, Nat.zero_le, true_and]
  · split
    · rename_i e
      subst e
      have z0 := (h 110 (Nat.le_refl _)).1
      show (wr (wr (wr M 110 0 (-1)) 110 1 (-1)) 110 3 (-1)).1 110 = rP
      rw [wr_s, wr_s, wr_s, z0]
      rfl
    · rename_i e1 e2
      show (if a = 119 then pH else if a = 119 + 2 then tT else (wr (wr (wr M 110 0 (-1)) 110 1 (-1)) 110 3 (-1)).1 a) = (if a = 119 then pH else if a = 119 + 2 then tT else M.1 a)
      rw [(wr_o a e2).1, (wr_o a e2).1, (wr_o a e2).1]
theorem re_init {M : Mem} (h : Zb M 2) : mX4_init M = some (wr M 2 1 (-1), ()) := by
  have h1 : Zb (wr M 2 1 (-1)) 3 := zb_wr (zb_up h (by decide)) (by decide)
  have z : ∀ j, j ≠ 1 → wr (wr M 2 1 (-1)) 2 j 0 = wr M 2 1 (-1) := fun j hj => by
    refine wr_id ?_
    rw [wr_s, (h 2 (Nat.le_refl _)).1]
    exact if_neg hj
  have hc : decide (¬ rd (wr M 2 1 (-1)) 2 2 = 1) = true := by
    refine decide_eq_true ?_
    unfold rd
    rw [wr_s, (h 2 (Nat.le_refl _)).1]
    decide
  unfold mX4_init
  rw [bnd_e, zb_wr0 h (Nat.le_refl _), bnd_e, bnd_e, zb_zr h1 (by decide), chk_t hc, bnd_e, z 3 (by decide), bnd_e, z 4 (by decide), bnd_e, z 5 (by decide), bnd_e, z 6 (by decide), bnd_e, z 7 (by decide), bnd_e, zb_zr h1 (by decide)]
def MA : Mem := ptP 13 (ptP 5 (wr m0 2 1 (-1)))
def MB : Mem := ptP 95 (ptP 87 (ptP 79 (ptP 71 (ptP 63 (ptP 55 (ptP 47 (ptP 39 (ptP 31 (ptP 23 MA)))))))))
def MC : Mem := plP MB
theorem zb_MA : Zb MA 21 := zb_pt (k := 13) (zb_pt (k := 5) (zb_up (zb_wr (b := 3) (zb_up zb_0 (by decide)) (by decide)) (by decide)))
theorem zb_MB : Zb MB 103 := zb_pt (k := 95) (zb_pt (k := 87) (zb_pt (k := 79) (zb_pt (k := 71) (zb_pt (k := 63) (zb_pt (k := 55) (zb_pt (k := 47) (zb_pt (k := 39) (zb_pt (k := 31) (zb_pt (k := 23) (zb_up zb_MA (by decide)))))))))))
theorem zb_MC : Zb MC 133 := zb_plP (zb_up zb_MB (by decide))
theorem root_init : mX6_init m0 = some (MC, ()) := by
  have h2 : Zb (wr m0 2 1 (-1)) 5 := zb_up (zb_wr (b := 3) (zb_up zb_0 (by decide)) (by decide)) (by decide)
  have h3 : Zb (ptP 5 (wr m0 2 1 (-1))) 13 := zb_pt (k := 5) h2
  unfold mX6_init
  rw [bnd_e, zb_zr zb_0 (by decide), bnd_e, zb_wr0 zb_0 (by decide), bnd_e, zb_zr zb_0 (by decide), re_init (zb_up zb_0 (by decide)), cal_e]
  rw [bnd_e, zb_zr h2 (by decide), pt_init h2, cal_e]
  rw [bnd_e, zb_zr h3 (by decide), pt_init h3, cal_e]
  change bnd (zr MA 21) _ = _
  rw [bnd_e, zb_zr zb_MA (by decide), hi_init zb_MA, cal_e]
  change bnd (zr MB 103) _ = _
  rw [bnd_e, zb_zr zb_MB (by decide), pl_init zb_MB, cal_e]
  rw [bnd_e, zb_zr zb_MB (by decide), zx_init (zb_up zb_MB (by decide)), cal_e]
  change bnd (zr MC 133) _ = _
  rw [bnd_e, zb_zr zb_MC (by decide)]
  unfold mJ4_init_da8c8 mJ5_init_d00df
  simp only [Nat.reduceAdd]
  rw [bnd_e, zb_zr zb_MC (by decide), bnd_e, zb_wr0 zb_MC (by decide), chk_t (decide_eq_true (show rd MC 133 0 = 0 from congrFun (zb_MC 133 (by decide)).1 0)), cal_e, cal_e]
def tb : Nat → Int32 := fun j => if j = 36 then 10 else if j = 37 then 10 else if j = 38 then 40 else if j = 39 then 300 else if j = 40 then 600 else if j = 41 then 300 else if j = 42 then 600 else if j = 43 then 200 else if j = 44 then 400 else if j = 46 then 9999 else if j = 49 then 1 else if j = 50 then 1 else if j = 51 then 1 else 0
def rM : Nat → Int32 := fun j => if j = 9 then -1 else 0
def MZ : Mem := (fun a => if a = 136 then tb else if a = 137 then tb else if a = 135 then rM else MC.1 a, MC.2)
theorem zb_MZ : Zb MZ 138 := fun a ha => by
  obtain ⟨z1, z2, z3⟩ := zb_MC a (by omega)
  refine ⟨?_, z2, z3⟩
  show (if a = 136 then tb else if a = 137 then tb else if a = 135 then rM else MC.1 a) = _
  rw [if_neg (by omega), if_neg (by omega), if_neg (by omega), z1]
theorem i_lay (k0 : Nat) (x1 x2 x3 x4 : Int32) (M : Mem) (n : Nat) (h1 : okb x1 86 = true) (h2 : okb (x1 + (1 : Int32)) 86 = true) (h3 : okb (x1 + (2 : Int32)) 86 = true) (e1 : x1.toNatClampNeg = n) (e2 : (x1 + (1 : Int32)).toNatClampNeg = n + 1) (e3 : (x1 + (2 : Int32)).toNatClampNeg = n + 2) : mX7_lay k0 x1 x2 x3 x4 M = some (wr (wr (wr M (k0 + 2) n x2) (k0 + 2) (n + 1) x3) (k0 + 2) (n + 2) x4, ()) := by
  unfold mX7_lay
  rw [chk_t h1, bnd_e, chk_t h2, bnd_e, chk_t h3, bnd_e, e1, e2, e3]
theorem i_lays {M : Mem} (h : M.1 137 = fun _ => 0) : lays 135 M = some ((fun a => if a = 137 then tb else M.1 a, M.2), ()) := by
  unfold lays
  rw [i_lay 135 36 10 10 40 _ 36 (by decide) (by decide) (by decide) (by decide) (by decide) (by decide), cal_e]
  rw [i_lay 135 39 300 600 300 _ 39 (by decide) (by decide) (by decide) (by decide) (by decide) (by decide), cal_e]
  rw [i_lay 135 42 600 200 400 _ 42 (by decide) (by decide) (by decide) (by decide) (by decide) (by decide), cal_e]
  rw [i_lay 135 45 0 9999 0 _ 45 (by decide) (by decide) (by decide) (by decide) (by decide) (by decide), cal_e]
  rw [i_lay 135 49 1 1 1 _ 49 (by decide) (by decide) (by decide) (by decide) (by decide) (by decide), cal_e]
  congr 2
  refine mem_x (fun a => ?_) (fun _ => rfl) (fun _ => rfl)
  simp only [Nat.reduceAdd]
  show (wr (wr (wr (wr (wr (wr (wr (wr (wr (wr (wr (wr (wr (wr (wr M 137 36 10) 137 37 10) 137 38 40) 137 39 300) 137 40 600) 137 41 300) 137 42 600) 137 43 200) 137 44 400) 137 45 0) 137 46 9999) 137 47 0) 137 49 1) 137 50 1) 137 51 1).1 a = (if a = 137 then tb else M.1 a)
  by_cases e : a = 137
  · subst e
    simp only [wr_s, h, if_true]
    funext j
    rcases Nat.lt_or_ge j 60 with hj | hj
    · exact (by decide : ∀ i : Fin 60, upd (upd (upd (upd (upd (upd (upd (upd (upd (upd (upd (upd (upd (upd (upd (fun _ => 0) 36 10) 37 10) 38 40) 39 300) 40 600) 41 300) 42 600) 43 200) 44 400) 45 0) 46 9999) 47 0) 49 1) 50 1) 51 1 i.1 = tb i.1) ⟨j, hj⟩
    · simp only [upd, tb]
      repeat (rw [if_neg (by omega)])
      try rfl
  · have b1 : ∀ (N : Mem) (j : Nat) (v : Int32), (wr N 137 j v).1 a = N.1 a := fun _ _ _ => (wr_o a e).1
    simp only [b1, e, if_false]
theorem md_init : mX7_init 135 MC = some (MZ, ()) := by
  have h0 := zb_up zb_MC (by decide : 133 ≤ 135)
  have h1 : Zb (wr MC 135 9 (-1)) 136 := zb_wr (zb_up zb_MC (by decide)) (by decide)
  unfold mX7_init
  simp only [Nat.reduceAdd]
  rw [bnd_e, zb_zr h0 (by decide), bnd_e, zb_zr h0 (by decide), bnd_e, zb_zr h0 (by decide), bnd_e, zb_zr h0 (by decide), bnd_e, zb_zr h0 (by decide), bnd_e]
  rw [bnd_e, zb_zr h1 (by decide), bnd_e, zb_zr h1 (by decide), bnd_e, zb_zr h1 (by decide), bnd_e, zb_zr h1 (by decide), bnd_e, zb_zr h1 (by decide), bnd_e, zb_zr h1 (by decide), bnd_e, zb_zr h1 (by decide), bnd_e, zb_zr h1 (by decide), bnd_e, zb_zr h1 (by decide), bnd_e, zb_zr h1 (by decide), bnd_e, zb_zr h1 (by decide)]
  unfold mX7_reset
  rw [show (0 : Int32) = Int32.ofNat 0 from rfl, rs_l 135 86 0 5000 _ rfl (by decide)]
  have ef : fl (wr MC 135 9 (-1)) (135 + 2) 0 86 (fun _ => 0) = wr MC 135 9 (-1) := by
    refine mem_x (fun a => ?_) (fun _ => rfl) (fun _ => rfl)
    show (if a = 137 then (fun j => if 0 ≤ j ∧ j < 86 then (0 : Int32) else (wr MC 135 9 (-1)).1 137 j) else (wr MC 135 9 (-1)).1 a) = (wr MC 135 9 (-1)).1 a
    split
    · rename_i e
      rw [e, (h1 137 (by decide)).1]
      funext j
      split <;> rfl
    · rfl
  rw [ef, i_lays (h1 137 (by decide)).1, cal_e]
  unfold mX7_copy
  rw [show (0 : Int32) = Int32.ofNat 0 from rfl, cp_l 137 136 (by decide) tb 86 0 5000 _ rfl (by decide) rfl, cal_e]
  congr 2
  refine mem_x (fun a => ?_) (fun _ => rfl) (fun _ => rfl)
  show (if a = 136 then (fun j => if 0 ≤ j ∧ j < 86 then tb j else (wr MC 135 9 (-1)).1 136 j) else (if a = 137 then tb else if a = 135 then upd (MC.1 135) 9 (-1) else MC.1 a)) = (if a = 136 then tb else if a = 137 then tb else if a = 135 then rM else MC.1 a)
  split
  · funext j
    rw [(h1 136 (by decide)).1]
    split
    · rfl
    · rename_i hj
      unfold tb
      repeat (rw [if_neg (by omega)])
      try rfl
  · rw [(h0 135 (by decide)).1]
    rfl
theorem mstart_s : mstart = some (MZ, ()) := by
  unfold mstart
  rw [bnd_e, zb_zr zb_0 (by decide), root_init, cal_e, bnd_e, zb_zr zb_MC (by decide), md_init, cal_e, bnd_e, zb_zr zb_MZ (by decide), bnd_e, zb_zr zb_MZ (by decide)]
end
/-! part 60a.pc -/
section
/-! two programs side by side: what holds if both come to an end -/
def R2 {α β : Type} (x : Option α) (y : Option β) (R : α → β → Prop) : Prop := ∀ a b, x = some a → y = some b → R a b
def Pc {α : Type} (x : Option α) (P : α → Prop) : Prop := ∀ a, x = some a → P a
section R2S
variable {α β γ ρ σ : Type} {R : α → β → Prop} {P : α → Prop}
theorem Pc.ok {a : α} (h : P a) : Pc (some a) P := fun b e => by cases e; exact h
theorem Pc.n : Pc (none : Option α) P := fun b e => by cases e
theorem Pc.mono {x : Option α} {P Q : α → Prop} (h : Pc x Q) (hq : ∀ y, Q y → P y) : Pc x P := fun a e => hq a (h a e)
theorem Pc.b {e : γ} {k : γ → Option α} (h : ∀ v, v = e → Pc (k v) P) : Pc (bnd e k) P := h e rfl
theorem Pc.k {b : Bool} {x : Option α} (h : b = true → Pc x P) : Pc (chk b x) P := fun a e => (h (chk_s e).1) a (chk_s e).2
theorem Pc.i {c : Prop} [Decidable c] {a b : Option α} (h1 : c → Pc a P) (h2 : ¬ c → Pc b P) : Pc (ite2 c a b) P := by
  unfold ite2
  by_cases hc : c
  · rw [if_pos hc]; exact h1 hc
  · rw [if_neg hc]; exact h2 hc
theorem Pc.c {x : Option ρ} {k : ρ → Option α} {Q : ρ → Prop} (h : Pc x Q) (hk : ∀ r, Q r → Pc (k r) P) : Pc (cap x k) P := fun a e => by
  obtain ⟨r, e1, e2⟩ := cap_s e
  exact hk r (h r e1) a e2
theorem Pc.m {x : Option (Mem × ρ)} {k : Mem → ρ → Option α} {Q : Mem × ρ → Prop} (h : Pc x Q) (hk : ∀ M r, Q (M, r) → Pc (k M r) P) : Pc (cal x k) P := fun a e => by
  obtain ⟨M, r, e1, e2⟩ := cal_s e
  exact hk M r (h _ e1) a e2
theorem Pc.and {x : Option α} {P Q : α → Prop} (h : Pc x P) (h' : Pc x Q) : Pc x (fun a => P a ∧ Q a) := fun a e => ⟨h a e, h' a e⟩
theorem Sf.pc {x : Option α} {Q : α → Prop} (h : Sf x P) (h' : Pc x Q) : Sf x (fun a => P a ∧ Q a) := by
  obtain ⟨y, e, h⟩ := h
  exact ⟨y, e, h, h' y e⟩
theorem Sf.toPc {x : Option α} (h : Sf x P) : Pc x P := fun a e => by
  obtain ⟨y, e2, h⟩ := h
  rw [e] at e2; cases e2; exact h
theorem Pc.self (x : Option α) : Pc x (fun a => x = some a) := fun _ e => e
theorem R2.ok {a : α} {b : β} (h : R a b) : R2 (some a) (some b) R := fun _ _ e1 e2 => by cases e1; cases e2; exact h
theorem R2.nl {y : Option β} : R2 (none : Option α) y R := fun _ _ e1 _ => by cases e1
theorem R2.nr {x : Option α} : R2 x (none : Option β) R := fun _ _ _ e2 => by cases e2
theorem R2.mono {x : Option α} {y : Option β} {Q : α → β → Prop} (h : R2 x y Q) (hq : ∀ a b, Q a b → R a b) : R2 x y R := fun a b e1 e2 => hq a b (h a b e1 e2)
theorem R2.and {x : Option α} {y : Option β} {Q : α → β → Prop} (h : R2 x y R) (h' : R2 x y Q) : R2 x y (fun a b => R a b ∧ Q a b) := fun a b e1 e2 => ⟨h a b e1 e2, h' a b e1 e2⟩
theorem R2.lP {x : Option α} {y : Option β} {P : α → Prop} (h : R2 x y R) (h' : Pc x P) : R2 x y (fun a b => R a b ∧ P a) := fun a b e1 e2 => ⟨h a b e1 e2, h' a e1⟩
theorem R2.rP {x : Option α} {y : Option β} {P : β → Prop} (h : R2 x y R) (h' : Pc y P) : R2 x y (fun a b => R a b ∧ P b) := fun a b e1 e2 => ⟨h a b e1 e2, h' b e2⟩
theorem R2.bl {e : γ} {k : γ → Option α} {y : Option β} (h : ∀ v, v = e → R2 (k v) y R) : R2 (bnd e k) y R := h e rfl
theorem R2.br {e : γ} {k : γ → Option β} {x : Option α} (h : ∀ v, v = e → R2 x (k v) R) : R2 x (bnd e k) R := h e rfl
theorem R2.kl {b : Bool} {x : Option α} {y : Option β} (h : b = true → R2 x y R) : R2 (chk b x) y R := fun a b' e1 e2 => (h (chk_s e1).1) a b' (chk_s e1).2 e2
theorem R2.kr {b : Bool} {x : Option α} {y : Option β} (h : b = true → R2 x y R) : R2 x (chk b y) R := fun a b' e1 e2 => (h (chk_s e2).1) a b' e1 (chk_s e2).2
theorem R2.il {c : Prop} [Decidable c] {a b : Option α} {y : Option β} (h1 : c → R2 a y R) (h2 : ¬ c → R2 b y R) : R2 (ite2 c a b) y R := by
  unfold ite2
  by_cases hc : c
  · rw [if_pos hc]; exact h1 hc
  · rw [if_neg hc]; exact h2 hc
theorem R2.ir {c : Prop} [Decidable c] {a b : Option β} {x : Option α} (h1 : c → R2 x a R) (h2 : ¬ c → R2 x b R) : R2 x (ite2 c a b) R := by
  unfold ite2
  by_cases hc : c
  · rw [if_pos hc]; exact h1 hc
  · rw [if_neg hc]; exact h2 hc
theorem R2.cl {x : Option ρ} {k : ρ → Option α} {y : Option β} {Q : ρ → Prop} (h : Pc x Q) (hk : ∀ r, Q r → R2 (k r) y R) : R2 (cap x k) y R := fun a b e1 e2 => by
  obtain ⟨r, e3, e4⟩ := cap_s e1
  exact hk r (h r e3) a b e4 e2
theorem R2.cr {x : Option α} {y : Option ρ} {k : ρ → Option β} {Q : ρ → Prop} (h : Pc y Q) (hk : ∀ r, Q r → R2 x (k r) R) : R2 x (cap y k) R := fun a b e1 e2 => by
  obtain ⟨r, e3, e4⟩ := cap_s e2
  exact hk r (h r e3) a b e1 e4
theorem R2.ml {x : Option (Mem × ρ)} {k : Mem → ρ → Option α} {y : Option β} {Q : Mem × ρ → Prop} (h : Pc x Q) (hk : ∀ M r, Q (M, r) → R2 (k M r) y R) : R2 (cal x k) y R := fun a b e1 e2 => by
  obtain ⟨M, r, e3, e4⟩ := cal_s e1
  exact hk M r (h _ e3) a b e4 e2
theorem R2.mr {x : Option α} {y : Option (Mem × ρ)} {k : Mem → ρ → Option β} {Q : Mem × ρ → Prop} (h : Pc y Q) (hk : ∀ M r, Q (M, r) → R2 x (k M r) R) : R2 x (cal y k) R := fun a b e1 e2 => by
  obtain ⟨M, r, e3, e4⟩ := cal_s e2
  exact hk M r (h _ e3) a b e1 e4
theorem R2.mm {x : Option (Mem × ρ)} {k : Mem → ρ → Option α} {y : Option (Mem × σ)} {k' : Mem → σ → Option β} {Q : Mem × ρ → Mem × σ → Prop} (h : R2 x y Q) (hk : ∀ M r N q, Q (M, r) (N, q) → R2 (k M r) (k' N q) R) : R2 (cal x k) (cal y k') R := fun a b e1 e2 => by
  obtain ⟨M, r, e3, e4⟩ := cal_s e1
  obtain ⟨N, q, e5, e6⟩ := cal_s e2
  exact hk M r N q (h _ _ e3 e5) a b e4 e6
theorem R2.cc {x : Option ρ} {k : ρ → Option α} {y : Option σ} {k' : σ → Option β} {Q : ρ → σ → Prop} (h : R2 x y Q) (hk : ∀ r q, Q r q → R2 (k r) (k' q) R) : R2 (cap x k) (cap y k') R := fun a b e1 e2 => by
  obtain ⟨r, e3, e4⟩ := cap_s e1
  obtain ⟨q, e5, e6⟩ := cap_s e2
  exact hk r q (h _ _ e3 e5) a b e4 e6
theorem R2.of {x : Option α} {y : Option β} {P : α → Prop} (h : ∀ a, x = some a → Pc y (R a)) : R2 x y R := fun a b e1 e2 => h a e1 b e2
end R2S
/-! frames: all slots but those of S are kept -/
def KS (S : Nat → Nat → Prop) (M M' : Mem) : Prop := ∀ k j, ¬ S k j → rd M' k j = rd M k j
def Fr {ρ : Type} (S : Nat → Nat → Prop) (M : Mem) (x : Option (Mem × ρ)) : Prop := ∀ q, x = some q → KS S M q.1
section FRS
variable {S : Nat → Nat → Prop} {M M' M'' : Mem} {ρ σ γ : Type}
theorem KS.rf : KS S M M := fun _ _ _ => rfl
theorem KS.trans (h : KS S M M') (h' : KS S M' M'') : KS S M M'' := fun k j q => (h' k j q).trans (h k j q)
theorem KS.mono {S' : Nat → Nat → Prop} (h : KS S M M') (hs : ∀ k j, S k j → S' k j) : KS S' M M' := fun k j q => h k j (fun q' => q (hs k j q'))
theorem KS.wr {k j : Nat} {v : Int32} (h : KS S M M') (hs : S k j) : KS S M (wr M' k j v) := fun k' j' q => by
  by_cases e : k' = k
  · subst e
    by_cases e2 : j' = j
    · subst e2; exact absurd hs q
    · rw [rd_wj e2]; exact h k' j' q
  · rw [rd_wk e]; exact h k' j' q
theorem KS.wl {k j : Nat} {v : Int64} (h : KS S M M') : KS S M (wl M' k j v) := fun k' j' q => h k' j' q
theorem KS.wd {k j : Nat} {v : UInt64} (h : KS S M M') : KS S M (wd M' k j v) := fun k' j' q => h k' j' q
theorem KS.cp {k k2 sp dp n : Nat} (h : KS S M M') (hs : ∀ j, S k2 j) : KS S M (cpy M' k k2 sp dp n) := fun k' j' q => by
  have e : k' ≠ k2 := fun e => q (e ▸ hs j')
  have e8 : rd (cpy M' k k2 sp dp n) k' j' = rd M' k' j' := congrFun (cpy_o (M := M') (a := k) (sp := sp) (dp := dp) (n := n) k' e).1 j'
  rw [e8]; exact h k' j' q
theorem Fr.ok {r : ρ} (h : KS S M M') : Fr S M (some (M', r)) := fun q e => by cases e; exact h
theorem Fr.n : Fr S M (none : Option (Mem × ρ)) := fun q e => by cases e
theorem Fr.bw {k j : Nat} {v : Int32} {K : Mem → Option (Mem × ρ)} (hs : S k j) (h : KS S M M') (hk : ∀ M1, KS S M M1 → Fr S M (K M1)) : Fr S M (bnd (wr M' k j v) K) := hk _ (h.wr hs)
theorem Fr.bl {k j : Nat} {v : Int64} {K : Mem → Option (Mem × ρ)} (h : KS S M M') (hk : ∀ M1, KS S M M1 → Fr S M (K M1)) : Fr S M (bnd (wl M' k j v) K) := hk _ h.wl
theorem Fr.bd {k j : Nat} {v : UInt64} {K : Mem → Option (Mem × ρ)} (h : KS S M M') (hk : ∀ M1, KS S M M1 → Fr S M (K M1)) : Fr S M (bnd (wd M' k j v) K) := hk _ h.wd
theorem Fr.bc {k k2 sp dp n : Nat} {K : Mem → Option (Mem × ρ)} (hs : ∀ j, S k2 j) (h : KS S M M') (hk : ∀ M1, KS S M M1 → Fr S M (K M1)) : Fr S M (bnd (cpy M' k k2 sp dp n) K) := hk _ (h.cp hs)
theorem Fr.b {e : γ} {K : γ → Option (Mem × ρ)} (hk : ∀ v, Fr S M (K v)) : Fr S M (bnd e K) := hk e
theorem Fr.k {b : Bool} {x : Option (Mem × ρ)} (h : Fr S M x) : Fr S M (chk b x) := fun q e => h q (chk_s e).2
theorem Fr.i {c : Prop} [Decidable c] {a b : Option (Mem × ρ)} (h1 : Fr S M a) (h2 : Fr S M b) : Fr S M (ite2 c a b) := by
  unfold ite2
  split
  · exact h1
  · exact h2
theorem Fr.c {x : Option γ} {K : γ → Option (Mem × ρ)} (hk : ∀ r, Fr S M (K r)) : Fr S M (cap x K) := fun q e => by
  obtain ⟨r, _, e2⟩ := cap_s e
  exact hk r q e2
theorem Fr.m {x : Option (Mem × σ)} {K : Mem → σ → Option (Mem × ρ)} (h : Fr S M x) (hk : ∀ M1 r, KS S M M1 → Fr S M (K M1 r)) : Fr S M (cal x K) := fun q e => by
  obtain ⟨M1, r, e1, e2⟩ := cal_s e
  exact hk M1 r (h _ e1) q e2
theorem Fr.o {r : Option Nat} {a : Option (Mem × ρ)} {b : Nat → Option (Mem × ρ)} (h1 : Fr S M a) (h2 : ∀ w, Fr S M (b w)) : Fr S M (opt r a b) := by
  cases r with
  | none => exact h1
  | some w => exact h2 w
theorem Fr.x {x : Option (Mem × (ρ ⊕ Nat))} {K : Mem → ρ → Option (Mem × (σ ⊕ Nat))} (h : Fr S M x) (hk : ∀ M1 r, KS S M M1 → Fr S M (K M1 r)) : Fr S M (calx x K) := fun q e => by
  cases x with
  | none => cases e
  | some y =>
    obtain ⟨M1, r⟩ := y
    cases r with
    | inl r => exact hk M1 r (h _ rfl) q e
    | inr w => cases e; exact h _ rfl
theorem Fr.t {x : Option (Mem × (γ ⊕ Nat))} {K : Mem → γ → Option (Mem × ρ)} {g : Mem → Nat → Option (Mem × ρ)} (h : Fr S M x) (hk : ∀ M1 r, KS S M M1 → Fr S M (K M1 r)) (hg : ∀ M1 r, KS S M M1 → Fr S M (g M1 r)) : Fr S M (calt x K g) := fun q e => by
  cases x with
  | none => cases e
  | some y =>
    obtain ⟨M1, r⟩ := y
    cases r with
    | inl r => exact hk M1 r (h _ rfl) q e
    | inr w => exact hg M1 w (h _ rfl) q e
theorem Fr.pc {x : Option (Mem × ρ)} (h : Fr S M x) : Pc x (fun q => KS S M q.1) := h
end FRS
/-! bits of the memory read back -/
theorem rd_eq {M : Mem} {k j : Nat} {v : Int32} {k' j' : Nat} : rd (wr M k j v) k' j' = if k' = k ∧ j' = j then v else rd M k' j' := by
  by_cases h : k' = k ∧ j' = j
  · obtain ⟨rfl, rfl⟩ := h; rw [if_pos ⟨rfl, rfl⟩]; exact rd_we
  · rw [if_neg h]
    by_cases e : k' = k
    · exact rd_wj (fun q => h ⟨e, q⟩)
    · exact rd_wk e
end
/-! part 60b.tok -/
section
/-! a token, read by both -/
def BR (x y : Int32) : Prop := (x = y ∧ 0 ≤ y.toInt ∧ y.toInt ≤ 127) ∨ (x.toInt < 0 ∧ 128 ≤ y.toInt)
def RT (M N : Mem)  : Prop := (rd M 2 3 = rd N 135 10) ∧ ((rd N 135 10).toInt ≤ 600) ∧ (∀ i : Nat, (i : Int) < (rd N 135 10).toInt → BR (rd M 1 i) (rd N 140 i))
theorem RT.len {M N : Mem}  (h : RT M N) : rd M 2 3 = rd N 135 10 := h.1
theorem RT.top {M N : Mem}  (h : RT M N) : (rd N 135 10).toInt ≤ 600 := h.2.1
theorem RT.byt {M N : Mem}  (h : RT M N) : ∀ i : Nat, (i : Int) < (rd N 135 10).toInt → BR (rd M 1 i) (rd N 140 i) := h.2.2
/-- the token that both read last -/
def TT (M N : Mem)  : Prop := (RT M N) ∧ (rd M 2 4 = rd N 135 11) ∧ (rd M 2 5 = rd N 135 12) ∧ (rd M 2 6 = rd N 135 13) ∧ (rd N 135 13 = 3 → rd M 2 7 = rd N 135 14) ∧ (0 ≤ (rd N 135 11).toInt) ∧ ((rd N 135 11).toInt ≤ (rd N 135 12).toInt) ∧ ((rd N 135 12).toInt ≤ (rd N 135 10).toInt) ∧ (¬ rd N 135 13 = 0 → (rd N 135 11).toInt < (rd N 135 10).toInt)
theorem TT.rt {M N : Mem}  (h : TT M N) : RT M N := h.1
theorem TT.st {M N : Mem}  (h : TT M N) : rd M 2 4 = rd N 135 11 := h.2.1
theorem TT.nx {M N : Mem}  (h : TT M N) : rd M 2 5 = rd N 135 12 := h.2.2.1
theorem TT.tk {M N : Mem}  (h : TT M N) : rd M 2 6 = rd N 135 13 := h.2.2.2.1
theorem TT.vl {M N : Mem}  (h : TT M N) : rd N 135 13 = 3 → rd M 2 7 = rd N 135 14 := h.2.2.2.2.1
theorem TT.b0 {M N : Mem}  (h : TT M N) : 0 ≤ (rd N 135 11).toInt := h.2.2.2.2.2.1
theorem TT.b1 {M N : Mem}  (h : TT M N) : (rd N 135 11).toInt ≤ (rd N 135 12).toInt := h.2.2.2.2.2.2.1
theorem TT.b2 {M N : Mem}  (h : TT M N) : (rd N 135 12).toInt ≤ (rd N 135 10).toInt := h.2.2.2.2.2.2.2.1
theorem TT.en {M N : Mem}  (h : TT M N) : ¬ rd N 135 13 = 0 → (rd N 135 11).toInt < (rd N 135 10).toInt := h.2.2.2.2.2.2.2.2
section TK
variable {M N : Mem} {x y v i : Int32} {k j : Nat}
theorem RT.lw (h : RT M N) (h1 : k ≠ 1 ∧ (k = 2 → j ≠ 3)) : RT (wr M k j v) N := by
  have e : ∀ i, rd (wr M k j v) 1 i = rd M 1 i := fun i => rd_wk (fun e => h1.1 e.symm)
  have e3 : rd (wr M k j v) 2 3 = rd M 2 3 := by
    rw [rd_eq, if_neg]; intro q; exact h1.2 q.1.symm q.2.symm
  exact ⟨e3.trans h.len, h.top, fun i hi => by rw [e]; exact h.byt i hi⟩
theorem RT.rw (h : RT M N) (h1 : k ≠ 140 ∧ (k = 135 → j ≠ 10)) : RT M (wr N k j v) := by
  have e : ∀ i, rd (wr N k j v) 140 i = rd N 140 i := fun i => rd_wk (fun e => h1.1 e.symm)
  have e3 : rd (wr N k j v) 135 10 = rd N 135 10 := by
    rw [rd_eq, if_neg]; intro q; exact h1.2 q.1.symm q.2.symm
  exact ⟨h.len.trans e3.symm, by rw [e3]; exact h.top, fun i hi => by rw [e]; exact h.byt i (by rw [e3] at hi; exact hi)⟩
theorem pc_byteAt : Pc (mX7_byteAt 135 i N) (fun r => ((rd N 135 10).toInt ≤ i.toInt ∧ r = -1) ∨ (i.toInt < (rd N 135 10).toInt ∧ 0 ≤ i.toInt ∧ r = rd N 140 i.toNatClampNeg)) := by
  unfold mX7_byteAt
  refine Pc.i (fun c => Pc.ok (Or.inl ⟨i_le.mp c, rfl⟩)) (fun c => Pc.k (fun b => Pc.ok (Or.inr ⟨i_nle c, ?_, rfl⟩)))
  have q := okb_in b
  have q : ¬ (i < 0) := fun e => q (Or.inl e)
  have q := i_nlt q
  exact q
theorem pc_let7 : Pc (mX7_isLetter x N) (fun r => r = 0 ↔ ¬ (97 ≤ x.toInt ∧ x.toInt ≤ 122)) := by
  unfold mX7_isLetter
  have n1 : ((97 : Int32)).toInt = 97 := rfl
  have n2 : ((122 : Int32)).toInt = 122 := rfl
  refine Pc.i (fun c => Pc.ok ⟨fun _ => ?_, fun _ => rfl⟩) (fun c => Pc.i (fun c2 => Pc.ok ⟨fun _ => ?_, fun _ => rfl⟩) (fun c2 => Pc.ok ⟨fun e => absurd e (by decide), fun e => ?_⟩))
  · have c := i_lt.mp c; omega
  · have c2 := i_lt.mp c2; omega
  · have c := i_nlt c; have c2 := i_nlt c2; exact absurd ⟨by omega, by omega⟩ e
theorem pc_let4 : Pc (mX4_isLetter x M) (fun r => r = 0 ↔ ¬ (97 ≤ x.toInt ∧ x.toInt ≤ 122)) := pc_let7 (N := M)
theorem pc_dig7 : Pc (mX7_isDigit x N) (fun r => r = 0 ↔ ¬ (48 ≤ x.toInt ∧ x.toInt ≤ 57)) := by
  unfold mX7_isDigit
  have n1 : ((48 : Int32)).toInt = 48 := rfl
  have n2 : ((57 : Int32)).toInt = 57 := rfl
  refine Pc.i (fun c => Pc.ok ⟨fun _ => ?_, fun _ => rfl⟩) (fun c => Pc.i (fun c2 => Pc.ok ⟨fun _ => ?_, fun _ => rfl⟩) (fun c2 => Pc.ok ⟨fun e => absurd e (by decide), fun e => ?_⟩))
  · have c := i_lt.mp c; omega
  · have c2 := i_lt.mp c2; omega
  · have c := i_nlt c; have c2 := i_nlt c2; exact absurd ⟨by omega, by omega⟩ e
theorem pc_dig4 : Pc (mX4_isDigit x M) (fun r => r = 0 ↔ ¬ (48 ≤ x.toInt ∧ x.toInt ≤ 57)) := pc_dig7 (N := M)
theorem pc_spc4 : Pc (mX4_isSpace x M) (fun r => r = 0 ↔ ¬ (x = 32 ∨ x = 10)) := by
  unfold mX4_isSpace mX4_isSpace_b12
  refine Pc.i (fun c => Pc.ok ⟨fun e => absurd e (by decide), fun e => absurd (Or.inl c) e⟩) (fun c => Pc.i (fun c2 => Pc.ok ⟨fun e => absurd e (by decide), fun e => absurd (Or.inr c2) e⟩) (fun c2 => Pc.ok ⟨fun _ e => e.elim c c2, fun _ => rfl⟩))
theorem BR.let (h : BR x y) : (97 ≤ x.toInt ∧ x.toInt ≤ 122) ↔ (97 ≤ y.toInt ∧ y.toInt ≤ 122) := by
  rcases h with ⟨rfl, _⟩ | ⟨h1, h2⟩
  · exact Iff.rfl
  · constructor <;> (intro h; omega)
theorem BR.dig (h : BR x y) : (48 ≤ x.toInt ∧ x.toInt ≤ 57) ↔ (48 ≤ y.toInt ∧ y.toInt ≤ 57) := by
  rcases h with ⟨rfl, _⟩ | ⟨h1, h2⟩
  · exact Iff.rfl
  · constructor <;> (intro h; omega)
theorem BR.eq (h : BR x y) {c : Int32} (hc : 0 ≤ c.toInt ∧ c.toInt ≤ 127) : x = c ↔ y = c := by
  rcases h with ⟨rfl, _⟩ | ⟨h1, h2⟩
  · exact Iff.rfl
  · constructor <;> (intro h; subst h; omega)
theorem BR.ne1 (h : BR x y) : ¬ y = -1 := by
  intro e; subst e
  rcases h with ⟨_, h1, _⟩ | ⟨_, h1⟩ <;> exact absurd h1 (by decide)
theorem BR.same (h : BR x y) (hd : 48 ≤ y.toInt ∧ y.toInt ≤ 57) : x = y := by
  rcases h with ⟨h, _⟩ | ⟨h1, h2⟩
  · exact h
  · omega
theorem rt_b (h : RT M N) (h0 : 0 ≤ i.toInt) (h1 : i.toInt < (rd N 135 10).toInt) : BR (rd M 1 i.toNatClampNeg) (rd N 140 i.toNatClampNeg) := h.byt _ (by rw [i_clamp]; omega)
theorem i_inc (h0 : 0 ≤ i.toInt) (h1 : i.toInt < 600) : (i + 1).toInt = i.toInt + 1 := by
  rw [i_add (by rw [show ((1 : Int32)).toInt = 1 from rfl]; omega) (by rw [show ((1 : Int32)).toInt = 1 from rfl]; omega)]; rfl
/-- the end of a run of letters or digits -/
theorem tk_end {n : Int32} {c : Int32} (h : RT M N) (h5 : rd M 2 5 = rd N 135 12) (h4 : rd M 2 4 = rd N 135 11) (h7 : c = 3 → rd M 2 7 = rd N 135 14) (b0 : 0 ≤ (rd N 135 11).toInt) (b1 : (rd N 135 11).toInt ≤ (rd N 135 12).toInt) (b2 : (rd N 135 12).toInt ≤ (rd N 135 10).toInt) (bs : (rd N 135 11).toInt < (rd N 135 10).toInt) (hc : ¬ c = 1) :
    R2 (ite2 (n < ((rd M 2 5) - (rd M 2 4))) (bnd (wr M 2 6 (1 : Int32)) (fun M3 => some (M3, ()))) (bnd (wr M 2 6 c) (fun M5 => some (M5, ())))) (ite2 (((rd N 135 12) - (rd N 135 11)) ≤ n) (bnd (wr N 135 13 c) (fun M42 => some (M42, (1 : Int32)))) (bnd (wr N 135 13 (1 : Int32)) (fun M42 => some (M42, (1 : Int32))))) (fun a b => TT a.1 b.1) := by
  rw [h5, h4]
  have key : ∀ t : Int32, (t = 3 → rd M 2 7 = rd N 135 14) → TT (wr M 2 6 t) (wr N 135 13 t) := fun t ht => by
    refine ⟨(h.lw (by decide)).rw (by decide), ?_, ?_, ?_, ?_, ?_, ?_, ?_, fun _ => ?_⟩
    · rw [rd_wj (by decide), rd_wj (by decide)]; exact h4
    · rw [rd_wj (by decide), rd_wj (by decide)]; exact h5
    · rw [rd_we, rd_we]
    · rw [rd_we, rd_wj (by decide), rd_wj (by decide)]; exact ht
    · rw [rd_wj (by decide)]; exact b0
    · rw [rd_wj (by decide), rd_wj (by decide)]; exact b1
    · rw [rd_wj (by decide), rd_wj (by decide)]; exact b2
    · rw [rd_wj (by decide), rd_wj (by decide)]; exact bs
  refine R2.il (fun c1 => R2.ir (fun c2 => ?_) (fun c2 => ?_)) (fun c1 => R2.ir (fun c2 => ?_) (fun c2 => ?_))
  · have c1 := i_lt.mp c1; have c2 := i_le.mp c2; exfalso; omega
  · exact R2.bl (fun a ea => R2.br (fun b eb => R2.ok (by subst ea; subst eb; exact key 1 (fun e => absurd e (by decide)))))
  · exact R2.bl (fun a ea => R2.br (fun b eb => R2.ok (by subst ea; subst eb; exact key c h7)))
  · have c1 := i_nlt c1; have c2 := i_nle c2; exfalso; omega
theorem tw_l : ∀ (n m : Nat) (M N : Mem), RT M N → rd M 2 5 = rd N 135 12 → rd M 2 4 = rd N 135 11 → 0 ≤ (rd N 135 11).toInt → (rd N 135 11).toInt ≤ (rd N 135 12).toInt → (rd N 135 12).toInt ≤ (rd N 135 10).toInt → (rd N 135 11).toInt < (rd N 135 10).toInt → R2 (mX4_takeWord_l0 2 n M) (mX7_advance_l76 135 m N) (fun a b => TT a.1 b.1) := by
  intro n
  induction n with
  | zero => intro m M N _ _ _ _ _ _ _; exact R2.nl
  | succ n IH =>
    intro m M N h h5 h4 b0 b1 b2 bs
    cases m with
    | zero => exact R2.nr
    | succ m =>
      show R2 (mX4_takeWord_b0 2 (mX4_takeWord_l0 2 n) M) (mX7_advance_b76 135 (mX7_advance_l76 135 m) N) _
      have he : R2 (mX4_takeWord_b39 2 M) (ite2 (((rd N 135 12) - (rd N 135 11)) ≤ (6 : Int32)) (mX7_advance_b123 135 (2 : Int32) N) (mX7_advance_b123 135 (1 : Int32) N)) (fun a b => TT a.1 b.1) :=
        tk_end (c := 2) (n := 6) h h5 h4 (fun e => absurd e (by decide)) b0 b1 b2 bs (by decide)
      unfold mX4_takeWord_b0 mX7_advance_b76
      rw [h.len, h5]
      refine R2.cr pc_byteAt (fun r pr => R2.cr pc_let7 (fun r2 p2 => ?_))
      refine R2.il (fun c => R2.ir (fun _ => he) (fun c2 => ?_)) (fun c => R2.kl (fun _ => R2.kl (fun _ => R2.cl pc_let4 (fun r3 p3 => ?_))))
      · have c := i_le.mp c
        rcases pr with ⟨_, e⟩ | ⟨e, _⟩
        · rw [e] at p2; exact absurd (p2.mpr (by decide)) c2
        · exfalso; omega
      · have c := i_nle c
        rcases pr with ⟨e, _⟩ | ⟨_, e0, e⟩
        · exfalso; omega
        · have hb := (rt_b h e0 c).let
          rw [← e] at hb
          refine R2.il (fun c3 => R2.ir (fun _ => he) (fun c2 => ?_)) (fun c3 => R2.ir (fun c2 => ?_) (fun c2 => ?_))
          · exact absurd (p2.mpr (fun q => (p3.mp c3) (hb.mpr q))) c2
          · exact absurd (p3.mpr (fun q => (p2.mp c2) (hb.mp q))) c3
          · refine R2.bl (fun M' eM => R2.br (fun N' eN => ?_))
            have t := i_inc e0 (by have := h.top; omega)
            subst eM; subst eN
            have r12 : rd (wr N 135 12 (rd N 135 12 + 1)) 135 12 = rd N 135 12 + 1 := rd_we
            have r11 : rd (wr N 135 12 (rd N 135 12 + 1)) 135 11 = rd N 135 11 := rd_wj (by decide)
            have r10 : rd (wr N 135 12 (rd N 135 12 + 1)) 135 10 = rd N 135 10 := rd_wj (by decide)
            refine IH m _ _ ((h.lw (by decide)).rw (by decide)) ?_ ?_ ?_ ?_ ?_ ?_
            · rw [rd_we, r12]
            · rw [rd_wj (by decide), r11]; exact h4
            · rw [r11]; exact b0
            · rw [r11, r12, t]; omega
            · rw [r10, r12, t]; omega
            · rw [r10, r11]; exact bs
theorem tn_l : ∀ (n m : Nat) (M N : Mem), RT M N → rd M 2 5 = rd N 135 12 → rd M 2 4 = rd N 135 11 → rd M 2 7 = rd N 135 14 → 0 ≤ (rd N 135 11).toInt → (rd N 135 11).toInt ≤ (rd N 135 12).toInt → (rd N 135 12).toInt ≤ (rd N 135 10).toInt → (rd N 135 11).toInt < (rd N 135 10).toInt → R2 (mX4_takeNumber_l0 2 n M) (mX7_advance_l141 135 m N) (fun a b => TT a.1 b.1) := by
  intro n
  induction n with
  | zero => intro m M N _ _ _ _ _ _ _ _; exact R2.nl
  | succ n IH =>
    intro m M N h h5 h4 h7 b0 b1 b2 bs
    cases m with
    | zero => exact R2.nr
    | succ m =>
      show R2 (mX4_takeNumber_b0 2 (mX4_takeNumber_l0 2 n) M) (mX7_advance_b141 135 (mX7_advance_l141 135 m) N) _
      have he : R2 (mX4_takeNumber_b76 2 M) (ite2 (((rd N 135 12) - (rd N 135 11)) ≤ (4 : Int32)) (mX7_advance_b230 135 (3 : Int32) N) (mX7_advance_b230 135 (1 : Int32) N)) (fun a b => TT a.1 b.1) :=
        tk_end (c := 3) (n := 4) h h5 h4 (fun _ => h7) b0 b1 b2 bs (by decide)
      unfold mX4_takeNumber_b0 mX7_advance_b141
      rw [h.len, h5, h4, h7]
      refine R2.cr pc_byteAt (fun r pr => R2.cr pc_dig7 (fun r2 p2 => ?_))
      refine R2.il (fun c => R2.ir (fun _ => he) (fun c2 => ?_)) (fun c => R2.kl (fun _ => R2.kl (fun _ => R2.cl pc_dig4 (fun r3 p3 => ?_))))
      · have c := i_le.mp c
        rcases pr with ⟨_, e⟩ | ⟨e, _⟩
        · rw [e] at p2; exact absurd (p2.mpr (by decide)) c2
        · exfalso; omega
      · have c := i_nle c
        rcases pr with ⟨e, _⟩ | ⟨_, e0, e⟩
        · exfalso; omega
        · have hB := rt_b h e0 c
          have hb := hB.dig
          rw [← e] at hb
          refine R2.il (fun c3 => R2.ir (fun _ => he) (fun c2 => ?_)) (fun c3 => R2.ir (fun c2 => ?_) (fun c2 => ?_))
          · exact absurd (p2.mpr (fun q => (p3.mp c3) (hb.mpr q))) c2
          · exact absurd (p3.mpr (fun q => (p2.mp c2) (hb.mp q))) c3
          · have hd : 48 ≤ r.toInt ∧ r.toInt ≤ 57 := Decidable.byContradiction (fun q => c2 (p2.mpr q))
            have hs : rd M 1 (rd N 135 12).toNatClampNeg = r := by rw [e] at hd ⊢; exact hB.same hd
            have t := i_inc e0 (by have := h.top; omega)
            have go : ∀ (w : Int32) (M1 : Mem), RT M1 N → rd M1 2 5 = rd N 135 12 → rd M1 2 4 = rd N 135 11 → rd M1 2 7 = w → R2 (mX4_takeNumber_b63 2 (mX4_takeNumber_l0 2 n) M1) (mX7_advance_b195 135 (mX7_advance_l141 135 m) w N) (fun a b => TT a.1 b.1) := by
              intro w M1 g g5 g4 g7
              unfold mX4_takeNumber_b63 mX7_advance_b195
              refine R2.bl (fun M' eM => R2.br (fun N1 e1 => R2.br (fun N' eN => ?_)))
              rw [g5] at eM
              have r1 : rd N1 135 12 = rd N 135 12 := by rw [e1]; exact rd_wj (by decide)
              rw [r1] at eN
              have r12 : rd N' 135 12 = rd N 135 12 + 1 := by rw [eN]; exact rd_we
              have r11 : rd N' 135 11 = rd N 135 11 := by rw [eN, rd_wj (by decide), e1, rd_wj (by decide)]
              have r10 : rd N' 135 10 = rd N 135 10 := by rw [eN, rd_wj (by decide), e1, rd_wj (by decide)]
              have r14 : rd N' 135 14 = w := by rw [eN, rd_wj (by decide), e1, rd_we]
              have hR : RT M' N' := by rw [eM, eN, e1]; exact ((g.lw (by decide)).rw (by decide)).rw (by decide)
              refine IH m _ _ hR ?_ ?_ ?_ ?_ ?_ ?_ ?_
              · rw [eM, rd_we, r12]
              · rw [eM, rd_wj (by decide), r11]; exact g4
              · rw [eM, rd_wj (by decide), r14]; exact g7
              · rw [r11]; exact b0
              · rw [r11, r12, t]; omega
              · rw [r10, r12, t]; omega
              · rw [r10, r11]; exact bs
            refine R2.il (fun c4 => R2.ir (fun _ => go _ M h h5 h4 h7) (fun c5 => absurd c4 c5)) (fun c4 => R2.ir (fun c5 => absurd c5 c4) (fun _ => R2.kl (fun _ => R2.kl (fun _ => R2.bl (fun M1 e1 => R2.cr (Pc.self _) (fun r50 p50 => ?_))))))
            have e50 : r50 = r := by
              rcases pc_byteAt r50 p50 with ⟨q, _⟩ | ⟨_, _, q⟩
              · exfalso; omega
              · rw [q, e]
            subst e50
            refine go _ M1 ?_ ?_ ?_ ?_
            · rw [e1]; exact h.lw (by decide)
            · rw [e1, rd_wj (by decide)]; exact h5
            · rw [e1, rd_wj (by decide)]; exact h4
            · rw [e1, rd_we, hs]
              rw [Int32.sub_eq_add_neg, Int32.sub_eq_add_neg, Int32.add_assoc]
theorem tk_l : ∀ (n m : Nat) (M N : Mem), RT M N → rd M 2 4 = rd N 135 12 → 0 ≤ (rd N 135 12).toInt → (rd N 135 12).toInt ≤ (rd N 135 10).toInt → R2 (mX4_nextToken_l8 2 n M) (mX7_advance_l0 135 m N) (fun a b => TT a.1 b.1) := by
  intro n
  induction n with
  | zero => intro m M N _ _ _ _; exact R2.nl
  | succ n IH =>
    intro m M N h h4 b0 b2
    cases m with
    | zero => exact R2.nr
    | succ m =>
      show R2 (mX4_nextToken_b8 2 (mX4_nextToken_l8 2 n) M) (mX7_advance_b0 135 (mX7_advance_l0 135 m) N) _
      unfold mX4_nextToken_b8 mX7_advance_b0
      rw [h.len, h4]
      -- the token itself
      have tok : ∀ r2, ((rd N 135 10).toInt ≤ (rd N 135 12).toInt ∧ r2 = -1) ∨ ((rd N 135 12).toInt < (rd N 135 10).toInt ∧ 0 ≤ (rd N 135 12).toInt ∧ r2 = rd N 140 (rd N 135 12).toNatClampNeg) → R2 (mX4_nextToken_b47 2 M) (bnd (wr N 135 11 (rd N 135 12)) (fun M11 => cap (mX7_byteAt 135 (rd M11 135 12) M11) (fun r14 => ite2 (r14 = (-1 : Int32)) (bnd (wr M11 135 13 (0 : Int32)) (fun M64 => some (M64, (1 : Int32)))) (cap (mX7_isLetter r14 M11) (fun r18 => ite2 (r18 = 0) (cap (mX7_isDigit r14 M11) (fun r22 => ite2 (r22 = 0) (bnd (wr M11 135 12 ((rd M11 135 12) + (1 : Int32))) (fun M25 => ite2 (r14 = (59 : Int32)) (bnd (wr M25 135 13 (4 : Int32)) (fun M30 => some (M30, (1 : Int32)))) (bnd (wr M25 135 13 (1 : Int32)) (fun M28 => some (M28, (1 : Int32)))))) (bnd (wr M11 135 14 (0 : Int32)) (fun M32 => mX7_advance_l141 135 5000 M32)))) (mX7_advance_l76 135 5000 M11)))))) (fun a b => TT a.1 b.1) := by
        intro r2 p2
        unfold mX4_nextToken_b47
        refine R2.br (fun N1 e1 => R2.bl (fun M4 e4 => R2.bl (fun M6 e6 => R2.cr pc_byteAt (fun r pr => ?_))))
        rw [h4] at e4
        have n12 : rd N1 135 12 = rd N 135 12 := by rw [e1]; exact rd_wj (by decide)
        have n11 : rd N1 135 11 = rd N 135 12 := by rw [e1]; exact rd_we
        have n10 : rd N1 135 10 = rd N 135 10 := by rw [e1]; exact rd_wj (by decide)
        have m5 : rd M6 2 5 = rd N1 135 12 := by rw [e6, rd_wj (by decide), e4, rd_we, n12]
        have m4 : rd M6 2 4 = rd N1 135 11 := by rw [e6, rd_wj (by decide), e4, rd_wj (by decide), n11]; exact h4
        have m7 : rd M6 2 7 = 0 := by rw [e6, rd_we]
        have hR : RT M6 N1 := by rw [e6, e4, e1]; exact (((h.lw (by decide)).lw (by decide)).rw (by decide))
        have k0 : 0 ≤ (rd N1 135 11).toInt := by rw [n11]; exact b0
        have k1 : (rd N1 135 11).toInt ≤ (rd N1 135 12).toInt := by rw [n11, n12]; omega
        have k2 : (rd N1 135 12).toInt ≤ (rd N1 135 10).toInt := by rw [n12, n10]; exact b2
        rw [hR.len, m4]
        have eq : rd N1 135 11 = rd N1 135 12 := n11.trans n12.symm
        rw [eq]
        refine R2.il (fun c => R2.kl (fun _ => R2.kl (fun _ => R2.cl pc_let4 (fun r12 p12 => ?_)))) (fun c => ?_)
        · have c := i_lt.mp c
          rcases pr with ⟨q, _⟩ | ⟨_, e0, er⟩
          · exfalso; omega
          have hB := rt_b hR e0 c
          rw [← er] at hB
          refine R2.ir (fun q => absurd q hB.ne1) (fun _ => R2.cr pc_let7 (fun r18 p18 => ?_))
          refine R2.il (fun c12 => R2.kl (fun _ => R2.kl (fun _ => R2.cl pc_dig4 (fun r18' p18' => ?_)))) (fun c12 => ?_)
          · refine R2.ir (fun c18 => R2.cr pc_dig7 (fun r22 p22 => ?_)) (fun c18 => absurd (p18.mpr (fun q => (p12.mp c12) (hB.let.mpr q))) c18)
            refine R2.il (fun c1 => R2.ir (fun c2 => ?_) (fun c2 => absurd (p22.mpr (fun q => (p18'.mp c1) (hB.dig.mpr q))) c2)) (fun c1 => R2.ir (fun c2 => absurd (p18'.mpr (fun q => (p22.mp c2) (hB.dig.mp q))) c1) (fun c2 => ?_))
            · have t := i_inc e0 (by have := hR.top; omega)
              have fin : ∀ (y : Int32) (N25 : Mem), ¬ y = 3 → N25 = wr N1 135 12 (rd N1 135 12 + 1) → R2 (mX4_nextToken_b143 2 y M6) (bnd (wr N25 135 13 y) (fun M30 => some (M30, (1 : Int32)))) (fun a b => TT a.1 b.1) := by
                intro y N25 hy e25
                unfold mX4_nextToken_b143
                refine R2.bl (fun Ma ea => R2.bl (fun Mb eb => R2.br (fun Nb enb => R2.ok ?_)))
                have a5 : rd Ma 2 5 = rd N1 135 12 := by rw [ea, rd_wj (by decide)]; exact m5
                rw [a5] at eb
                have x12 : rd Nb 135 12 = rd N1 135 12 + 1 := by rw [enb, rd_wj (by decide), e25, rd_we]
                have x11 : rd Nb 135 11 = rd N1 135 12 := by rw [enb, rd_wj (by decide), e25, rd_wj (by decide)]; exact eq
                have x10 : rd Nb 135 10 = rd N1 135 10 := by rw [enb, rd_wj (by decide), e25, rd_wj (by decide)]
                have x13 : rd Nb 135 13 = y := by rw [enb, rd_we]
                refine ⟨?_, ?_, ?_, ?_, ?_, ?_, ?_, ?_, fun _ => ?_⟩
                · show RT Mb Nb
                  rw [eb, ea, enb, e25]; exact ((((hR.lw (by decide)).lw (by decide)).rw (by decide)).rw (by decide))
                · show rd Mb 2 4 = rd Nb 135 11
                  rw [x11, eb, rd_wj (by decide), ea, rd_wj (by decide)]; exact m4.trans eq
                · show rd Mb 2 5 = rd Nb 135 12
                  rw [x12, eb, rd_we]
                · show rd Mb 2 6 = rd Nb 135 13
                  rw [x13, eb, rd_wj (by decide), ea, rd_we]
                · intro q; exact absurd (x13.symm.trans q) hy
                · show 0 ≤ (rd Nb 135 11).toInt
                  rw [x11]; exact e0
                · show (rd Nb 135 11).toInt ≤ (rd Nb 135 12).toInt
                  rw [x11, x12, t]; omega
                · show (rd Nb 135 12).toInt ≤ (rd Nb 135 10).toInt
                  rw [x10, x12, t]; omega
                · show (rd Nb 135 11).toInt < (rd Nb 135 10).toInt
                  rw [x11, x10]; exact c
              refine R2.kl (fun _ => R2.kl (fun _ => R2.br (fun N25 e25 => ?_)))
              have h59 := hB.eq (c := 59) (by decide)
              exact R2.il (fun q1 => R2.ir (fun q2 => fin 4 N25 (by decide) e25) (fun q2 => absurd (h59.mp q1) q2)) (fun q1 => R2.ir (fun q2 => absurd (h59.mpr q2) q1) (fun q2 => fin 1 N25 (by decide) e25))
            · refine R2.br (fun N32 e32 => ?_)
              have hN : R2 (mX4_takeNumber 2 M6) (mX7_advance_l141 135 5000 N32) (fun a b => TT a.1 b.1) := by
                unfold mX4_takeNumber
                refine tn_l 5000 5000 M6 N32 (by rw [e32]; exact hR.rw (by decide)) ?_ ?_ ?_ ?_ ?_ ?_ ?_
                · rw [e32, rd_wj (by decide)]; exact m5
                · rw [e32, rd_wj (by decide)]; exact m4
                · rw [e32, rd_we]; exact m7
                · rw [e32, rd_wj (by decide)]; exact k0
                · rw [e32, rd_wj (by decide), rd_wj (by decide)]; exact k1
                · rw [e32, rd_wj (by decide), rd_wj (by decide)]; exact k2
                · rw [e32, rd_wj (by decide), rd_wj (by decide), eq]; exact c
              intro a b ha hb
              obtain ⟨M30, u, ha1, ha2⟩ := cal_s ha
              cases ha2
              exact hN _ _ ha1 hb
          · refine R2.ir (fun c18 => absurd (p12.mpr (fun q => (p18.mp c18) (hB.let.mp q))) c12) (fun c18 => ?_)
            intro a b ha hb
            obtain ⟨M33, u, ha1, ha2⟩ := cal_s ha
            cases ha2
            unfold mX4_takeWord at ha1
            exact tw_l 5000 5000 M6 N1 hR m5 m4 k0 k1 k2 (by rw [eq]; exact c) _ _ ha1 hb
        · have c := i_nlt c
          rcases pr with ⟨_, er⟩ | ⟨q, _⟩
          · refine R2.ir (fun _ => R2.bl (fun Ma ea => R2.br (fun Nb enb => R2.ok ?_))) (fun q => absurd er q)
            subst ea; subst enb
            refine ⟨(hR.lw (by decide)).rw (by decide), ?_, ?_, ?_, ?_, ?_, ?_, ?_, fun q => absurd rd_we q⟩
            · show rd (wr M6 2 6 0) 2 4 = rd (wr N1 135 13 0) 135 11
              rw [rd_wj (by decide), rd_wj (by decide)]; exact m4
            · show rd (wr M6 2 6 0) 2 5 = rd (wr N1 135 13 0) 135 12
              rw [rd_wj (by decide), rd_wj (by decide)]; exact m5
            · show rd (wr M6 2 6 0) 2 6 = rd (wr N1 135 13 0) 135 13
              rw [rd_we, rd_we]
            · intro q; exact absurd (rd_we.symm.trans q) (by decide)
            · show 0 ≤ (rd (wr N1 135 13 0) 135 11).toInt
              rw [rd_wj (by decide)]; exact k0
            · show (rd (wr N1 135 13 0) 135 11).toInt ≤ (rd (wr N1 135 13 0) 135 12).toInt
              rw [rd_wj (by decide), rd_wj (by decide)]; exact k1
            · show (rd (wr N1 135 13 0) 135 12).toInt ≤ (rd (wr N1 135 13 0) 135 10).toInt
              rw [rd_wj (by decide), rd_wj (by decide)]; exact k2
          · exfalso; omega
      refine R2.cr pc_byteAt (fun r2 p2 => ?_)
      refine R2.il (fun c => ?_) (fun c => R2.kl (fun _ => R2.kl (fun _ => R2.cl pc_spc4 (fun r3 p3 => ?_))))
      · have c := i_le.mp c
        have e2 : r2 = -1 := by
          rcases p2 with ⟨_, e⟩ | ⟨q, _⟩
          · exact e
          · exfalso; omega
        refine R2.ir (fun q => absurd (e2.symm.trans q) (by decide)) (fun _ => R2.cr pc_byteAt (fun r8 p8 => R2.ir (fun q => ?_) (fun _ => tok r2 p2)))
        rcases p8 with ⟨_, e⟩ | ⟨q8, _⟩
        · exact absurd (e.symm.trans q) (by decide)
        · exfalso; omega
      · have c := i_nle c
        rcases p2 with ⟨q, _⟩ | ⟨_, e0, e2⟩
        · exfalso; omega
        have hB := rt_b h e0 c
        have h32 := hB.eq (c := 32) (by decide)
        have h10 := hB.eq (c := 10) (by decide)
        have t := i_inc e0 (by have := h.top; omega)
        have go : R2 (bnd (wr M 2 4 (rd N 135 12 + 1)) (fun M42 => mX4_nextToken_l8 2 n M42)) (mX7_advance_b26 135 (mX7_advance_l0 135 m) N) (fun a b => TT a.1 b.1) := by
          unfold mX7_advance_b26
          refine R2.bl (fun Ma ea => R2.br (fun Nb enb => ?_))
          have x12 : rd Nb 135 12 = rd N 135 12 + 1 := by rw [enb, rd_we]
          have x10 : rd Nb 135 10 = rd N 135 10 := by rw [enb, rd_wj (by decide)]
          refine IH m Ma Nb (by rw [ea, enb]; exact (h.lw (by decide)).rw (by decide)) ?_ ?_ ?_
          · rw [x12, ea, rd_we]
          · rw [x12, t]; omega
          · rw [x12, x10, t]; omega
        rw [← e2] at h32 h10
        refine R2.il (fun c3 => ?_) (fun c3 => ?_)
        · have ns := p3.mp c3
          refine R2.ir (fun q => absurd (Or.inl (h32.mpr q)) ns) (fun _ => R2.cr pc_byteAt (fun r8 p8 => ?_))
          have e8 : r8 = r2 := by
            rcases p8 with ⟨q8, _⟩ | ⟨_, _, q8⟩
            · exfalso; omega
            · rw [q8, e2]
          subst e8
          exact R2.ir (fun q => absurd (Or.inr (h10.mpr q)) ns) (fun _ => tok r8 (Or.inr ⟨c, e0, e2⟩))
        · refine R2.ir (fun _ => go) (fun q32 => R2.cr pc_byteAt (fun r8 p8 => ?_))
          have e8 : r8 = r2 := by
            rcases p8 with ⟨q8, _⟩ | ⟨_, _, q8⟩
            · exfalso; omega
            · rw [q8, e2]
          subst e8
          refine R2.ir (fun _ => go) (fun q10 => absurd (p3.mpr (fun q => ?_)) c3)
          rcases q with q | q
          · exact q32 (h32.mp q)
          · exact q10 (h10.mp q)
/-- both read the next token -/
theorem tk_next (h : RT M N) (h5 : rd M 2 5 = rd N 135 12) (b0 : 0 ≤ (rd N 135 12).toInt) (b2 : (rd N 135 12).toInt ≤ (rd N 135 10).toInt) : R2 (mX4_nextToken 2 M) (mX7_advance 135 N) (fun a b => TT a.1 b.1) := by
  unfold mX4_nextToken mX7_advance
  refine R2.bl (fun Ma ea => ?_)
  rw [h5] at ea
  exact tk_l 5000 5000 Ma N (by rw [ea]; exact h.lw (by decide)) (by rw [ea, rd_we]) b0 b2
end TK
end
/-! part 60c.word -/
section
/-! words: spelled alike -/
abbrev stC (k j : Nat) : Int32 := (stB k).getD j 0
theorem st_char : ∀ k, k < 11 → ∀ j, j < 8 → j < stLen k → mJ0_charAt_5068e k (Int32.ofNat j) m0 = some (stC k j) := by decide +kernel
theorem st_low : ∀ k, k < 11 → ∀ j, j < 8 → j < stLen k → 0 ≤ (stC k j).toInt ∧ (stC k j).toInt ≤ 127 := by decide +kernel
theorem spc_one : ∀ k, k < 11 → ∀ k', k' < 11 → k ≠ k' → stLen k = stLen k' → ∃ j, j < 8 ∧ j < stLen k ∧ stC k j ≠ stC k' j := by decide +kernel
/-- the word read last is the k-th -/
def SpC (N : Mem) (k j : Nat) : Prop := rd N 140 ((rd N 135 11).toInt.toNat + j) = stC k j
def Sp (N : Mem) (k : Nat) : Prop := (rd N 135 12).toInt - (rd N 135 11).toInt = (stLen k : Int) ∧ ∀ j, j < stLen k → SpC N k j
section WD
variable {M N : Mem} {k k' : Nat}
theorem Sp.one (h : Sp N k) (h' : Sp N k') (hk : k < 11) (hk' : k' < 11) : k = k' := by
  apply Decidable.byContradiction
  intro q
  have e : stLen k = stLen k' := by have := h.1; have := h'.1; omega
  obtain ⟨j, _, hj, hn⟩ := spc_one k hk k' hk' q e
  exact hn ((h.2 j hj).symm.trans (h'.2 j (by omega)))
theorem pc_char {j : Nat} (hk : k < 11) (hj : j < stLen k) : mJ0_charAt_5068e k (Int32.ofNat j) N = some (stC k j) :=
  st_char k hk j (by have := (st_len k (by omega)).2.2; omega) hj
theorem isw_l (hk : k < 11) (h : TT M N) : ∀ (fuel i : Nat), i ≤ stLen k → (∀ j, j < i → SpC N k j) → Pc (mX7_isWord_l28 135 k N fuel (Int32.ofNat i)) (fun r => (r = 1 ∧ ∀ j, j < stLen k → SpC N k j) ∨ (r = 0 ∧ ¬ ∀ j, j < stLen k → SpC N k j)) := by
  intro fuel
  induction fuel with
  | zero => intro i _ _; exact Pc.n
  | succ fuel IH =>
    intro i hi hs
    show Pc (mX7_isWord_b28 135 k N (mX7_isWord_l28 135 k N fuel) (Int32.ofNat i)) _
    unfold mX7_isWord_b28
    rw [sJ0_length (by omega)]
    have h8 := (st_len k (by omega)).2.2
    have tl : (Int32.ofNat (stLen k)).toInt = (stLen k : Int) := toInt_of rfl (by omega)
    have ti : (Int32.ofNat i).toInt = (i : Int) := t_of (by omega)
    refine Pc.c (Pc.self _) (fun r er => ?_)
    cases er
    refine Pc.i (fun c => ?_) (fun c => ?_)
    · have c := i_le.mp c
      rw [ti, tl] at c
      exact Pc.ok (Or.inl ⟨rfl, fun j hj => hs j (by omega)⟩)
    · have c := i_nle c
      rw [ti, tl] at c
      have t0 := h.b0; have t1 := h.b1; have t2 := h.b2; have t3 := h.rt.top
      have ea := i_add (a := rd N 135 11) (b := Int32.ofNat i) (by omega) (by omega)
      rw [pc_char hk (by omega)]
      refine Pc.k (fun _ => Pc.c (Pc.self _) (fun r er => ?_))
      cases er
      have ei : (rd N 135 11 + Int32.ofNat i).toNatClampNeg = (rd N 135 11).toInt.toNat + i := by rw [i_clamp]; omega
      rw [ei]
      refine Pc.i (fun c2 => Pc.b (fun y ey => ?_)) (fun c2 => Pc.ok (Or.inr ⟨rfl, fun q => c2 (q i (by omega))⟩))
      have ey : y = Int32.ofNat (i + 1) := ey.trans (Int32.ofNat_add i 1).symm
      rw [ey]
      refine IH (i + 1) (by omega) (fun j hj => ?_)
      by_cases e : j = i
      · rw [e]; exact c2
      · exact hs j (by omega)
theorem pc_isWord (hk : k < 11) (h : TT M N) : Pc (mX7_isWord 135 k N) (fun r => (r = 1 ∧ rd N 135 13 = 2 ∧ Sp N k) ∨ (r = 0 ∧ ¬ (rd N 135 13 = 2 ∧ Sp N k))) := by
  unfold mX7_isWord
  rw [sJ0_length (by omega)]
  have h8 := (st_len k (by omega)).2.2
  have tl : (Int32.ofNat (stLen k)).toInt = (stLen k : Int) := toInt_of rfl (by omega)
  have t0 := h.b0; have t1 := h.b1; have t2 := h.b2; have t3 := h.rt.top
  have es := i_sub (a := rd N 135 12) (b := rd N 135 11) (by omega) (by omega)
  refine Pc.i (fun c => Pc.c (Pc.self _) (fun r er => ?_)) (fun c => Pc.ok (Or.inr ⟨rfl, fun q => c q.1⟩))
  cases er
  refine Pc.i (fun c2 => ?_) (fun c2 => Pc.ok (Or.inr ⟨rfl, fun q => c2 ?_⟩))
  · have c2 := congrArg Int32.toInt c2
    rw [es, tl] at c2
    refine Pc.mono (isw_l hk h 5000 0 (by omega) (fun j hj => by omega)) (fun r p => ?_)
    rcases p with ⟨e, p⟩ | ⟨e, p⟩
    · exact Or.inl ⟨e, c, c2, p⟩
    · exact Or.inr ⟨e, fun q => p q.2.2⟩
  · rw [i_eq, es, tl]; exact q.2.1
theorem spe_l (hk : k < 11) (h : TT M N) (hl : (rd N 135 12).toInt - (rd N 135 11).toInt = (stLen k : Int)) {x3 : Int32} (h3 : x3.toInt = (stLen k : Int)) : ∀ (fuel i : Nat), i ≤ stLen k → (∀ j, j < i → SpC N k j) → Pc (mX5_isSpelled_l28 k 1 M fuel (rd N 135 11) x3 (Int32.ofNat i)) (fun r => (r = 1 ∧ ∀ j, j < stLen k → SpC N k j) ∨ (r = 0 ∧ ¬ ∀ j, j < stLen k → SpC N k j)) := by
  intro fuel
  induction fuel with
  | zero => intro i _ _; exact Pc.n
  | succ fuel IH =>
    intro i hi hs
    show Pc (mX5_isSpelled_b28 k 1 M (mX5_isSpelled_l28 k 1 M fuel) (rd N 135 11) x3 (Int32.ofNat i)) _
    unfold mX5_isSpelled_b28
    have h8 := (st_len k (by omega)).2.2
    have ti : (Int32.ofNat i).toInt = (i : Int) := t_of (by omega)
    refine Pc.i (fun c => ?_) (fun c => ?_)
    · have c := i_le.mp c
      rw [ti, h3] at c
      exact Pc.ok (Or.inl ⟨rfl, fun j hj => hs j (by omega)⟩)
    · have c := i_nle c
      rw [ti, h3] at c
      have t0 := h.b0; have t1 := h.b1; have t2 := h.b2; have t3 := h.rt.top
      have ea := i_add (a := rd N 135 11) (b := Int32.ofNat i) (by omega) (by omega)
      rw [pc_char hk (by omega)]
      refine Pc.k (fun _ => Pc.c (Pc.self _) (fun r er => ?_))
      cases er
      have ei : (rd N 135 11 + Int32.ofNat i).toNatClampNeg = (rd N 135 11).toInt.toNat + i := by rw [i_clamp]; omega
      rw [ei]
      have hB := (h.rt.byt ((rd N 135 11).toInt.toNat + i) (by omega)).eq (st_low k hk i (by omega) (by omega))
      refine Pc.i (fun c2 => Pc.b (fun y ey => ?_)) (fun c2 => Pc.ok (Or.inr ⟨rfl, fun q => c2 (hB.mpr (q i (by omega)))⟩))
      have ey : y = Int32.ofNat (i + 1) := ey.trans (Int32.ofNat_add i 1).symm
      rw [ey]
      refine IH (i + 1) (by omega) (fun j hj => ?_)
      by_cases e : j = i
      · rw [e]; exact hB.mp c2
      · exact hs j (by omega)
theorem pc_isSpelled (hk : k < 11) (h : TT M N) : Pc (mX5_isSpelled k 1 (rd N 135 11) (rd N 135 12 - rd N 135 11) M) (fun r => (r = 1 ∧ Sp N k) ∨ (r = 0 ∧ ¬ Sp N k)) := by
  unfold mX5_isSpelled
  rw [sJ0_length (by omega)]
  have h8 := (st_len k (by omega)).2.2
  have tl : (Int32.ofNat (stLen k)).toInt = (stLen k : Int) := toInt_of rfl (by omega)
  have t0 := h.b0; have t1 := h.b1; have t2 := h.b2; have t3 := h.rt.top
  have es := i_sub (a := rd N 135 12) (b := rd N 135 11) (by omega) (by omega)
  refine Pc.c (Pc.self _) (fun r er => ?_)
  cases er
  refine Pc.i (fun c2 => ?_) (fun c2 => Pc.ok (Or.inr ⟨rfl, fun q => c2 ?_⟩))
  · have c2 := congrArg Int32.toInt c2
    rw [es, tl] at c2
    have ea := i_add (a := rd N 135 11) (b := rd N 135 12 - rd N 135 11) (by omega) (by omega)
    refine Pc.i (fun q => ?_) (fun _ => Pc.i (fun _ => ?_) (fun q => ?_))
    · have q := i_lt.mp q
      rw [show ((0 : Int32)).toInt = 0 from rfl] at q; exfalso; omega
    · refine Pc.mono (spe_l hk h c2 (es.trans c2) 5000 0 (by omega) (fun j hj => by omega)) (fun r p => ?_)
      rcases p with ⟨e, p⟩ | ⟨e, p⟩
      · exact Or.inl ⟨e, c2, p⟩
      · exact Or.inr ⟨e, fun q => p q.2⟩
    · have q := i_nle q
      rw [show ((600 : Int32)).toInt = 600 from rfl] at q; exfalso; omega
  · rw [i_eq, es, tl]; exact q.1
theorem find_l (h : TT M N) : ∀ (fuel i : Nat), i ≤ 11 → (∀ j, j < i → ¬ Sp N j) → Pc (mX5_find_l2 1 M fuel (rd N 135 11) (rd N 135 12 - rd N 135 11) (Int32.ofNat i)) (fun r => (r = none ∧ ∀ j, j < 11 → ¬ Sp N j) ∨ (∃ w, r = some w ∧ w < 11 ∧ Sp N w)) := by
  intro fuel
  induction fuel with
  | zero => intro i _ _; exact Pc.n
  | succ fuel IH =>
    intro i hi hs
    show Pc (mX5_find_b2 1 M (mX5_find_l2 1 M fuel) _ _ (Int32.ofNat i)) _
    unfold mX5_find_b2
    have ti : (Int32.ofNat i).toInt = (i : Int) := t_of (by omega)
    have n11 : ((11 : Int32)).toInt = 11 := rfl
    refine Pc.i (fun c => ?_) (fun c => Pc.k (fun _ => ?_))
    · have c := i_le.mp c
      rw [ti, n11] at c
      exact Pc.ok (Or.inl ⟨rfl, fun j hj => hs j (by omega)⟩)
    · have c := i_nle c
      rw [ti, n11] at c
      have ei : (Int32.ofNat i).toNatClampNeg = i := by rw [i_clamp]; omega
      rw [ei]
      refine Pc.c (pc_isSpelled (by omega) h) (fun r p => Pc.i (fun q => Pc.b (fun y ey => ?_)) (fun q => Pc.k (fun _ => Pc.ok (Or.inr ⟨i, rfl, by omega, ?_⟩))))
      · have ey : y = Int32.ofNat (i + 1) := ey.trans (Int32.ofNat_add i 1).symm
        rw [ey]
        refine IH (i + 1) (by omega) (fun j hj => ?_)
        by_cases e : j = i
        · rw [e]
          rcases p with ⟨p, _⟩ | ⟨_, p⟩
          · rw [q] at p; exact absurd p (by decide)
          · exact p
        · exact hs j (by omega)
      · rcases p with ⟨_, p⟩ | ⟨p, _⟩
        · exact p
        · exact absurd p q
theorem pc_find (h : TT M N) : Pc (mX5_find 1 (rd N 135 11) (rd N 135 12 - rd N 135 11) M) (fun r => (r = none ∧ ∀ j, j < 11 → ¬ Sp N j) ∨ (∃ w, r = some w ∧ w < 11 ∧ Sp N w)) := by
  unfold mX5_find
  exact find_l h 5000 0 (by omega) (fun j hj => by omega)
end WD
end
/-! part 60d.part -/
section
/-! a part of the class and a row of the reference -/
theorem cal_cap {ρ σ β : Type} {x : Option ρ} {k : ρ → Option (Mem × σ)} {k' : Mem → σ → Option β} : cal (cap x k) k' = cap x (fun r => cal (k r) k') := by cases x <;> rfl
theorem cal_ite {σ β : Type} {c : Prop} [Decidable c] {a b : Option (Mem × σ)} {k' : Mem → σ → Option β} : cal (ite2 c a b) k' = ite2 c (cal a k') (cal b k') := by unfold ite2; split <;> rfl
theorem cal_bnd {γ σ β : Type} {e : γ} {k : γ → Option (Mem × σ)} {k' : Mem → σ → Option β} : cal (bnd e k) k' = bnd e (fun v => cal (k v) k') := rfl
theorem cal_chk {σ β : Type} {b : Bool} {x : Option (Mem × σ)} {k' : Mem → σ → Option β} : cal (chk b x) k' = chk b (cal x k') := by cases b <;> rfl
theorem cal_cal {ρ σ β : Type} {x : Option (Mem × ρ)} {k : Mem → ρ → Option (Mem × σ)} {k' : Mem → σ → Option β} : cal (cal x k) k' = cal x (fun M r => cal (k M r) k') := by cases x <;> rfl
theorem cal_some {σ β : Type} {M : Mem} {r : σ} {k' : Mem → σ → Option β} : cal (some (M, r)) k' = k' M r := rfl
abbrev row (c : Nat) (N : Mem) : Nat → Int32 := fun j => rd N c j
def upf (f : Nat → Int32) (j : Nat) (v : Int32) : Nat → Int32 := fun i => if i = j then v else f i
theorem upf_e {f : Nat → Int32} {j : Nat} {v : Int32} : upf f j v j = v := if_pos rfl
theorem upf_n {f : Nat → Int32} {i j : Nat} {v : Int32} (h : i ≠ j) : upf f j v i = f i := if_neg h
theorem row_wr {c j : Nat} {N : Mem} {v : Int32} : row c (wr N c j v) = upf (row c N) j v := by
  funext i
  unfold upf
  by_cases e : i = j
  · rw [if_pos e, e]; exact rd_we
  · rw [if_neg e]; exact rd_wj e
theorem row_wn {c k j : Nat} {N : Mem} {v : Int32} (h : c ≠ k) : row c (wr N k j v) = row c N := by
  funext i; exact rd_wk h
theorem row_ks {c : Nat} {S : Nat → Nat → Prop} {N N' : Mem} (h : KS S N N') (hs : ∀ j, ¬ S c j) : row c N' = row c N := by
  funext i; exact h c i (hs i)
def PR (k : Nat) (M : Mem) (f : Nat → Int32)  : Prop := (rd M k 0 = f 1) ∧ (0 ≤ (f 1).toInt ∧ (f 1).toInt ≤ 9) ∧ ((f 0).toInt = if (f 1).toInt = 0 then 0 else (f 1).toInt - 1) ∧ (∀ j : Nat, (j : Int) < (f 1).toInt → rd M (k + 1) j = f (2 + j)) ∧ (0 ≤ (rd M k 2).toInt ∧ (rd M k 2).toInt ≤ 255) ∧ (∀ b : Nat, (b : Int) < (f 0).toInt → (f (11 + b) = if (rd M k 2).toInt.toNat.testBit b then 1 else 0)) ∧ ((rd M k 2).toInt.toNat < 2 ^ (f 0).toInt.toNat) ∧ (rd M k 3 = f 36 ∧ rd M k 4 = f 37 ∧ rd M k 5 = f 38) ∧ (f 48 = 0) ∧ (∀ j : Nat, j < 10 → rd M (k + 2) j = f (39 + j)) ∧ (rd M k 7 = f 49 ∧ rd M k 8 = f 50 ∧ rd M k 9 = f 51) ∧ (rd M k 10 = f 19) ∧ (0 ≤ (f 19).toInt ∧ (f 19).toInt ≤ 8) ∧ (∀ j : Nat, (j : Int) < (f 19).toInt → rd M (k + 3) j = f (20 + 2 * j) ∧ rd M (k + 4) j = f (21 + 2 * j)) ∧ (∀ j : Nat, (j : Int) < (f 19).toInt → (0 ≤ (f (20 + 2 * j)).toInt ∧ (f (20 + 2 * j)).toInt ≤ 999) ∧ ((j : Int) + 1 < (f 19).toInt → (f (20 + 2 * j)).toInt < (f (22 + 2 * j)).toInt)) ∧ (rd M k 13 = f 52) ∧ (rd M k 14 = f 53) ∧ (0 ≤ (f 53).toInt ∧ (f 53).toInt ≤ 8) ∧ (∀ j : Nat, (j : Int) < (f 53).toInt → (rd M (k + 5) j).toInt = 2 * (f (54 + 4 * j)).toInt + (f (55 + 4 * j)).toInt ∧ rd M (k + 6) j = f (56 + 4 * j) ∧ rd M (k + 7) j = f (57 + 4 * j))
theorem PR.lc {k : Nat} {M : Mem} {f : Nat → Int32}  (h : PR k M f) : rd M k 0 = f 1 := h.1
theorem PR.lb {k : Nat} {M : Mem} {f : Nat → Int32}  (h : PR k M f) : 0 ≤ (f 1).toInt ∧ (f 1).toInt ≤ 9 := h.2.1
theorem PR.nn {k : Nat} {M : Mem} {f : Nat → Int32}  (h : PR k M f) : (f 0).toInt = if (f 1).toInt = 0 then 0 else (f 1).toInt - 1 := h.2.2.1
theorem PR.leg {k : Nat} {M : Mem} {f : Nat → Int32}  (h : PR k M f) : ∀ j : Nat, (j : Int) < (f 1).toInt → rd M (k + 1) j = f (2 + j) := h.2.2.2.1
theorem PR.ub {k : Nat} {M : Mem} {f : Nat → Int32}  (h : PR k M f) : 0 ≤ (rd M k 2).toInt ∧ (rd M k 2).toInt ≤ 255 := h.2.2.2.2.1
theorem PR.up {k : Nat} {M : Mem} {f : Nat → Int32}  (h : PR k M f) : ∀ b : Nat, (b : Int) < (f 0).toInt → (f (11 + b) = if (rd M k 2).toInt.toNat.testBit b then 1 else 0) := h.2.2.2.2.2.1
theorem PR.uz {k : Nat} {M : Mem} {f : Nat → Int32}  (h : PR k M f) : (rd M k 2).toInt.toNat < 2 ^ (f 0).toInt.toNat := h.2.2.2.2.2.2.1
theorem PR.sh {k : Nat} {M : Mem} {f : Nat → Int32}  (h : PR k M f) : rd M k 3 = f 36 ∧ rd M k 4 = f 37 ∧ rd M k 5 = f 38 := h.2.2.2.2.2.2.2.1
theorem PR.fl {k : Nat} {M : Mem} {f : Nat → Int32}  (h : PR k M f) : f 48 = 0 := h.2.2.2.2.2.2.2.2.1
theorem PR.tl {k : Nat} {M : Mem} {f : Nat → Int32}  (h : PR k M f) : ∀ j : Nat, j < 10 → rd M (k + 2) j = f (39 + j) := h.2.2.2.2.2.2.2.2.2.1
theorem PR.co {k : Nat} {M : Mem} {f : Nat → Int32}  (h : PR k M f) : rd M k 7 = f 49 ∧ rd M k 8 = f 50 ∧ rd M k 9 = f 51 := h.2.2.2.2.2.2.2.2.2.2.1
theorem PR.nb {k : Nat} {M : Mem} {f : Nat → Int32}  (h : PR k M f) : rd M k 10 = f 19 := h.2.2.2.2.2.2.2.2.2.2.2.1
theorem PR.bb {k : Nat} {M : Mem} {f : Nat → Int32}  (h : PR k M f) : 0 ≤ (f 19).toInt ∧ (f 19).toInt ≤ 8 := h.2.2.2.2.2.2.2.2.2.2.2.2.1
theorem PR.ba {k : Nat} {M : Mem} {f : Nat → Int32}  (h : PR k M f) : ∀ j : Nat, (j : Int) < (f 19).toInt → rd M (k + 3) j = f (20 + 2 * j) ∧ rd M (k + 4) j = f (21 + 2 * j) := h.2.2.2.2.2.2.2.2.2.2.2.2.2.1
theorem PR.bw {k : Nat} {M : Mem} {f : Nat → Int32}  (h : PR k M f) : ∀ j : Nat, (j : Int) < (f 19).toInt → (0 ≤ (f (20 + 2 * j)).toInt ∧ (f (20 + 2 * j)).toInt ≤ 999) ∧ ((j : Int) + 1 < (f 19).toInt → (f (20 + 2 * j)).toInt < (f (22 + 2 * j)).toInt) := h.2.2.2.2.2.2.2.2.2.2.2.2.2.2.1
theorem PR.bv {k : Nat} {M : Mem} {f : Nat → Int32}  (h : PR k M f) : ∀ j : Nat, (j : Int) < (f 19).toInt → 0 ≤ (f (20 + 2 * j)).toInt ∧ (f (20 + 2 * j)).toInt ≤ 999 := fun j hj => (h.bw j hj).1
/-- the ratios rise -/
theorem PR.bo {k : Nat} {M : Mem} {f : Nat → Int32}  (h : PR k M f) : ∀ j : Nat, (j : Int) + 1 < (f 19).toInt → (f (20 + 2 * j)).toInt < (f (22 + 2 * j)).toInt := fun j hj => (h.bw j (by omega)).2 hj
theorem PR.ma {k : Nat} {M : Mem} {f : Nat → Int32}  (h : PR k M f) : rd M k 13 = f 52 := h.2.2.2.2.2.2.2.2.2.2.2.2.2.2.2.1
theorem PR.ns {k : Nat} {M : Mem} {f : Nat → Int32}  (h : PR k M f) : rd M k 14 = f 53 := h.2.2.2.2.2.2.2.2.2.2.2.2.2.2.2.2.1
theorem PR.sb {k : Nat} {M : Mem} {f : Nat → Int32}  (h : PR k M f) : 0 ≤ (f 53).toInt ∧ (f 53).toInt ≤ 8 := h.2.2.2.2.2.2.2.2.2.2.2.2.2.2.2.2.2.1
theorem PR.st {k : Nat} {M : Mem} {f : Nat → Int32}  (h : PR k M f) : ∀ j : Nat, (j : Int) < (f 53).toInt → (rd M (k + 5) j).toInt = 2 * (f (54 + 4 * j)).toInt + (f (55 + 4 * j)).toInt ∧ rd M (k + 6) j = f (56 + 4 * j) ∧ rd M (k + 7) j = f (57 + 4 * j) := h.2.2.2.2.2.2.2.2.2.2.2.2.2.2.2.2.2.2
section PRS
variable {k : Nat} {M M' : Mem} {f g : Nat → Int32}
theorem PR.mem (h : PR k M f) (e : ∀ c j, k ≤ c → c < k + 8 → rd M' c j = rd M c j) : PR k M' f := by
  have e0 : ∀ j, rd M' k j = rd M k j := fun j => e k j (by omega) (by omega)
  refine ⟨?_, h.lb, h.nn, fun j hj => ?_, ?_, fun b hb => ?_, ?_, ?_, h.fl, fun j hj => ?_, ?_, ?_, h.bb, fun j hj => ?_, h.bw, ?_, ?_, h.sb, fun j hj => ?_⟩
  · rw [e0]; exact h.lc
  · rw [e _ _ (by omega) (by omega)]; exact h.leg j hj
  · rw [e0]; exact h.ub
  · rw [e0]; exact h.up b hb
  · rw [e0]; exact h.uz
  · rw [e0, e0, e0]; exact h.sh
  · rw [e _ _ (by omega) (by omega)]; exact h.tl j hj
  · rw [e0, e0, e0]; exact h.co
  · rw [e0]; exact h.nb
  · rw [e _ _ (by omega) (by omega), e _ _ (by omega) (by omega)]; exact h.ba j hj
  · rw [e0]; exact h.ma
  · rw [e0]; exact h.ns
  · rw [e _ _ (by omega) (by omega), e _ _ (by omega) (by omega), e _ _ (by omega) (by omega)]; exact h.st j hj
theorem PR.ks {S : Nat → Nat → Prop} (h : PR k M f) (hk : KS S M M') (hs : ∀ c j, k ≤ c → c < k + 8 → ¬ S c j) : PR k M' f := h.mem (fun c j h1 h2 => hk c j (hs c j h1 h2))
/-- the words' order of bends: how many there are -/
theorem PR.n8 (h : PR k M f) : 0 ≤ (f 0).toInt ∧ (f 0).toInt ≤ 8 := by
  have h1 := h.lb; have h2 := h.nn
  split at h2 <;> omega
theorem PR.sheet {a b c : Int32} (h : PR k M f) : PR k (wr (wr (wr M k 3 a) k 4 b) k 5 c) (upf (upf (upf f 36 a) 37 b) 38 c) := by
  have e : ∀ j, j ≠ 3 → j ≠ 4 → j ≠ 5 → rd (wr (wr (wr M k 3 a) k 4 b) k 5 c) k j = rd M k j := fun j h3 h4 h5 => by (repeat (first | rw [rd_we] | rw [rd_wk (by omega)] | rw [rd_wj (by omega)]))
  have e2 : ∀ c' j, c' ≠ k → rd (wr (wr (wr M k 3 a) k 4 b) k 5 c) c' j = rd M c' j := fun c' j h => by (repeat (first | rw [rd_we] | rw [rd_wk (by omega)] | rw [rd_wj (by omega)]))
  have g : ∀ j, j < 36 ∨ 39 ≤ j → upf (upf (upf f 36 a) 37 b) 38 c j = f j := fun j h => by (repeat (first | rw [upf_e] | rw [upf_n (by omega)]))
  refine ⟨?_, ?_, ?_, fun j hj => ?_, ?_, fun b hb => ?_, ?_, ?_, ?_, fun j hj => ?_, ?_, ?_, ?_, fun j hj => ?_, fun j hj => ?_, ?_, ?_, ?_, fun j hj => ?_⟩
  · rw [e 0 (by decide) (by decide) (by decide), g 1 (by omega)]; exact h.lc
  · rw [g 1 (by omega)]; exact h.lb
  · rw [g 1 (by omega), g 0 (by omega)]; exact h.nn
  · rw [g 1 (by omega)] at hj
    have := h.lb
    rw [e2 _ _ (by omega), g _ (by omega)]; exact h.leg j hj
  · rw [e 2 (by decide) (by decide) (by decide)]; exact h.ub
  · rw [g 0 (by omega)] at hb
    have := h.n8
    rw [e 2 (by decide) (by decide) (by decide), g _ (by omega)]; exact h.up _ hb
  · rw [e 2 (by decide) (by decide) (by decide), g 0 (by omega)]; exact h.uz
  · refine ⟨?_, ?_, ?_⟩ <;> ((repeat (first | rw [rd_we] | rw [rd_wk (by omega)] | rw [rd_wj (by omega)])); (repeat (first | rw [upf_e] | rw [upf_n (by omega)])))
  · rw [g 48 (by omega)]; exact h.fl
  · rw [e2 _ _ (by omega), g _ (by omega)]; exact h.tl j hj
  · rw [e 7 (by decide) (by decide) (by decide), e 8 (by decide) (by decide) (by decide), e 9 (by decide) (by decide) (by decide), g 49 (by omega), g 50 (by omega), g 51 (by omega)]; exact h.co
  · rw [e 10 (by decide) (by decide) (by decide), g 19 (by omega)]; exact h.nb
  · rw [g 19 (by omega)]; exact h.bb
  · rw [g 19 (by omega)] at hj
    have := h.bb
    rw [e2 _ _ (by omega), e2 _ _ (by omega), g _ (by omega), g _ (by omega)]; exact h.ba j hj
  · rw [g 19 (by omega)] at hj
    have := h.bb
    refine ⟨by rw [g _ (by omega)]; exact h.bv j hj, fun hj2 => ?_⟩
    rw [g 19 (by omega)] at hj2
    rw [g _ (by omega), g _ (by omega)]; exact h.bo j hj2
  · rw [e 13 (by decide) (by decide) (by decide), g 52 (by omega)]; exact h.ma
  · rw [e 14 (by decide) (by decide) (by decide), g 53 (by omega)]; exact h.ns
  · rw [g 53 (by omega)]; exact h.sb
  · rw [g 53 (by omega)] at hj
    rw [e2 _ _ (by omega), e2 _ _ (by omega), e2 _ _ (by omega), g _ (by omega), g _ (by omega), g _ (by omega), g _ (by omega)]; exact h.st j hj
theorem PR.costs {a b c : Int32} (h : PR k M f) : PR k (wr (wr (wr M k 7 a) k 8 b) k 9 c) (upf (upf (upf f 49 a) 50 b) 51 c) := by
  have e : ∀ j, j ≠ 7 → j ≠ 8 → j ≠ 9 → rd (wr (wr (wr M k 7 a) k 8 b) k 9 c) k j = rd M k j := fun j h3 h4 h5 => by (repeat (first | rw [rd_we] | rw [rd_wk (by omega)] | rw [rd_wj (by omega)]))
  have e2 : ∀ c' j, c' ≠ k → rd (wr (wr (wr M k 7 a) k 8 b) k 9 c) c' j = rd M c' j := fun c' j h => by (repeat (first | rw [rd_we] | rw [rd_wk (by omega)] | rw [rd_wj (by omega)]))
  have g : ∀ j, j < 49 ∨ 52 ≤ j → upf (upf (upf f 49 a) 50 b) 51 c j = f j := fun j h => by (repeat (first | rw [upf_e] | rw [upf_n (by omega)]))
  refine ⟨?_, ?_, ?_, fun j hj => ?_, ?_, fun b hb => ?_, ?_, ?_, ?_, fun j hj => ?_, ?_, ?_, ?_, fun j hj => ?_, fun j hj => ?_, ?_, ?_, ?_, fun j hj => ?_⟩
  · rw [e 0 (by decide) (by decide) (by decide), g 1 (by omega)]; exact h.lc
  · rw [g 1 (by omega)]; exact h.lb
  · rw [g 1 (by omega), g 0 (by omega)]; exact h.nn
  · rw [g 1 (by omega)] at hj
    have := h.lb
    rw [e2 _ _ (by omega), g _ (by omega)]; exact h.leg j hj
  · rw [e 2 (by decide) (by decide) (by decide)]; exact h.ub
  · rw [g 0 (by omega)] at hb
    have := h.n8
    rw [e 2 (by decide) (by decide) (by decide), g _ (by omega)]; exact h.up _ hb
  · rw [e 2 (by decide) (by decide) (by decide), g 0 (by omega)]; exact h.uz
  · rw [e 3 (by decide) (by decide) (by decide), e 4 (by decide) (by decide) (by decide), e 5 (by decide) (by decide) (by decide), g 36 (by omega), g 37 (by omega), g 38 (by omega)]; exact h.sh
  · rw [g 48 (by omega)]; exact h.fl
  · rw [e2 _ _ (by omega), g _ (by omega)]; exact h.tl j hj
  · refine ⟨?_, ?_, ?_⟩ <;> ((repeat (first | rw [rd_we] | rw [rd_wk (by omega)] | rw [rd_wj (by omega)])); (repeat (first | rw [upf_e] | rw [upf_n (by omega)])))
  · rw [e 10 (by decide) (by decide) (by decide), g 19 (by omega)]; exact h.nb
  · rw [g 19 (by omega)]; exact h.bb
  · rw [g 19 (by omega)] at hj
    have := h.bb
    rw [e2 _ _ (by omega), e2 _ _ (by omega), g _ (by omega), g _ (by omega)]; exact h.ba j hj
  · rw [g 19 (by omega)] at hj
    have := h.bb
    refine ⟨by rw [g _ (by omega)]; exact h.bv j hj, fun hj2 => ?_⟩
    rw [g 19 (by omega)] at hj2
    rw [g _ (by omega), g _ (by omega)]; exact h.bo j hj2
  · rw [e 13 (by decide) (by decide) (by decide), g 52 (by omega)]; exact h.ma
  · rw [e 14 (by decide) (by decide) (by decide), g 53 (by omega)]; exact h.ns
  · rw [g 53 (by omega)]; exact h.sb
  · rw [g 53 (by omega)] at hj
    rw [e2 _ _ (by omega), e2 _ _ (by omega), e2 _ _ (by omega), g _ (by omega), g _ (by omega), g _ (by omega), g _ (by omega)]; exact h.st j hj
theorem PR.tool {t : Nat} {a b : Int32} (h : PR k M f) (ht : t < 5) (h4 : t = 4 → b = 0) : PR k (wr (wr M (k + 2) (2 * t) a) (k + 2) (2 * t + 1) b) (upf (upf f (39 + 2 * t) a) (40 + 2 * t) b) := by
  have e2 : ∀ c' j, c' ≠ k + 2 → rd (wr (wr M (k + 2) (2 * t) a) (k + 2) (2 * t + 1) b) c' j = rd M c' j := fun c' j h => by (repeat (first | rw [rd_we] | rw [rd_wk (by omega)] | rw [rd_wj (by omega)]))
  have g : ∀ j, j < 39 ∨ 49 ≤ j → upf (upf f (39 + 2 * t) a) (40 + 2 * t) b j = f j := fun j h => by (repeat (first | rw [upf_e] | rw [upf_n (by omega)]))
  have e : ∀ j, rd (wr (wr M (k + 2) (2 * t) a) (k + 2) (2 * t + 1) b) k j = rd M k j := fun j => e2 k j (by omega)
  refine ⟨?_, ?_, ?_, fun j hj => ?_, ?_, fun b hb => ?_, ?_, ?_, ?_, fun j hj => ?_, ?_, ?_, ?_, fun j hj => ?_, fun j hj => ?_, ?_, ?_, ?_, fun j hj => ?_⟩
  · rw [e, g 1 (by omega)]; exact h.lc
  · rw [g 1 (by omega)]; exact h.lb
  · rw [g 1 (by omega), g 0 (by omega)]; exact h.nn
  · rw [g 1 (by omega)] at hj
    have := h.lb
    rw [e2 _ _ (by omega), g _ (by omega)]; exact h.leg j hj
  · rw [e]; exact h.ub
  · rw [g 0 (by omega)] at hb
    have := h.n8
    rw [e, g _ (by omega)]; exact h.up _ hb
  · rw [e, g 0 (by omega)]; exact h.uz
  · rw [e, e, e, g 36 (by omega), g 37 (by omega), g 38 (by omega)]; exact h.sh
  · by_cases q : t = 4
    · subst q
      rw [show (48 : Nat) = 40 + 2 * 4 by omega, upf_e]; exact h4 rfl
    · rw [upf_n (by omega), upf_n (by omega)]; exact h.fl
  · by_cases q1 : j = 2 * t + 1
    · subst q1
      rw [rd_we, show 39 + (2 * t + 1) = 40 + 2 * t by omega, upf_e]
    · by_cases q2 : j = 2 * t
      · subst q2
        rw [rd_wj (by omega), rd_we, upf_n (by omega), upf_e]
      · rw [rd_wj q1, rd_wj q2, upf_n (by omega), upf_n (by omega)]; exact h.tl j hj
  · rw [e, e, e, g 49 (by omega), g 50 (by omega), g 51 (by omega)]; exact h.co
  · rw [e, g 19 (by omega)]; exact h.nb
  · rw [g 19 (by omega)]; exact h.bb
  · rw [g 19 (by omega)] at hj
    have := h.bb
    rw [e2 _ _ (by omega), e2 _ _ (by omega), g _ (by omega), g _ (by omega)]; exact h.ba j hj
  · rw [g 19 (by omega)] at hj
    have := h.bb
    refine ⟨by rw [g _ (by omega)]; exact h.bv j hj, fun hj2 => ?_⟩
    rw [g 19 (by omega)] at hj2
    rw [g _ (by omega), g _ (by omega)]; exact h.bo j hj2
  · rw [e, g 52 (by omega)]; exact h.ma
  · rw [e, g 53 (by omega)]; exact h.ns
  · rw [g 53 (by omega)]; exact h.sb
  · rw [g 53 (by omega)] at hj
    rw [e2 _ _ (by omega), e2 _ _ (by omega), e2 _ _ (by omega), g _ (by omega), g _ (by omega), g _ (by omega), g _ (by omega)]; exact h.st j hj
theorem PR.back {n : Nat} {a b c : Int32} (h : PR k M f) (hn : (f 19).toInt = (n : Int)) (h8 : n < 8) (hv : 0 ≤ a.toInt ∧ a.toInt ≤ 999) (ho : ∀ i, i + 1 = n → (f (20 + 2 * i)).toInt < a.toInt) (hc : c.toInt = (n : Int) + 1) : PR k (wr (wr (wr M (k + 3) n a) (k + 4) n b) k 10 c) (upf (upf (upf f (20 + 2 * n) a) (21 + 2 * n) b) 19 c) := by
  have e : ∀ j, j ≠ 10 → rd (wr (wr (wr M (k + 3) n a) (k + 4) n b) k 10 c) k j = rd M k j := fun j h3 => by (repeat (first | rw [rd_we] | rw [rd_wk (by omega)] | rw [rd_wj (by omega)]))
  have e2 : ∀ c' j, c' ≠ k → c' ≠ k + 3 → c' ≠ k + 4 → rd (wr (wr (wr M (k + 3) n a) (k + 4) n b) k 10 c) c' j = rd M c' j := fun c' j h1 h2 h3 => by (repeat (first | rw [rd_we] | rw [rd_wk (by omega)] | rw [rd_wj (by omega)]))
  have g : ∀ j, j < 19 ∨ 36 ≤ j → upf (upf (upf f (20 + 2 * n) a) (21 + 2 * n) b) 19 c j = f j := fun j h => by (repeat (first | rw [upf_e] | rw [upf_n (by omega)]))
  refine ⟨?_, ?_, ?_, fun j hj => ?_, ?_, fun b hb => ?_, ?_, ?_, ?_, fun j hj => ?_, ?_, ?_, ?_, fun j hj => ?_, fun j hj => ?_, ?_, ?_, ?_, fun j hj => ?_⟩
  · rw [e 0 (by decide), g 1 (by omega)]; exact h.lc
  · rw [g 1 (by omega)]; exact h.lb
  · rw [g 1 (by omega), g 0 (by omega)]; exact h.nn
  · rw [g 1 (by omega)] at hj
    have := h.lb
    rw [e2 _ _ (by omega) (by omega) (by omega), g _ (by omega)]; exact h.leg j hj
  · rw [e 2 (by decide)]; exact h.ub
  · rw [g 0 (by omega)] at hb
    have := h.n8
    rw [e 2 (by decide), g _ (by omega)]; exact h.up _ hb
  · rw [e 2 (by decide), g 0 (by omega)]; exact h.uz
  · rw [e 3 (by decide), e 4 (by decide), e 5 (by decide), g 36 (by omega), g 37 (by omega), g 38 (by omega)]; exact h.sh
  · rw [g 48 (by omega)]; exact h.fl
  · rw [e2 _ _ (by omega) (by omega) (by omega), g _ (by omega)]; exact h.tl j hj
  · rw [e 7 (by decide), e 8 (by decide), e 9 (by decide), g 49 (by omega), g 50 (by omega), g 51 (by omega)]; exact h.co
  · rw [rd_we, upf_e]
  · rw [upf_e]; omega
  · rw [upf_e] at hj
    by_cases q : j = n
    · subst q
      rw [rd_wk (by omega), rd_wk (by omega), rd_we, rd_wk (by omega), rd_we, upf_n (by omega), upf_n (by omega), upf_e, upf_n (by omega), upf_e]
      exact ⟨rfl, rfl⟩
    · rw [rd_wk (by omega), rd_wk (by omega), rd_wj q, rd_wk (by omega), rd_wj q, rd_wk (by omega), upf_n (by omega), upf_n (by omega), upf_n (by omega), upf_n (by omega), upf_n (by omega), upf_n (by omega)]
      exact h.ba j (by omega)
  · rw [upf_e] at hj
    by_cases q : j = n
    · subst q
      refine ⟨by rw [upf_n (by omega), upf_n (by omega), upf_e]; exact hv, fun hj2 => ?_⟩
      rw [upf_e] at hj2; omega
    · refine ⟨by rw [upf_n (by omega), upf_n (by omega), upf_n (by omega)]; exact h.bv j (by omega), fun hj2 => ?_⟩
      rw [upf_e] at hj2
      by_cases q2 : j + 1 = n
      · rw [upf_n (by omega), upf_n (by omega), upf_n (by omega), upf_n (i := 22 + 2 * j) (by omega), upf_n (i := 22 + 2 * j) (by omega), show 22 + 2 * j = 20 + 2 * n by omega, upf_e]
        exact ho j q2
      · rw [upf_n (by omega), upf_n (by omega), upf_n (by omega), upf_n (by omega), upf_n (by omega), upf_n (by omega)]
        exact h.bo j (by omega)
  · rw [e 13 (by decide), g 52 (by omega)]; exact h.ma
  · rw [e 14 (by decide), g 53 (by omega)]; exact h.ns
  · rw [g 53 (by omega)]; exact h.sb
  · rw [g 53 (by omega)] at hj
    rw [e2 _ _ (by omega) (by omega) (by omega), e2 _ _ (by omega) (by omega) (by omega), e2 _ _ (by omega) (by omega) (by omega), g _ (by omega), g _ (by omega), g _ (by omega), g _ (by omega)]; exact h.st j hj
/-- a leg more: n of them up to now; the bits u, the numbers of bends and legs behind it -/
theorem PR.legs {n : Nat} {v u c : Int32} {g : Nat → Int32} (h : PR k M f) (hn : (f 1).toInt = (n : Int)) (h8 : n < 9) (hc : c.toInt = (n : Int) + 1) (hg : ∀ j, 19 ≤ j → g j = f j) (g1 : g 1 = c) (g0 : (g 0).toInt = (n : Int)) (hl : ∀ j, j < n → g (2 + j) = f (2 + j)) (hv : g (2 + n) = v) (hu : 0 ≤ u.toInt ∧ u.toInt ≤ 255) (hb : ∀ b, b < n → g (11 + b) = if u.toInt.toNat.testBit b then 1 else 0) (hz : u.toInt.toNat < 2 ^ n) : PR k (wr (wr (wr M (k + 1) n v) k 2 u) k 0 c) g := by
  have e : ∀ j, j ≠ 0 → j ≠ 2 → rd (wr (wr (wr M (k + 1) n v) k 2 u) k 0 c) k j = rd M k j := fun j h1 h3 => by (repeat (first | rw [rd_we] | rw [rd_wk (by omega)] | rw [rd_wj (by omega)]))
  have e2 : ∀ c' j, c' ≠ k → c' ≠ k + 1 → rd (wr (wr (wr M (k + 1) n v) k 2 u) k 0 c) c' j = rd M c' j := fun c' j h1 h2 => by (repeat (first | rw [rd_we] | rw [rd_wk (by omega)] | rw [rd_wj (by omega)]))
  have u2 : rd (wr (wr (wr M (k + 1) n v) k 2 u) k 0 c) k 2 = u := by rw [rd_wj (by decide), rd_we]
  refine ⟨?_, ?_, ?_, fun j hj => ?_, ?_, fun b hb' => ?_, ?_, ?_, ?_, fun j hj => ?_, ?_, ?_, ?_, fun j hj => ?_, fun j hj => ?_, ?_, ?_, ?_, fun j hj => ?_⟩
  · rw [rd_we, g1]
  · rw [g1]; omega
  · rw [g1, g0, hc, if_neg (by omega)]; omega
  · rw [g1] at hj
    by_cases q : j = n
    · subst q
      rw [rd_wk (by omega), rd_wk (by omega), rd_we, hv]
    · rw [rd_wk (by omega), rd_wk (by omega), rd_wj q, hl j (by omega)]
      exact h.leg j (by omega)
  · rw [u2]; exact hu
  · rw [u2]; exact hb b (by omega)
  · rw [u2, show (g 0).toInt.toNat = n by omega]; exact hz
  · rw [e 3 (by decide) (by decide), e 4 (by decide) (by decide), e 5 (by decide) (by decide), hg 36 (by omega), hg 37 (by omega), hg 38 (by omega)]; exact h.sh
  · rw [hg 48 (by omega)]; exact h.fl
  · rw [e2 _ _ (by omega) (by omega), hg _ (by omega)]; exact h.tl j hj
  · rw [e 7 (by decide) (by decide), e 8 (by decide) (by decide), e 9 (by decide) (by decide), hg 49 (by omega), hg 50 (by omega), hg 51 (by omega)]; exact h.co
  · rw [e 10 (by decide) (by decide), hg 19 (by omega)]; exact h.nb
  · rw [hg 19 (by omega)]; exact h.bb
  · rw [hg 19 (by omega)] at hj
    rw [e2 _ _ (by omega) (by omega), e2 _ _ (by omega) (by omega), hg _ (by omega), hg _ (by omega)]; exact h.ba j hj
  · rw [hg 19 (by omega)] at hj
    refine ⟨by rw [hg _ (by omega)]; exact h.bv j hj, fun hj2 => ?_⟩
    rw [hg 19 (by omega)] at hj2
    rw [hg _ (by omega), hg _ (by omega)]; exact h.bo j hj2
  · rw [e 13 (by decide) (by decide), hg 52 (by omega)]; exact h.ma
  · rw [e 14 (by decide) (by decide), hg 53 (by omega)]; exact h.ns
  · rw [hg 53 (by omega)]; exact h.sb
  · rw [hg 53 (by omega)] at hj
    rw [e2 _ _ (by omega) (by omega), e2 _ _ (by omega) (by omega), e2 _ _ (by omega) (by omega), hg _ (by omega), hg _ (by omega), hg _ (by omega), hg _ (by omega)]; exact h.st j hj
end PRS
end
/-! part 60d2.pb -/
section
/-! what bending looks at: the legs, the ways of the bends, the tools -/
def PB (k : Nat) (M : Mem) (f : Nat → Int32) : Prop := (rd M k 0 = f 1) ∧ (0 ≤ (f 1).toInt ∧ (f 1).toInt ≤ 9) ∧ ((f 0).toInt = if (f 1).toInt = 0 then 0 else (f 1).toInt - 1) ∧ (∀ j : Nat, (j : Int) < (f 1).toInt → rd M (k + 1) j = f (2 + j)) ∧ (0 ≤ (rd M k 2).toInt ∧ (rd M k 2).toInt ≤ 255) ∧ (∀ b : Nat, (b : Int) < (f 0).toInt → (f (11 + b) = if (rd M k 2).toInt.toNat.testBit b then 1 else 0)) ∧ ((rd M k 2).toInt.toNat < 2 ^ (f 0).toInt.toNat) ∧ (∀ j : Nat, j < 10 → rd M (k + 2) j = f (39 + j))
/-- the slots of a row that bending looks at -/
def BS (j : Nat) : Prop := j < 19 ∨ (39 ≤ j ∧ j < 49)
section PBS
variable {k : Nat} {M M' : Mem} {f g : Nat → Int32}
theorem PB.lc (h : PB k M f) : rd M k 0 = f 1 := h.1
theorem PB.lb (h : PB k M f) : 0 ≤ (f 1).toInt ∧ (f 1).toInt ≤ 9 := h.2.1
theorem PB.nn (h : PB k M f) : (f 0).toInt = if (f 1).toInt = 0 then 0 else (f 1).toInt - 1 := h.2.2.1
theorem PB.leg (h : PB k M f) : ∀ j : Nat, (j : Int) < (f 1).toInt → rd M (k + 1) j = f (2 + j) := h.2.2.2.1
theorem PB.ub (h : PB k M f) : 0 ≤ (rd M k 2).toInt ∧ (rd M k 2).toInt ≤ 255 := h.2.2.2.2.1
theorem PB.up (h : PB k M f) : ∀ b : Nat, (b : Int) < (f 0).toInt → (f (11 + b) = if (rd M k 2).toInt.toNat.testBit b then 1 else 0) := h.2.2.2.2.2.1
theorem PB.uz (h : PB k M f) : (rd M k 2).toInt.toNat < 2 ^ (f 0).toInt.toNat := h.2.2.2.2.2.2.1
theorem PB.tl (h : PB k M f) : ∀ j : Nat, j < 10 → rd M (k + 2) j = f (39 + j) := h.2.2.2.2.2.2.2
theorem PR.pb (h : PR k M f) : PB k M f := ⟨h.lc, h.lb, h.nn, h.leg, h.ub, h.up, h.uz, h.tl⟩
theorem PB.n8 (h : PB k M f) : 0 ≤ (f 0).toInt ∧ (f 0).toInt ≤ 8 := by
  have h1 := h.lb; have h2 := h.nn
  split at h2 <;> omega
theorem PB.mem (h : PB k M f) (e : ∀ c j, k ≤ c → c < k + 8 → rd M' c j = rd M c j) : PB k M' f := by
  have e0 : ∀ j, rd M' k j = rd M k j := fun j => e k j (by omega) (by omega)
  refine ⟨?_, h.lb, h.nn, fun j hj => ?_, ?_, fun b hb => ?_, ?_, fun j hj => ?_⟩
  · rw [e0]; exact h.lc
  · rw [e _ _ (by omega) (by omega)]; exact h.leg j hj
  · rw [e0]; exact h.ub
  · rw [e0]; exact h.up b hb
  · rw [e0]; exact h.uz
  · rw [e _ _ (by omega) (by omega)]; exact h.tl j hj
theorem PB.ks {S : Nat → Nat → Prop} (h : PB k M f) (hk : KS S M M') (hs : ∀ c j, k ≤ c → c < k + 8 → ¬ S c j) : PB k M' f := h.mem (fun c j h1 h2 => hk c j (hs c j h1 h2))
theorem PB.congr (h : PB k M f) (e : ∀ j, BS j → g j = f j) : PB k M g := by
  have e0 : g 0 = f 0 := e 0 (Or.inl (by omega))
  have e1 : g 1 = f 1 := e 1 (Or.inl (by omega))
  have hb := h.lb
  have h8 := h.n8
  refine ⟨?_, ?_, ?_, fun j hj => ?_, h.ub, fun b hb => ?_, ?_, fun j hj => ?_⟩
  · rw [e1]; exact h.lc
  · rw [e1]; exact h.lb
  · rw [e0, e1]; exact h.nn
  · rw [e1] at hj
    rw [e _ (Or.inl (by omega))]; exact h.leg j hj
  · rw [e0] at hb
    rw [e _ (Or.inl (by omega))]; exact h.up b hb
  · rw [e0]; exact h.uz
  · rw [e _ (Or.inr (by omega))]; exact h.tl j hj
end PBS
/-! what laying looks at: the legs and the ways of the bends -/
def PG (k : Nat) (M : Mem) (f : Nat → Int32) : Prop := (rd M k 0 = f 1) ∧ (0 ≤ (f 1).toInt ∧ (f 1).toInt ≤ 9) ∧ ((f 0).toInt = if (f 1).toInt = 0 then 0 else (f 1).toInt - 1) ∧ (∀ j : Nat, (j : Int) < (f 1).toInt → rd M (k + 1) j = f (2 + j)) ∧ (0 ≤ (rd M k 2).toInt ∧ (rd M k 2).toInt ≤ 255) ∧ (∀ b : Nat, (b : Int) < (f 0).toInt → (f (11 + b) = if (rd M k 2).toInt.toNat.testBit b then 1 else 0)) ∧ ((rd M k 2).toInt.toNat < 2 ^ (f 0).toInt.toNat)
section PGS
variable {k : Nat} {M M' : Mem} {f g : Nat → Int32}
theorem PG.lc (h : PG k M f) : rd M k 0 = f 1 := h.1
theorem PG.lb (h : PG k M f) : 0 ≤ (f 1).toInt ∧ (f 1).toInt ≤ 9 := h.2.1
theorem PG.nn (h : PG k M f) : (f 0).toInt = if (f 1).toInt = 0 then 0 else (f 1).toInt - 1 := h.2.2.1
theorem PG.leg (h : PG k M f) : ∀ j : Nat, (j : Int) < (f 1).toInt → rd M (k + 1) j = f (2 + j) := h.2.2.2.1
theorem PG.ub (h : PG k M f) : 0 ≤ (rd M k 2).toInt ∧ (rd M k 2).toInt ≤ 255 := h.2.2.2.2.1
theorem PG.up (h : PG k M f) : ∀ b : Nat, (b : Int) < (f 0).toInt → (f (11 + b) = if (rd M k 2).toInt.toNat.testBit b then 1 else 0) := h.2.2.2.2.2.1
theorem PG.uz (h : PG k M f) : (rd M k 2).toInt.toNat < 2 ^ (f 0).toInt.toNat := h.2.2.2.2.2.2
theorem PB.pg (h : PB k M f) : PG k M f := ⟨h.lc, h.lb, h.nn, h.leg, h.ub, h.up, h.uz⟩
theorem PG.n8 (h : PG k M f) : 0 ≤ (f 0).toInt ∧ (f 0).toInt ≤ 8 := by
  have h1 := h.lb; have h2 := h.nn
  split at h2 <;> omega
theorem PG.congr (h : PG k M f) (e : ∀ j, j < 19 → g j = f j) : PG k M g := by
  have e0 : g 0 = f 0 := e 0 (by omega)
  have e1 : g 1 = f 1 := e 1 (by omega)
  have hb := h.lb
  have h8 := h.n8
  refine ⟨?_, ?_, ?_, fun j hj => ?_, h.ub, fun b hb => ?_, ?_⟩
  · rw [e1]; exact h.lc
  · rw [e1]; exact h.lb
  · rw [e0, e1]; exact h.nn
  · rw [e1] at hj
    rw [e _ (by omega)]; exact h.leg j hj
  · rw [e0] at hb
    rw [e _ (by omega)]; exact h.up b hb
  · rw [e0]; exact h.uz
end PGS
end
/-! part 60e.err -/
section
/-! the reader's errors of a word, of a number: what they are -/
theorem pc_btw {v lo hi : Int64} {a b c : Int} {M : Mem} (hv : v.toInt = a) (hl : lo.toInt = b) (hh : hi.toInt = c) : Pc (mX7_between v lo hi M) (fun r => (r = 1 ∧ b ≤ a ∧ a ≤ c) ∨ (r = 0 ∧ ¬ (b ≤ a ∧ a ≤ c))) := by
  unfold mX7_between
  refine Pc.i (fun c1 => Pc.ok (Or.inr ⟨rfl, ?_⟩)) (fun c1 => Pc.i (fun c2 => Pc.ok (Or.inr ⟨rfl, ?_⟩)) (fun c2 => Pc.ok (Or.inl ⟨rfl, ?_⟩)))
  · have := b_cmp.1.mp c1; omega
  · have := b_cmp.2.mp c2; omega
  · have h1 := mt b_cmp.1.mpr c1
    have h2 := mt b_cmp.2.mpr c2
    omega
section ER
variable {M : Mem} {k w : Nat} {i : Int32}
theorem pc_bc : Pc (mX1_bendCount k M) (fun r => ((rd M k 0).toInt ≤ 0 ∧ r = 0) ∨ (0 < (rd M k 0).toInt ∧ r = rd M k 0 - 1)) := by
  unfold mX1_bendCount
  refine Pc.i (fun c => Pc.ok (Or.inl ⟨?_, rfl⟩)) (fun c => Pc.ok (Or.inr ⟨?_, rfl⟩))
  · have c := i_le.mp c; exact c
  · have c := i_nle c; exact c
theorem eow_leg : Pc (mX4_errorOfWord 1 k M) (fun e => (0 < (rd M k 0).toInt ∧ e = 4) ∨ ((rd M k 0).toInt ≤ 0 ∧ e = 0)) := by
  unfold mX4_errorOfWord
  refine Pc.i (fun _ => Pc.i (fun c => ?_) (fun c => ?_)) (fun q => absurd rfl q)
  · have c : (rd M k 0).toInt ≤ 0 := i_le.mp c
    exact Pc.ok (Or.inr ⟨c, rfl⟩)
  · have c : 0 < (rd M k 0).toInt := i_nle c
    exact Pc.ok (Or.inl ⟨c, rfl⟩)
theorem eow_bend (hw : w = 2 ∨ w = 3) (hb : 0 ≤ (rd M k 0).toInt ∧ (rd M k 0).toInt ≤ 9) : Pc (mX4_errorOfWord w k M) (fun e => ((rd M k 0).toInt = 0 ∧ e = 4) ∨ ((rd M k 0).toInt = 9 ∧ e = 5) ∨ ((0 < (rd M k 0).toInt ∧ (rd M k 0).toInt < 9) ∧ e = 0)) := by
  have n1 : ((1 : Int32)).toInt = 1 := rfl
  have n8 : ((8 : Int32)).toInt = 8 := rfl
  have z0 : ((0 : Int32)).toInt = 0 := rfl
  have isb : mX5_isBend w M = some 1 := by rcases hw with rfl | rfl <;> rfl
  have go : Pc (mX4_errorOfWord_b19 w k M 0) (fun e => ((rd M k 0).toInt = 0 ∧ e = 4) ∨ ((rd M k 0).toInt = 9 ∧ e = 5) ∨ ((0 < (rd M k 0).toInt ∧ (rd M k 0).toInt < 9) ∧ e = 0)) := by
    unfold mX4_errorOfWord_b19
    rw [isb]
    refine Pc.c (Pc.self _) (fun r er => ?_)
    cases er
    refine Pc.i (fun q => absurd q (by decide)) (fun _ => Pc.i (fun c => ?_) (fun c => ?_))
    · have c := i_eq.mp c
      exact Pc.ok (Or.inl ⟨c, rfl⟩)
    · have c := i_ne c
      rw [z0] at c
      unfold mX4_errorOfWord_b38 mX4_errorOfWord_b39
      rw [isb]
      refine Pc.i (fun _ => Pc.i (fun _ => ?_) (fun q => absurd rfl q)) (fun q => absurd rfl q)
      refine Pc.c (Pc.self _) (fun r er => ?_)
      cases er
      refine Pc.i (fun q => absurd q (by decide)) (fun _ => Pc.c pc_bc (fun r17 p => ?_))
      have e17 : r17.toInt = (rd M k 0).toInt - 1 := by
        rcases p with ⟨p, _⟩ | ⟨p, e⟩
        · exfalso; omega
        · rw [e, i_sub (by omega) (by omega), n1]
      refine Pc.i (fun c8 => ?_) (fun c8 => ?_)
      · have c8 := i_lt.mp c8
        have h4 : ¬ w = 4 := by omega
        unfold mX4_errorOfWord_b70 mX4_errorOfWord_b71
        refine Pc.i (fun q => absurd q h4) (fun _ => Pc.ok (Or.inr (Or.inr ⟨by omega, rfl⟩)))
      · have c8 := i_nlt c8
        have h4 : ¬ w = 4 := by omega
        unfold mX4_errorOfWord_b71
        refine Pc.i (fun q => absurd q h4) (fun _ => Pc.ok (Or.inr (Or.inl ⟨by omega, rfl⟩)))
  unfold mX4_errorOfWord
  exact Pc.i (fun q => by omega) (fun _ => go)
theorem eow_other (hw : w ≠ 1 ∧ w ≠ 2 ∧ w ≠ 3) : Pc (mX4_errorOfWord w k M) (fun e => (w = 4 ∧ 8 ≤ (rd M k 10).toInt ∧ e = 5) ∨ ((w = 4 → (rd M k 10).toInt < 8) ∧ e = 0)) := by
  have isb : mX5_isBend w M = some 0 := by
    unfold mX5_isBend ite2
    rw [if_neg hw.2.1, if_neg hw.2.2]
  have go : Pc (mX4_errorOfWord_b19 w k M 0) (fun e => (w = 4 ∧ 8 ≤ (rd M k 10).toInt ∧ e = 5) ∨ ((w = 4 → (rd M k 10).toInt < 8) ∧ e = 0)) := by
    unfold mX4_errorOfWord_b19
    rw [isb]
    refine Pc.c (Pc.self _) (fun r er => ?_)
    cases er
    refine Pc.i (fun _ => ?_) (fun q => absurd rfl q)
    unfold mX4_errorOfWord_b38 mX4_errorOfWord_b39
    rw [isb]
    refine Pc.i (fun _ => Pc.i (fun _ => ?_) (fun q => absurd rfl q)) (fun q => absurd rfl q)
    refine Pc.c (Pc.self _) (fun r er => ?_)
    cases er
    refine Pc.i (fun _ => ?_) (fun q => absurd rfl q)
    unfold mX4_errorOfWord_b70 mX4_errorOfWord_b71
    refine Pc.i (fun c4 => Pc.i (fun c8 => ?_) (fun c8 => ?_)) (fun c4 => Pc.ok (Or.inr ⟨fun q => absurd q c4, rfl⟩))
    · have c8 := i_lt.mp c8
      exact Pc.ok (Or.inr ⟨fun _ => c8, rfl⟩)
    · have c8 := i_nlt c8
      exact Pc.ok (Or.inl ⟨c4, c8, rfl⟩)
  unfold mX4_errorOfWord
  exact Pc.i (fun q => absurd q hw.1) (fun _ => go)
/-- the ratio of the last back statement -/
def LB (k : Nat) (M : Mem) : Int := if (rd M k 10).toInt ≤ 0 then -1 else (rd M (k + 3) ((rd M k 10).toInt - 1).toNat).toInt
theorem pc_lb (hb : (rd M k 10).toInt ≤ 8) : Pc (mX1_lastBackRatio k M) (fun r => r.toInt = LB k M) := by
  unfold mX1_lastBackRatio LB
  have n1 : ((1 : Int32)).toInt = 1 := rfl
  refine Pc.i (fun c => ?_) (fun c => Pc.k (fun _ => ?_))
  · have c : (rd M k 10).toInt ≤ 0 := i_le.mp c
    rw [if_pos c]; exact Pc.ok rfl
  · have c : 0 < (rd M k 10).toInt := i_nle c
    rw [if_neg (by omega), i_clamp, i_sub (by omega) (by omega), n1]; exact Pc.ok rfl
/-- whether a number is allowed -/
def Alw (w i : Nat) (k : Nat) (M : Mem) : Prop :=
  if i = 0 then ((wF0.getD w 0).toInt ≤ (rd M 2 7).toInt ∧ (rd M 2 7).toInt ≤ (wF1.getD w 0).toInt) ∧ (w = 4 → LB k M < (rd M 2 7).toInt)
  else (0 ≤ (rd M 2 7).toInt ∧ (rd M 2 7).toInt ≤ (if i = 1 then (wF2.getD w 0).toInt else (wF3.getD w 0).toInt)) ∧ (w = 8 → (rd M 3 0).toInt ≤ (rd M 2 7).toInt)
def Err (w i k : Nat) (M : Mem) (e : Int32) : Prop := (rd M 2 6 = 1 ∧ e = 1) ∨ (¬ rd M 2 6 = 1 ∧ ¬ rd M 2 6 = 3 ∧ e = 2) ∨ (rd M 2 6 = 3 ∧ ((e = 0 ∧ Alw w i k M) ∨ (e = 3 ∧ ¬ Alw w i k M)))
theorem pc_ein {x e : Int32} : Pc (mX4_errorIfNot 2 x e M) (fun r => (rd M 2 6 = 1 ∧ r = 1) ∨ (¬ rd M 2 6 = 1 ∧ rd M 2 6 = x ∧ r = e) ∨ (¬ rd M 2 6 = 1 ∧ ¬ rd M 2 6 = x ∧ r = 2)) := by
  unfold mX4_errorIfNot
  exact Pc.i (fun c => Pc.ok (Or.inl ⟨c, rfl⟩)) (fun c => Pc.i (fun c2 => Pc.ok (Or.inr (Or.inl ⟨c, c2, rfl⟩))) (fun c2 => Pc.ok (Or.inr (Or.inr ⟨c, c2, rfl⟩))))
theorem pc_al (x v : Int32) : Pc (mX5_allows w x v M) (fun r => (r = 1 ∧ ((x = 0 ∧ (wF0.getD w 0).toInt ≤ v.toInt ∧ v.toInt ≤ (wF1.getD w 0).toInt) ∨ (¬ x = 0 ∧ x = 1 ∧ 0 ≤ v.toInt ∧ v.toInt ≤ (wF2.getD w 0).toInt) ∨ (¬ x = 0 ∧ ¬ x = 1 ∧ 0 ≤ v.toInt ∧ v.toInt ≤ (wF3.getD w 0).toInt))) ∨ (r = 0 ∧ ((x = 0 ∧ ¬ ((wF0.getD w 0).toInt ≤ v.toInt ∧ v.toInt ≤ (wF1.getD w 0).toInt)) ∨ (¬ x = 0 ∧ x = 1 ∧ ¬ (0 ≤ v.toInt ∧ v.toInt ≤ (wF2.getD w 0).toInt)) ∨ (¬ x = 0 ∧ ¬ x = 1 ∧ ¬ (0 ≤ v.toInt ∧ v.toInt ≤ (wF3.getD w 0).toInt))))) := by
  unfold mX5_allows
  have z0 : ((0 : Int32)).toInt = 0 := rfl
  refine Pc.i (fun c => Pc.i (fun d => ?_) (fun d => Pc.i (fun g => ?_) (fun g => ?_))) (fun c => Pc.i (fun c1 => Pc.i (fun d => ?_) (fun d => Pc.i (fun g => ?_) (fun g => ?_))) (fun c1 => Pc.i (fun d => ?_) (fun d => Pc.i (fun g => ?_) (fun g => ?_))))
  · have d := i_lt.mp d; exact Pc.ok (Or.inr ⟨rfl, Or.inl ⟨c, by omega⟩⟩)
  · have g := i_lt.mp g; exact Pc.ok (Or.inr ⟨rfl, Or.inl ⟨c, by omega⟩⟩)
  · have d := i_nlt d; have g := i_nlt g; exact Pc.ok (Or.inl ⟨rfl, Or.inl ⟨c, by omega⟩⟩)
  · have d := i_lt.mp d; exact Pc.ok (Or.inr ⟨rfl, Or.inr (Or.inl ⟨c, c1, by omega⟩)⟩)
  · have g := i_lt.mp g; exact Pc.ok (Or.inr ⟨rfl, Or.inr (Or.inl ⟨c, c1, by omega⟩)⟩)
  · have d := i_nlt d; have g := i_nlt g; exact Pc.ok (Or.inl ⟨rfl, Or.inr (Or.inl ⟨c, c1, by omega⟩)⟩)
  · have d := i_lt.mp d; exact Pc.ok (Or.inr ⟨rfl, Or.inr (Or.inr ⟨c, c1, by omega⟩)⟩)
  · have g := i_lt.mp g; exact Pc.ok (Or.inr ⟨rfl, Or.inr (Or.inr ⟨c, c1, by omega⟩)⟩)
  · have d := i_nlt d; have g := i_nlt g; exact Pc.ok (Or.inl ⟨rfl, Or.inr (Or.inr ⟨c, c1, by omega⟩)⟩)
theorem pc_eon {i : Nat} (hi : i < 3) (hb : (rd M k 10).toInt ≤ 8) : Pc (mX4_errorOfNumber 2 w k (Int32.ofNat i) M) (Err w i k M) := by
  have ti : (Int32.ofNat i).toInt = (i : Int) := t_of (by omega)
  have i0 : (Int32.ofNat i = 0) ↔ i = 0 := by rw [i_eq, ti]; show (i : Int) = 0 ↔ _; omega
  have i1 : (Int32.ofNat i = 1) ↔ i = 1 := by rw [i_eq, ti]; show (i : Int) = 1 ↔ _; omega
  unfold mX4_errorOfNumber
  refine Pc.c pc_ein (fun r2 p2 => ?_)
  rcases p2 with ⟨p, rfl⟩ | ⟨p, p3, rfl⟩ | ⟨p, p3, rfl⟩
  · exact Pc.i (fun q => absurd q (by decide)) (fun _ => Pc.ok (Or.inl ⟨p, rfl⟩))
  · refine Pc.i (fun _ => ?_) (fun q => absurd rfl q)
    have f74 : ∀ y : Int32, Pc (mX4_errorOfNumber_b74 2 w k M y) (fun e => (y = 0 ∧ e = 3) ∨ (¬ y = 0 ∧ e = 0)) := fun y => by
      unfold mX4_errorOfNumber_b74
      exact Pc.i (fun c => Pc.ok (Or.inl ⟨c, rfl⟩)) (fun c => Pc.ok (Or.inr ⟨c, rfl⟩))
    have fin : ∀ (A : Prop) (y e : Int32), ((y = 1 ∧ A) ∨ (y = 0 ∧ ¬ A)) → ((y = 0 ∧ e = 3) ∨ (¬ y = 0 ∧ e = 0)) → (Alw w i k M ↔ A) → Err w i k M e := by
      intro A y e h1 h2 h3
      refine Or.inr (Or.inr ⟨p3, ?_⟩)
      rcases h1 with ⟨h1, hA⟩ | ⟨h1, hA⟩
      · rcases h2 with ⟨h2, _⟩ | ⟨_, h2⟩
        · rw [h1] at h2; exact absurd h2 (by decide)
        · exact Or.inl ⟨h2, h3.mpr hA⟩
      · rcases h2 with ⟨_, h2⟩ | ⟨h2, _⟩
        · exact Or.inr ⟨h2, fun q => hA (h3.mp q)⟩
        · exact absurd h1 h2
    refine Pc.i (fun c0 => Pc.c (pc_al _ _) (fun r18 p18 => ?_)) (fun c0 => Pc.k (fun _ => ?_))
    · have e0 := i0.mp c0
      have p18 : (r18 = 1 ∧ ((wF0.getD w 0).toInt ≤ (rd M 2 7).toInt ∧ (rd M 2 7).toInt ≤ (wF1.getD w 0).toInt)) ∨ (r18 = 0 ∧ ¬ ((wF0.getD w 0).toInt ≤ (rd M 2 7).toInt ∧ (rd M 2 7).toInt ≤ (wF1.getD w 0).toInt)) := by
        rcases p18 with ⟨e, p | p | p⟩ | ⟨e, p | p | p⟩
        · exact Or.inl ⟨e, p.2⟩
        · exact absurd rfl p.1
        · exact absurd rfl p.1
        · exact Or.inr ⟨e, p.2⟩
        · exact absurd rfl p.1
        · exact absurd rfl p.1
      unfold mX4_errorOfNumber_b47
      refine Pc.i (fun c4 => Pc.i (fun _ => Pc.c (pc_lb hb) (fun r14 p14 => Pc.i (fun c => ?_) (fun c => ?_))) (fun q => absurd c0 q)) (fun c4 => Pc.mono (f74 r18) (fun e he => fin _ _ _ p18 he ?_))
      · have c := i_lt.mp c
        refine Pc.mono (f74 r18) (fun e he => fin _ _ _ p18 he ?_)
        unfold Alw
        rw [if_pos e0]
        exact ⟨fun q => q.1, fun q => ⟨q, fun _ => by omega⟩⟩
      · have c := i_nlt c
        refine Pc.mono (f74 0) (fun e he => fin False 0 e (Or.inr ⟨rfl, id⟩) he ?_)
        unfold Alw
        rw [if_pos e0]
        exact ⟨fun q => by have := q.2 c4; omega, fun q => q.elim⟩
      · unfold Alw
        rw [if_pos e0]
        exact ⟨fun q => q.1, fun q => ⟨q, fun q4 => absurd q4 c4⟩⟩
    · have e0 := mt i0.mpr c0
      unfold mX5_allowsBehind
      have n0 : ((0 : Int32)).toNatClampNeg = 0 := rfl
      have bx : ∀ y : Int32, Pc (mX4_errorOfNumber_b47 2 w k M (Int32.ofNat i) y) (fun e => (y = 0 ∧ e = 3) ∨ (¬ y = 0 ∧ e = 0)) := fun y => by
        unfold mX4_errorOfNumber_b47
        exact Pc.i (fun _ => Pc.i (fun q => absurd q c0) (fun _ => f74 y)) (fun _ => f74 y)
      refine Pc.c (Q := fun r => (r = 1 ∧ Alw w i k M) ∨ (r = 0 ∧ ¬ Alw w i k M)) (Pc.c (pc_al _ _) (fun r p18 => ?_)) (fun r8 p8 => Pc.mono (bx r8) (fun e he => fin _ _ _ p8 he Iff.rfl))
      have p18 : (r = 1 ∧ (0 ≤ (rd M 2 7).toInt ∧ (rd M 2 7).toInt ≤ (if i = 1 then (wF2.getD w 0).toInt else (wF3.getD w 0).toInt))) ∨ (r = 0 ∧ ¬ (0 ≤ (rd M 2 7).toInt ∧ (rd M 2 7).toInt ≤ (if i = 1 then (wF2.getD w 0).toInt else (wF3.getD w 0).toInt))) := by
        rcases p18 with ⟨e, p | p | p⟩ | ⟨e, p | p | p⟩
        · exact absurd p.1 c0
        · rw [if_pos (i1.mp p.2.1)]; exact Or.inl ⟨e, p.2.2⟩
        · rw [if_neg (mt i1.mpr p.2.1)]; exact Or.inl ⟨e, p.2.2⟩
        · exact absurd p.1 c0
        · rw [if_pos (i1.mp p.2.1)]; exact Or.inr ⟨e, p.2.2⟩
        · rw [if_neg (mt i1.mpr p.2.1)]; exact Or.inr ⟨e, p.2.2⟩
      unfold mX5_allowsBehind_b21 Alw
      rw [if_neg e0]
      refine Pc.i (fun c => Pc.ok (Or.inr ⟨rfl, fun q => ?_⟩)) (fun c => Pc.i (fun c8 => Pc.i (fun d => Pc.ok (Or.inr ⟨rfl, fun q => ?_⟩)) (fun d => Pc.ok (Or.inl ⟨rfl, ?_⟩))) (fun c8 => Pc.ok (Or.inl ⟨rfl, ?_⟩)))
      · rcases p18 with ⟨e, _⟩ | ⟨_, p⟩
        · rw [c] at e; exact absurd e (by decide)
        · exact p q.1
      · have d : (rd M 2 7).toInt < (rd M 3 0).toInt := i_lt.mp d
        have := q.2 c8; omega
      · rcases p18 with ⟨_, p⟩ | ⟨e, _⟩
        · have d : (rd M 3 0).toInt ≤ (rd M 2 7).toInt := i_nlt d
          exact ⟨p, fun _ => d⟩
        · exact absurd e c
      · rcases p18 with ⟨_, p⟩ | ⟨e, _⟩
        · exact ⟨p, fun q => absurd q c8⟩
        · exact absurd e c
  · exact Pc.i (fun q => absurd q (by decide)) (fun _ => Pc.ok (Or.inr (Or.inl ⟨p, p3, rfl⟩)))
theorem nc_at : ∀ w, w < 11 → mX5_numberCount w m0 = some (Int32.ofNat (if w = 0 ∨ w = 10 then 3 else if 4 ≤ w ∧ w ≤ 8 then 2 else 1)) := by decide +kernel
theorem tn_at : ∀ w, w < 11 → mX5_toolNumber w m0 = some (if 5 ≤ w ∧ w ≤ 9 then Int32.ofNat (w - 5) else -1) := by decide +kernel
end ER
end
/-! part 60f.fr -/
section
/-! frames of reading a token (printed) -/
abbrev SC (k j : Nat) : Prop := k = 2 ∧ 4 ≤ j ∧ j ≤ 7
abbrev SN (k j : Nat) : Prop := k = 135 ∧ 11 ≤ j ∧ j ≤ 14
abbrev S11 (k j : Nat) : Prop := k = 135 ∧ 12 ≤ j ∧ j ≤ 14
section FFrdc
variable {M0 : Mem}
theorem fX4_takeWord_b39 {M : Mem} (hM : KS SC M0 M) : Fr SC M0 (mX4_takeWord_b39 2 M) := by
  unfold mX4_takeWord_b39
  exact (Fr.i (Fr.bw (by decide) hM (fun M3 hM3 => (Fr.ok hM3))) (Fr.bw (by decide) hM (fun M5 hM5 => (Fr.ok hM5))))
theorem fX4_takeWord_b0 {ih0 : Mem → Option (Mem × Unit)} {M : Mem} (hih0 : ∀ (v0 : Mem), KS SC M0 v0 → Fr SC M0 (ih0 v0)) (hM : KS SC M0 M) : Fr SC M0 (mX4_takeWord_b0 2 ih0 M) := by
  unfold mX4_takeWord_b0
  exact (Fr.i (fX4_takeWord_b39 hM) (Fr.k (Fr.k (Fr.c (fun r10 => (Fr.i (fX4_takeWord_b39 hM) (Fr.bw (by decide) hM (fun M13 hM13 => (hih0 _ hM13)))))))))
theorem fX4_takeWord_l0_n  : ∀ (n : Nat) (v0 : Mem), KS SC M0 v0 → Fr SC M0 (mX4_takeWord_l0 2 n v0) := by
  intro n
  induction n with
  | zero => intro v0 h; exact Fr.n
  | succ n IH => intro v0 h; exact fX4_takeWord_b0  IH h
theorem fX4_takeWord_l0  {v0 : Mem} {n : Nat} (h : KS SC M0 v0) : Fr SC M0 (mX4_takeWord_l0 2 n v0) := fX4_takeWord_l0_n   n v0 h
theorem fX4_takeWord {M : Mem} (hM : KS SC M0 M) : Fr SC M0 (mX4_takeWord 2 M) := by
  unfold mX4_takeWord
  exact (fX4_takeWord_l0 hM)
theorem fX4_takeNumber_b76 {M : Mem} (hM : KS SC M0 M) : Fr SC M0 (mX4_takeNumber_b76 2 M) := by
  unfold mX4_takeNumber_b76
  exact (Fr.i (Fr.bw (by decide) hM (fun M3 hM3 => (Fr.ok hM3))) (Fr.bw (by decide) hM (fun M5 hM5 => (Fr.ok hM5))))
theorem fX4_takeNumber_b63 {ih0 : Mem → Option (Mem × Unit)} {M : Mem} (hih0 : ∀ (v0 : Mem), KS SC M0 v0 → Fr SC M0 (ih0 v0)) (hM : KS SC M0 M) : Fr SC M0 (mX4_takeNumber_b63 2 ih0 M) := by
  unfold mX4_takeNumber_b63
  exact (Fr.bw (by decide) hM (fun M14 hM14 => (hih0 _ hM14)))
theorem fX4_takeNumber_b0 {ih0 : Mem → Option (Mem × Unit)} {M : Mem} (hih0 : ∀ (v0 : Mem), KS SC M0 v0 → Fr SC M0 (ih0 v0)) (hM : KS SC M0 M) : Fr SC M0 (mX4_takeNumber_b0 2 ih0 M) := by
  unfold mX4_takeNumber_b0
  exact (Fr.i (fX4_takeNumber_b76 hM) (Fr.k (Fr.k (Fr.c (fun r10 => (Fr.i (fX4_takeNumber_b76 hM) (Fr.i (fX4_takeNumber_b63 hih0 hM) (Fr.k (Fr.k (Fr.bw (by decide) hM (fun M18 hM18 => (fX4_takeNumber_b63 hih0 hM18))))))))))))
theorem fX4_takeNumber_l0_n  : ∀ (n : Nat) (v0 : Mem), KS SC M0 v0 → Fr SC M0 (mX4_takeNumber_l0 2 n v0) := by
  intro n
  induction n with
  | zero => intro v0 h; exact Fr.n
  | succ n IH => intro v0 h; exact fX4_takeNumber_b0  IH h
theorem fX4_takeNumber_l0  {v0 : Mem} {n : Nat} (h : KS SC M0 v0) : Fr SC M0 (mX4_takeNumber_l0 2 n v0) := fX4_takeNumber_l0_n   n v0 h
theorem fX4_takeNumber {M : Mem} (hM : KS SC M0 M) : Fr SC M0 (mX4_takeNumber 2 M) := by
  unfold mX4_takeNumber
  exact (fX4_takeNumber_l0 hM)
theorem fX4_nextToken_b143 {y1 : Int32} {M : Mem} (hM : KS SC M0 M) : Fr SC M0 (mX4_nextToken_b143 2 y1 M) := by
  unfold mX4_nextToken_b143
  exact (Fr.bw (by decide) hM (fun M24 hM24 => (Fr.bw (by decide) hM24 (fun M26 hM26 => (Fr.ok hM26)))))
theorem fX4_nextToken_b47 {M : Mem} (hM : KS SC M0 M) : Fr SC M0 (mX4_nextToken_b47 2 M) := by
  unfold mX4_nextToken_b47
  exact (Fr.bw (by decide) hM (fun M4 hM4 => (Fr.bw (by decide) hM4 (fun M6 hM6 => (Fr.i (Fr.k (Fr.k (Fr.c (fun r12 => (Fr.i (Fr.k (Fr.k (Fr.c (fun r18 => (Fr.i (Fr.k (Fr.k (Fr.i (fX4_nextToken_b143 hM6) (fX4_nextToken_b143 hM6)))) (Fr.m (fX4_takeNumber hM6) (fun M30 _ hM30 => (Fr.ok hM30)))))))) (Fr.m (fX4_takeWord hM6) (fun M33 _ hM33 => (Fr.ok hM33)))))))) (Fr.bw (by decide) hM6 (fun M34 hM34 => (Fr.ok hM34))))))))
theorem fX4_nextToken_b8 {ih8 : Mem → Option (Mem × Unit)} {M : Mem} (hih8 : ∀ (v0 : Mem), KS SC M0 v0 → Fr SC M0 (ih8 v0)) (hM : KS SC M0 M) : Fr SC M0 (mX4_nextToken_b8 2 ih8 M) := by
  unfold mX4_nextToken_b8
  exact (Fr.i (fX4_nextToken_b47 hM) (Fr.k (Fr.k (Fr.c (fun r39 => (Fr.i (fX4_nextToken_b47 hM) (Fr.bw (by decide) hM (fun M42 hM42 => (hih8 _ hM42)))))))))
theorem fX4_nextToken_l8_n  : ∀ (n : Nat) (v0 : Mem), KS SC M0 v0 → Fr SC M0 (mX4_nextToken_l8 2 n v0) := by
  intro n
  induction n with
  | zero => intro v0 h; exact Fr.n
  | succ n IH => intro v0 h; exact fX4_nextToken_b8  IH h
theorem fX4_nextToken_l8  {v0 : Mem} {n : Nat} (h : KS SC M0 v0) : Fr SC M0 (mX4_nextToken_l8 2 n v0) := fX4_nextToken_l8_n   n v0 h
theorem fX4_nextToken {M : Mem} (hM : KS SC M0 M) : Fr SC M0 (mX4_nextToken 2 M) := by
  unfold mX4_nextToken
  exact (Fr.bw (by decide) hM (fun M1 hM1 => (fX4_nextToken_l8 hM1)))
end FFrdc
section FFrdr
variable {M0 : Mem}
theorem fX7_advance_b26 {ih0 : Mem → Option (Mem × Int32)} {M : Mem} (hih0 : ∀ (v0 : Mem), KS SN M0 v0 → Fr SN M0 (ih0 v0)) (hM : KS SN M0 M) : Fr SN M0 (mX7_advance_b26 135 ih0 M) := by
  unfold mX7_advance_b26
  exact (Fr.bw (by decide) hM (fun M5 hM5 => (hih0 _ hM5)))
theorem fX7_advance_b230 {y1 : Int32} {M : Mem} (hM : KS SN M0 M) : Fr SN M0 (mX7_advance_b230 135 y1 M) := by
  unfold mX7_advance_b230
  exact (Fr.bw (by decide) hM (fun M42 hM42 => (Fr.ok hM42)))
theorem fX7_advance_b195 {ih141 : Mem → Option (Mem × Int32)} {y1 : Int32} {M : Mem} (hih141 : ∀ (v0 : Mem), KS SN M0 v0 → Fr SN M0 (ih141 v0)) (hM : KS SN M0 M) : Fr SN M0 (mX7_advance_b195 135 ih141 y1 M) := by
  unfold mX7_advance_b195
  exact (Fr.bw (by decide) hM (fun M45 hM45 => (Fr.bw (by decide) hM45 (fun M47 hM47 => (hih141 _ hM47)))))
theorem fX7_advance_b141 {ih141 : Mem → Option (Mem × Int32)} {M : Mem} (hih141 : ∀ (v0 : Mem), KS SN M0 v0 → Fr SN M0 (ih141 v0)) (hM : KS SN M0 M) : Fr SN M0 (mX7_advance_b141 135 ih141 M) := by
  unfold mX7_advance_b141
  exact (Fr.c (fun r35 => (Fr.c (fun r38 => (Fr.i (Fr.i (fX7_advance_b230 hM) (fX7_advance_b230 hM)) (Fr.i (fX7_advance_b195 hih141 hM) (Fr.c (fun r50 => (fX7_advance_b195 hih141 hM)))))))))
theorem fX7_advance_l141_n  : ∀ (n : Nat) (v0 : Mem), KS SN M0 v0 → Fr SN M0 (mX7_advance_l141 135 n v0) := by
  intro n
  induction n with
  | zero => intro v0 h; exact Fr.n
  | succ n IH => intro v0 h; exact fX7_advance_b141  IH h
theorem fX7_advance_l141  {v0 : Mem} {n : Nat} (h : KS SN M0 v0) : Fr SN M0 (mX7_advance_l141 135 n v0) := fX7_advance_l141_n   n v0 h
theorem fX7_advance_b123 {y1 : Int32} {M : Mem} (hM : KS SN M0 M) : Fr SN M0 (mX7_advance_b123 135 y1 M) := by
  unfold mX7_advance_b123
  exact (Fr.bw (by decide) hM (fun M60 hM60 => (Fr.ok hM60)))
theorem fX7_advance_b76 {ih76 : Mem → Option (Mem × Int32)} {M : Mem} (hih76 : ∀ (v0 : Mem), KS SN M0 v0 → Fr SN M0 (ih76 v0)) (hM : KS SN M0 M) : Fr SN M0 (mX7_advance_b76 135 ih76 M) := by
  unfold mX7_advance_b76
  exact (Fr.c (fun r53 => (Fr.c (fun r56 => (Fr.i (Fr.i (fX7_advance_b123 hM) (fX7_advance_b123 hM)) (Fr.bw (by decide) hM (fun M62 hM62 => (hih76 _ hM62))))))))
theorem fX7_advance_l76_n  : ∀ (n : Nat) (v0 : Mem), KS SN M0 v0 → Fr SN M0 (mX7_advance_l76 135 n v0) := by
  intro n
  induction n with
  | zero => intro v0 h; exact Fr.n
  | succ n IH => intro v0 h; exact fX7_advance_b76  IH h
theorem fX7_advance_l76  {v0 : Mem} {n : Nat} (h : KS SN M0 v0) : Fr SN M0 (mX7_advance_l76 135 n v0) := fX7_advance_l76_n   n v0 h
theorem fX7_advance_b0 {ih0 : Mem → Option (Mem × Int32)} {M : Mem} (hih0 : ∀ (v0 : Mem), KS SN M0 v0 → Fr SN M0 (ih0 v0)) (hM : KS SN M0 M) : Fr SN M0 (mX7_advance_b0 135 ih0 M) := by
  unfold mX7_advance_b0
  exact (Fr.c (fun r2 => (Fr.i (fX7_advance_b26 hih0 hM) (Fr.c (fun r8 => (Fr.i (fX7_advance_b26 hih0 hM) (Fr.bw (by decide) hM (fun M11 hM11 => (Fr.c (fun r14 => (Fr.i (Fr.bw (by decide) hM11 (fun M64 hM64 => (Fr.ok hM64))) (Fr.c (fun r18 => (Fr.i (Fr.c (fun r22 => (Fr.i (Fr.bw (by decide) hM11 (fun M25 hM25 => (Fr.i (Fr.bw (by decide) hM25 (fun M30 hM30 => (Fr.ok hM30))) (Fr.bw (by decide) hM25 (fun M28 hM28 => (Fr.ok hM28)))))) (Fr.bw (by decide) hM11 (fun M32 hM32 => (fX7_advance_l141 hM32)))))) (fX7_advance_l76 hM11)))))))))))))))
theorem fX7_advance_l0_n  : ∀ (n : Nat) (v0 : Mem), KS SN M0 v0 → Fr SN M0 (mX7_advance_l0 135 n v0) := by
  intro n
  induction n with
  | zero => intro v0 h; exact Fr.n
  | succ n IH => intro v0 h; exact fX7_advance_b0  IH h
theorem fX7_advance_l0  {v0 : Mem} {n : Nat} (h : KS SN M0 v0) : Fr SN M0 (mX7_advance_l0 135 n v0) := fX7_advance_l0_n   n v0 h
theorem fX7_advance {M : Mem} (hM : KS SN M0 M) : Fr SN M0 (mX7_advance 135 M) := by
  unfold mX7_advance
  exact (fX7_advance_l0 hM)
end FFrdr
section FFrds
variable {M0 : Mem}
theorem gX7_advance_b230 {y1 : Int32} {M : Mem} (hM : KS S11 M0 M) : Fr S11 M0 (mX7_advance_b230 135 y1 M) := by
  unfold mX7_advance_b230
  exact (Fr.bw (by decide) hM (fun M42 hM42 => (Fr.ok hM42)))
theorem gX7_advance_b195 {ih141 : Mem → Option (Mem × Int32)} {y1 : Int32} {M : Mem} (hih141 : ∀ (v0 : Mem), KS S11 M0 v0 → Fr S11 M0 (ih141 v0)) (hM : KS S11 M0 M) : Fr S11 M0 (mX7_advance_b195 135 ih141 y1 M) := by
  unfold mX7_advance_b195
  exact (Fr.bw (by decide) hM (fun M45 hM45 => (Fr.bw (by decide) hM45 (fun M47 hM47 => (hih141 _ hM47)))))
theorem gX7_advance_b141 {ih141 : Mem → Option (Mem × Int32)} {M : Mem} (hih141 : ∀ (v0 : Mem), KS S11 M0 v0 → Fr S11 M0 (ih141 v0)) (hM : KS S11 M0 M) : Fr S11 M0 (mX7_advance_b141 135 ih141 M) := by
  unfold mX7_advance_b141
  exact (Fr.c (fun r35 => (Fr.c (fun r38 => (Fr.i (Fr.i (gX7_advance_b230 hM) (gX7_advance_b230 hM)) (Fr.i (gX7_advance_b195 hih141 hM) (Fr.c (fun r50 => (gX7_advance_b195 hih141 hM)))))))))
theorem gX7_advance_l141_n  : ∀ (n : Nat) (v0 : Mem), KS S11 M0 v0 → Fr S11 M0 (mX7_advance_l141 135 n v0) := by
  intro n
  induction n with
  | zero => intro v0 h; exact Fr.n
  | succ n IH => intro v0 h; exact gX7_advance_b141  IH h
theorem gX7_advance_l141  {v0 : Mem} {n : Nat} (h : KS S11 M0 v0) : Fr S11 M0 (mX7_advance_l141 135 n v0) := gX7_advance_l141_n   n v0 h
theorem gX7_advance_b123 {y1 : Int32} {M : Mem} (hM : KS S11 M0 M) : Fr S11 M0 (mX7_advance_b123 135 y1 M) := by
  unfold mX7_advance_b123
  exact (Fr.bw (by decide) hM (fun M60 hM60 => (Fr.ok hM60)))
theorem gX7_advance_b76 {ih76 : Mem → Option (Mem × Int32)} {M : Mem} (hih76 : ∀ (v0 : Mem), KS S11 M0 v0 → Fr S11 M0 (ih76 v0)) (hM : KS S11 M0 M) : Fr S11 M0 (mX7_advance_b76 135 ih76 M) := by
  unfold mX7_advance_b76
  exact (Fr.c (fun r53 => (Fr.c (fun r56 => (Fr.i (Fr.i (gX7_advance_b123 hM) (gX7_advance_b123 hM)) (Fr.bw (by decide) hM (fun M62 hM62 => (hih76 _ hM62))))))))
theorem gX7_advance_l76_n  : ∀ (n : Nat) (v0 : Mem), KS S11 M0 v0 → Fr S11 M0 (mX7_advance_l76 135 n v0) := by
  intro n
  induction n with
  | zero => intro v0 h; exact Fr.n
  | succ n IH => intro v0 h; exact gX7_advance_b76  IH h
theorem gX7_advance_l76  {v0 : Mem} {n : Nat} (h : KS S11 M0 v0) : Fr S11 M0 (mX7_advance_l76 135 n v0) := gX7_advance_l76_n   n v0 h
end FFrds
section FST
variable {M N M0 : Mem}
theorem fr_next : Fr SC M (mX4_nextToken 2 M) := fX4_nextToken KS.rf
theorem fr_adv : Fr SN N (mX7_advance 135 N) := fX7_advance KS.rf
theorem g_l76 (n : Nat) (M : Mem) (h : KS S11 M0 M) : Fr S11 M0 (mX7_advance_l76 135 n M) := gX7_advance_l76 h
theorem g_l141 (n : Nat) (M : Mem) (h : KS S11 M0 M) : Fr S11 M0 (mX7_advance_l141 135 n M) := gX7_advance_l141 h
end FST
end
/-! part 60g.stmt -/
section
/-! a statement, read by both -/
section ST
variable {M N M0 N0 : Mem}
theorem o_l76 : ∀ (n : Nat) (M : Mem), Pc (mX7_advance_l76 135 n M) (fun q => q.2 = 1) := by
  intro n
  induction n with
  | zero => intro M; exact Pc.n
  | succ n IH =>
    intro M
    show Pc (mX7_advance_b76 135 (mX7_advance_l76 135 n) M) _
    unfold mX7_advance_b76 mX7_advance_b123
    exact Pc.c (Pc.self _) (fun _ _ => Pc.c (Pc.self _) (fun _ _ => Pc.i (fun _ => Pc.i (fun _ => Pc.b (fun _ _ => Pc.ok rfl)) (fun _ => Pc.b (fun _ _ => Pc.ok rfl))) (fun _ => Pc.b (fun _ _ => IH _))))
theorem o_l141 : ∀ (n : Nat) (M : Mem), Pc (mX7_advance_l141 135 n M) (fun q => q.2 = 1) := by
  intro n
  induction n with
  | zero => intro M; exact Pc.n
  | succ n IH =>
    intro M
    show Pc (mX7_advance_b141 135 (mX7_advance_l141 135 n) M) _
    unfold mX7_advance_b141 mX7_advance_b195 mX7_advance_b230
    exact Pc.c (Pc.self _) (fun _ _ => Pc.c (Pc.self _) (fun _ _ => Pc.i (fun _ => Pc.i (fun _ => Pc.b (fun _ _ => Pc.ok rfl)) (fun _ => Pc.b (fun _ _ => Pc.ok rfl))) (fun _ => Pc.i (fun _ => Pc.b (fun _ _ => Pc.b (fun _ _ => IH _))) (fun _ => Pc.c (Pc.self _) (fun _ _ => Pc.b (fun _ _ => Pc.b (fun _ _ => IH _)))))))
theorem o_l0 : ∀ (n : Nat) (M : Mem), Pc (mX7_advance_l0 135 n M) (fun q => q.2 = 1) := by
  intro n
  induction n with
  | zero => intro M; exact Pc.n
  | succ n IH =>
    intro M
    show Pc (mX7_advance_b0 135 (mX7_advance_l0 135 n) M) _
    unfold mX7_advance_b0 mX7_advance_b26
    exact Pc.c (Pc.self _) (fun _ _ => Pc.i (fun _ => Pc.b (fun _ _ => IH _)) (fun _ => Pc.c (Pc.self _) (fun _ _ => Pc.i (fun _ => Pc.b (fun _ _ => IH _)) (fun _ => Pc.b (fun _ _ => Pc.c (Pc.self _) (fun _ _ => Pc.i (fun _ => Pc.b (fun _ _ => Pc.ok rfl)) (fun _ => Pc.c (Pc.self _) (fun _ _ => Pc.i (fun _ => Pc.c (Pc.self _) (fun _ _ => Pc.i (fun _ => Pc.b (fun _ _ => Pc.i (fun _ => Pc.b (fun _ _ => Pc.ok rfl)) (fun _ => Pc.b (fun _ _ => Pc.ok rfl)))) (fun _ => Pc.b (fun _ _ => o_l141 _ _)))) (fun _ => o_l76 _ _)))))))))
theorem o_adv : Pc (mX7_advance 135 N) (fun q => q.2 = 1) := by
  unfold mX7_advance
  exact o_l0 _ _
/-- both are about to read a token -/
def NX (M N : Mem)  : Prop := (RT M N) ∧ (rd M 2 5 = rd N 135 12) ∧ (0 ≤ (rd N 135 12).toInt) ∧ ((rd N 135 12).toInt ≤ (rd N 135 10).toInt)
theorem NX.rt {M N : Mem}  (h : NX M N) : RT M N := h.1
theorem NX.nx {M N : Mem}  (h : NX M N) : rd M 2 5 = rd N 135 12 := h.2.1
theorem NX.b0 {M N : Mem}  (h : NX M N) : 0 ≤ (rd N 135 12).toInt := h.2.2.1
theorem NX.b2 {M N : Mem}  (h : NX M N) : (rd N 135 12).toInt ≤ (rd N 135 10).toInt := h.2.2.2
theorem TT.n (h : TT M N) : NX M N := ⟨h.rt, h.nx, by have := h.b0; have := h.b1; omega, h.b2⟩
/-- within a statement: the class's part is that of f -/
def BX (f : Nat → Int32) (M N : Mem)  : Prop := (NX M N) ∧ (PR 13 M f) ∧ (rd M 2 0 = 0) ∧ (rd N 135 15 = 0) ∧ (rd M 2 1 = rd N 135 16)
theorem BX.nx {f : Nat → Int32} {M N : Mem}  (h : BX f M N) : NX M N := h.1
theorem BX.pr {f : Nat → Int32} {M N : Mem}  (h : BX f M N) : PR 13 M f := h.2.1
theorem BX.k0 {f : Nat → Int32} {M N : Mem}  (h : BX f M N) : rd M 2 0 = 0 := h.2.2.1
theorem BX.n0 {f : Nat → Int32} {M N : Mem}  (h : BX f M N) : rd N 135 15 = 0 := h.2.2.2.1
theorem BX.pp {f : Nat → Int32} {M N : Mem}  (h : BX f M N) : rd M 2 1 = rd N 135 16 := h.2.2.2.2
variable {f : Nat → Int32} {α β : Type} {R : α → β → Prop}
theorem adv2 {k : Mem → Unit → Option α} {k' : Mem → Int32 → Option β} (h : BX f M N) (hk : ∀ M' N', TT M' N' → BX f M' N' → KS SC M M' → KS SN N N' → R2 (k M' ()) (k' N' 1) R) : R2 (cal (mX4_nextToken 2 M) k) (cal (mX7_advance 135 N) k') R := by
  refine R2.mm (((tk_next h.nx.rt h.nx.nx h.nx.b0 h.nx.b2).lP fr_next.pc).rP (Pc.and fr_adv.pc o_adv)) (fun M' r N' q p => ?_)
  obtain ⟨⟨t, kM⟩, kN, e⟩ := p
  have e : q = 1 := e
  subst e
  refine hk M' N' t ⟨t.n, h.pr.ks kM (fun c j h1 h2 q => ?_), ?_, ?_, ?_⟩ kM kN
  · have q1 := q.1; omega
  · rw [kM 2 0 (by decide)]; exact h.k0
  · rw [kN 135 15 (by decide)]; exact h.n0
  · rw [kM 2 1 (by decide), kN 135 16 (by decide)]; exact h.pp
/-- what a statement, its semicolon included, gives -/
def SRel (a : Mem × Unit) (b : Mem × Int32) : Prop := (¬ b.2 = 0 ∧ BX (row 137 b.1) a.1 b.1) ∨ (b.2 = 0 ∧ ¬ rd a.1 2 0 = 0 ∧ rd a.1 2 0 = rd b.1 135 15 ∧ rd a.1 2 1 = rd b.1 135 16)
def closT (N : Mem) : Option (Mem × Int32) := ite2 (rd N 135 13 = (4 : Int32)) (some (N, (1 : Int32))) (cal (mX7_fail 135 (2 : Int32) N) (fun M8 r7 => chk (isB r7) (some (M8, r7))))
def KK (N : Mem) (r : Int32) : Option (Mem × Int32) := ite2 (r = 0) (some (N, (0 : Int32))) (closT N)
theorem pc_fail {x : Int32} : Pc (mX7_fail 135 x N) (fun q => q.2 = 0 ∧ rd q.1 135 15 = (if rd N 135 13 = 1 then 1 else x) ∧ rd q.1 135 16 = rd N 135 11) := by
  have b14 : ∀ y : Int32, Pc (mX7_fail_b14 135 y N) (fun q => q.2 = 0 ∧ rd q.1 135 15 = y ∧ rd q.1 135 16 = rd N 135 11) := by
    intro y
    unfold mX7_fail_b14
    refine Pc.b (fun M2 e2 => Pc.b (fun M4 e4 => Pc.ok ⟨rfl, ?_, ?_⟩))
    · show rd M4 135 15 = y
      rw [e4, rd_wj (by decide), e2, rd_we]
    · show rd M4 135 16 = _
      rw [e4, rd_we, e2, rd_wj (by decide)]
  unfold mX7_fail
  refine Pc.i (fun c => ?_) (fun c => ?_)
  · rw [if_pos c]; exact b14 _
  · rw [if_neg c]; exact b14 _
theorem tail_err {w : Nat} {e : Int32} (he : ¬ e = 0) : ∀ (n : Nat) (x4 : Int32) (M : Mem), Pc (mX4_readStatement_l55v1 2 13 w n e x4 M) (fun a => rd a.1 2 0 = e ∧ rd a.1 2 1 = rd M 2 4) := by
  intro n
  induction n with
  | zero => intro x4 M; exact Pc.n
  | succ n IH =>
    intro x4 M
    show Pc (mX4_readStatement_b55v1 2 13 w (mX4_readStatement_l55v1 2 13 w n) e x4 M) _
    unfold mX4_readStatement_b55v1 mX4_readStatement_b110v1 mX4_readStatement_b131v1 mX4_readStatement_b148
    refine Pc.i (fun _ => Pc.i (fun q => absurd q he) (fun _ => Pc.i (fun q => absurd q he) (fun _ => Pc.b (fun M8 e8 => Pc.b (fun M10 e10 => Pc.ok ⟨?_, ?_⟩))))) (fun _ => Pc.k (fun _ => Pc.b (fun M46 e46 => Pc.i (fun q => absurd q he) (fun _ => Pc.b (fun x _ => Pc.mono (IH x M46) (fun q hq => ⟨hq.1, ?_⟩))))))
    · show rd M10 2 0 = e
      rw [e10, rd_wj (by decide), e8, rd_we]
    · show rd M10 2 1 = _
      rw [e10, rd_we, e8, rd_wj (by decide)]
    · rw [hq.2, e46]; exact rd_wk (by decide)
theorem tail_err0 {e : Int32} (he : ¬ e = 0) : ∀ (n : Nat) (x4 : Int32) (M : Mem), Pc (mX4_readStatement_l55 2 13 n e x4 M) (fun a => rd a.1 2 0 = e ∧ rd a.1 2 1 = rd M 2 4) := by
  intro n
  induction n with
  | zero => intro x4 M; exact Pc.n
  | succ n IH =>
    intro x4 M
    show Pc (mX4_readStatement_b55 2 13 (mX4_readStatement_l55 2 13 n) e x4 M) _
    unfold mX4_readStatement_b55 mX4_readStatement_b110 mX4_readStatement_b131 mX4_readStatement_b148
    refine Pc.i (fun _ => Pc.i (fun q => absurd q he) (fun _ => Pc.i (fun q => absurd q he) (fun _ => Pc.b (fun M8 e8 => Pc.b (fun M10 e10 => Pc.ok ⟨?_, ?_⟩))))) (fun _ => Pc.k (fun _ => Pc.b (fun M46 e46 => Pc.i (fun q => absurd q he) (fun _ => Pc.b (fun x _ => Pc.mono (IH x M46) (fun q hq => ⟨hq.1, ?_⟩))))))
    · show rd M10 2 0 = e
      rw [e10, rd_wj (by decide), e8, rd_we]
    · show rd M10 2 1 = _
      rw [e10, rd_we, e8, rd_wj (by decide)]
    · rw [hq.2, e46]; exact rd_wk (by decide)
/-- an error, told by both -/
theorem err2 {x : Option (Mem × Unit)} {e v : Int32} {K : Mem → Int32 → Option (Mem × Int32)} (he : ¬ e = 0) (hx : Pc x (fun a => rd a.1 2 0 = e ∧ rd a.1 2 1 = rd M 2 4)) (h4 : rd M 2 4 = rd N 135 11) (hv : e = if rd N 135 13 = 1 then 1 else v) (hK : ∀ M1, Pc (K M1 0) (fun q => q = (M1, 0))) : R2 x (cal (mX7_fail 135 v N) K) SRel := by
  refine R2.mr pc_fail (fun M1 r p => ?_)
  obtain ⟨e0, e15, e16⟩ := p
  have e0 : r = 0 := e0
  subst e0
  intro a b ha hb
  have h1 := hx a ha
  have h2 := hK M1 b hb
  subst h2
  refine Or.inr ⟨rfl, by rw [h1.1]; exact he, ?_, ?_⟩
  · rw [h1.1, hv]; exact e15.symm
  · rw [h1.2, h4]; exact e16.symm
/-- a number, read by both -/
theorem num2 {w i n : Nat} {idx lo hi : Int32} {j : Nat} {K : Mem → Int32 → Option (Mem × Int32)} (h3 : i < 3) (hT : TT M N) (hB : BX f M N) (hal : rd N 135 13 = 3 → rd M 2 7 = rd N 135 14 → (Alw w i 13 M ↔ lo.toInt ≤ (rd N 135 14).toInt ∧ (rd N 135 14).toInt ≤ hi.toInt)) (hj : idx.toInt = (j : Int)) (hK : ∀ M1, Pc (K M1 0) (fun q => q = (M1, 0)))
    (hk : ∀ M1 N1, M1 = wr M 3 i (rd N 135 14) → N1 = wr N 137 j (rd N 135 14) → (lo.toInt ≤ (rd N 135 14).toInt ∧ (rd N 135 14).toInt ≤ hi.toInt) → BX f M1 N1 → R2 (mX4_readStatement_l55v1 2 13 w n 0 (Int32.ofNat (i + 1)) M1) (cal (mX7_advance 135 N1) (fun M11 r10 => K M11 r10)) SRel) :
    R2 (cap (mX4_errorOfNumber 2 w 13 (Int32.ofNat i) M) (fun r57 => chk (okb (Int32.ofNat i) 3) (bnd (wr M (2 + 1) (Int32.ofNat i).toNatClampNeg (rd M 2 7)) (fun M61 => mX4_readStatement_b110v1 2 13 w (mX4_readStatement_l55v1 2 13 w n) r57 (Int32.ofNat i) M61)))) (cal (mX7_number 135 idx lo hi N) K) SRel := by
  have hb := hB.pr.bb
  rw [← hB.pr.nb] at hb
  have hc := c_of (a := i) (by omega)
  rw [hc]
  refine R2.cl (pc_eon h3 hb.2) (fun e he => R2.kl (fun _ => R2.bl (fun M61 e61 => ?_)))
  have e61 : M61 = wr M 3 i (rd M 2 7) := e61
  have m4 : rd M61 2 4 = rd N 135 11 := by rw [e61, rd_wk (by decide)]; exact hT.st
  have ex : ∀ x : Int32, x = Int32.ofNat i + 1 → x = Int32.ofNat (i + 1) := fun x h => h.trans (Int32.ofNat_add i 1).symm
  have er : ¬ e = 0 → ∀ v : Int32, e = (if rd N 135 13 = 1 then 1 else v) → R2 (mX4_readStatement_b110v1 2 13 w (mX4_readStatement_l55v1 2 13 w n) e (Int32.ofNat i) M61) (cal (mX7_fail 135 v N) (fun M15 r14 => chk (isB r14) (K M15 r14))) SRel := by
    intro h0 v hv
    unfold mX4_readStatement_b110v1
    refine R2.bl (fun x _ => err2 h0 (tail_err h0 n x M61) m4 hv (fun M1 => Pc.k (fun _ => hK M1)))
  unfold mX7_number
  simp only [cal_ite, cal_cap, cal_cal, cal_chk, cal_some, cal_bnd]
  rcases he with ⟨t, rfl⟩ | ⟨t1, t3, rfl⟩ | ⟨t, ⟨rfl, hA⟩ | ⟨rfl, hA⟩⟩
  · rw [hT.tk] at t
    refine R2.ir (fun q => absurd (t.symm.trans q) (by decide)) (fun _ => er (by decide) 2 (by rw [if_pos t]))
  · rw [hT.tk] at t1 t3
    exact R2.ir (fun q => absurd q t3) (fun _ => er (by decide) 2 (by rw [if_neg t1]))
  · rw [hT.tk] at t
    have hv := hT.vl t
    have hr := (hal t hv).mp hA
    refine R2.ir (fun _ => R2.cr (pc_btw (Int32.toInt_toInt64 _) (Int32.toInt_toInt64 _) (Int32.toInt_toInt64 _)) (fun r3 p3 => ?_)) (fun q => absurd t q)
    rcases p3 with ⟨p3, _⟩ | ⟨_, p3⟩
    · refine R2.ir (fun q => absurd (p3.symm.trans q) (by decide)) (fun _ => R2.kr (fun _ => R2.br (fun N1 e1 => ?_)))
      rw [i_clamp, show idx.toInt.toNat = j by omega] at e1
      have e1 : N1 = wr N 137 j (rd N 135 14) := e1
      rw [hv] at e61
      unfold mX4_readStatement_b110v1
      refine R2.bl (fun x hx => ?_)
      rw [ex x hx]
      have hB1 : BX f M61 N1 := by
        refine ⟨⟨?_, ?_, ?_, ?_⟩, hB.pr.mem (fun c j h1 h2 => ?_), ?_, ?_, ?_⟩
        · rw [e61, e1]; exact (hT.rt.lw ⟨by decide, fun q => absurd q (by decide)⟩).rw ⟨by decide, fun q => absurd q (by decide)⟩
        · rw [e61, e1, rd_wk (by decide), rd_wk (by decide)]; exact hT.nx
        · rw [e1, rd_wk (by decide)]; exact hB.nx.b0
        · rw [e1, rd_wk (by decide), rd_wk (by decide)]; exact hB.nx.b2
        · rw [e61]; exact rd_wk (by omega)
        · rw [e61, rd_wk (by decide)]; exact hB.k0
        · rw [e1, rd_wk (by decide)]; exact hB.n0
        · rw [e61, e1, rd_wk (by decide), rd_wk (by decide)]; exact hB.pp
      have := hk M61 N1 e61 e1 hr hB1
      intro a b ha hb
      refine this a b ha ?_
      obtain ⟨M11, r10, q1, q2⟩ := cal_s hb
      rw [q1]
      exact (chk_s q2).2
    · exact absurd hr p3
  · rw [hT.tk] at t
    have hv := hT.vl t
    have hr := mt (hal t hv).mpr hA
    refine R2.ir (fun _ => R2.cr (pc_btw (Int32.toInt_toInt64 _) (Int32.toInt_toInt64 _) (Int32.toInt_toInt64 _)) (fun r3 p3 => ?_)) (fun q => absurd t q)
    rcases p3 with ⟨_, p3⟩ | ⟨p3, _⟩
    · exact absurd p3 hr
    · exact R2.ir (fun _ => er (by decide) 3 (by rw [if_neg (by rw [t]; decide)])) (fun q => absurd p3 q)
end ST
end
/-! part 60h.words -/
section
/-! each statement, read by both -/
section WS
variable {M N M0 N0 : Mem} {f : Nat → Int32} {w n i : Nat} {β : Type} {y : Option β} {R : Mem × Unit → β → Prop}
def cntW (w : Nat) : Nat := if w = 0 ∨ w = 10 then 3 else if 4 ≤ w ∧ w ≤ 8 then 2 else 1
theorem cntW_le : cntW w ≤ 3 := by
  unfold cntW
  split
  · omega
  · split <;> omega
theorem step_n (hw : w < 11) (hi : i < cntW w) (h : ∀ n' M', M' = wr M 3 i 0 → R2 (cal (mX4_nextToken 2 M') (fun M55 _ => cap (mX4_errorOfNumber 2 w 13 (Int32.ofNat i) M55) (fun r57 => chk (okb (Int32.ofNat i) 3) (bnd (wr M55 (2 + 1) (Int32.ofNat i).toNatClampNeg (rd M55 2 7)) (fun M61 => mX4_readStatement_b110v1 2 13 w (mX4_readStatement_l55v1 2 13 w n') r57 (Int32.ofNat i) M61))))) y R) : R2 (mX4_readStatement_l55v1 2 13 w n 0 (Int32.ofNat i) M) y R := by
  have h3 : i < 3 := by have := cntW_le (w := w); omega
  cases n with
  | zero => exact R2.nl
  | succ n =>
    show R2 (mX4_readStatement_b55v1 2 13 w (mX4_readStatement_l55v1 2 13 w n) 0 (Int32.ofNat i) M) y R
    unfold mX4_readStatement_b55v1
    have ti : (Int32.ofNat i).toInt = (i : Int) := t_of (by omega)
    have hc := c_of (a := i) (by omega)
    refine R2.il (fun c => ?_) (fun _ => R2.kl (fun _ => R2.bl (fun M46 e46 => R2.il (fun _ => ?_) (fun q => absurd rfl q))))
    · have c := i_le.mp c
      rw [ti, show ((3 : Int32)).toInt = 3 from rfl] at c
      exfalso; omega
    · have e : mX5_numberCount w M46 = some (Int32.ofNat (cntW w)) := nc_at w hw
      rw [e]
      refine R2.cl (Pc.self _) (fun r er => ?_)
      cases er
      refine R2.il (fun c => ?_) (fun _ => h n M46 (by rw [e46, hc]))
      have c := i_le.mp c
      have tc : (Int32.ofNat (cntW w)).toInt = (cntW w : Int) := t_of (by have := cntW_le (w := w); omega)
      rw [ti, tc] at c
      exfalso; omega
theorem step_z (hw : w < 11) (hi : cntW w ≤ i) (h3 : i < 3) (h : ∀ n' M', M' = wr M 3 i 0 → R2 (mX4_readStatement_l55v1 2 13 w n' 0 (Int32.ofNat (i + 1)) M') y R) : R2 (mX4_readStatement_l55v1 2 13 w n 0 (Int32.ofNat i) M) y R := by
  cases n with
  | zero => exact R2.nl
  | succ n =>
    show R2 (mX4_readStatement_b55v1 2 13 w (mX4_readStatement_l55v1 2 13 w n) 0 (Int32.ofNat i) M) y R
    unfold mX4_readStatement_b55v1
    have ti : (Int32.ofNat i).toInt = (i : Int) := t_of (by omega)
    have hc := c_of (a := i) (by omega)
    have go : ∀ M46, M46 = wr M (2 + 1) (Int32.ofNat i).toNatClampNeg 0 → R2 (mX4_readStatement_b110v1 2 13 w (mX4_readStatement_l55v1 2 13 w n) 0 (Int32.ofNat i) M46) y R := by
      intro M46 e46
      unfold mX4_readStatement_b110v1
      refine R2.bl (fun x hx => ?_)
      have ex : x = Int32.ofNat (i + 1) := hx.trans (Int32.ofNat_add i 1).symm
      rw [ex]
      exact h n M46 (by rw [e46, hc])
    refine R2.il (fun c => ?_) (fun _ => R2.kl (fun _ => R2.bl (fun M46 e46 => R2.il (fun _ => ?_) (fun q => absurd rfl q))))
    · have c := i_le.mp c
      rw [ti, show ((3 : Int32)).toInt = 3 from rfl] at c
      exfalso; omega
    · have e : mX5_numberCount w M46 = some (Int32.ofNat (cntW w)) := nc_at w hw
      rw [e]
      refine R2.cl (Pc.self _) (fun r er => ?_)
      cases er
      refine R2.il (fun _ => go M46 e46) (fun c => ?_)
      have c := i_nle c
      have tc : (Int32.ofNat (cntW w)).toInt = (cntW w : Int) := t_of (by have := cntW_le (w := w); omega)
      rw [ti, tc] at c
      exfalso; omega
theorem step_e (h : R2 (cal (mX4_nextToken 2 M) (fun M40 _ => cap (mX4_errorIfNot 2 (4 : Int32) (0 : Int32) M40) (fun r42 => mX4_readStatement_b131v1 2 13 w r42 M40))) y R) : R2 (mX4_readStatement_l55v1 2 13 w n 0 (Int32.ofNat 3) M) y R := by
  cases n with
  | zero => exact R2.nl
  | succ n =>
    show R2 (mX4_readStatement_b55v1 2 13 w (mX4_readStatement_l55v1 2 13 w n) 0 (Int32.ofNat 3) M) y R
    unfold mX4_readStatement_b55v1
    exact R2.il (fun _ => R2.il (fun _ => h) (fun q => absurd rfl q)) (fun q => absurd (by decide) q)
/-- the semicolon -/
theorem fin2 (hT : TT M N) (hB : BX f M N) (hN : KS (fun k _ => k = 137) N N0) (ha : Pc (mX4_accept 2 w 13 M) (fun q => PR 13 q.1 (row 137 N0) ∧ KS (fun k _ => 13 ≤ k ∧ k ≤ 20) M q.1)) : R2 (cap (mX4_errorIfNot 2 (4 : Int32) (0 : Int32) M) (fun r42 => mX4_readStatement_b131v1 2 13 w r42 M)) (closT N0) SRel := by
  have e13 : rd N0 135 13 = rd N 135 13 := hN 135 13 (by decide)
  have e11 : rd N0 135 11 = rd N 135 11 := hN 135 11 (by decide)
  have er : ∀ e : Int32, ¬ e = 0 → e = (if rd N 135 13 = 1 then 1 else 2) → R2 (mX4_readStatement_b131v1 2 13 w e M) (cal (mX7_fail 135 (2 : Int32) N0) (fun M8 r7 => chk (isB r7) (some (M8, r7)))) SRel := by
    intro e he hv
    refine err2 he ?_ (hT.st.trans e11.symm) (by rw [e13]; exact hv) (fun M1 => Pc.k (fun _ => Pc.ok rfl))
    unfold mX4_readStatement_b131v1 mX4_readStatement_b148
    refine Pc.i (fun q => absurd q he) (fun _ => Pc.b (fun M8 e8 => Pc.b (fun M10 e10 => Pc.ok ⟨?_, ?_⟩)))
    · show rd M10 2 0 = e
      rw [e10, rd_wj (by decide), e8, rd_we]
    · show rd M10 2 1 = _
      rw [e10, rd_we, e8, rd_wj (by decide)]
  unfold closT
  rw [e13]
  refine R2.cl pc_ein (fun r p => ?_)
  rw [hT.tk] at p
  rcases p with ⟨t, rfl⟩ | ⟨_, t, rfl⟩ | ⟨t1, t4, rfl⟩
  · exact R2.ir (fun q => absurd (t.symm.trans q) (by decide)) (fun _ => er 1 (by decide) (by rw [if_pos t]))
  · refine R2.ir (fun _ => ?_) (fun q => absurd t q)
    unfold mX4_readStatement_b131v1
    refine R2.il (fun _ => R2.ml ha (fun M1 _ p => R2.ok (Or.inl ⟨(by decide : ¬ (1 : Int32) = 0), ?_⟩))) (fun q => absurd rfl q)
    have kM : KS (fun k _ => 13 ≤ k ∧ k ≤ 20) M M1 := p.2
    refine ⟨⟨⟨?_, ?_, fun i hi => ?_⟩, ?_, ?_, ?_⟩, p.1, ?_, ?_, ?_⟩
    · rw [kM 2 3 (by decide), hN 135 10 (by decide)]; exact hB.nx.rt.len
    · rw [hN 135 10 (by decide)]; exact hB.nx.rt.top
    · rw [kM 1 i (by show ¬ (13 ≤ 1 ∧ 1 ≤ 20); omega), hN 140 i (by show ¬ (140 : Nat) = 137; omega)]; rw [hN 135 10 (by decide)] at hi; exact hB.nx.rt.byt i hi
    · rw [kM 2 5 (by decide), hN 135 12 (by decide)]; exact hB.nx.nx
    · rw [hN 135 12 (by decide)]; exact hB.nx.b0
    · rw [hN 135 12 (by decide), hN 135 10 (by decide)]; exact hB.nx.b2
    · rw [kM 2 0 (by decide)]; exact hB.k0
    · rw [hN 135 15 (by decide)]; exact hB.n0
    · rw [kM 2 1 (by decide), hN 135 16 (by decide)]; exact hB.pp
  · exact R2.ir (fun q => absurd q t4) (fun _ => er 2 (by decide) (by rw [if_neg t1]))
/-! accept -/
theorem tn_l2 : ∀ (n : Nat) (x : Int32), mX5_toolNumber_l2 w M n x = mX5_toolNumber_l2 w m0 n x := by
  intro n
  induction n with
  | zero => intro x; rfl
  | succ n IH =>
    intro x
    show mX5_toolNumber_b2 w M (mX5_toolNumber_l2 w M n) x = mX5_toolNumber_b2 w m0 (mX5_toolNumber_l2 w m0 n) x
    rw [show mX5_toolNumber_l2 w M n = mX5_toolNumber_l2 w m0 n from funext IH]
    rfl
theorem tn_M (hw : w < 11) : mX5_toolNumber w M = some (if 5 ≤ w ∧ w ≤ 9 then Int32.ofNat (w - 5) else -1) := by
  rw [← tn_at w hw]
  unfold mX5_toolNumber
  exact tn_l2 5000 0
abbrev A13 (k _ : Nat) : Prop := 13 ≤ k ∧ k ≤ 20
theorem acc_sheet : Pc (mX4_accept 2 0 13 M) (fun q => q.1 = wr (wr (wr M 13 3 (rd M 3 0)) 13 4 (rd M 3 1)) 13 5 (rd M 3 2)) := by
  unfold mX4_accept mX1_putSheet
  have e : mX5_toolNumber 0 M = some (-1) := (tn_M (by decide)).trans (by decide)
  rw [e]
  refine Pc.c (Pc.self _) (fun r er => ?_)
  cases er
  refine Pc.i (fun _ => Pc.i (fun _ => Pc.k (fun _ => Pc.k (fun _ => Pc.k (fun _ => Pc.m (Pc.self _) (fun M1 _ e1 => ?_))))) (fun q => absurd rfl q)) (fun q => absurd rfl q)
  cases e1
  exact Pc.ok rfl
theorem acc_cost : Pc (mX4_accept 2 10 13 M) (fun q => q.1 = wr (wr (wr M 13 7 (rd M 3 0)) 13 8 (rd M 3 1)) 13 9 (rd M 3 2)) := by
  unfold mX4_accept mX1_putCosts
  have e : mX5_toolNumber 10 M = some (-1) := (tn_M (by decide)).trans (by decide)
  rw [e]
  refine Pc.c (Pc.self _) (fun r er => ?_)
  cases er
  refine Pc.i (fun _ => Pc.i (fun q => absurd q (by decide)) (fun _ => Pc.i (fun _ => Pc.k (fun _ => Pc.k (fun _ => Pc.k (fun _ => Pc.m (Pc.self _) (fun M1 _ e1 => ?_))))) (fun q => absurd rfl q))) (fun q => absurd rfl q)
  cases e1
  exact Pc.ok rfl
theorem pc_putTool {k t : Nat} {a b : Int32} (ht : t < 5) : Pc (mX1_putTool k (Int32.ofNat t) a b M) (fun q => q.1 = wr (wr M (k + 2) (2 * t) a) (k + 2) (2 * t + 1) b) := by
  unfold mX1_putTool
  have tt : (Int32.ofNat t).toInt = (t : Int) := t_of (by omega)
  have e2 := i_mulc (a := (2 : Int32)) (b := Int32.ofNat t) (c := 2) rfl (by omega) (by omega)
  have n1 : ((1 : Int32)).toInt = 1 := rfl
  have e3 := i_add (a := (2 : Int32) * Int32.ofNat t) (b := 1) (by omega) (by omega)
  refine Pc.i (fun c => ?_) (fun _ => Pc.i (fun c => ?_) (fun _ => Pc.k (fun _ => Pc.b (fun M5 e5 => Pc.k (fun _ => Pc.b (fun M8 e8 => Pc.ok ?_))))))
  · have c := i_lt.mp c
    rw [tt, show ((0 : Int32)).toInt = 0 from rfl] at c
    exfalso; omega
  · have c := i_le.mp c
    rw [tt, show ((5 : Int32)).toInt = 5 from rfl] at c
    exfalso; omega
  · rw [i_clamp, show ((2 : Int32) * Int32.ofNat t).toInt.toNat = 2 * t by omega] at e5
    rw [i_clamp, show ((2 : Int32) * Int32.ofNat t + 1).toInt.toNat = 2 * t + 1 by omega] at e8
    show M8 = _
    rw [e8, e5]
theorem acc_tool {t : Nat} (ht : t < 5) : Pc (mX4_accept 2 (5 + t) 13 M) (fun q => q.1 = wr (wr M 15 (2 * t) (rd M 3 0)) 15 (2 * t + 1) (rd M 3 1)) := by
  unfold mX4_accept
  have e : mX5_toolNumber (5 + t) M = some (Int32.ofNat t) := by
    have h := tn_M (w := 5 + t) (M := M) (by omega)
    rw [if_pos (by omega), show 5 + t - 5 = t by omega] at h
    exact h
  rw [e]
  refine Pc.c (Pc.self _) (fun r er => ?_)
  cases er
  have tt : (Int32.ofNat t).toInt = (t : Int) := t_of (by omega)
  refine Pc.i (fun q => ?_) (fun _ => Pc.k (fun _ => Pc.k (fun _ => Pc.m (pc_putTool ht) (fun M1 _ e1 => Pc.ok e1))))
  have q := congrArg Int32.toInt q
  rw [tt, show ((-1 : Int32)).toInt = -1 from rfl] at q
  exfalso; omega
theorem acc_back {m : Nat} (hm : (rd M 13 10).toInt = (m : Int)) (h8 : m < 8) : Pc (mX4_accept 2 4 13 M) (fun q => q.1 = wr (wr (wr M 16 m (rd M 3 0)) 17 m (rd M 3 1)) 13 10 (rd M 13 10 + 1)) := by
  unfold mX4_accept mX1_addBack
  have e : mX5_toolNumber 4 M = some (-1) := (tn_M (by decide)).trans (by decide)
  rw [e]
  refine Pc.c (Pc.self _) (fun r er => ?_)
  cases er
  refine Pc.i (fun _ => Pc.i (fun q => absurd q (by decide)) (fun _ => Pc.i (fun q => absurd q (by decide)) (fun _ => Pc.i (fun _ => Pc.k (fun _ => Pc.k (fun _ => Pc.m (Q := fun q => q.1 = wr (wr (wr M 16 m (rd M 3 0)) 17 m (rd M 3 1)) 13 10 (rd M 13 10 + 1)) ?_ (fun M1 _ e1 => Pc.ok e1)))) (fun q => absurd rfl q)))) (fun q => absurd rfl q)
  refine Pc.i (fun c => ?_) (fun _ => Pc.k (fun _ => Pc.b (fun M4 e4 => Pc.k (fun _ => Pc.b (fun M7 e7 => Pc.b (fun M8 e8 => Pc.ok ?_))))))
  · have c := i_le.mp c
    rw [hm, show ((8 : Int32)).toInt = 8 from rfl] at c
    exfalso; omega
  · rw [i_clamp, show (rd M 13 10).toInt.toNat = m by omega] at e4
    have e4 : M4 = wr M 16 m (rd M 3 0) := e4
    have r4 : rd M4 13 10 = rd M 13 10 := by rw [e4]; exact rd_wk (by decide)
    rw [r4, i_clamp, show (rd M 13 10).toInt.toNat = m by omega] at e7
    have e7 : M7 = wr M4 17 m (rd M 3 1) := e7
    have r7 : rd M7 13 10 = rd M 13 10 := by rw [e7, rd_wk (by decide)]; exact r4
    rw [r7] at e8
    show M8 = _
    rw [e8, e7, e4]
theorem acc_leg {m : Nat} (hw : w = 1 ∨ w = 2 ∨ w = 3) (hm : (rd M 13 0).toInt = (m : Int)) (h9 : m < 9) : Pc (mX4_accept 2 w 13 M) (fun q => ∀ k j, rd q.1 k j = rd (wr (wr (wr M 14 m (rd M 3 0)) 13 2 (if 0 < m ∧ w = 2 then rd M 13 2 ||| ((1 : Int32) <<< ((rd M 13 0 - 1) &&& 31)) else rd M 13 2)) 13 0 (rd M 13 0 + 1)) k j) := by
  unfold mX4_accept mX4_accept_b139 mX1_addLeg mX1_addLeg_b47
  have e : mX5_toolNumber w M = some (-1) := by
    have h := tn_M (w := w) (M := M) (by omega)
    rw [if_neg (by omega)] at h
    exact h
  rw [e]
  refine Pc.c (Pc.self _) (fun r er => ?_)
  cases er
  have go : ∀ x2 : Int32, (x2 = 0 ↔ ¬ w = 2) → Pc (ite2 ((9 : Int32) ≤ (rd M 13 0)) (some (M, ())) (chk (okb (rd M 13 0) 9) (bnd (wr M (13 + 1) ((rd M 13 0)).toNatClampNeg (rd M (2 + 1) ((0 : Int32)).toNatClampNeg)) (fun M4 => ite2 ((rd M4 13 0) ≤ 0) (bnd (wr M4 13 0 ((rd M4 13 0) + (1 : Int32))) (fun M6 => some (M6, ()))) (ite2 (x2 = 0) (bnd (wr M4 13 0 ((rd M4 13 0) + (1 : Int32))) (fun M6 => some (M6, ()))) (bnd (wr M4 13 2 ((rd M4 13 2) ||| ((1 : Int32) <<< (((rd M4 13 0) - (1 : Int32)) &&& 31)))) (fun M9 => (bnd (wr M9 13 0 ((rd M9 13 0) + (1 : Int32))) (fun M6 => some (M6, ())))))))))) (fun q : Mem × Unit => ∀ k j, rd q.1 k j = rd (wr (wr (wr M 14 m (rd M 3 0)) 13 2 (if 0 < m ∧ w = 2 then rd M 13 2 ||| ((1 : Int32) <<< ((rd M 13 0 - 1) &&& 31)) else rd M 13 2)) 13 0 (rd M 13 0 + 1)) k j) := by
    intro x2 hx
    refine Pc.i (fun c => ?_) (fun _ => Pc.k (fun _ => Pc.b (fun M4 e4 => ?_)))
    · have c := i_le.mp c
      rw [hm, show ((9 : Int32)).toInt = 9 from rfl] at c
      exfalso; omega
    · rw [i_clamp, show (rd M 13 0).toInt.toNat = m by omega] at e4
      have e4 : M4 = wr M 14 m (rd M 3 0) := e4
      have r0 : rd M4 13 0 = rd M 13 0 := by rw [e4]; exact rd_wk (by decide)
      have r2 : rd M4 13 2 = rd M 13 2 := by rw [e4]; exact rd_wk (by decide)
      have same : ¬ (0 < m ∧ w = 2) → Pc (bnd (wr M4 13 0 ((rd M4 13 0) + (1 : Int32))) (fun M6 => some (M6, ()))) (fun q : Mem × Unit => ∀ k j, rd q.1 k j = rd (wr (wr (wr M 14 m (rd M 3 0)) 13 2 (if 0 < m ∧ w = 2 then rd M 13 2 ||| ((1 : Int32) <<< ((rd M 13 0 - 1) &&& 31)) else rd M 13 2)) 13 0 (rd M 13 0 + 1)) k j) := by
        intro hn
        refine Pc.b (fun M6 e6 => Pc.ok (fun k j => ?_))
        show rd M6 k j = _
        rw [e6, r0, if_neg hn, rd_eq, rd_eq, rd_eq, ← e4]
        by_cases q : k = 13 ∧ j = 2
        · obtain ⟨rfl, rfl⟩ := q
          rw [if_neg (by decide), if_neg (by decide), if_pos (by decide)]; exact r2
        · rw [if_neg q]
      rw [r0]
      refine Pc.i (fun c => ?_) (fun c => Pc.i (fun c2 => ?_) (fun c2 => ?_))
      · have c := i_le.mp c
        rw [hm, show ((0 : Int32)).toInt = 0 from rfl] at c
        have := same (by omega)
        rw [r0] at this
        exact this
      · have := same (fun q => (hx.mp c2) q.2)
        rw [r0] at this
        exact this
      · have c := i_nle c
        rw [hm, show ((0 : Int32)).toInt = 0 from rfl] at c
        have h2 : 0 < m ∧ w = 2 := ⟨by omega, Decidable.byContradiction (fun q => c2 (hx.mpr q))⟩
        refine Pc.b (fun M9 e9 => Pc.b (fun M6 e6 => Pc.ok (fun k j => ?_)))
        have r9 : rd M9 13 0 = rd M 13 0 := by rw [e9, rd_wj (by decide)]; exact r0
        show rd M6 k j = _
        rw [e6, r9, e9, r2, if_pos h2, e4]
  refine Pc.i (fun _ => Pc.i (fun q => by omega) (fun _ => Pc.i (fun q => by omega) (fun _ => Pc.i (fun q => by omega) (fun _ => Pc.k (fun _ => Pc.i (fun c => ?_) (fun c => ?_)))))) (fun q => absurd rfl q)
  · exact Pc.m (go 1 ⟨fun q => absurd q (by decide), fun q => absurd c q⟩) (fun M1 _ e1 => Pc.ok e1)
  · exact Pc.m (go 0 ⟨fun _ => c, fun _ => rfl⟩) (fun M1 _ e1 => Pc.ok e1)
end WS
end
/-! part 60i.all -/
section
/-! the statements one by one -/
section AS
variable {M N M0 N0 : Mem} {f : Nat → Int32} {w n i : Nat} {α β : Type}
theorem adv_cg {x : Option α} {R : α → β → Prop} {k k' : Mem → Int32 → Option β} (h : ∀ N', KS SN N N' → k N' 1 = k' N' 1) (hx : R2 x (cal (mX7_advance 135 N) k') R) : R2 x (cal (mX7_advance 135 N) k) R := by
  intro a b ha hb
  obtain ⟨N', r, e1, e2⟩ := cal_s hb
  have er : r = 1 := o_adv _ e1
  subst er
  have hf : KS SN N N' := fr_adv.pc _ e1
  refine hx a b ha ?_
  rw [e1]
  show k' N' 1 = some b
  rw [← h N' hf]; exact e2
theorem adv_1 {x : Option α} {R : α → β → Prop} {A : Mem → Int32 → Option β} {B : Mem → Option β} (hx : R2 x (cal (mX7_advance 135 N) (fun M _ => B M)) R) : R2 x (cal (mX7_advance 135 N) (fun M r => ite2 (r = 0) (A M r) (B M))) R := adv_cg (k' := fun M _ => B M) (fun _ _ => if_neg (by decide)) hx
theorem alw0 {k : Nat} : Alw w 0 k M ↔ ((wF0.getD w 0).toInt ≤ (rd M 2 7).toInt ∧ (rd M 2 7).toInt ≤ (wF1.getD w 0).toInt) ∧ (w = 4 → LB k M < (rd M 2 7).toInt) := by
  unfold Alw; rw [if_pos rfl]
theorem alw1 {k : Nat} : Alw w 1 k M ↔ (0 ≤ (rd M 2 7).toInt ∧ (rd M 2 7).toInt ≤ (wF2.getD w 0).toInt) ∧ (w = 8 → (rd M 3 0).toInt ≤ (rd M 2 7).toInt) := by
  unfold Alw; rw [if_neg (by decide), if_pos rfl]
theorem alw2 {k : Nat} : Alw w 2 k M ↔ (0 ≤ (rd M 2 7).toInt ∧ (rd M 2 7).toInt ≤ (wF3.getD w 0).toInt) ∧ (w = 8 → (rd M 3 0).toInt ≤ (rd M 2 7).toInt) := by
  unfold Alw; rw [if_neg (by decide), if_neg (by decide)]
theorem BX.put3 {j : Nat} {v : Int32} (h : BX f M N) : BX f (wr M 3 j v) N := by
  refine ⟨⟨h.nx.rt.lw ⟨by decide, fun q => absurd q (by decide)⟩, ?_, h.nx.b0, h.nx.b2⟩, h.pr.mem (fun c j h1 h2 => rd_wk (by omega)), ?_, h.n0, ?_⟩
  · rw [rd_wk (by decide)]; exact h.nx.nx
  · rw [rd_wk (by decide)]; exact h.k0
  · rw [rd_wk (by decide)]; exact h.pp
/-- a number's place: from the token ahead of it to its own -/
theorem numX {idx lo hi : Int32} {j : Nat} {K : Mem → Int32 → Option (Mem × Int32)} (hw : w < 11) (hic : i < cntW w) (h : BX f M N)
    (hal : ∀ M' N', BX f M' N' → (∀ q, q ≠ i → rd M' 3 q = rd M 3 q) → rd M' 2 7 = rd N' 135 14 → (Alw w i 13 M' ↔ lo.toInt ≤ (rd N' 135 14).toInt ∧ (rd N' 135 14).toInt ≤ hi.toInt))
    (hj : idx.toInt = (j : Int)) (hK : ∀ M1, Pc (K M1 0) (fun q => q = (M1, 0)))
    (hk : ∀ n' M1 N1 v, BX f M1 N1 → (lo.toInt ≤ v.toInt ∧ v.toInt ≤ hi.toInt) → rd M1 3 i = v → (∀ q, q ≠ i → rd M1 3 q = rd M 3 q) → row 137 N1 = upf (row 137 N) j v → R2 (mX4_readStatement_l55v1 2 13 w n' 0 (Int32.ofNat (i + 1)) M1) (cal (mX7_advance 135 N1) (fun M11 r10 => K M11 r10)) SRel) :
    R2 (mX4_readStatement_l55v1 2 13 w n 0 (Int32.ofNat i) M) (cal (mX7_advance 135 N) (fun M3 _ => cal (mX7_number 135 idx lo hi M3) K)) SRel := by
  refine step_n hw hic (fun n' M' e' => ?_)
  have hB' : BX f M' N := by rw [e']; exact h.put3
  have h3 : i < 3 := by have := cntW_le (w := w); omega
  refine adv2 hB' (fun M55 N3 hT hB kM kN => ?_)
  have q55 : ∀ q, q ≠ i → rd M55 3 q = rd M 3 q := fun q hq => by
    rw [kM 3 q (fun z => absurd z.1 (by decide)), e', rd_wj hq]
  refine num2 h3 hT hB (fun _ hv => hal M55 N3 hB q55 hv) hj hK (fun M1 N1 e1 e2 hr hB1 => ?_)
  refine hk n' M1 N1 (rd N3 135 14) hB1 hr (by rw [e1, rd_we]) (fun q hq => ?_) ?_
  · rw [e1, rd_wj hq]; exact q55 q hq
  · rw [e2, row_wr, row_ks kN (fun j z => absurd z.1 (by decide))]
/-- the end of a statement -/
theorem endX {G : Mem → Option (Mem × Int32)} (h : BX f M N) (hk : ∀ M' N', TT M' N' → BX f M' N' → (∀ q, rd M' 3 q = rd M 3 q) → row 137 N' = row 137 N → R2 (cap (mX4_errorIfNot 2 (4 : Int32) (0 : Int32) M') (fun r42 => mX4_readStatement_b131v1 2 13 w r42 M')) (G N') SRel) : R2 (mX4_readStatement_l55v1 2 13 w n 0 (Int32.ofNat 3) M) (cal (mX7_advance 135 N) (fun M11 _ => G M11)) SRel := by
  refine step_e (adv2 h (fun M' N' hT hB kM kN => hk M' N' hT hB (fun q => kM 3 q (fun z => absurd z.1 (by decide))) (row_ks kN (fun j z => absurd z.1 (by decide)))))
theorem kk_0 (M1 : Mem) : Pc (chk (isB 0) (KK M1 0)) (fun q => q = (M1, 0)) := Pc.k (fun _ => Pc.i (fun _ => Pc.ok rfl) (fun q => absurd rfl q))
theorem kk_1 : chk (isB 1) (KK N 1) = closT N := rfl
theorem ite_10 {γ : Type} {a b : Option γ} : ite2 ((1 : Int32) = 0) a b = b := if_neg (by decide)
/-- the word's own error -/
theorem word_err {e v : Int32} (he : ¬ e = 0) (hT : TT M N) (ht : rd N 135 13 = 2) (hv : e = v) : R2 (mX4_readStatement_b51v1 2 13 w e M) (cal (mX7_fail 135 v N) (fun M15 r14 => chk (isB r14) (chk (isB r14) (KK M15 r14)))) SRel := by
  unfold mX4_readStatement_b51v1
  exact err2 he (tail_err he 5000 0 M) hT.st (by rw [if_neg (by rw [ht]; decide)]; exact hv) (fun M1 => Pc.k (fun _ => kk_0 M1))
theorem st_sheet (hT : TT M N) (h : BX (row 137 N) M N) : R2 (mX4_readStatement_b32v1 2 13 0 M) (cal (mX7_sheetStatement 135 N) (fun q r => chk (isB r) (KK q r))) SRel := by
  unfold mX4_readStatement_b32v1 mX4_readStatement_b51v1 mX7_sheetStatement
  simp only [cal_ite, cal_cap, cal_cal, cal_chk, cal_some, cal_bnd]
  refine R2.cl (eow_other (by decide)) (fun e he => ?_)
  have he : e = 0 := by
    rcases he with ⟨q, _⟩ | ⟨_, q⟩
    · exact absurd q (by decide)
    · exact q
  subst he
  generalize (5000 : Nat) = n0
  refine numX (i := 0) (j := 36) (by decide) (by decide) h (fun M' N' hB _ hv => ?_) (by decide) (fun M1 => Pc.i (fun _ => kk_0 M1) (fun q => absurd rfl q)) (fun n1 M1 N1 v1 b1 r1 s1 t1 w1 => ?_)
  · rw [alw0, hv]; exact ⟨fun h => h.1, fun h => ⟨h, fun q => absurd q (by decide)⟩⟩
  refine adv_1 ?_
  refine numX (i := 1) (j := 37) (by decide) (by decide) b1 (fun M' N' hB _ hv => ?_) (by decide) (fun M1 => Pc.i (fun _ => kk_0 M1) (fun q => absurd rfl q)) (fun n2 M2 N2 v2 b2 r2 s2 t2 w2 => ?_)
  · rw [alw1, hv]; exact ⟨fun h => h.1, fun h => ⟨h, fun q => absurd q (by decide)⟩⟩
  refine adv_1 ?_
  refine numX (i := 2) (j := 38) (by decide) (by decide) b2 (fun M' N' hB _ hv => ?_) (by decide) (fun M1 => Pc.i (fun _ => kk_0 M1) (fun q => absurd rfl q)) (fun n3 M3 N3 v3 b3 r3 s3 t3 w3 => ?_)
  · rw [alw2, hv]; exact ⟨fun h => h.1, fun h => ⟨h, fun q => absurd q (by decide)⟩⟩
  refine adv_cg (k' := fun M _ => closT M) (fun N' _ => ite_10.trans kk_1) ?_
  refine endX b3 (fun M4 N4 hT4 b4 s4 w4 => fin2 hT4 b4 KS.rf (Pc.mono acc_sheet (fun q hq => ?_)))
  rw [hq, w4, w3, w2, w1, s4, s4, s4, s3, t3 0 (by decide), t3 1 (by decide), s2, t2 0 (by decide), s1]
  exact ⟨b4.pr.sheet, ((KS.rf.wr (by decide)).wr (by decide)).wr (by decide)⟩
theorem st_cost (hT : TT M N) (h : BX (row 137 N) M N) : R2 (mX4_readStatement_b32v1 2 13 10 M) (cal (mX7_costStatement 135 N) (fun q r => chk (isB r) (KK q r))) SRel := by
  unfold mX4_readStatement_b32v1 mX4_readStatement_b51v1 mX7_costStatement
  simp only [cal_ite, cal_cap, cal_cal, cal_chk, cal_some, cal_bnd]
  refine R2.cl (eow_other (by decide)) (fun e he => ?_)
  have he : e = 0 := by
    rcases he with ⟨q, _⟩ | ⟨_, q⟩
    · exact absurd q (by decide)
    · exact q
  subst he
  generalize (5000 : Nat) = n0
  refine numX (i := 0) (j := 49) (by decide) (by decide) h (fun M' N' hB _ hv => ?_) (by decide) (fun M1 => Pc.i (fun _ => kk_0 M1) (fun q => absurd rfl q)) (fun n1 M1 N1 v1 b1 r1 s1 t1 w1 => ?_)
  · rw [alw0, hv]; exact ⟨fun h => h.1, fun h => ⟨h, fun q => absurd q (by decide)⟩⟩
  refine adv_1 ?_
  refine numX (i := 1) (j := 50) (by decide) (by decide) b1 (fun M' N' hB _ hv => ?_) (by decide) (fun M1 => Pc.i (fun _ => kk_0 M1) (fun q => absurd rfl q)) (fun n2 M2 N2 v2 b2 r2 s2 t2 w2 => ?_)
  · rw [alw1, hv]; exact ⟨fun h => h.1, fun h => ⟨h, fun q => absurd q (by decide)⟩⟩
  refine adv_1 ?_
  refine numX (i := 2) (j := 51) (by decide) (by decide) b2 (fun M' N' hB _ hv => ?_) (by decide) (fun M1 => Pc.i (fun _ => kk_0 M1) (fun q => absurd rfl q)) (fun n3 M3 N3 v3 b3 r3 s3 t3 w3 => ?_)
  · rw [alw2, hv]; exact ⟨fun h => h.1, fun h => ⟨h, fun q => absurd q (by decide)⟩⟩
  refine adv_cg (k' := fun M _ => closT M) (fun N' _ => ite_10.trans kk_1) ?_
  refine endX b3 (fun M4 N4 hT4 b4 s4 w4 => fin2 hT4 b4 KS.rf (Pc.mono acc_cost (fun q hq => ?_)))
  rw [hq, w4, w3, w2, w1, s4, s4, s4, s3, t3 0 (by decide), t3 1 (by decide), s2, t2 0 (by decide), s1]
  exact ⟨b4.pr.costs, ((KS.rf.wr (by decide)).wr (by decide)).wr (by decide)⟩
/-! tools -/
theorem st_tool0 {t : Nat} (ht : t < 5) (hT : TT M N) (h : BX (row 137 N) M N) : R2 (mX4_readStatement_b32v1 2 13 (5 + t) M) (cal (mX7_toolStatement 135 (Int32.ofNat t) N) (fun q r => chk (isB r) (KK q r))) SRel := by
  unfold mX4_readStatement_b32v1 mX4_readStatement_b51v1 mX7_toolStatement
  simp only [cal_ite, cal_cap, cal_cal, cal_chk, cal_some, cal_bnd, bnd_e]
  have tt : (Int32.ofNat t).toInt = (t : Int) := t_of (by omega)
  have e2 := i_mulc (a := (2 : Int32)) (b := Int32.ofNat t) (c := 2) rfl (by omega) (by omega)
  have n39 : ((39 : Int32)).toInt = 39 := rfl
  have n1 : ((1 : Int32)).toInt = 1 := rfl
  have e3 := i_add (a := (39 : Int32)) (b := (2 : Int32) * Int32.ofNat t) (by omega) (by omega)
  have e4 := i_add (a := (39 : Int32) + (2 : Int32) * Int32.ofNat t) (b := 1) (by omega) (by omega)
  have hF0 : (wF0.getD (5 + t) 0).toInt = 0 ∧ (wF1.getD (5 + t) 0).toInt = 9999 := by
    have key : ∀ t, t < 5 → (wF0.getD (5 + t) 0).toInt = 0 ∧ (wF1.getD (5 + t) 0).toInt = 9999 := by decide
    exact key t ht
  have hF2 : t < 4 → (wF2.getD (5 + t) 0).toInt = 9999 := by
    have key : ∀ t, t < 4 → (wF2.getD (5 + t) 0).toInt = 9999 := by decide
    exact key t
  have hc : cntW (5 + t) = if t = 4 then 1 else 2 := by
    have key : ∀ t, t < 5 → cntW (5 + t) = if t = 4 then 1 else 2 := by decide
    exact key t ht
  refine R2.cl (eow_other (by omega)) (fun e he => ?_)
  have he : e = 0 := by
    rcases he with ⟨q, _⟩ | ⟨_, q⟩
    · omega
    · exact q
  subst he
  generalize (5000 : Nat) = n0
  refine numX (w := 5 + t) (i := 0) (j := 39 + 2 * t) (by omega) (by rw [hc]; split <;> omega) h (fun M' N' hB _ hv => ?_) (by omega) (fun M1 => Pc.i (fun _ => kk_0 M1) (fun q => absurd rfl q)) (fun n1 M1 N1 v1 b1 r1 s1 t1 w1 => ?_)
  · rw [alw0, hv, hF0.1, hF0.2]; exact ⟨fun h => h.1, fun h => ⟨h, fun q => by omega⟩⟩
  by_cases h4 : t = 4
  · subst h4
    refine adv_cg (k' := fun M _ => closT M) (fun N' _ => ite_10.trans ?_) ?_
    · unfold mX7_toolStatement_b59
      rfl
    refine step_z (by decide) (by decide) (by decide) (fun n2 M2 e2 => step_z (by decide) (by decide) (by decide) (fun n3 M3 e3 => ?_))
    have b3 : BX (row 137 N) M3 N1 := by rw [e3, e2]; exact b1.put3.put3
    refine endX b3 (fun M4 N4 hT4 b4 s4 w4 => fin2 hT4 b4 KS.rf (Pc.mono (acc_tool (t := 4) (by decide)) (fun q hq => ?_)))
    have z0 : rd M3 3 0 = v1 := by rw [e3, rd_wj (by decide), e2, rd_wj (by decide)]; exact s1
    have z1 : rd M3 3 1 = 0 := by rw [e3, rd_wj (by decide), e2, rd_we]
    rw [hq, s4, s4, z0, z1, w4, w1]
    refine ⟨?_, (KS.rf.wr (by decide)).wr (by decide)⟩
    have := b4.pr.tool (t := 4) (a := v1) (b := 0) (by decide) (fun _ => rfl)
    have e9 : upf (upf (row 137 N) (39 + 2 * 4) v1) (40 + 2 * 4) 0 = upf (row 137 N) (39 + 2 * 4) v1 := by
      funext j
      unfold upf
      by_cases q : j = 40 + 2 * 4
      · rw [if_pos q, if_neg (by omega), q]; exact b4.pr.fl.symm
      · rw [if_neg q]
    rw [e9] at this
    exact this
  · have ne4 : ¬ Int32.ofNat t = 4 := fun q => by
      have q := congrArg Int32.toInt q
      rw [tt, show ((4 : Int32)).toInt = 4 from rfl] at q; omega
    have v1' : rd N1 137 (39 + 2 * t) = v1 := by
      have := congrFun w1 (39 + 2 * t)
      rw [upf_e] at this; exact this
    have go : ∀ lo : Int32, lo = (if t = 3 then v1 else 0) → R2 (mX4_readStatement_l55v1 2 13 (5 + t) n1 0 (Int32.ofNat (0 + 1)) M1) (cal (mX7_advance 135 N1) (fun M3 _ => cal (mX7_number 135 ((39 : Int32) + (2 : Int32) * Int32.ofNat t + 1) lo (9999 : Int32) M3) (fun M13 r12 => ite2 (r12 = 0) (chk (isB 0) (KK M13 0)) (chk (isB 1) (KK M13 1))))) SRel := by
      intro lo hlo
      refine numX (w := 5 + t) (i := 1) (j := 40 + 2 * t) (by omega) (by rw [hc, if_neg h4]; decide) b1 (fun M' N' hB s hv => ?_) (by omega) (fun M1 => Pc.i (fun _ => kk_0 M1) (fun q => absurd rfl q)) (fun n2 M2 N2 v2 b2 r2 s2 t2 w2 => ?_)
      · rw [alw1, hv, hF2 (by omega), s 0 (by decide), s1, hlo]
        by_cases h3 : t = 3
        · rw [if_pos h3]
          have r0 : (0 : Int) ≤ v1.toInt := r1.1
          exact ⟨fun h => ⟨h.2 (by omega), h.1.2⟩, fun h => ⟨⟨by omega, h.2⟩, fun _ => h.1⟩⟩
        · rw [if_neg h3]
          exact ⟨fun h => h.1, fun h => ⟨h, fun q => by omega⟩⟩
      · refine adv_cg (k' := fun M _ => closT M) (fun N' _ => ite_10.trans kk_1) ?_
        refine step_z (by omega) (by rw [hc, if_neg h4]; decide) (by decide) (fun n3 M3 e3 => ?_)
        have b3 : BX (row 137 N) M3 N2 := by rw [e3]; exact b2.put3
        refine endX b3 (fun M4 N4 hT4 b4 s4 w4 => fin2 hT4 b4 KS.rf (Pc.mono (acc_tool (t := t) ht) (fun q hq => ?_)))
        have z0 : rd M3 3 0 = v1 := by rw [e3, rd_wj (by decide), t2 0 (by decide)]; exact s1
        have z1 : rd M3 3 1 = v2 := by rw [e3, rd_wj (by decide)]; exact s2
        rw [hq, s4, s4, z0, z1, w4, w2, w1]
        exact ⟨b4.pr.tool ht (fun q => absurd q h4), (KS.rf.wr (show 13 ≤ 15 ∧ 15 ≤ 20 by decide)).wr (show 13 ≤ 15 ∧ 15 ≤ 20 by decide)⟩
    refine adv_cg (fun N' kN => ite_10.trans ((if_neg ne4).trans ?_)) (go (if t = 3 then v1 else 0) rfl)
    by_cases h3 : t = 3
    · subst h3
      rw [if_pos rfl]
      have e : rd N' (135 + 2) ((39 : Int32) + (2 : Int32) * Int32.ofNat 3).toNatClampNeg = v1 := by
        have : rd N' 137 45 = rd N1 137 45 := kN 137 45 (by decide)
        exact this.trans v1'
      unfold mX7_toolStatement_b50 mX7_toolStatement_b59
      rw [e]
      simp only [cal_ite, cal_cap, cal_cal, cal_chk, cal_some, cal_bnd]
      rfl
    · rw [if_neg h3]
      have ne3 : ¬ Int32.ofNat t = 3 := fun q => by
        have q := congrArg Int32.toInt q
        rw [tt, show ((3 : Int32)).toInt = 3 from rfl] at q; omega
      unfold mX7_toolStatement_b50 mX7_toolStatement_b59
      simp only [cal_ite, cal_cap, cal_cal, cal_chk, cal_some, cal_bnd]
      exact if_neg ne3
end AS
end
