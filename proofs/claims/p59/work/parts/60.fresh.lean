/-! mirror words, forward -/
theorem bnd_e {α β : Type} (e : α) (k : α → Option β) : bnd e k = k e := rfl
theorem cal_e {ρ β : Type} (M : Mem) (r : ρ) (k : Mem → ρ → Option β) : cal (some (M, r)) k = k M r := rfl
theorem cap_e {ρ β : Type} (r : ρ) (k : ρ → Option β) : cap (some r) k = k r := rfl
theorem calt_i {ρ β : Type} (M : Mem) (r : ρ) (k : Mem → ρ → Option β) (h : Mem → Nat → Option β) : calt (some (M, .inl r)) k h = k M r := rfl
theorem calt_r {ρ β : Type} (M : Mem) (r : Nat) (k : Mem → ρ → Option β) (h : Mem → Nat → Option β) : calt (some (M, .inr r)) k h = h M r := rfl
theorem calx_i {ρ σ : Type} (M : Mem) (r : ρ) (k : Mem → ρ → Option (Mem × (σ ⊕ Nat))) : calx (some (M, .inl r)) k = k M r := rfl
theorem calx_r {ρ σ : Type} (M : Mem) (r : Nat) (k : Mem → ρ → Option (Mem × (σ ⊕ Nat))) : calx (some (M, .inr r)) k = some (M, .inr r) := rfl
theorem chk_t {α : Type} {b : Bool} {x : Option α} (h : b = true) : chk b x = x := if_pos h
theorem ite_p {α : Type} {c : Prop} [Decidable c] {a b : Option α} (h : c) : ite2 c a b = a := if_pos h
theorem ite_n {α : Type} {c : Prop} [Decidable c] {a b : Option α} (h : ¬ c) : ite2 c a b = b := if_neg h
/-! the fresh memory -/
def Zb (M : Mem) (b : Nat) : Prop := ∀ a, b ≤ a → a < 135 → M.1 a = (fun _ => 0) ∧ M.2.1 a = (fun _ => 0) ∧ M.2.2 a = (fun _ => 0)
theorem zb_up {M : Mem} {b b' : Nat} (h : Zb M b) (hb : b ≤ b') : Zb M b' := fun a ha hl => h a (Nat.le_trans hb ha) hl
theorem mem_x {M N : Mem} (h1 : ∀ a, M.1 a = N.1 a) (h2 : ∀ a, M.2.1 a = N.2.1 a) (h3 : ∀ a, M.2.2 a = N.2.2 a) : M = N :=
  Prod.ext (funext h1) (Prod.ext (funext h2) (funext h3))
theorem zb_zr {M : Mem} {b : Nat} (h : Zb M b) {k : Nat} (hk : b ≤ k) (hl : k < 135 := by omega) : zr M k = M := by
  obtain ⟨z1, z2, z3⟩ := h k hk hl
  refine mem_x (fun a => ?_) (fun a => ?_) (fun a => ?_)
  · show (if a = k then fun _ => (0 : Int32) else M.1 a) = M.1 a
    split
    · rename_i e; rw [e, z1]
    · rfl
  · show (if a = k then fun _ => (0 : Int64) else M.2.1 a) = M.2.1 a
    split
    · rename_i e; rw [e, z2]
    · rfl
  · show (if a = k then fun _ => (0 : UInt64) else M.2.2 a) = M.2.2 a
    split
    · rename_i e; rw [e, z3]
    · rfl
theorem wr_id {M : Mem} {k j : Nat} {v : Int32} (h : M.1 k j = v) : wr M k j v = M := by
  refine mem_x (fun a => ?_) (fun _ => rfl) (fun _ => rfl)
  show (if a = k then upd (M.1 k) j v else M.1 a) = M.1 a
  split
  · rename_i e
    subst e
    funext i
    show (if i = j then v else M.1 a i) = M.1 a i
    split
    · rename_i e2; rw [e2, h]
    · rfl
  · rfl
theorem zb_wr0 {M : Mem} {b : Nat} (h : Zb M b) {k : Nat} (hk : b ≤ k) (j : Nat) (hl : k < 135 := by omega) : wr M k j 0 = M := wr_id (by rw [(h k hk hl).1])
theorem zb_wr {M : Mem} {b : Nat} (h : Zb M b) {k : Nat} (hk : k < b) {j : Nat} {v : Int32} : Zb (wr M k j v) b := fun a ha hl => by
  obtain ⟨z1, z2, z3⟩ := h a ha hl
  refine ⟨?_, z2, z3⟩
  show (if a = k then upd (M.1 k) j v else M.1 a) = _
  rw [if_neg (by omega), z1]
/-! a part -/
def pH : Nat → Int32 := fun j => if j = 3 then 10 else if j = 4 then 10 else if j = 5 then 40 else if j = 7 then 1 else if j = 8 then 1 else if j = 9 then 1 else 0
def tT : Nat → Int32 := fun j => if j = 0 then 300 else if j = 1 then 600 else if j = 2 then 300 else if j = 3 then 600 else if j = 4 then 200 else if j = 5 then 400 else if j = 7 then 9999 else 0
def ptP (k : Nat) (M : Mem) : Mem := (fun a => if a = k then pH else if a = k + 2 then tT else M.1 a, M.2)
theorem zb_pt {M : Mem} {k : Nat} (h : Zb M k) : Zb (ptP k M) (k + 8) := fun a ha hl => by
  obtain ⟨z1, z2, z3⟩ := h a (by omega) hl
  refine ⟨?_, z2, z3⟩
  show (if a = k then pH else if a = k + 2 then tT else M.1 a) = _
  rw [if_neg (by omega), if_neg (by omega), z1]
theorem pt_x {k : Nat} {M : Mem} (h : Zb M k) {H T : Nat → Int32} {N : Mem} (hH : N.1 k = H) (hT : N.1 (k + 2) = T) (hN : ∀ a, a ≠ k → a ≠ k + 2 → N.1 a = M.1 a) (h2 : N.2 = M.2) (eH : H = pH) (eT : T = tT) : N = ptP k M := by
  refine mem_x (fun a => ?_) (fun a => by rw [h2]; rfl) (fun a => by rw [h2]; rfl)
  show N.1 a = (if a = k then pH else if a = k + 2 then tT else M.1 a)
  split
  · rename_i e; rw [e, hH, eH]
  · split
    · rename_i e; rw [e, hT, eT]
    · exact hN a (by assumption) (by assumption)
theorem i_putTool (k0 : Nat) (x1 x2 x3 : Int32) (M : Mem) (n : Nat) (h0 : ¬ x1 < 0) (h5 : ¬ (5 : Int32) ≤ x1) (ho : okb ((2 : Int32) * x1) 10 = true) (ho2 : okb (((2 : Int32) * x1) + (1 : Int32)) 10 = true) (e1 : ((2 : Int32) * x1).toNatClampNeg = n) (e2 : (((2 : Int32) * x1) + (1 : Int32)).toNatClampNeg = n + 1) : mX1_putTool k0 x1 x2 x3 M = some (wr (wr M (k0 + 2) n x2) (k0 + 2) (n + 1) x3, ()) := by
  unfold mX1_putTool
  rw [ite_n h0, ite_n h5, chk_t ho, bnd_e, chk_t ho2, bnd_e, e1, e2]
theorem i_putSheet (k : Nat) (x1 x2 x3 : Int32) (M : Mem) : mX1_putSheet k x1 x2 x3 M = some (wr (wr (wr M k 3 x1) k 4 x2) k 5 x3, ()) := rfl
theorem i_putCosts (k : Nat) (x1 x2 x3 : Int32) (M : Mem) : mX1_putCosts k x1 x2 x3 M = some (wr (wr (wr M k 7 x1) k 8 x2) k 9 x3, ()) := rfl
theorem i_dropSteps (k : Nat) (M : Mem) : mX1_dropSteps k M = some (wr (wr M k 13 0) k 14 0, ()) := rfl
theorem i_clear (k : Nat) (M : Mem) : mX1_clear k M = some (wr (wr (wr (wr (wr (wr (wr (wr (wr (wr (wr (wr (wr (wr (wr (wr (wr (wr (wr (wr (wr M k 0 0) k 2 0) k 10 0) k 3 10) k 4 10) k 5 40) (k + 2) 0 300) (k + 2) 1 600) (k + 2) 2 300) (k + 2) 3 600) (k + 2) 4 200) (k + 2) 5 400) (k + 2) 6 0) (k + 2) 7 9999) (k + 2) 8 0) (k + 2) 9 0) k 7 1) k 8 1) k 9 1) k 13 0) k 14 0, ()) := by
  unfold mX1_clear
  rw [bnd_e, bnd_e, bnd_e, i_putSheet, cal_e]
  rw [i_putTool k 0 300 600 _ 0 (by decide) (by decide) (by decide) (by decide) (by decide) (by decide), cal_e]
  rw [i_putTool k 1 300 600 _ 2 (by decide) (by decide) (by decide) (by decide) (by decide) (by decide), cal_e]
  rw [i_putTool k 2 200 400 _ 4 (by decide) (by decide) (by decide) (by decide) (by decide) (by decide), cal_e]
  rw [i_putTool k 3 0 9999 _ 6 (by decide) (by decide) (by decide) (by decide) (by decide) (by decide), cal_e]
  rw [i_putTool k 4 0 0 _ 8 (by decide) (by decide) (by decide) (by decide) (by decide) (by decide), cal_e]
  rw [i_putCosts, cal_e, i_dropSteps, cal_e]
theorem pt_clear {k : Nat} {M : Mem} (h : Zb M k) (hk8 : k + 8 ≤ 135) : mX1_clear k M = some (ptP k M, ()) := by
  rw [i_clear]
  congr 2
  have z0 := (h k (Nat.le_refl _) (by omega)).1
  have z2 := (h (k + 2) (by omega) (by omega)).1
  have n1 : ¬ k = k + 2 := by omega
  have n2 : ¬ k + 2 = k := by omega
  refine pt_x (H := upd (upd (upd (upd (upd (upd (upd (upd (upd (upd (upd (fun _ => 0) 0 0) 2 0) 10 0) 3 10) 4 10) 5 40) 7 1) 8 1) 9 1) 13 0) 14 0) (T := upd (upd (upd (upd (upd (upd (upd (upd (upd (upd (fun _ => 0) 0 300) 1 600) 2 300) 3 600) 4 200) 5 400) 6 0) 7 9999) 8 0) 9 0) h ?_ ?_ ?_ rfl ?_ ?_
  · have a1 : ∀ (N : Mem) (j : Nat) (v : Int32), (wr N (k + 2) j v).1 k = N.1 k := fun _ _ _ => (wr_o k n1).1
    simp only [wr_s, a1, z0]
  · have a2 : ∀ (N : Mem) (j : Nat) (v : Int32), (wr N k j v).1 (k + 2) = N.1 (k + 2) := fun _ _ _ => (wr_o (k + 2) n2).1
    simp only [wr_s, a2, z2]
  · intro a e1 e2
    have b1 : ∀ (N : Mem) (j : Nat) (v : Int32), (wr N k j v).1 a = N.1 a := fun _ _ _ => (wr_o a e1).1
    have b2 : ∀ (N : Mem) (j : Nat) (v : Int32), (wr N (k + 2) j v).1 a = N.1 a := fun _ _ _ => (wr_o a e2).1
    simp only [b1, b2]
  · funext j
    rcases Nat.lt_or_ge j 15 with hj | hj
    · exact (by decide : ∀ i : Fin 15, upd (upd (upd (upd (upd (upd (upd (upd (upd (upd (upd (fun _ => 0) 0 0) 2 0) 10 0) 3 10) 4 10) 5 40) 7 1) 8 1) 9 1) 13 0) 14 0 i.1 = pH i.1) ⟨j, hj⟩
    · simp only [upd, pH]
      repeat (rw [if_neg (by omega)])
      try rfl
  · funext j
    rcases Nat.lt_or_ge j 10 with hj | hj
    · exact (by decide : ∀ i : Fin 10, upd (upd (upd (upd (upd (upd (upd (upd (upd (upd (fun _ => 0) 0 300) 1 600) 2 300) 3 600) 4 200) 5 400) 6 0) 7 9999) 8 0) 9 0 i.1 = tT i.1) ⟨j, hj⟩
    · simp only [upd, tT]
      repeat (rw [if_neg (by omega)])
      try rfl
theorem pt_init {k : Nat} {M : Mem} (h : Zb M k) (hk8 : k + 8 ≤ 135 := by omega) : mX1_init k M = some (ptP k M, ()) := by
  unfold mX1_init
  simp only [bnd_e, zb_wr0 h (Nat.le_refl k), zb_zr h (Nat.le_add_right k 1), zb_zr h (Nat.le_add_right k 2), zb_zr h (Nat.le_add_right k 3), zb_zr h (Nat.le_add_right k 4), zb_zr h (Nat.le_add_right k 5), zb_zr h (Nat.le_add_right k 6), zb_zr h (Nat.le_add_right k 7)]
  rw [pt_clear h hk8, cal_e]
theorem pl_init {k : Nat} {M : Mem} (h : Zb M k) (hk8 : k + 7 ≤ 135 := by omega) : mX2_init k M = some (M, ()) := by
  unfold mX2_init
  simp only [bnd_e, zb_wr0 h (Nat.le_refl k), zb_zr h (Nat.le_add_right k 1), zb_zr h (Nat.le_add_right k 2), zb_zr h (Nat.le_add_right k 3), zb_zr h (Nat.le_add_right k 4), zb_zr h (Nat.le_add_right k 5), zb_zr h (Nat.le_add_right k 6)]
theorem hi_init {M : Mem} (h : Zb M 21) : mX0_init 21 M = some (ptP 95 (ptP 87 (ptP 79 (ptP 71 (ptP 63 (ptP 55 (ptP 47 (ptP 39 (ptP 31 (ptP 23 M))))))))), ()) := by
  unfold mX0_init
  have h1 : Zb M 23 := zb_up h (by decide)
  have h2 : Zb (ptP 23 M) 31 := zb_pt (k := 23) h1
  have h3 : Zb (ptP 31 (ptP 23 M)) 39 := zb_pt (k := 31) h2
  have h4 : Zb (ptP 39 (ptP 31 (ptP 23 M))) 47 := zb_pt (k := 39) h3
  have h5 : Zb (ptP 47 (ptP 39 (ptP 31 (ptP 23 M)))) 55 := zb_pt (k := 47) h4
  have h6 : Zb (ptP 55 (ptP 47 (ptP 39 (ptP 31 (ptP 23 M))))) 63 := zb_pt (k := 55) h5
  have h7 : Zb (ptP 63 (ptP 55 (ptP 47 (ptP 39 (ptP 31 (ptP 23 M)))))) 71 := zb_pt (k := 63) h6
  have h8 : Zb (ptP 71 (ptP 63 (ptP 55 (ptP 47 (ptP 39 (ptP 31 (ptP 23 M))))))) 79 := zb_pt (k := 71) h7
  have h9 : Zb (ptP 79 (ptP 71 (ptP 63 (ptP 55 (ptP 47 (ptP 39 (ptP 31 (ptP 23 M)))))))) 87 := zb_pt (k := 79) h8
  have h10 : Zb (ptP 87 (ptP 79 (ptP 71 (ptP 63 (ptP 55 (ptP 47 (ptP 39 (ptP 31 (ptP 23 M))))))))) 95 := zb_pt (k := 87) h9
  simp only [Nat.reduceAdd]
  rw [bnd_e, zb_zr h (by decide), bnd_e, zb_wr0 h (by decide), bnd_e, zb_wr0 h (by decide), bnd_e, zb_zr h (by decide), pt_init h1, cal_e]
  rw [bnd_e, zb_zr h2 (Nat.le_refl _), pt_init h2, cal_e]
  rw [bnd_e, zb_zr h3 (Nat.le_refl _), pt_init h3, cal_e]
  rw [bnd_e, zb_zr h4 (Nat.le_refl _), pt_init h4, cal_e]
  rw [bnd_e, zb_zr h5 (Nat.le_refl _), pt_init h5, cal_e]
  rw [bnd_e, zb_zr h6 (Nat.le_refl _), pt_init h6, cal_e]
  rw [bnd_e, zb_zr h7 (Nat.le_refl _), pt_init h7, cal_e]
  rw [bnd_e, zb_zr h8 (Nat.le_refl _), pt_init h8, cal_e]
  rw [bnd_e, zb_zr h9 (Nat.le_refl _), pt_init h9, cal_e]
  rw [bnd_e, zb_zr h10 (Nat.le_refl _), pt_init h10, cal_e]
/-! loops -/
def fl (M : Mem) (r i n : Nat) (g : Nat → Int32) : Mem := (fun a => if a = r then (fun j => if i ≤ j ∧ j < n then g j else M.1 r j) else M.1 a, M.2)
theorem fl_end (M : Mem) (r n : Nat) (g : Nat → Int32) : fl M r n n g = M := by
  refine mem_x (fun a => ?_) (fun _ => rfl) (fun _ => rfl)
  show (if a = r then (fun j => if n ≤ j ∧ j < n then g j else M.1 r j) else M.1 a) = M.1 a
  split
  · rename_i e
    rw [e]
    funext j
    rw [if_neg (by omega)]
  · rfl
theorem fl_step {M : Mem} {r i n : Nat} {g : Nat → Int32} {v : Int32} (hi : i < n) (hv : v = g i) : fl (wr M r i v) r (i + 1) n g = fl M r i n g := by
  refine mem_x (fun a => ?_) (fun _ => rfl) (fun _ => rfl)
  show (if a = r then (fun j => if i + 1 ≤ j ∧ j < n then g j else (if r = r then upd (M.1 r) i v else M.1 r) j) else (if a = r then upd (M.1 r) i v else M.1 a)) = (if a = r then (fun j => if i ≤ j ∧ j < n then g j else M.1 r j) else M.1 a)
  by_cases e : a = r
  · rw [if_pos e, if_pos e, if_pos rfl]
    funext j
    by_cases ej : j = i
    · subst ej
      rw [if_neg (by omega), if_pos (by omega)]
      show (if j = j then v else M.1 r j) = g j
      rw [if_pos rfl, hv]
    · by_cases eq : i ≤ j ∧ j < n
      · rw [if_pos eq, if_pos (by omega)]
      · rw [if_neg eq, if_neg (by omega)]
        show (if j = i then v else M.1 r j) = M.1 r j
        rw [if_neg ej]
  · rw [if_neg e, if_neg e, if_neg e]
theorem fl_o {M : Mem} {r i n : Nat} {g : Nat → Int32} {a : Nat} (h : a ≠ r) : (fl M r i n g).1 a = M.1 a := if_neg h
theorem i32_n : ∀ i : Fin 300, (Int32.ofNat i.1).toNatClampNeg = i.1 := by decide +kernel
theorem i32_s : ∀ i : Fin 300, Int32.ofNat i.1 + (1 : Int32) = Int32.ofNat (i.1 + 1) := by decide +kernel
theorem i32_n' {i : Nat} (h : i < 300) : (Int32.ofNat i).toNatClampNeg = i := i32_n ⟨i, h⟩
theorem i32_s' {i : Nat} (h : i < 300) : Int32.ofNat i + (1 : Int32) = Int32.ofNat (i + 1) := i32_s ⟨i, h⟩
theorem i32_256 : ∀ i : Fin 256, ¬ (256 : Int32) ≤ Int32.ofNat i.1 ∧ okb (Int32.ofNat i.1) 256 = true := by decide +kernel
theorem i32_86 : ∀ i : Fin 86, ¬ (86 : Int32) ≤ Int32.ofNat i.1 ∧ okb (Int32.ofNat i.1) 86 = true := by decide +kernel
theorem i32_256' {i : Nat} (h : i < 256) : ¬ (256 : Int32) ≤ Int32.ofNat i ∧ okb (Int32.ofNat i) 256 = true := i32_256 ⟨i, h⟩
theorem i32_86' {i : Nat} (h : i < 86) : ¬ (86 : Int32) ≤ Int32.ofNat i ∧ okb (Int32.ofNat i) 86 = true := i32_86 ⟨i, h⟩
theorem fs_l (k0 : Nat) : ∀ (d i f : Nat) (M : Mem), i + d = 256 → d < f → mX3_forgetSteps_l2 k0 f (Int32.ofNat i) M = some (fl M (k0 + 17) i 256 (fun _ => -1), ()) := by
  intro d
  induction d with
  | zero =>
    intro i f M hi hf
    obtain ⟨f', rfl⟩ : ∃ f', f = f' + 1 := ⟨f - 1, by omega⟩
    have hi : i = 256 := by omega
    subst hi
    show mX3_forgetSteps_b2 k0 (mX3_forgetSteps_l2 k0 f') (Int32.ofNat 256) M = _
    unfold mX3_forgetSteps_b2
    rw [ite_p (by decide), fl_end]
  | succ d IH =>
    intro i f M hi hf
    obtain ⟨f', rfl⟩ : ∃ f', f = f' + 1 := ⟨f - 1, by omega⟩
    show mX3_forgetSteps_b2 k0 (mX3_forgetSteps_l2 k0 f') (Int32.ofNat i) M = _
    unfold mX3_forgetSteps_b2
    obtain ⟨c1, c2⟩ := i32_256' (i := i) (by omega)
    rw [ite_n c1, chk_t c2, bnd_e, bnd_e, i32_n' (i := i) (by omega), i32_s' (i := i) (by omega)]
    rw [IH (i + 1) f' _ (by omega) (by omega), fl_step (g := fun _ => -1) (v := -1) (by omega) rfl]
/-! planner, reader, builder, the class, the model -/
def rP : Nat → Int32 := fun j => if j = 3 then -1 else if j = 1 then -1 else if j = 0 then -1 else 0
def rQ : Nat → Int32 := fun j => if j < 256 then -1 else 0
def plP (M : Mem) : Mem := (fun a => if a = 127 then rQ else if a = 110 then rP else (ptP 119 M).1 a, M.2)
theorem zb_plP {M : Mem} (h : Zb M 110) : Zb (plP M) 133 := fun a ha hl => by
  obtain ⟨z1, z2, z3⟩ := h a (by omega) hl
  refine ⟨?_, z2, z3⟩
  show (if a = 127 then rQ else if a = 110 then rP else if a = 119 then pH else if a = 119 + 2 then tT else M.1 a) = _
  rw [if_neg (by omega), if_neg (by omega), if_neg (by omega), if_neg (by omega), z1]
theorem zx_init {M : Mem} (h : Zb M 110) : mX3_init 110 M = some (plP M, ()) := by
  have h1 : Zb (wr M 110 0 (-1)) 111 := zb_wr (zb_up h (by decide)) (by decide)
  have h2 : Zb (wr (wr M 110 0 (-1)) 110 1 (-1)) 111 := zb_wr h1 (by decide)
  have h3 : Zb (wr (wr (wr M 110 0 (-1)) 110 1 (-1)) 110 3 (-1)) 111 := zb_wr h2 (by decide)
  have h4 := zb_up h3 (by decide : 111 ≤ 112)
  have h5 := zb_up h3 (by decide : 111 ≤ 119)
  have h6 : Zb (ptP 119 (wr (wr (wr M 110 0 (-1)) 110 1 (-1)) 110 3 (-1))) 127 := zb_pt (k := 119) h5
  have e6 : wr (ptP 119 (wr (wr (wr M 110 0 (-1)) 110 1 (-1)) 110 3 (-1))) 110 6 0 = ptP 119 (wr (wr (wr M 110 0 (-1)) 110 1 (-1)) 110 3 (-1)) := by
    refine wr_id ?_
    have z0 := (h 110 (Nat.le_refl _) (by omega)).1
    show (wr (wr (wr M 110 0 (-1)) 110 1 (-1)) 110 3 (-1)).1 110 6 = 0
    rw [wr_s, wr_s, wr_s, z0]
    rfl
  unfold mX3_init
  simp only [Nat.reduceAdd]
  rw [bnd_e, bnd_e, bnd_e, zb_zr h2 (by decide), bnd_e, bnd_e, zb_zr h3 (by decide), pl_init h4, cal_e, bnd_e, zb_zr h3 (by decide), pt_init h5, cal_e]
  rw [bnd_e, e6, bnd_e, zb_zr h6 (by decide), bnd_e, zb_zr h6 (by decide), bnd_e, zb_zr h6 (by decide), bnd_e, zb_zr h6 (by decide), bnd_e, zb_zr h6 (by decide), bnd_e, zb_zr h6 (by decide)]
  unfold mX3_forgetSteps
  rw [show (0 : Int32) = Int32.ofNat 0 from rfl, fs_l 110 256 0 5000 _ rfl (by decide), cal_e]
  congr 2
  refine mem_x (fun a => ?_) (fun _ => rfl) (fun _ => rfl)
  show (if a = 127 then (fun j => if 0 ≤ j ∧ j < 256 then (-1 : Int32) else (ptP 119 (wr (wr (wr M 110 0 (-1)) 110 1 (-1)) 110 3 (-1))).1 127 j) else (ptP 119 (wr (wr (wr M 110 0 (-1)) 110 1 (-1)) 110 3 (-1))).1 a) = (if a = 127 then rQ else if a = 110 then rP else (ptP 119 M).1 a)
  split
  · funext j
    rw [(h6 127 (Nat.le_refl _) (by omega)).1]
    simp only [rQ, Nat.zero_le, true_and]
  · split
    · rename_i e
      subst e
      have z0 := (h 110 (Nat.le_refl _) (by omega)).1
      show (wr (wr (wr M 110 0 (-1)) 110 1 (-1)) 110 3 (-1)).1 110 = rP
      rw [wr_s, wr_s, wr_s, z0]
      rfl
    · rename_i e1 e2
      show (if a = 119 then pH else if a = 119 + 2 then tT else (wr (wr (wr M 110 0 (-1)) 110 1 (-1)) 110 3 (-1)).1 a) = (if a = 119 then pH else if a = 119 + 2 then tT else M.1 a)
      rw [(wr_o a e2).1, (wr_o a e2).1, (wr_o a e2).1]
theorem re_init {M : Mem} (h : Zb M 2) : mX4_init M = some (wr M 2 1 (-1), ()) := by
  have h1 : Zb (wr M 2 1 (-1)) 3 := zb_wr (zb_up h (by decide)) (by decide)
  have z : ∀ j, j ≠ 1 → wr (wr M 2 1 (-1)) 2 j 0 = wr M 2 1 (-1) := fun j hj => by
    refine wr_id ?_
    rw [wr_s, (h 2 (Nat.le_refl _) (by omega)).1]
    exact if_neg hj
  have hc : decide (¬ rd (wr M 2 1 (-1)) 2 2 = 1) = true := by
    refine decide_eq_true ?_
    unfold rd
    rw [wr_s, (h 2 (Nat.le_refl _) (by omega)).1]
    decide
  unfold mX4_init
  rw [bnd_e, zb_wr0 h (Nat.le_refl _), bnd_e, bnd_e, zb_zr h1 (by decide), chk_t hc, bnd_e, z 3 (by decide), bnd_e, z 4 (by decide), bnd_e, z 5 (by decide), bnd_e, z 6 (by decide), bnd_e, z 7 (by decide), bnd_e, zb_zr h1 (by decide)]
def MAp (M : Mem) : Mem := ptP 13 (ptP 5 (wr M 2 1 (-1)))
def MBp (M : Mem) : Mem := ptP 95 (ptP 87 (ptP 79 (ptP 71 (ptP 63 (ptP 55 (ptP 47 (ptP 39 (ptP 31 (ptP 23 (MAp M))))))))))
def MCp (M : Mem) : Mem := plP (MBp M)
theorem zb_MA {M : Mem} (h : Zb M 0) : Zb (MAp M) 21 := zb_pt (k := 13) (zb_pt (k := 5) (zb_up (zb_wr (b := 3) (zb_up h (by decide)) (by decide)) (by decide)))
theorem zb_MB {M : Mem} (h : Zb M 0) : Zb (MBp M) 103 := zb_pt (k := 95) (zb_pt (k := 87) (zb_pt (k := 79) (zb_pt (k := 71) (zb_pt (k := 63) (zb_pt (k := 55) (zb_pt (k := 47) (zb_pt (k := 39) (zb_pt (k := 31) (zb_pt (k := 23) (zb_up (zb_MA h) (by decide)))))))))))
theorem zb_MC {M : Mem} (h : Zb M 0) : Zb (MCp M) 133 := zb_plP (zb_up (zb_MB h) (by decide))
theorem root_init {M : Mem} (h0 : Zb M 0) : mX6_init M = some (MCp M, ()) := by
  have h2 : Zb (wr M 2 1 (-1)) 5 := zb_up (zb_wr (b := 3) (zb_up h0 (by decide)) (by decide)) (by decide)
  have h3 : Zb (ptP 5 (wr M 2 1 (-1))) 13 := zb_pt (k := 5) h2
  unfold mX6_init
  rw [bnd_e, zb_zr h0 (by decide), bnd_e, zb_wr0 h0 (by decide), bnd_e, zb_zr h0 (by decide), re_init (zb_up h0 (by decide)), cal_e]
  rw [bnd_e, zb_zr h2 (by decide), pt_init h2, cal_e]
  rw [bnd_e, zb_zr h3 (by decide), pt_init h3, cal_e]
  change bnd (zr (MAp M) 21) _ = _
  rw [bnd_e, zb_zr (zb_MA h0) (by decide), hi_init (zb_MA h0), cal_e]
  change bnd (zr (MBp M) 103) _ = _
  rw [bnd_e, zb_zr (zb_MB h0) (by decide), pl_init (zb_MB h0), cal_e]
  rw [bnd_e, zb_zr (zb_MB h0) (by decide), zx_init (zb_up (zb_MB h0) (by decide)), cal_e]
  change bnd (zr (MCp M) 133) _ = _
  rw [bnd_e, zb_zr (zb_MC h0) (by decide), e_sbi, cal_e]
  simp only [Nat.reduceAdd]
  rw [zb_zr (zb_MC h0) (by decide), zb_wr0 (zb_MC h0) (by decide)]
theorem MCp_o {M : Mem} {a : Nat} (h : 135 ≤ a) : Sm M (MCp M) a := by
  have hp : ∀ (k : Nat) (N : Mem), k < 130 → Sm N (ptP k N) a := fun k N hk => ⟨by show (if a = k then pH else if a = k + 2 then tT else N.1 a) = N.1 a; rw [if_neg (by omega), if_neg (by omega)], rfl, rfl⟩
  have h1 : Sm M (wr M 2 1 (-1)) a := wr_s1 (by omega)
  have h2 : Sm M (MAp M) a := (h1.trans (hp 5 _ (by decide))).trans (hp 13 _ (by decide))
  have h3 : Sm M (MBp M) a := (((((((((h2.trans (hp 23 _ (by decide))).trans (hp 31 _ (by decide))).trans (hp 39 _ (by decide))).trans (hp 47 _ (by decide))).trans (hp 55 _ (by decide))).trans (hp 63 _ (by decide))).trans (hp 71 _ (by decide))).trans (hp 79 _ (by decide))).trans (hp 87 _ (by decide))).trans (hp 95 _ (by decide))
  have h4 : Sm M (ptP 119 (MBp M)) a := h3.trans (hp 119 _ (by decide))
  refine h4.trans ⟨?_, rfl, rfl⟩
  show (if a = 127 then rQ else if a = 110 then rP else (ptP 119 (MBp M)).1 a) = _
  rw [if_neg (by omega), if_neg (by omega)]
/-! what holds between two steps of the law -/
def sP : Nat → Int × Int := fun i => if i = 0 then (0, 2) else if i = 1 then (0, 600) else (0, 70)
/-! the start -/
theorem bx0 : ∀ k j, (bxc (fT sP) k j).1 ≤ 0 ∧ 0 ≤ (bxc (fT sP) k j).2 := by
  have p0 : ∀ c j, (bxP c j).1 ≤ 0 ∧ 0 ≤ (bxP c j).2 := by
    intro c j
    unfold bxP
    split <;> decide
  have l0 : ∀ c j, (bxL c j).1 ≤ 0 ∧ 0 ≤ (bxL c j).2 := by
    intro c j
    unfold bxL
    split <;> decide
  have n0 : ∀ j, (bxN0 j).1 ≤ 0 ∧ 0 ≤ (bxN0 j).2 := by
    intro j
    unfold bxN0
    split <;> decide
  have h0 : ∀ j, (bxH j).1 ≤ 0 ∧ 0 ≤ (bxH j).2 := by
    intro j
    unfold bxH
    split <;> decide
  have r0 : ∀ j, (bxR false j).1 ≤ 0 ∧ 0 ≤ (bxR false j).2 := by
    intro j
    unfold bxR
    split <;> decide
  have b0 : ∀ j, (bxB j).1 ≤ 0 ∧ 0 ≤ (bxB j).2 := by
    intro j
    unfold bxB
    split <;> decide
  have s0 : ∀ i, (sP i).1 ≤ 0 ∧ 0 ≤ (sP i).2 := by
    intro i
    unfold sP
    split
    · decide
    · split <;> decide
  have t0 : (bT.1 : Int) ≤ 0 ∧ 0 ≤ bT.2 := by decide
  intro k j
  unfold bxc
  by_cases c0 : k = 0
  · rw [if_pos c0]
    by_cases c : j = 1
    · rw [if_pos c]; exact s0 1
    · rw [if_neg c]; exact t0
  rw [if_neg c0]
  by_cases c1 : k = 1
  · rw [if_pos c1]; decide
  rw [if_neg c1]
  by_cases c2 : k = 2
  · rw [if_pos c2]; exact r0 j
  rw [if_neg c2]
  by_cases c3 : k = 3
  · rw [if_pos c3]; exact t0
  rw [if_neg c3]
  by_cases c4 : k < 5
  · rw [if_pos c4]; exact t0
  rw [if_neg c4]
  by_cases c5 : k < 21
  · rw [if_pos c5]; exact p0 _ j
  rw [if_neg c5]
  by_cases c6 : k = 21
  · rw [if_pos c6]; exact h0 j
  rw [if_neg c6]
  by_cases c7 : k = 22
  · rw [if_pos c7]; exact t0
  rw [if_neg c7]
  by_cases c8 : k < 103
  · rw [if_pos c8]; exact p0 _ j
  rw [if_neg c8]
  by_cases c9 : k < 110
  · rw [if_pos c9]; exact l0 _ j
  rw [if_neg c9]
  by_cases d0 : k = 110
  · rw [if_pos d0]; exact n0 j
  rw [if_neg d0]
  by_cases d1 : k = 111
  · rw [if_pos d1]; decide
  rw [if_neg d1]
  by_cases d2 : k < 119
  · rw [if_pos d2]; exact l0 _ j
  rw [if_neg d2]
  by_cases d3 : k < 127
  · rw [if_pos d3]; exact p0 _ j
  rw [if_neg d3]
  by_cases d4 : k = 127
  · rw [if_pos d4]; decide
  rw [if_neg d4]
  by_cases d5 : k = 128
  · rw [if_pos d5]; decide
  rw [if_neg d5]
  by_cases d6 : k = 129
  · rw [if_pos d6]; exact t0
  rw [if_neg d6]
  by_cases d7 : k = 130
  · rw [if_pos d7]; decide
  rw [if_neg d7]
  by_cases d8 : k < 133
  · rw [if_pos d8]; exact t0
  rw [if_neg d8]
  by_cases d9 : k = 133
  · rw [if_pos d9]
    by_cases c : j = 0
    · rw [if_pos c]; exact s0 0
    · rw [if_neg c]
      by_cases c' : j = 3
      · rw [if_pos c']; exact s0 2
      · rw [if_neg c']; exact b0 j
  rw [if_neg d9]
  by_cases e0 : k = 134
  · rw [if_pos e0]; decide
  · rw [if_neg e0]; exact t0
theorem pH_in (f : Bx) {k : Nat} (hk : isP k) (j : Nat) : (bxc f k j).1 ≤ (pH j).toInt ∧ (pH j).toInt ≤ (bxc f k j).2 := by
  rw [bx_P0 hk]
  rcases Nat.lt_or_ge j 15 with h | h
  · have key : ∀ j, j < 15 → (bxP 0 j).1 ≤ (pH j).toInt ∧ (pH j).toInt ≤ (bxP 0 j).2 := by decide +kernel
    exact key j h
  · have e1 : pH j = 0 := by
      unfold pH
      repeat (rw [if_neg (by omega)])
    have e2 : bxP 0 j = bT := by
      unfold bxP
      split <;> first | omega | rfl
    rw [e1, e2]; decide
theorem tT_in (f : Bx) {k : Nat} (hk : isP k) (j : Nat) : (bxc f (k + 2) j).1 ≤ (tT j).toInt ∧ (tT j).toInt ≤ (bxc f (k + 2) j).2 := by
  rw [bx_P (c := 2) hk (by decide)]
  exact i_rng _
theorem ok_pt {f : Bx} {k : Nat} {M : Mem} (hk : isP k) (h : OKb f M) : OKb f (ptP k M) := by
  intro k' j
  show (bxc f k' j).1 ≤ ((if k' = k then pH else if k' = k + 2 then tT else M.1 k') j).toInt ∧ ((if k' = k then pH else if k' = k + 2 then tT else M.1 k') j).toInt ≤ (bxc f k' j).2
  by_cases e : k' = k
  · rw [if_pos e, e]; exact pH_in f hk j
  · rw [if_neg e]
    by_cases e2 : k' = k + 2
    · rw [if_pos e2, e2]; exact tT_in f hk j
    · rw [if_neg e2]; exact h k' j
theorem ok_Z {M : Mem} (h : Zb M 0) : OKb (fT sP) M := fun k j => by
  by_cases hk : k < 135
  · have e : rd M k j = 0 := by show M.1 k j = 0; rw [(h k (Nat.zero_le _) hk).1]
    rw [e]; exact bx0 k j
  · have e : bxc (fT sP) k j = bT := by
      unfold bxc
      repeat (rw [if_neg (by omega)])
    rw [e]; exact i_rng _
theorem ok_MC {M : Mem} (h : Zb M 0) : OKb (fT sP) (MCp M) := by
  have h1 : OKb (fT sP) (wr M 2 1 (-1)) := (ok_Z h).put (b := (-1, 600)) rfl (by decide)
  have h2 : OKb (fT sP) (MAp M) := ok_pt isP_13 (ok_pt isP_5 h1)
  have ih : ∀ i, i < 10 → isP (23 + 8 * i) := fun i hi => Or.inr (Or.inr (Or.inr ⟨i, hi, rfl⟩))
  have h3 : OKb (fT sP) (MBp M) := ok_pt (ih 9 (by decide)) (ok_pt (ih 8 (by decide)) (ok_pt (ih 7 (by decide)) (ok_pt (ih 6 (by decide)) (ok_pt (ih 5 (by decide)) (ok_pt (ih 4 (by decide)) (ok_pt (ih 3 (by decide)) (ok_pt (ih 2 (by decide)) (ok_pt (ih 1 (by decide)) (ok_pt (ih 0 (by decide)) h2)))))))))
  have h4 : OKb (fT sP) (ptP 119 (MBp M)) := ok_pt isP_119 h3
  intro k j
  show (bxc (fT sP) k j).1 ≤ ((if k = 127 then rQ else if k = 110 then rP else (ptP 119 (MBp M)).1 k) j).toInt ∧ ((if k = 127 then rQ else if k = 110 then rP else (ptP 119 (MBp M)).1 k) j).toInt ≤ (bxc (fT sP) k j).2
  by_cases e : k = 127
  · rw [if_pos e, e]
    show (-1 : Int) ≤ (rQ j).toInt ∧ (rQ j).toInt ≤ 2147483647
    unfold rQ
    split <;> decide
  · rw [if_neg e]
    by_cases e2 : k = 110
    · rw [if_pos e2, e2]
      show (bxN0 j).1 ≤ (rP j).toInt ∧ (rP j).toInt ≤ (bxN0 j).2
      rcases Nat.lt_or_ge j 8 with h | h
      · have key : ∀ j, j < 8 → (bxN0 j).1 ≤ (rP j).toInt ∧ (rP j).toInt ≤ (bxN0 j).2 := by decide +kernel
        exact key j h
      · have e1 : rP j = 0 := by
          unfold rP
          repeat (rw [if_neg (by omega)])
        have e2 : bxN0 j = bT := by
          unfold bxN0
          split <;> first | omega | rfl
        rw [e1, e2]; decide
    · rw [if_neg e2]; exact h4 k j
