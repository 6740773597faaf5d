/-! two programs side by side: what holds if both come to an end -/
def R2 {α β : Type} (x : Option α) (y : Option β) (R : α → β → Prop) : Prop := ∀ a b, x = some a → y = some b → R a b
def Pc {α : Type} (x : Option α) (P : α → Prop) : Prop := ∀ a, x = some a → P a
section R2S
variable {α β γ ρ σ : Type} {R : α → β → Prop} {P : α → Prop}
theorem Pc.ok {a : α} (h : P a) : Pc (some a) P := fun b e => by cases e; exact h
theorem Pc.n : Pc (none : Option α) P := fun b e => by cases e
theorem Pc.mono {x : Option α} {P Q : α → Prop} (h : Pc x Q) (hq : ∀ y, Q y → P y) : Pc x P := fun a e => hq a (h a e)
theorem Pc.b {e : γ} {k : γ → Option α} (h : ∀ v, v = e → Pc (k v) P) : Pc (bnd e k) P := h e rfl
theorem Pc.k {b : Bool} {x : Option α} (h : b = true → Pc x P) : Pc (chk b x) P := fun a e => (h (chk_s e).1) a (chk_s e).2
theorem Pc.i {c : Prop} [Decidable c] {a b : Option α} (h1 : c → Pc a P) (h2 : ¬ c → Pc b P) : Pc (ite2 c a b) P := by
  unfold ite2
  by_cases hc : c
  · rw [if_pos hc]; exact h1 hc
  · rw [if_neg hc]; exact h2 hc
theorem Pc.c {x : Option ρ} {k : ρ → Option α} {Q : ρ → Prop} (h : Pc x Q) (hk : ∀ r, Q r → Pc (k r) P) : Pc (cap x k) P := fun a e => by
  obtain ⟨r, e1, e2⟩ := cap_s e
  exact hk r (h r e1) a e2
theorem Pc.m {x : Option (Mem × ρ)} {k : Mem → ρ → Option α} {Q : Mem × ρ → Prop} (h : Pc x Q) (hk : ∀ M r, Q (M, r) → Pc (k M r) P) : Pc (cal x k) P := fun a e => by
  obtain ⟨M, r, e1, e2⟩ := cal_s e
  exact hk M r (h _ e1) a e2
theorem Pc.and {x : Option α} {P Q : α → Prop} (h : Pc x P) (h' : Pc x Q) : Pc x (fun a => P a ∧ Q a) := fun a e => ⟨h a e, h' a e⟩
theorem Sf.pc {x : Option α} {Q : α → Prop} (h : Sf x P) (h' : Pc x Q) : Sf x (fun a => P a ∧ Q a) := by
  obtain ⟨y, e, h⟩ := h
  exact ⟨y, e, h, h' y e⟩
theorem Sf.toPc {x : Option α} (h : Sf x P) : Pc x P := fun a e => by
  obtain ⟨y, e2, h⟩ := h
  rw [e] at e2; cases e2; exact h
theorem Pc.self (x : Option α) : Pc x (fun a => x = some a) := fun _ e => e
theorem R2.ok {a : α} {b : β} (h : R a b) : R2 (some a) (some b) R := fun _ _ e1 e2 => by cases e1; cases e2; exact h
theorem R2.nl {y : Option β} : R2 (none : Option α) y R := fun _ _ e1 _ => by cases e1
theorem R2.nr {x : Option α} : R2 x (none : Option β) R := fun _ _ _ e2 => by cases e2
theorem R2.mono {x : Option α} {y : Option β} {Q : α → β → Prop} (h : R2 x y Q) (hq : ∀ a b, Q a b → R a b) : R2 x y R := fun a b e1 e2 => hq a b (h a b e1 e2)
theorem R2.and {x : Option α} {y : Option β} {Q : α → β → Prop} (h : R2 x y R) (h' : R2 x y Q) : R2 x y (fun a b => R a b ∧ Q a b) := fun a b e1 e2 => ⟨h a b e1 e2, h' a b e1 e2⟩
theorem R2.lP {x : Option α} {y : Option β} {P : α → Prop} (h : R2 x y R) (h' : Pc x P) : R2 x y (fun a b => R a b ∧ P a) := fun a b e1 e2 => ⟨h a b e1 e2, h' a e1⟩
theorem R2.rP {x : Option α} {y : Option β} {P : β → Prop} (h : R2 x y R) (h' : Pc y P) : R2 x y (fun a b => R a b ∧ P b) := fun a b e1 e2 => ⟨h a b e1 e2, h' b e2⟩
theorem R2.bl {e : γ} {k : γ → Option α} {y : Option β} (h : ∀ v, v = e → R2 (k v) y R) : R2 (bnd e k) y R := h e rfl
theorem R2.br {e : γ} {k : γ → Option β} {x : Option α} (h : ∀ v, v = e → R2 x (k v) R) : R2 x (bnd e k) R := h e rfl
theorem R2.kl {b : Bool} {x : Option α} {y : Option β} (h : b = true → R2 x y R) : R2 (chk b x) y R := fun a b' e1 e2 => (h (chk_s e1).1) a b' (chk_s e1).2 e2
theorem R2.kr {b : Bool} {x : Option α} {y : Option β} (h : b = true → R2 x y R) : R2 x (chk b y) R := fun a b' e1 e2 => (h (chk_s e2).1) a b' e1 (chk_s e2).2
theorem R2.il {c : Prop} [Decidable c] {a b : Option α} {y : Option β} (h1 : c → R2 a y R) (h2 : ¬ c → R2 b y R) : R2 (ite2 c a b) y R := by
  unfold ite2
  by_cases hc : c
  · rw [if_pos hc]; exact h1 hc
  · rw [if_neg hc]; exact h2 hc
theorem R2.ir {c : Prop} [Decidable c] {a b : Option β} {x : Option α} (h1 : c → R2 x a R) (h2 : ¬ c → R2 x b R) : R2 x (ite2 c a b) R := by
  unfold ite2
  by_cases hc : c
  · rw [if_pos hc]; exact h1 hc
  · rw [if_neg hc]; exact h2 hc
theorem R2.cl {x : Option ρ} {k : ρ → Option α} {y : Option β} {Q : ρ → Prop} (h : Pc x Q) (hk : ∀ r, Q r → R2 (k r) y R) : R2 (cap x k) y R := fun a b e1 e2 => by
  obtain ⟨r, e3, e4⟩ := cap_s e1
  exact hk r (h r e3) a b e4 e2
theorem R2.cr {x : Option α} {y : Option ρ} {k : ρ → Option β} {Q : ρ → Prop} (h : Pc y Q) (hk : ∀ r, Q r → R2 x (k r) R) : R2 x (cap y k) R := fun a b e1 e2 => by
  obtain ⟨r, e3, e4⟩ := cap_s e2
  exact hk r (h r e3) a b e1 e4
theorem R2.ml {x : Option (Mem × ρ)} {k : Mem → ρ → Option α} {y : Option β} {Q : Mem × ρ → Prop} (h : Pc x Q) (hk : ∀ M r, Q (M, r) → R2 (k M r) y R) : R2 (cal x k) y R := fun a b e1 e2 => by
  obtain ⟨M, r, e3, e4⟩ := cal_s e1
  exact hk M r (h _ e3) a b e4 e2
theorem R2.mr {x : Option α} {y : Option (Mem × ρ)} {k : Mem → ρ → Option β} {Q : Mem × ρ → Prop} (h : Pc y Q) (hk : ∀ M r, Q (M, r) → R2 x (k M r) R) : R2 x (cal y k) R := fun a b e1 e2 => by
  obtain ⟨M, r, e3, e4⟩ := cal_s e2
  exact hk M r (h _ e3) a b e1 e4
theorem R2.mm {x : Option (Mem × ρ)} {k : Mem → ρ → Option α} {y : Option (Mem × σ)} {k' : Mem → σ → Option β} {Q : Mem × ρ → Mem × σ → Prop} (h : R2 x y Q) (hk : ∀ M r N q, Q (M, r) (N, q) → R2 (k M r) (k' N q) R) : R2 (cal x k) (cal y k') R := fun a b e1 e2 => by
  obtain ⟨M, r, e3, e4⟩ := cal_s e1
  obtain ⟨N, q, e5, e6⟩ := cal_s e2
  exact hk M r N q (h _ _ e3 e5) a b e4 e6
theorem R2.cc {x : Option ρ} {k : ρ → Option α} {y : Option σ} {k' : σ → Option β} {Q : ρ → σ → Prop} (h : R2 x y Q) (hk : ∀ r q, Q r q → R2 (k r) (k' q) R) : R2 (cap x k) (cap y k') R := fun a b e1 e2 => by
  obtain ⟨r, e3, e4⟩ := cap_s e1
  obtain ⟨q, e5, e6⟩ := cap_s e2
  exact hk r q (h _ _ e3 e5) a b e4 e6
theorem R2.of {x : Option α} {y : Option β} {P : α → Prop} (h : ∀ a, x = some a → Pc y (R a)) : R2 x y R := fun a b e1 e2 => h a e1 b e2
end R2S
/-! frames: all slots but those of S are kept -/
def KS (S : Nat → Nat → Prop) (M M' : Mem) : Prop := ∀ k j, ¬ S k j → rd M' k j = rd M k j
def Fr {ρ : Type} (S : Nat → Nat → Prop) (M : Mem) (x : Option (Mem × ρ)) : Prop := ∀ q, x = some q → KS S M q.1
section FRS
variable {S : Nat → Nat → Prop} {M M' M'' : Mem} {ρ σ γ : Type}
theorem KS.rf : KS S M M := fun _ _ _ => rfl
theorem KS.trans (h : KS S M M') (h' : KS S M' M'') : KS S M M'' := fun k j q => (h' k j q).trans (h k j q)
theorem KS.mono {S' : Nat → Nat → Prop} (h : KS S M M') (hs : ∀ k j, S k j → S' k j) : KS S' M M' := fun k j q => h k j (fun q' => q (hs k j q'))
theorem KS.wr {k j : Nat} {v : Int32} (h : KS S M M') (hs : S k j) : KS S M (wr M' k j v) := fun k' j' q => by
  by_cases e : k' = k
  · subst e
    by_cases e2 : j' = j
    · subst e2; exact absurd hs q
    · rw [rd_wj e2]; exact h k' j' q
  · rw [rd_wk e]; exact h k' j' q
theorem KS.wl {k j : Nat} {v : Int64} (h : KS S M M') : KS S M (wl M' k j v) := fun k' j' q => h k' j' q
theorem KS.wd {k j : Nat} {v : UInt64} (h : KS S M M') : KS S M (wd M' k j v) := fun k' j' q => h k' j' q
theorem KS.cp {k k2 sp dp n : Nat} (h : KS S M M') (hs : ∀ j, S k2 j) : KS S M (cpy M' k k2 sp dp n) := fun k' j' q => by
  have e : k' ≠ k2 := fun e => q (e ▸ hs j')
  have e8 : rd (cpy M' k k2 sp dp n) k' j' = rd M' k' j' := congrFun (cpy_o (M := M') (a := k) (sp := sp) (dp := dp) (n := n) k' e).1 j'
  rw [e8]; exact h k' j' q
theorem Fr.ok {r : ρ} (h : KS S M M') : Fr S M (some (M', r)) := fun q e => by cases e; exact h
theorem Fr.n : Fr S M (none : Option (Mem × ρ)) := fun q e => by cases e
theorem Fr.bw {k j : Nat} {v : Int32} {K : Mem → Option (Mem × ρ)} (hs : S k j) (h : KS S M M') (hk : ∀ M1, KS S M M1 → Fr S M (K M1)) : Fr S M (bnd (wr M' k j v) K) := hk _ (h.wr hs)
theorem Fr.bl {k j : Nat} {v : Int64} {K : Mem → Option (Mem × ρ)} (h : KS S M M') (hk : ∀ M1, KS S M M1 → Fr S M (K M1)) : Fr S M (bnd (wl M' k j v) K) := hk _ h.wl
theorem Fr.bd {k j : Nat} {v : UInt64} {K : Mem → Option (Mem × ρ)} (h : KS S M M') (hk : ∀ M1, KS S M M1 → Fr S M (K M1)) : Fr S M (bnd (wd M' k j v) K) := hk _ h.wd
theorem Fr.bc {k k2 sp dp n : Nat} {K : Mem → Option (Mem × ρ)} (hs : ∀ j, S k2 j) (h : KS S M M') (hk : ∀ M1, KS S M M1 → Fr S M (K M1)) : Fr S M (bnd (cpy M' k k2 sp dp n) K) := hk _ (h.cp hs)
theorem Fr.b {e : γ} {K : γ → Option (Mem × ρ)} (hk : ∀ v, Fr S M (K v)) : Fr S M (bnd e K) := hk e
theorem Fr.k {b : Bool} {x : Option (Mem × ρ)} (h : Fr S M x) : Fr S M (chk b x) := fun q e => h q (chk_s e).2
theorem Fr.i {c : Prop} [Decidable c] {a b : Option (Mem × ρ)} (h1 : Fr S M a) (h2 : Fr S M b) : Fr S M (ite2 c a b) := by
  unfold ite2
  split
  · exact h1
  · exact h2
theorem Fr.c {x : Option γ} {K : γ → Option (Mem × ρ)} (hk : ∀ r, Fr S M (K r)) : Fr S M (cap x K) := fun q e => by
  obtain ⟨r, _, e2⟩ := cap_s e
  exact hk r q e2
theorem Fr.m {x : Option (Mem × σ)} {K : Mem → σ → Option (Mem × ρ)} (h : Fr S M x) (hk : ∀ M1 r, KS S M M1 → Fr S M (K M1 r)) : Fr S M (cal x K) := fun q e => by
  obtain ⟨M1, r, e1, e2⟩ := cal_s e
  exact hk M1 r (h _ e1) q e2
theorem Fr.o {r : Option Nat} {a : Option (Mem × ρ)} {b : Nat → Option (Mem × ρ)} (h1 : Fr S M a) (h2 : ∀ w, Fr S M (b w)) : Fr S M (opt r a b) := by
  cases r with
  | none => exact h1
  | some w => exact h2 w
theorem Fr.x {x : Option (Mem × (ρ ⊕ Nat))} {K : Mem → ρ → Option (Mem × (σ ⊕ Nat))} (h : Fr S M x) (hk : ∀ M1 r, KS S M M1 → Fr S M (K M1 r)) : Fr S M (calx x K) := fun q e => by
  cases x with
  | none => cases e
  | some y =>
    obtain ⟨M1, r⟩ := y
    cases r with
    | inl r => exact hk M1 r (h _ rfl) q e
    | inr w => cases e; exact h _ rfl
theorem Fr.t {x : Option (Mem × (γ ⊕ Nat))} {K : Mem → γ → Option (Mem × ρ)} {g : Mem → Nat → Option (Mem × ρ)} (h : Fr S M x) (hk : ∀ M1 r, KS S M M1 → Fr S M (K M1 r)) (hg : ∀ M1 r, KS S M M1 → Fr S M (g M1 r)) : Fr S M (calt x K g) := fun q e => by
  cases x with
  | none => cases e
  | some y =>
    obtain ⟨M1, r⟩ := y
    cases r with
    | inl r => exact hk M1 r (h _ rfl) q e
    | inr w => exact hg M1 w (h _ rfl) q e
theorem Fr.pc {x : Option (Mem × ρ)} (h : Fr S M x) : Pc x (fun q => KS S M q.1) := h
end FRS
/-! bits of the memory read back -/
theorem rd_eq {M : Mem} {k j : Nat} {v : Int32} {k' j' : Nat} : rd (wr M k j v) k' j' = if k' = k ∧ j' = j then v else rd M k' j' := by
  by_cases h : k' = k ∧ j' = j
  · obtain ⟨rfl, rfl⟩ := h; rw [if_pos ⟨rfl, rfl⟩]; exact rd_we
  · rw [if_neg h]
    by_cases e : k' = k
    · exact rd_wj (fun q => h ⟨e, q⟩)
    · exact rd_wk e

