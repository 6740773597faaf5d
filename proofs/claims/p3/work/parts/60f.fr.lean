/-! frames of reading a token -/
abbrev SC (k j : Nat) : Prop := k = 2 ∧ 4 ≤ j ∧ j ≤ 7
abbrev SN (k j : Nat) : Prop := k = 135 ∧ 11 ≤ j ∧ j ≤ 14
macro "frd" : tactic => `(tactic| repeat' (first
  | (refine Fr.i ?_ ?_)
  | (refine Fr.k ?_)
  | (refine Fr.c ?_; intro _)
  | (refine Fr.bw (by decide) (by assumption) ?_; intro _ _)
  | exact Fr.ok (by assumption)
  | exact Fr.n
  | (refine Fr.bl (by assumption) ?_; intro _ _)
  | (refine Fr.bd (by assumption) ?_; intro _ _)
  | (refine Fr.o ?_ ?_)
  | (refine Fr.b ?_; intro _)))
section FST
variable {M N M0 N0 : Mem} {ih : Mem → Option (Mem × Unit)} {jh : Mem → Option (Mem × Int32)}
section
attribute [local irreducible] ite2 chk cap cal opt bnd wr wl wd mX4_takeWord_l0 mX4_takeNumber_l0 mX7_advance_l76 mX7_advance_l141 mX7_byteAt mX7_isLetter mX7_isDigit mX4_isLetter mX4_isDigit mX4_isSpace
theorem fr_tw_b (hi : ∀ M, KS SC M0 M → Fr SC M0 (ih M)) (h : KS SC M0 M) : Fr SC M0 (mX4_takeWord_b0 2 ih M) := by
  unfold mX4_takeWord_b0 mX4_takeWord_b39
  frd
  exact hi _ (by assumption)
theorem fr_tn_b (hi : ∀ M, KS SC M0 M → Fr SC M0 (ih M)) (h : KS SC M0 M) : Fr SC M0 (mX4_takeNumber_b0 2 ih M) := by
  unfold mX4_takeNumber_b0 mX4_takeNumber_b76 mX4_takeNumber_b63
  frd
  all_goals exact hi _ (by assumption)
theorem fr_nt_b (hi : ∀ M, KS SC M0 M → Fr SC M0 (ih M)) (h1 : ∀ M, KS SC M0 M → Fr SC M0 (mX4_takeNumber_l0 2 5000 M)) (h2 : ∀ M, KS SC M0 M → Fr SC M0 (mX4_takeWord_l0 2 5000 M)) (h : KS SC M0 M) : Fr SC M0 (mX4_nextToken_b8 2 ih M) := by
  unfold mX4_nextToken_b8 mX4_nextToken_b47 mX4_nextToken_b143 mX4_takeNumber mX4_takeWord
  frd
  all_goals first
    | exact hi _ (by assumption)
    | exact Fr.m (h1 _ (by assumption)) (fun _ _ h => Fr.ok h)
    | exact Fr.m (h2 _ (by assumption)) (fun _ _ h => Fr.ok h)
theorem fr_b76 (hi : ∀ M, KS SN M0 M → Fr SN M0 (jh M)) (h : KS SN M0 M) : Fr SN M0 (mX7_advance_b76 135 jh M) := by
  unfold mX7_advance_b76 mX7_advance_b123
  frd
  exact hi _ (by assumption)
theorem fr_b141 (hi : ∀ M, KS SN M0 M → Fr SN M0 (jh M)) (h : KS SN M0 M) : Fr SN M0 (mX7_advance_b141 135 jh M) := by
  unfold mX7_advance_b141 mX7_advance_b195 mX7_advance_b230
  frd
  all_goals exact hi _ (by assumption)
theorem fr_b0 (hi : ∀ M, KS SN M0 M → Fr SN M0 (jh M)) (h1 : ∀ M, KS SN M0 M → Fr SN M0 (mX7_advance_l141 135 5000 M)) (h2 : ∀ M, KS SN M0 M → Fr SN M0 (mX7_advance_l76 135 5000 M)) (h : KS SN M0 M) : Fr SN M0 (mX7_advance_b0 135 jh M) := by
  unfold mX7_advance_b0 mX7_advance_b26
  frd
  all_goals first
    | exact hi _ (by assumption)
    | exact h1 _ (by assumption)
    | exact h2 _ (by assumption)
end
theorem fr_tw : ∀ (n : Nat) (M : Mem), KS SC M0 M → Fr SC M0 (mX4_takeWord_l0 2 n M) := by
  intro n
  induction n with
  | zero => intro M h; exact Fr.n
  | succ n IH => intro M h; exact fr_tw_b IH h
theorem fr_tn : ∀ (n : Nat) (M : Mem), KS SC M0 M → Fr SC M0 (mX4_takeNumber_l0 2 n M) := by
  intro n
  induction n with
  | zero => intro M h; exact Fr.n
  | succ n IH => intro M h; exact fr_tn_b IH h
theorem fr_nt : ∀ (n : Nat) (M : Mem), KS SC M0 M → Fr SC M0 (mX4_nextToken_l8 2 n M) := by
  intro n
  induction n with
  | zero => intro M h; exact Fr.n
  | succ n IH => intro M h; exact fr_nt_b IH (fr_tn 5000) (fr_tw 5000) h
theorem fr_next : Fr SC M (mX4_nextToken 2 M) := by
  unfold mX4_nextToken
  refine Fr.bw (by decide) KS.rf ?_
  intro M1 h1
  exact fr_nt _ _ h1
theorem fr_l76 : ∀ (n : Nat) (M : Mem), KS SN M0 M → Fr SN M0 (mX7_advance_l76 135 n M) := by
  intro n
  induction n with
  | zero => intro M h; exact Fr.n
  | succ n IH => intro M h; exact fr_b76 IH h
theorem fr_l141 : ∀ (n : Nat) (M : Mem), KS SN M0 M → Fr SN M0 (mX7_advance_l141 135 n M) := by
  intro n
  induction n with
  | zero => intro M h; exact Fr.n
  | succ n IH => intro M h; exact fr_b141 IH h
theorem fr_l0 : ∀ (n : Nat) (M : Mem), KS SN M0 M → Fr SN M0 (mX7_advance_l0 135 n M) := by
  intro n
  induction n with
  | zero => intro M h; exact Fr.n
  | succ n IH => intro M h; exact fr_b0 IH (fr_l141 5000) (fr_l76 5000) h
theorem fr_adv : Fr SN N (mX7_advance 135 N) := by
  unfold mX7_advance
  exact fr_l0 _ _ KS.rf
end FST
