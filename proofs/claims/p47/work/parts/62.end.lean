/-! part 62.end -/
section
/-! the start -/
theorem bx0 : ∀ k j, (bxc (fT sP) k j).1 ≤ 0 ∧ 0 ≤ (bxc (fT sP) k j).2 := by
  have p0 : ∀ c j, (bxP c j).1 ≤ 0 ∧ 0 ≤ (bxP c j).2 := by
    intro c j
    unfold bxP
    split <;> decide
  have l0 : ∀ c j, (bxL c j).1 ≤ 0 ∧ 0 ≤ (bxL c j).2 := by
    intro c j
    unfold bxL
    split <;> decide
  have n0 : ∀ j, (bxN0 j).1 ≤ 0 ∧ 0 ≤ (bxN0 j).2 := by
    intro j
    unfold bxN0
    split <;> decide
  have h0 : ∀ j, (bxH j).1 ≤ 0 ∧ 0 ≤ (bxH j).2 := by
    intro j
    unfold bxH
    split <;> decide
  have r0 : ∀ j, (bxR false j).1 ≤ 0 ∧ 0 ≤ (bxR false j).2 := by
    intro j
    unfold bxR
    split <;> decide
  have b0 : ∀ j, (bxB j).1 ≤ 0 ∧ 0 ≤ (bxB j).2 := by
    intro j
    unfold bxB
    split <;> decide
  have s0 : ∀ i, (sP i).1 ≤ 0 ∧ 0 ≤ (sP i).2 := by
    intro i
    unfold sP
    split
    · decide
    · split <;> decide
  have t0 : (bT.1 : Int) ≤ 0 ∧ 0 ≤ bT.2 := by decide
  intro k j
  unfold bxc
  by_cases c0 : k = 0
  · rw [if_pos c0]
    by_cases c : j = 1
    · rw [if_pos c]; exact s0 1
    · rw [if_neg c]; exact t0
  rw [if_neg c0]
  by_cases c1 : k = 1
  · rw [if_pos c1]; decide
  rw [if_neg c1]
  by_cases c2 : k = 2
  · rw [if_pos c2]; exact r0 j
  rw [if_neg c2]
  by_cases c3 : k = 3
  · rw [if_pos c3]; exact t0
  rw [if_neg c3]
  by_cases c4 : k < 5
  · rw [if_pos c4]; exact t0
  rw [if_neg c4]
  by_cases c5 : k < 21
  · rw [if_pos c5]; exact p0 _ j
  rw [if_neg c5]
  by_cases c6 : k = 21
  · rw [if_pos c6]; exact h0 j
  rw [if_neg c6]
  by_cases c7 : k = 22
  · rw [if_pos c7]; exact t0
  rw [if_neg c7]
  by_cases c8 : k < 103
  · rw [if_pos c8]; exact p0 _ j
  rw [if_neg c8]
  by_cases c9 : k < 110
  · rw [if_pos c9]; exact l0 _ j
  rw [if_neg c9]
  by_cases d0 : k = 110
  · rw [if_pos d0]; exact n0 j
  rw [if_neg d0]
  by_cases d1 : k = 111
  · rw [if_pos d1]; decide
  rw [if_neg d1]
  by_cases d2 : k < 119
  · rw [if_pos d2]; exact l0 _ j
  rw [if_neg d2]
  by_cases d3 : k < 127
  · rw [if_pos d3]; exact p0 _ j
  rw [if_neg d3]
  by_cases d4 : k = 127
  · rw [if_pos d4]; decide
  rw [if_neg d4]
  by_cases d5 : k = 128
  · rw [if_pos d5]; decide
  rw [if_neg d5]
  by_cases d6 : k = 129
  · rw [if_pos d6]; exact t0
  rw [if_neg d6]
  by_cases d7 : k = 130
  · rw [if_pos d7]; decide
  rw [if_neg d7]
  by_cases d8 : k < 133
  · rw [if_pos d8]; exact t0
  rw [if_neg d8]
  by_cases d9 : k = 133
  · rw [if_pos d9]
    by_cases c : j = 0
    · rw [if_pos c]; exact s0 0
    · rw [if_neg c]
      by_cases c' : j = 3
      · rw [if_pos c']; exact s0 2
      · rw [if_neg c']; exact b0 j
  rw [if_neg d9]
  by_cases e0 : k = 134 ∨ k = 154 ∨ k = 155
  · rw [if_pos e0]; decide
  · rw [if_neg e0]; exact t0
theorem ok_m0 : OKb (fT sP) m0 := fun k j => bx0 k j
theorem pH_in (f : Bx) {k : Nat} (hk : isP k) (j : Nat) : (bxc f k j).1 ≤ (pH j).toInt ∧ (pH j).toInt ≤ (bxc f k j).2 := by
  rw [bx_P0 hk]
  rcases Nat.lt_or_ge j 15 with h | h
  · have key : ∀ j, j < 15 → (bxP 0 j).1 ≤ (pH j).toInt ∧ (pH j).toInt ≤ (bxP 0 j).2 := by decide +kernel
    exact key j h
  · have e1 : pH j = 0 := by
      unfold pH
      repeat (rw [if_neg (by omega)])
    have e2 : bxP 0 j = bT := by
      unfold bxP
      split <;> first | omega | rfl
    rw [e1, e2]; decide
theorem tT_in (f : Bx) {k : Nat} (hk : isP k) (j : Nat) : (bxc f (k + 2) j).1 ≤ (tT j).toInt ∧ (tT j).toInt ≤ (bxc f (k + 2) j).2 := by
  rw [bx_P (c := 2) hk (by decide)]
  exact i_rng _
theorem ok_pt {f : Bx} {k : Nat} {M : Mem} (hk : isP k) (h : OKb f M) : OKb f (ptP k M) := by
  intro k' j
  show (bxc f k' j).1 ≤ ((if k' = k then pH else if k' = k + 2 then tT else M.1 k') j).toInt ∧ ((if k' = k then pH else if k' = k + 2 then tT else M.1 k') j).toInt ≤ (bxc f k' j).2
  by_cases e : k' = k
  · rw [if_pos e, e]; exact pH_in f hk j
  · rw [if_neg e]
    by_cases e2 : k' = k + 2
    · rw [if_pos e2, e2]; exact tT_in f hk j
    · rw [if_neg e2]; exact h k' j
theorem ok_MZ : OKb (fT sP) MZ := by
  have h1 : OKb (fT sP) (wr m0 2 1 (-1)) := ok_m0.put (b := (-1, 600)) rfl (by decide)
  have h2 : OKb (fT sP) MA := ok_pt isP_13 (ok_pt isP_5 h1)
  have ih : ∀ i, i < 10 → isP (23 + 8 * i) := fun i hi => Or.inr (Or.inr (Or.inr ⟨i, hi, rfl⟩))
  have h3 : OKb (fT sP) MB := ok_pt (ih 9 (by decide)) (ok_pt (ih 8 (by decide)) (ok_pt (ih 7 (by decide)) (ok_pt (ih 6 (by decide)) (ok_pt (ih 5 (by decide)) (ok_pt (ih 4 (by decide)) (ok_pt (ih 3 (by decide)) (ok_pt (ih 2 (by decide)) (ok_pt (ih 1 (by decide)) (ok_pt (ih 0 (by decide)) h2)))))))))
  have h4 : OKb (fT sP) (ptP 119 MB) := ok_pt isP_119 h3
  have h5 : OKb (fT sP) MC := by
    intro k j
    show (bxc (fT sP) k j).1 ≤ ((if k = 127 then rQ else if k = 110 then rP else (ptP 119 MB).1 k) j).toInt ∧ ((if k = 127 then rQ else if k = 110 then rP else (ptP 119 MB).1 k) j).toInt ≤ (bxc (fT sP) k j).2
    by_cases e : k = 127
    · rw [if_pos e, e]
      show (-1 : Int) ≤ (rQ j).toInt ∧ (rQ j).toInt ≤ 2147483647
      unfold rQ
      split <;> decide
    · rw [if_neg e]
      by_cases e2 : k = 110
      · rw [if_pos e2, e2]
        show (bxN0 j).1 ≤ (rP j).toInt ∧ (rP j).toInt ≤ (bxN0 j).2
        rcases Nat.lt_or_ge j 8 with h | h
        · have key : ∀ j, j < 8 → (bxN0 j).1 ≤ (rP j).toInt ∧ (rP j).toInt ≤ (bxN0 j).2 := by decide +kernel
          exact key j h
        · have e1 : rP j = 0 := by
            unfold rP
            repeat (rw [if_neg (by omega)])
          have e2 : bxN0 j = bT := by
            unfold bxN0
            split <;> first | omega | rfl
          rw [e1, e2]; decide
      · rw [if_neg e2]; exact h4 k j
  intro k j
  show (bxc (fT sP) k j).1 ≤ ((if k = 136 then tb else if k = 137 then tb else if k = 135 then rM else MC.1 k) j).toInt ∧ ((if k = 136 then tb else if k = 137 then tb else if k = 135 then rM else MC.1 k) j).toInt ≤ (bxc (fT sP) k j).2
  by_cases e1 : k = 136
  · rw [if_pos e1, e1]; exact i_rng _
  · rw [if_neg e1]
    by_cases e2 : k = 137
    · rw [if_pos e2, e2]; exact i_rng _
    · rw [if_neg e2]
      by_cases e3 : k = 135
      · rw [if_pos e3, e3]; exact i_rng _
      · rw [if_neg e3]; exact h5 k j
theorem std0 : ∀ k j, k ≠ 136 → (stdM k j).1 ≤ 0 ∧ 0 ≤ (stdM k j).2 := by
  have s0 : ∀ j, (bxS 0 j).1 ≤ 0 ∧ 0 ≤ (bxS 0 j).2 := by
    intro j
    rcases Nat.lt_or_ge j 86 with h | h
    · have key : ∀ j, j < 86 → (bxS 0 j).1 ≤ 0 ∧ 0 ≤ (bxS 0 j).2 := by decide
      exact key j h
    · unfold bxS
      repeat (rw [if_neg (by omega)])
      decide
  have m0 : ∀ j, (bxM0 j).1 ≤ 0 ∧ 0 ≤ (bxM0 j).2 := by
    intro j
    unfold bxM0
    repeat (first | (split; decide) | decide)
  intro k j hk
  unfold stdM
  by_cases c1 : k = 135
  · rw [if_pos c1]; exact m0 j
  rw [if_neg c1, if_neg hk]
  by_cases c2 : k = 137
  · rw [if_pos c2]; exact s0 j
  rw [if_neg c2]
  by_cases c3 : k = 139
  · rw [if_pos c3]; exact s0 _
  rw [if_neg c3]
  by_cases c4 : k = 145
  · rw [if_pos c4]; decide
  rw [if_neg c4]
  by_cases c5 : k = 150
  · rw [if_pos c5]; decide
  rw [if_neg c5]; decide
theorem tb_in (m : Int) (hm : m ≤ 10) (j : Nat) : (bxS m j).1 ≤ (tb j).toInt ∧ (tb j).toInt ≤ (bxS m j).2 := by
  rcases Nat.lt_or_ge j 86 with h | h
  · by_cases e : j = 36
    · subst e
      show m ≤ (10 : Int) ∧ (10 : Int) ≤ 60
      exact ⟨hm, by decide⟩
    · have key : ∀ j, j < 86 → j ≠ 36 → (bxS 0 j).1 ≤ (tb j).toInt ∧ (tb j).toInt ≤ (bxS 0 j).2 := by decide +kernel
      have e2 : bxS m j = bxS 0 j := by
        unfold bxS
        simp only [e, if_false]
      rw [e2]; exact key j h e
  · have e1 : bxS m j = bT := by
      unfold bxS
      repeat (rw [if_neg (by omega)])
    rw [e1]; exact i_rng _
theorem mi_MZ : MI MZ := by
  refine ⟨⟨fun k j => ⟨Int.le_refl _, Int.le_refl _⟩, fun k j => ?_, fun _ _ => trivial⟩, ⟨0, 0, rfl, by decide, rfl, by decide, by decide, 0, rfl, by decide, fun j h => absurd h (by omega)⟩, fun e he => absurd he ?_⟩
  · unfold bxm
    split
    · exact i_rng _
    · rename_i hw
      show (stdM k j).1 ≤ ((if k = 136 then tb else if k = 137 then tb else if k = 135 then rM else MC.1 k) j).toInt ∧ ((if k = 136 then tb else if k = 137 then tb else if k = 135 then rM else MC.1 k) j).toInt ≤ (stdM k j).2
      by_cases e1 : k = 136
      · rw [if_pos e1, e1]; exact tb_in 1 (by decide) j
      rw [if_neg e1]
      by_cases e2 : k = 137
      · rw [if_pos e2, e2]; exact tb_in 0 (by decide) j
      rw [if_neg e2]
      by_cases e3 : k = 135
      · rw [if_pos e3, e3]
        by_cases e9 : j = 9
        · rw [e9]; decide
        · have e : rM j = 0 := if_neg e9
          rw [e]; exact std0 135 j (by decide)
      rw [if_neg e3]
      rcases Nat.lt_or_ge k 133 with hk | hk
      · have e : stdM k j = bT := by
          unfold stdM
          repeat (rw [if_neg (by omega)])
        rw [e]; exact i_rng _
      · rw [(zb_MC k hk).1]
        exact std0 k j e1
  · show ¬ ((e : Nat) : Int) < ((0 : Int32)).toInt
    rw [show ((0 : Int32)).toInt = 0 from rfl]
    omega
theorem pp_MZ : PP3 MZ MZ := ⟨⟨⟨ok_MZ, by decide⟩, mi_MZ, rfl⟩, ⟨fun i hi => absurd hi (by rw [show rd MZ 135 7 = 0 from rfl, show ((0 : Int32)).toInt = 0 from rfl]; omega), rfl, by decide⟩, rfl, rfl⟩
end
/-! part 62b.fresh -/
section
/-! at the begin both hold the same -/
theorem mz_127 : ∀ j, j < 256 → rd MZ (110 + 17) j = -1 := by decide +kernel
theorem mz_x : rd MZ 119 0 = 0 ∧ rd MZ 110 6 = 0 ∧ rd MZ 21 2 = 0 ∧ rd MZ 21 1 = 0 ∧ rd MZ 136 1 = 0 ∧ rd MZ 136 0 = 0 ∧ rd MZ 136 19 = 0 ∧ rd MZ 136 53 = 0 ∧ rd MZ 135 4 = 0 := by decide +kernel
theorem mz_tl : ∀ j, j < 10 → rd MZ (5 + 2) j = rd MZ 136 (39 + j) := by decide +kernel
theorem mz_y : rd MZ 5 0 = rd MZ 136 1 ∧ (rd MZ 5 3 = rd MZ 136 36 ∧ rd MZ 5 4 = rd MZ 136 37 ∧ rd MZ 5 5 = rd MZ 136 38) ∧ rd MZ 136 48 = 0 ∧ (rd MZ 5 7 = rd MZ 136 49 ∧ rd MZ 5 8 = rd MZ 136 50 ∧ rd MZ 5 9 = rd MZ 136 51) ∧ rd MZ 5 10 = rd MZ 136 19 ∧ rd MZ 5 13 = rd MZ 136 52 ∧ rd MZ 5 14 = rd MZ 136 53 ∧ rd MZ 5 2 = 0 := by decide +kernel
theorem pr_MZ : PR 5 MZ (row 136 MZ) := by
  obtain ⟨_, _, _, _, x1, x0, x19, x53, _⟩ := mz_x
  obtain ⟨y0, y3, y48, y7, y10, y13, y14, y2⟩ := mz_y
  have n0 : ((0 : Int32)).toInt = 0 := rfl
  have e1 : (row 136 MZ 1).toInt = 0 := by show (rd MZ 136 1).toInt = 0; rw [x1]; rfl
  have e0 : (row 136 MZ 0).toInt = 0 := by show (rd MZ 136 0).toInt = 0; rw [x0]; rfl
  have e19 : (row 136 MZ 19).toInt = 0 := by show (rd MZ 136 19).toInt = 0; rw [x19]; rfl
  have e53 : (row 136 MZ 53).toInt = 0 := by show (rd MZ 136 53).toInt = 0; rw [x53]; rfl
  refine ⟨y0, by rw [e1]; omega, by rw [e1, e0]; rfl, fun j hj => by rw [e1] at hj; omega, by rw [y2, n0]; omega, fun b hb => by rw [e0] at hb; omega, ?_, y3, y48, mz_tl, y7, y10, by rw [e19]; omega, fun j hj => by rw [e19] at hj; omega, fun j hj => by rw [e19] at hj; omega, y13, y14, by rw [e53]; omega, fun j hj => by rw [e53] at hj; omega⟩
  rw [y2, n0, e0]; decide
theorem ss_MZ : SS MZ MZ := by
  obtain ⟨x119, x6, x2, x21, x1, x0, x19, x53, x4⟩ := mz_x
  have n0 : ((0 : Int32)).toInt = 0 := rfl
  have en : nb 119 MZ = 0 := by unfold nb; rw [x119]; rfl
  refine ⟨pr_MZ, ⟨0, 0, x4, x2, x21, by omega, by omega, fun i hi => by omega⟩, RI.flat x53, fun i hi h => by rw [x4, n0] at h; omega, fun a ha hw => ?_, by rw [x119, n0]; omega, fun z => absurd x6 z⟩
  rw [en] at ha
  exact absurd (mz_127 a (by omega)) hw
end
