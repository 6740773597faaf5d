/-! what holds of a state's row; what both hold between calls -/
def GVr (f : Nat → Int32) (a c : Nat) (v : Int32) : Prop := ∀ N, (∀ j, j < 19 → rd N 136 j = f j) → Pc (mX7_gaugeOf 135 (Int32.ofNat (c / 2)) (Int32.ofNat (c % 2)) (Int32.ofNat a) N) (fun q => q.2 = v)
/-- the last step's gauge is that of the state before it -/
def LG2 (f : Nat → Int32) : Prop := ∀ j m : Nat, f 53 = Int32.ofNat (j + 1) → j < 8 → f 52 = Int32.ofNat m → m < 256 → ∃ l : Nat, l < 16 ∧ (f (54 + 4 * j)).toInt = ((l / 2 : Nat) : Int) ∧ (f (55 + 4 * j)).toInt = ((l % 2 : Nat) : Int) ∧ m.testBit (l / 2) = true ∧ GVr f (m - 2 ^ (l / 2)) l (f (56 + 4 * j))
def RI (f : Nat → Int32) : Prop := (f 53).toInt ≤ 8 ∧ (∀ n : Nat, (f 0).toInt = (n : Int) → SQ n f) ∧ LG2 f
def HI (N : Mem) : Prop := ∀ i : Nat, i < 10 → (i : Int) < (rd N 135 4).toInt → RI (fun j => rd N 139 (86 * i + j))
def SS (M N : Mem) : Prop := PR 5 M (row 136 N) ∧ HRel M N ∧ RI (row 136 N) ∧ HI N ∧ PV M
section ST
variable {g : Gm} {n m a b c l : Nat} {M M' N N' N0 : Mem} {lc lg r : Int32}
theorem RI.cong {f f' : Nat → Int32} (h : RI f) (e : ∀ p, p < 86 → f' p = f p) : RI f' := by
  have h53 := h.1
  refine ⟨by rw [e 53 (by omega)]; exact h.1, fun n hn j hj => ?_, fun j m h53 h8 h52 hm => ?_⟩
  · rw [e 0 (by omega)] at hn
    rw [e 53 (by omega)] at hj
    rw [e _ (by omega), e _ (by omega)]; exact h.2.1 n hn j hj
  · rw [e _ (by omega)] at h53 h52
    obtain ⟨l, h1, h2, h3, h4, h5⟩ := h.2.2 j m h53 h8 h52 hm
    refine ⟨l, h1, ?_, ?_, h4, ?_⟩
    · rw [e _ (by omega)]; exact h2
    · rw [e _ (by omega)]; exact h3
    · rw [e _ (by omega)]
      exact fun N hN => h5 N (fun j hj => (hN j hj).trans (e j (by omega)))
theorem pr_9 {f : Nat → Int32} (h : PR 5 M f) : (rd M 5 0).toInt ≤ 9 := by rw [h.lc]; exact h.lb.2
/-- the row's numbers -/
theorem row_at (hI : MI N) (hP : PR 5 M (row 136 N)) : ∃ m, m < 2 ^ nb 5 M ∧ rd M 5 13 = Int32.ofNat m ∧ Row (nb 5 M) m (rd N 136) := by
  obtain ⟨n, m, hR⟩ := hI.2.1
  have en : n = nb 5 M := by
    have h1 := hP.pb.bn
    have h2 : rd N 136 0 = Int32.ofNat n := hR.1
    have h3 : (rd N 136 0).toInt = (nb 5 M : Int) := h1
    rw [h2, t_of (by have := hR.2.1; omega)] at h3
    omega
  subst en
  exact ⟨m, hR.2.2.2.1, hP.ma.trans hR.2.2.1, hR⟩
theorem last_some {f : Nat → Int32} (hP : PR 5 M f) : ∃ lc lg, mX1_lastCode 5 M = some lc ∧ mX1_lastGauge 5 M = some lg := by
  have hs := hP.sb
  have n1 : ((1 : Int32)).toInt = 1 := rfl
  have hn : rd M 5 14 = f 53 := hP.ns
  unfold mX1_lastCode mX1_lastGauge ite2
  rw [hn]
  by_cases c : f 53 ≤ 0
  · rw [if_pos c, if_pos c]; exact ⟨_, _, rfl, rfl⟩
  · rw [if_neg c, if_neg c]
    have c : 0 < (f 53).toInt := i_nle c
    have e := i_sub (a := f 53) (b := 1) (by omega) (by omega)
    have o : okb (f 53 - (1 : Int32)) 8 = true := ok_in (by omega) (by omega)
    rw [o]
    exact ⟨_, _, rfl, rfl⟩
theorem PV.ks {S : Nat → Nat → Prop} (h : PV M) (hk : KS S M M') (hs : ∀ c j, 110 ≤ c → c ≤ 132 → (c < 112 ∨ 118 < c) → ¬ S c j) (hl : ∀ j, rl M' (110 + 19) j = rl M (110 + 19) j) : PV M' := by
  have fr : ∀ c j, 110 ≤ c → c ≤ 132 → (c < 112 ∨ 118 < c) → rd M' c j = rd M c j := fun c j h1 h2 h3 => hk c j (hs c j h1 h2 h3)
  have hb : BL 119 M 119 M' := ⟨fr _ _ (by omega) (by omega) (by omega), fr _ _ (by omega) (by omega) (by omega), fun _ _ _ => fr _ _ (by omega) (by omega) (by omega), fun _ _ => fr _ _ (by omega) (by omega) (by omega)⟩
  have e : ∀ c j, 119 ≤ c → c < 119 + 8 → rd M' c j = rd M c j := fun c j h1 h2 => fr c j (by omega) (by omega) (by omega)
  have hg : GL 119 M 119 M' := ⟨e _ _ (by omega) (by omega), last_eq (e _ _ (by omega) (by omega)) (fun j _ => e _ _ (by omega) (by omega)), lastg_eq (e _ _ (by omega) (by omega)) (fun j _ => e _ _ (by omega) (by omega)), e _ _ (by omega) (by omega), e _ _ (by omega) (by omega), e _ _ (by omega) (by omega)⟩
  refine ⟨h.1.bl hb (fun _ => fr _ _ (by omega) (by omega) (by omega)) (fun _ => fr _ _ (by omega) (by omega) (by omega)), by rw [hb.1]; exact h.2.1, fun h6 => ?_⟩
  rw [fr _ _ (by omega) (by omega) (by omega)] at h6
  obtain ⟨m, h1, h2, h3⟩ := h.2.2 h6
  have n8 := nb8 h.2.1
  refine ⟨m, by rw [hb.bn]; exact h1, hg.1.trans h2, ?_⟩
  exact h3.of n8 (n_256 n8 h1) hb hg ⟨fr _ _ (by omega) (by omega) (by omega), fr _ _ (by omega) (by omega) (by omega), fr _ _ (by omega) (by omega) (by omega)⟩ (fun c j hc => fr c j (by omega) (by omega) (by omega)) hl
theorem SS.cl (h : SS M N) (e : ∀ c j, (5 ≤ c ∧ c < 13) ∨ c = 21 ∨ (23 ≤ c ∧ c < 103) → rd M' c j = rd M c j) (hv : PV M') : SS M' N :=
  ⟨h.1.mem (fun c j h1 h2 => e c j (by omega)), h.2.1.ks (fun c j hc => e c j (by omega)) (fun _ _ _ => rfl), h.2.2.1, h.2.2.2.1, hv⟩
/-- the places alone are written -/
theorem SS.pl {S : Nat → Nat → Prop} (h : SS M N) (hk : KS S M M') (hl : KL M M') (hs : ∀ c j, S c j → (103 ≤ c ∧ c ≤ 109) ∨ (112 ≤ c ∧ c ≤ 118)) : SS M' N :=
  h.cl (fun c j hc => hk c j (fun z => by have := hs c j z; omega)) (h.2.2.2.2.ks hk (fun c j h1 h2 h3 z => by have := hs c j z; omega) (fun j => hl.rl j))
theorem SS.rf (h : SS M N) (e0 : ∀ j, rd N' 136 j = rd N 136 j) (e1 : ∀ j, rd N' 139 j = rd N 139 j) (e2 : rd N' 135 4 = rd N 135 4) : SS M N' := by
  have er : row 136 N' = row 136 N := funext e0
  obtain ⟨h1, h2, h3, h4, h5⟩ := h
  refine ⟨by rw [er]; exact h1, h2.ks (fun _ _ _ => rfl) (fun c j hc => ?_), by rw [er]; exact h3, fun i hi h => ?_, h5⟩
  · rcases hc with rfl | ⟨rfl, rfl⟩
    · exact e1 j
    · exact e2
  · rw [e2] at h
    have eq : (fun j => rd N' 139 (86 * i + j)) = (fun j => rd N 139 (86 * i + j)) := funext (fun j => e1 _)
    rw [eq]; exact h4 i hi h
theorem SS.ks {S : Nat → Nat → Prop} (h : SS M N) (hk : KS S N N') (hs : ∀ c j, c = 136 ∨ c = 139 ∨ (c = 135 ∧ j = 4) → ¬ S c j) : SS M N' := h.rf (fun j => hk _ _ (hs _ _ (by omega))) (fun j => hk _ _ (hs _ _ (by omega))) (hk _ _ (hs _ _ (by omega)))
theorem SS.th (h : SS M N) {v : Int32} : SS M (wr N 135 5 v) := h.rf (fun _ => rd_wk (by decide)) (fun _ => rd_wk (by decide)) (rd_wj (by decide))
/-- the planner prepared for the part -/
theorem pc_prep (h : SS M N) (hI : MI N) : Pc (mX3_prepare 110 5 M) (fun q => SS q.1 N ∧ KS SPp M q.1 ∧ ∃ m lc lg, m < 2 ^ nb 5 q.1 ∧ rd q.1 5 13 = Int32.ofNat m ∧ PK 5 m q.1 ∧ Row (nb 5 q.1) m (rd N 136) ∧ mX1_lastCode 5 q.1 = some lc ∧ mX1_lastGauge 5 q.1 = some lg) := by
  obtain ⟨m, h1, h2, h3⟩ := row_at hI h.1
  obtain ⟨lc, lg, e1, e2⟩ := last_some h.1
  refine (pc_prepare (by omega) (pr_9 h.1) h2 h1 h.2.2.2.2 e1 e2).mono (fun q hq => ?_)
  obtain ⟨k1, k2, k3⟩ := hq
  have hb : BL 5 M 5 q.1 := BL.ks k1 (fun c j h1 h2 z => by unfold SPp at z; omega)
  have hg : GL 5 M 5 q.1 := GL.ks k1 (fun c j h1 h2 z => by unfold SPp at z; omega)
  refine ⟨h.cl (fun c j hc => k1 c j (by unfold SPp; omega)) k3, k1, m, lc, lg, by rw [hb.bn]; exact h1, hg.1.trans h2, k2, by rw [hb.bn]; exact h3, hg.2.1.trans e1, hg.2.2.1.trans e2⟩
/-- both laid: what is compared -/
theorem ctx_of {N2 : Mem} (h : SS M N) (hK : PK 5 m M) (hr : row 136 N = row 136 N0) (hB : CBx (nb 5 M) m N0 N2) (hC : CLa (nb 5 M) m N2 0) (hP : Pl g (nb 5 M) m N2) : CTX (w2 g) 5 m M N0 N2 :=
  ⟨hK.1, pr_9 h.1, by rw [hB.2.1, ← hr]; exact h.1, hP.1, hB.2.2.1, hB.2.2.2, hC, hK.2.2.1, hB.2.1⟩
theorem pc_lastNow (h8 : (rd N 136 53).toInt ≤ 8) (h0 : 0 ≤ (rd N 136 53).toInt) : Pc (mX7_lastNow 135 N) (fun r => (rd N 136 53 = 0 ∧ r = 16) ∨ ∃ j : Nat, j < 8 ∧ rd N 136 53 = Int32.ofNat (j + 1) ∧ r = (2 : Int32) * rd N 136 (54 + 4 * j) + rd N 136 (55 + 4 * j)) := by
  unfold mX7_lastNow
  refine Pc.k (fun _ => Pc.i (fun c => Pc.ok (Or.inl ⟨c, rfl⟩)) (fun c => Pc.k (fun _ => ?_)))
  have c : ¬ rd N 136 53 = 0 := c
  have c2 : (rd N 136 53).toInt ≠ 0 := fun z => c (i_eq.mpr z)
  have n1 : ((1 : Int32)).toInt = 1 := rfl
  obtain ⟨j, ej⟩ : ∃ j : Nat, (rd N 136 53).toInt = ((j + 1 : Nat) : Int) := ⟨((rd N 136 53).toInt - 1).toNat, by omega⟩
  have e53 : rd N 136 53 = Int32.ofNat (j + 1) := by rw [i_eq, ej, t_of (by omega)]
  have es : rd N 136 53 - (1 : Int32) = Int32.ofNat j := by
    rw [i_eq, i_sub (by omega) (by omega), t_of (by omega)]; omega
  show Pc (cap (mX7_stepOf 135 (rd N 136 53 - (1 : Int32)) (0 : Int32) N) _) _
  rw [es]
  refine Pc.c (pc_stepOf (j := j) (w := 0) (by omega) (by omega)) (fun r5 e5 => Pc.k (fun _ => ?_))
  show Pc (cap (mX7_stepOf 135 (rd N 136 53 - (1 : Int32)) (1 : Int32) N) _) _
  rw [es]
  refine Pc.c (pc_stepOf (j := j) (w := 1) (by omega) (by omega)) (fun r9 e9 => Pc.ok (Or.inr ⟨j, by omega, e53, ?_⟩))
  rw [e5, e9, show 54 + 4 * j + 0 = 54 + 4 * j by omega, show 54 + 4 * j + 1 = 55 + 4 * j by omega]
/-- the last step: by both -/
theorem lst_of (h : CTX g 5 m M N0 N) (hR : RI (row 136 N)) (m2 : m < 2 ^ nb 5 M) (hm : rd M 5 13 = Int32.ofNat m) (elc : mX1_lastCode 5 M = some lc) (elg : mX1_lastGauge 5 M = some lg) : Pc (mX7_lastNow 135 N) (fun r => ∃ l, r = Int32.ofNat l ∧ l ≤ 16 ∧ LST 5 M N m l lc lg) := by
  have hP := h.2.2.1
  have n8 := nb8 h.2.1
  have m256 := n_256 n8 m2
  have hs : rd M 5 14 = rd N 136 53 := hP.ns
  have hb : 0 ≤ (rd N 136 53).toInt ∧ (rd N 136 53).toInt ≤ 8 := hP.sb
  have h8 : (rd M 5 14).toInt ≤ 8 := by rw [hs]; exact hb.2
  refine (pc_lastNow hb.2 hb.1).mono (fun r hr => ?_)
  have q1 := pc_lastCode (k := 5) h8 lc elc
  have q2 := pc_lastGauge (k := 5) h8 lg elg
  rw [hs] at q1 q2
  rcases hr with ⟨e, er⟩ | ⟨j, hj, e53, er⟩
  · refine ⟨16, er, by omega, Or.inl ⟨rfl, ?_⟩⟩
    rcases q1 with ⟨_, q⟩ | ⟨q, _⟩
    · exact q
    · rw [e, show ((0 : Int32)).toInt = 0 from rfl] at q; omega
  · have t53 : (rd N 136 53).toInt = ((j + 1 : Nat) : Int) := by rw [e53, t_of (by omega)]
    obtain ⟨l, hl, f1, f2, tb, hV⟩ := hR.2.2 j m e53 hj (hP.ma.symm.trans hm) m256
    have f1 : (rd N 136 (54 + 4 * j)).toInt = ((l / 2 : Nat) : Int) := f1
    have f2 : (rd N 136 (55 + 4 * j)).toInt = ((l % 2 : Nat) : Int) := f2
    have hst := hP.st j (by show (j : Int) < (rd N 136 53).toInt; omega)
    have e5 : lc = rd M (5 + 5) j := by
      rcases q1 with ⟨q, _⟩ | ⟨_, q⟩
      · omega
      · rw [q, show (rd N 136 53).toInt.toNat - 1 = j by omega]
    have e6 : lg = rd M (5 + 6) j := by
      rcases q2 with ⟨q, _⟩ | ⟨_, q⟩
      · omega
      · rw [q, show (rd N 136 53).toInt.toNat - 1 = j by omega]
    have s1 : (rd M (5 + 5) j).toInt = 2 * (rd N 136 (54 + 4 * j)).toInt + (rd N 136 (55 + 4 * j)).toInt := hst.1
    have s2 : rd M (5 + 6) j = rd N 136 (56 + 4 * j) := hst.2.1
    have lb : l / 2 < nb 5 M := by
      by_cases q : l / 2 < nb 5 M
      · exact q
      · have h2 : 2 ^ nb 5 M ≤ 2 ^ (l / 2) := Nat.pow_le_pow_right (by decide) (by omega)
        rw [Nat.testBit_lt_two_pow (Nat.lt_of_lt_of_le m2 h2)] at tb
        cases tb
    have el : r = Int32.ofNat l := by
      rw [i_eq, er, i_add, i_mulc (a := (2 : Int32)) (c := 2) rfl (by omega) (by omega), t_of (by omega)]
      · omega
      · rw [i_mulc (a := (2 : Int32)) (c := 2) rfl (by omega) (by omega)]; omega
      · rw [i_mulc (a := (2 : Int32)) (c := 2) rfl (by omega) (by omega)]; omega
    refine ⟨l, el, by omega, Or.inr ⟨by omega, tb, ?_, ?_⟩⟩
    · rw [i_eq, e5, s1, t_of (by omega)]; omega
    · have hlt : m - 2 ^ (l / 2) < 2 ^ nb 5 M := Nat.lt_of_le_of_lt (Nat.sub_le _ _) m2
      obtain ⟨N1, q1, w1, w2, w3⟩ := h.2.2.2.2.2.1 (m - 2 ^ (l / 2)) l hlt (by omega)
      rw [w3, e6, s2]
      have er1 : row 136 N1 = row 136 N := w1.trans h.2.2.2.2.2.2.2.2.symm
      exact (hV N1 (fun j' _ => congrFun er1 j') q1 w2).symm
end ST
