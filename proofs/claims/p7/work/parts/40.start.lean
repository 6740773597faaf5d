theorem q_t5_8 : (Cond.laysFinal "java/lang/String" "java/lang/String" "value" "[B") ∈ WA := wa_q tbl_5 8 rfl rfl
theorem q_t5_10 : (Cond.laysFinal "java/lang/String" "java/lang/String" "coder" "B") ∈ WA := wa_q tbl_5 10 rfl rfl
theorem q_t5_12 : (Cond.lays "java/lang/String" "java/lang/String" "hash" "I") ∈ WA := wa_q tbl_5 12 rfl rfl
theorem q_t5_14 : (Cond.lays "java/lang/String" "java/lang/String" "hashIsZero" "Z") ∈ WA := wa_q tbl_5 14 rfl rfl
theorem q_t5_21 : (Cond.lays "java/lang/StringIndexOutOfBoundsException" "java/lang/Throwable" "backtrace" "Ljava/lang/Object;") ∈ WA := wa_q tbl_5 21 rfl rfl
theorem q_t5_22 : (Cond.lays "java/lang/StringIndexOutOfBoundsException" "java/lang/Throwable" "detailMessage" "Ljava/lang/String;") ∈ WA := wa_q tbl_5 22 rfl rfl
theorem q_t5_23 : (Cond.lays "java/lang/StringIndexOutOfBoundsException" "java/lang/Throwable" "cause" "Ljava/lang/Throwable;") ∈ WA := wa_q tbl_5 23 rfl rfl
theorem q_t5_24 : (Cond.lays "java/lang/StringIndexOutOfBoundsException" "java/lang/Throwable" "stackTrace" "[Ljava/lang/StackTraceElement;") ∈ WA := wa_q tbl_5 24 rfl rfl
theorem q_t5_25 : (Cond.lays "java/lang/StringIndexOutOfBoundsException" "java/lang/Throwable" "depth" "I") ∈ WA := wa_q tbl_5 25 rfl rfl
theorem q_t5_26 : (Cond.lays "java/lang/StringIndexOutOfBoundsException" "java/lang/Throwable" "suppressedExceptions" "Ljava/util/List;") ∈ WA := wa_q tbl_5 26 rfl rfl
theorem q_t5_46 : (Cond.lays "java/lang/ArrayIndexOutOfBoundsException" "java/lang/Throwable" "cause" "Ljava/lang/Throwable;") ∈ WA := wa_q tbl_5 46 rfl rfl
theorem q_t5_47 : (Cond.lays "java/lang/ArrayIndexOutOfBoundsException" "java/lang/Throwable" "stackTrace" "[Ljava/lang/StackTraceElement;") ∈ WA := wa_q tbl_5 47 rfl rfl
theorem q_t5_48 : (Cond.lays "java/lang/ArrayIndexOutOfBoundsException" "java/lang/Throwable" "suppressedExceptions" "Ljava/util/List;") ∈ WA := wa_q tbl_5 48 rfl rfl
theorem q_t5_49 : (Cond.lays "java/lang/ArrayIndexOutOfBoundsException" "java/lang/Throwable" "detailMessage" "Ljava/lang/String;") ∈ WA := wa_q tbl_5 49 rfl rfl
theorem q_t5_50 : (Cond.lays "java/lang/ArrayIndexOutOfBoundsException" "java/lang/Throwable" "backtrace" "Ljava/lang/Object;") ∈ WA := wa_q tbl_5 50 rfl rfl
theorem q_t5_61 : (Cond.lays "java/lang/ArrayIndexOutOfBoundsException" "java/lang/Throwable" "depth" "I") ∈ WA := wa_q tbl_5 61 rfl rfl
theorem inWJ0 : ∀ w ∈ u_ws RJ0 TJ0 4, w ∈ WA := wa_f (List.forall_mem_cons.mpr ⟨q_t5_8, List.forall_mem_cons.mpr ⟨q_t5_10, List.forall_mem_cons.mpr ⟨q_t5_12, List.forall_mem_cons.mpr ⟨q_t5_14, fun _ h => absurd h List.not_mem_nil⟩⟩⟩⟩) _ rfl
theorem inWJx00060 : ∀ w ∈ u_ws RJx00060 TJx00060 6, w ∈ WA := wa_f (List.forall_mem_cons.mpr ⟨q_t5_46, List.forall_mem_cons.mpr ⟨q_t5_47, List.forall_mem_cons.mpr ⟨q_t5_48, List.forall_mem_cons.mpr ⟨q_t5_49, List.forall_mem_cons.mpr ⟨q_t5_50, List.forall_mem_cons.mpr ⟨q_t5_61, fun _ h => absurd h List.not_mem_nil⟩⟩⟩⟩⟩⟩) _ rfl
theorem inWJx7c733 : ∀ w ∈ u_ws RJx7c733 TJx7c733 6, w ∈ WA := wa_f (List.forall_mem_cons.mpr ⟨q_t5_21, List.forall_mem_cons.mpr ⟨q_t5_22, List.forall_mem_cons.mpr ⟨q_t5_23, List.forall_mem_cons.mpr ⟨q_t5_24, List.forall_mem_cons.mpr ⟨q_t5_25, List.forall_mem_cons.mpr ⟨q_t5_26, fun _ h => absurd h List.not_mem_nil⟩⟩⟩⟩⟩⟩) _ rfl
theorem inW5 : ∀ w ∈ u_ws RX5 TX5 0, w ∈ WA := fun _ h => absurd h List.not_mem_nil
theorem st_K {args : Array Value} {s : State} (hts : ∀ w ∈ WA, w.before args s = true) (h0 : ∀ w ∈ lw_tbl, w.before args s = true) : ∃ (D : va_G) (cA : Nat → ClassId), ∀ adW : Nat → Nat, va_K D vwCl (tyL (D, cA, adW)) s := by
  obtain ⟨c0, i0, k0⟩ := u_known (C := RJ0) (T := TJ0) (N := 4) (n := 4) hts inWJ0 (h0 _ (wa_t tbl_4 128 rfl))
  obtain ⟨c1, i1, k1⟩ := u_known (C := RJ4) (T := TJ4) (N := 4) (n := 4) hts inWJ4 (h0 _ (wa_t tbl_2 51 rfl))
  obtain ⟨c2, i2, k2⟩ := u_known (C := RJx00060) (T := TJx00060) (N := 6) (n := 6) hts inWJx00060 (h0 _ (wa_t tbl_5 41 rfl))
  obtain ⟨c3, i3, k3⟩ := u_known (C := RJx7c733) (T := TJx7c733) (N := 6) (n := 6) hts inWJx7c733 (h0 _ (wa_t tbl_3 217 rfl))
  obtain ⟨c4, i4, k4⟩ := u_known (C := RX0) (T := TX0) (N := 3) (n := 3) hts inW0 (h0 _ (wa_t tbl_1 175 rfl))
  obtain ⟨c5, i5, k5⟩ := u_known (C := RX1) (T := TX1) (N := 18) (n := 18) hts inW1 (h0 _ (wa_t tbl_1 76 rfl))
  obtain ⟨c6, i6, k6⟩ := u_known (C := RX2) (T := TX2) (N := 9) (n := 9) hts inW2 (h0 _ (wa_t tbl_1 195 rfl))
  obtain ⟨c7, i7, k7⟩ := u_known (C := RX3) (T := TX3) (N := 13) (n := 13) hts inW3 (h0 _ (wa_t tbl_1 231 rfl))
  obtain ⟨c8, i8, k8⟩ := u_known (C := RX4) (T := TX4) (N := 9) (n := 9) hts inW4 (h0 _ (wa_t tbl_1 38 rfl))
  obtain ⟨c9, i9, k9⟩ := u_known (C := RX5) (T := TX5) (N := 0) (n := 8) hts inW5 (h0 _ (wa_t tbl_5 147 rfl))
  obtain ⟨c10, i10, k10⟩ := u_known (C := RX6) (T := TX6) (N := 9) (n := 9) hts inW6 (h0 _ (wa_t tbl_1 30 rfl))
  obtain ⟨c11, i11, k11⟩ := u_known (C := RX7) (T := TX7) (N := 31) (n := 31) hts inW7 (h0 _ (wa_t tbl_7 60 rfl))
  obtain ⟨a0, b0, e0, f0, g0, x0⟩ := Cond.arrayClass_spec (h0 _ (wa_t tbl_1 74 rfl))
  obtain ⟨a1, b1, e1, f1, g1, x1⟩ := Cond.arrayClass_spec (h0 _ (wa_t tbl_1 73 rfl))
  obtain ⟨a2, b2, e2, f2, g2, x2⟩ := Cond.arrayClass_spec (h0 _ (wa_t tbl_2 48 rfl))
  obtain ⟨a3, b3, e3, f3, g3, x3⟩ := Cond.arrayClass_spec (h0 _ (wa_t tbl_2 49 rfl))
  obtain ⟨a5, b5, e5, f5, g5, x5⟩ := Cond.arrayClass_spec (h0 _ (wa_t tbl_10 17 rfl))
  obtain ⟨comp, a4, b4, q1, q2, q3, q4, q5⟩ := Cond.arrayOver_spec (h0 _ (wa_t tbl_1 181 rfl))
  refine ⟨(fun k => if k = 0 then c0 else if k = 1 then c1 else if k = 2 then c2 else if k = 3 then c3 else if k = 4 then c4 else if k = 5 then c5 else if k = 6 then c6 else if k = 7 then c7 else if k = 8 then c8 else if k = 9 then c9 else if k = 10 then c10 else c11, fun k => if k = 0 then i0 else if k = 1 then i1 else if k = 2 then i2 else if k = 3 then i3 else if k = 4 then i4 else if k = 5 then i5 else if k = 6 then i6 else if k = 7 then i7 else if k = 8 then i8 else if k = 9 then i9 else if k = 10 then i10 else i11), fun k => if k = 0 then a0 else if k = 1 then a1 else if k = 2 then a2 else if k = 3 then a3 else if k = 4 then a4 else a5, fun adW => ⟨?_, ?_⟩⟩
  · intro k q hq
    match k, hq with
    | 0, hq => cases hq; exact k0
    | 1, hq => cases hq; exact k1
    | 2, hq => cases hq; exact k2
    | 3, hq => cases hq; exact k3
    | 4, hq => cases hq; exact k4
    | 5, hq => cases hq; exact k5
    | 6, hq => cases hq; exact k6
    | 7, hq => cases hq; exact k7
    | 8, hq => cases hq; exact k8
    | 9, hq => cases hq; exact k9
    | 10, hq => cases hq; exact k10
    | 11, hq => cases hq; exact k11
    | k + 12, hq => simp [vwCl] at hq
  · intro k q hq
    match k, hq with
    | 0, hq => cases hq; exact ⟨fun n z => ⟨(fun k h => by cases h), b0, g0, e0, x0⟩, f0⟩
    | 1, hq => cases hq; exact ⟨fun n z => ⟨(fun k h => by cases h), b1, g1, e1, x1⟩, f1⟩
    | 2, hq => cases hq; exact ⟨fun n z => ⟨(fun k h => by cases h), b2, g2, e2, x2⟩, f2⟩
    | 3, hq => cases hq; exact ⟨fun n z => ⟨(fun k h => by cases h), b3, g3, e3, x3⟩, f3⟩
    | 4, hq => cases hq; exact ⟨fun n z => ⟨(fun k h => by cases h), b4, q3, comp, q4⟩, b4, comp, q3, q4, q1, q5⟩
    | 5, hq => cases hq; exact ⟨fun n z => ⟨(fun k h => by cases h), b5, g5, e5, x5⟩, f5⟩
    | k + 6, hq => simp at hq
abbrev nwS : List Cond := [.exactly (.string "SheetFolder" 68) "java/lang/String", .exactly (.string "SheetFolder" 130) "java/lang/String", .exactly (.string "SheetFolder" 141) "java/lang/String", .exactly (.string "SheetFolder" 178) "java/lang/String", .exactly (.string "SheetFolder" 213) "java/lang/String", .exactly (.string "SheetFolder" 252) "java/lang/String", .exactly (.string "SheetFolder" 278) "java/lang/String", .exactly (.string "SheetFolder" 284) "java/lang/String", .exactly (.string "SheetFolder" 304) "java/lang/String", .exactly (.string "SheetFolder" 310) "java/lang/String", .exactly (.string "SheetFolder" 318) "java/lang/String", .exactly (.string "SheetFolder" 329) "java/lang/String", .exactly (.string "SheetFolder" 363) "java/lang/String", .exactly (.string "SheetFolder" 369) "java/lang/String", .exactly (.string "SheetFolder" 371) "java/lang/String", .exactly (.string "SheetFolder" 373) "java/lang/String", .exactly (.string "SheetFolder" 375) "java/lang/String"]
abbrev nwE : List Cond := [.exactly (.static "SheetFolder$Word" "SHEET" "LSheetFolder$Word;") "SheetFolder$Word", .exactly (.static "SheetFolder$Word" "LEG" "LSheetFolder$Word;") "SheetFolder$Word", .exactly (.static "SheetFolder$Word" "UP" "LSheetFolder$Word;") "SheetFolder$Word", .exactly (.static "SheetFolder$Word" "DOWN" "LSheetFolder$Word;") "SheetFolder$Word", .exactly (.static "SheetFolder$Word" "BACK" "LSheetFolder$Word;") "SheetFolder$Word", .exactly (.static "SheetFolder$Word" "BEAM" "LSheetFolder$Word;") "SheetFolder$Word", .exactly (.static "SheetFolder$Word" "TABLE" "LSheetFolder$Word;") "SheetFolder$Word", .exactly (.static "SheetFolder$Word" "WING" "LSheetFolder$Word;") "SheetFolder$Word", .exactly (.static "SheetFolder$Word" "GAUGE" "LSheetFolder$Word;") "SheetFolder$Word", .exactly (.static "SheetFolder$Word" "FLANGE" "LSheetFolder$Word;") "SheetFolder$Word", .exactly (.static "SheetFolder$Word" "COST" "LSheetFolder$Word;") "SheetFolder$Word"]
abbrev nwF : List Cond := [.eq (.field (.static "SheetFolder$Word" "LEG" "LSheetFolder$Word;") "SheetFolder$Word" "leastOfFirst" "I") (.int 1), .eq (.field (.static "SheetFolder$Word" "LEG" "LSheetFolder$Word;") "SheetFolder$Word" "mostOfFirst" "I") (.int 9999), .eq (.field (.static "SheetFolder$Word" "LEG" "LSheetFolder$Word;") "SheetFolder$Word" "mostOfSecond" "I") (.int 0), .eq (.field (.static "SheetFolder$Word" "LEG" "LSheetFolder$Word;") "SheetFolder$Word" "mostOfThird" "I") (.int 0), .eq (.field (.static "SheetFolder$Word" "UP" "LSheetFolder$Word;") "SheetFolder$Word" "leastOfFirst" "I") (.int 1), .eq (.field (.static "SheetFolder$Word" "UP" "LSheetFolder$Word;") "SheetFolder$Word" "mostOfFirst" "I") (.int 9999), .eq (.field (.static "SheetFolder$Word" "UP" "LSheetFolder$Word;") "SheetFolder$Word" "mostOfSecond" "I") (.int 0), .eq (.field (.static "SheetFolder$Word" "UP" "LSheetFolder$Word;") "SheetFolder$Word" "mostOfThird" "I") (.int 0), .eq (.field (.static "SheetFolder$Word" "DOWN" "LSheetFolder$Word;") "SheetFolder$Word" "leastOfFirst" "I") (.int 1), .eq (.field (.static "SheetFolder$Word" "DOWN" "LSheetFolder$Word;") "SheetFolder$Word" "mostOfFirst" "I") (.int 9999), .eq (.field (.static "SheetFolder$Word" "DOWN" "LSheetFolder$Word;") "SheetFolder$Word" "mostOfSecond" "I") (.int 0), .eq (.field (.static "SheetFolder$Word" "DOWN" "LSheetFolder$Word;") "SheetFolder$Word" "mostOfThird" "I") (.int 0), .eq (.field (.static "SheetFolder$Word" "BACK" "LSheetFolder$Word;") "SheetFolder$Word" "leastOfFirst" "I") (.int 0), .eq (.field (.static "SheetFolder$Word" "BACK" "LSheetFolder$Word;") "SheetFolder$Word" "mostOfFirst" "I") (.int 999), .eq (.field (.static "SheetFolder$Word" "BACK" "LSheetFolder$Word;") "SheetFolder$Word" "mostOfSecond" "I") (.int 300), .eq (.field (.static "SheetFolder$Word" "BACK" "LSheetFolder$Word;") "SheetFolder$Word" "mostOfThird" "I") (.int 0), .eq (.field (.static "SheetFolder$Word" "GAUGE" "LSheetFolder$Word;") "SheetFolder$Word" "leastOfFirst" "I") (.int 0), .eq (.field (.static "SheetFolder$Word" "GAUGE" "LSheetFolder$Word;") "SheetFolder$Word" "mostOfFirst" "I") (.int 9999), .eq (.field (.static "SheetFolder$Word" "GAUGE" "LSheetFolder$Word;") "SheetFolder$Word" "mostOfSecond" "I") (.int 9999), .eq (.field (.static "SheetFolder$Word" "GAUGE" "LSheetFolder$Word;") "SheetFolder$Word" "mostOfThird" "I") (.int 0), .eq (.field (.static "SheetFolder$Word" "BEAM" "LSheetFolder$Word;") "SheetFolder$Word" "leastOfFirst" "I") (.int 0), .eq (.field (.static "SheetFolder$Word" "BEAM" "LSheetFolder$Word;") "SheetFolder$Word" "mostOfFirst" "I") (.int 9999), .eq (.field (.static "SheetFolder$Word" "BEAM" "LSheetFolder$Word;") "SheetFolder$Word" "mostOfSecond" "I") (.int 9999), .eq (.field (.static "SheetFolder$Word" "BEAM" "LSheetFolder$Word;") "SheetFolder$Word" "mostOfThird" "I") (.int 0), .eq (.field (.static "SheetFolder$Word" "TABLE" "LSheetFolder$Word;") "SheetFolder$Word" "leastOfFirst" "I") (.int 0), .eq (.field (.static "SheetFolder$Word" "TABLE" "LSheetFolder$Word;") "SheetFolder$Word" "mostOfFirst" "I") (.int 9999), .eq (.field (.static "SheetFolder$Word" "TABLE" "LSheetFolder$Word;") "SheetFolder$Word" "mostOfSecond" "I") (.int 9999), .eq (.field (.static "SheetFolder$Word" "TABLE" "LSheetFolder$Word;") "SheetFolder$Word" "mostOfThird" "I") (.int 0), .eq (.field (.static "SheetFolder$Word" "WING" "LSheetFolder$Word;") "SheetFolder$Word" "leastOfFirst" "I") (.int 0), .eq (.field (.static "SheetFolder$Word" "WING" "LSheetFolder$Word;") "SheetFolder$Word" "mostOfFirst" "I") (.int 9999), .eq (.field (.static "SheetFolder$Word" "WING" "LSheetFolder$Word;") "SheetFolder$Word" "mostOfSecond" "I") (.int 9999), .eq (.field (.static "SheetFolder$Word" "WING" "LSheetFolder$Word;") "SheetFolder$Word" "mostOfThird" "I") (.int 0), .eq (.field (.static "SheetFolder$Word" "FLANGE" "LSheetFolder$Word;") "SheetFolder$Word" "leastOfFirst" "I") (.int 0), .eq (.field (.static "SheetFolder$Word" "FLANGE" "LSheetFolder$Word;") "SheetFolder$Word" "mostOfFirst" "I") (.int 9999), .eq (.field (.static "SheetFolder$Word" "FLANGE" "LSheetFolder$Word;") "SheetFolder$Word" "mostOfSecond" "I") (.int 0), .eq (.field (.static "SheetFolder$Word" "FLANGE" "LSheetFolder$Word;") "SheetFolder$Word" "mostOfThird" "I") (.int 0), .eq (.field (.static "SheetFolder$Word" "SHEET" "LSheetFolder$Word;") "SheetFolder$Word" "leastOfFirst" "I") (.int 1), .eq (.field (.static "SheetFolder$Word" "SHEET" "LSheetFolder$Word;") "SheetFolder$Word" "mostOfFirst" "I") (.int 60), .eq (.field (.static "SheetFolder$Word" "SHEET" "LSheetFolder$Word;") "SheetFolder$Word" "mostOfSecond" "I") (.int 200), .eq (.field (.static "SheetFolder$Word" "SHEET" "LSheetFolder$Word;") "SheetFolder$Word" "mostOfThird" "I") (.int 100), .eq (.field (.static "SheetFolder$Word" "COST" "LSheetFolder$Word;") "SheetFolder$Word" "leastOfFirst" "I") (.int 0), .eq (.field (.static "SheetFolder$Word" "COST" "LSheetFolder$Word;") "SheetFolder$Word" "mostOfFirst" "I") (.int 99), .eq (.field (.static "SheetFolder$Word" "COST" "LSheetFolder$Word;") "SheetFolder$Word" "mostOfSecond" "I") (.int 99), .eq (.field (.static "SheetFolder$Word" "COST" "LSheetFolder$Word;") "SheetFolder$Word" "mostOfThird" "I") (.int 99)]
abbrev nwN : List Cond := [.not (.eq (.static "SheetFolder$Word" "LEG" "LSheetFolder$Word;") (.static "SheetFolder$Word" "UP" "LSheetFolder$Word;")), .not (.eq (.static "SheetFolder$Word" "LEG" "LSheetFolder$Word;") (.static "SheetFolder$Word" "DOWN" "LSheetFolder$Word;")), .not (.eq (.static "SheetFolder$Word" "UP" "LSheetFolder$Word;") (.static "SheetFolder$Word" "DOWN" "LSheetFolder$Word;")), .not (.eq (.static "SheetFolder$Word" "LEG" "LSheetFolder$Word;") (.static "SheetFolder$Word" "BACK" "LSheetFolder$Word;")), .not (.eq (.static "SheetFolder$Word" "UP" "LSheetFolder$Word;") (.static "SheetFolder$Word" "BACK" "LSheetFolder$Word;")), .not (.eq (.static "SheetFolder$Word" "DOWN" "LSheetFolder$Word;") (.static "SheetFolder$Word" "BACK" "LSheetFolder$Word;")), .not (.eq (.static "SheetFolder$Word" "LEG" "LSheetFolder$Word;") (.static "SheetFolder$Word" "GAUGE" "LSheetFolder$Word;")), .not (.eq (.static "SheetFolder$Word" "UP" "LSheetFolder$Word;") (.static "SheetFolder$Word" "GAUGE" "LSheetFolder$Word;")), .not (.eq (.static "SheetFolder$Word" "DOWN" "LSheetFolder$Word;") (.static "SheetFolder$Word" "GAUGE" "LSheetFolder$Word;")), .not (.eq (.static "SheetFolder$Word" "BACK" "LSheetFolder$Word;") (.static "SheetFolder$Word" "GAUGE" "LSheetFolder$Word;")), .not (.eq (.static "SheetFolder$Word" "LEG" "LSheetFolder$Word;") (.static "SheetFolder$Word" "BEAM" "LSheetFolder$Word;")), .not (.eq (.static "SheetFolder$Word" "UP" "LSheetFolder$Word;") (.static "SheetFolder$Word" "BEAM" "LSheetFolder$Word;")), .not (.eq (.static "SheetFolder$Word" "DOWN" "LSheetFolder$Word;") (.static "SheetFolder$Word" "BEAM" "LSheetFolder$Word;")), .not (.eq (.static "SheetFolder$Word" "BACK" "LSheetFolder$Word;") (.static "SheetFolder$Word" "BEAM" "LSheetFolder$Word;")), .not (.eq (.static "SheetFolder$Word" "GAUGE" "LSheetFolder$Word;") (.static "SheetFolder$Word" "BEAM" "LSheetFolder$Word;")), .not (.eq (.static "SheetFolder$Word" "LEG" "LSheetFolder$Word;") (.static "SheetFolder$Word" "TABLE" "LSheetFolder$Word;")), .not (.eq (.static "SheetFolder$Word" "UP" "LSheetFolder$Word;") (.static "SheetFolder$Word" "TABLE" "LSheetFolder$Word;")), .not (.eq (.static "SheetFolder$Word" "DOWN" "LSheetFolder$Word;") (.static "SheetFolder$Word" "TABLE" "LSheetFolder$Word;")), .not (.eq (.static "SheetFolder$Word" "BACK" "LSheetFolder$Word;") (.static "SheetFolder$Word" "TABLE" "LSheetFolder$Word;")), .not (.eq (.static "SheetFolder$Word" "GAUGE" "LSheetFolder$Word;") (.static "SheetFolder$Word" "TABLE" "LSheetFolder$Word;")), .not (.eq (.static "SheetFolder$Word" "BEAM" "LSheetFolder$Word;") (.static "SheetFolder$Word" "TABLE" "LSheetFolder$Word;")), .not (.eq (.static "SheetFolder$Word" "LEG" "LSheetFolder$Word;") (.static "SheetFolder$Word" "WING" "LSheetFolder$Word;")), .not (.eq (.static "SheetFolder$Word" "UP" "LSheetFolder$Word;") (.static "SheetFolder$Word" "WING" "LSheetFolder$Word;")), .not (.eq (.static "SheetFolder$Word" "DOWN" "LSheetFolder$Word;") (.static "SheetFolder$Word" "WING" "LSheetFolder$Word;")), .not (.eq (.static "SheetFolder$Word" "BACK" "LSheetFolder$Word;") (.static "SheetFolder$Word" "WING" "LSheetFolder$Word;")), .not (.eq (.static "SheetFolder$Word" "GAUGE" "LSheetFolder$Word;") (.static "SheetFolder$Word" "WING" "LSheetFolder$Word;")), .not (.eq (.static "SheetFolder$Word" "BEAM" "LSheetFolder$Word;") (.static "SheetFolder$Word" "WING" "LSheetFolder$Word;")), .not (.eq (.static "SheetFolder$Word" "TABLE" "LSheetFolder$Word;") (.static "SheetFolder$Word" "WING" "LSheetFolder$Word;")), .not (.eq (.static "SheetFolder$Word" "LEG" "LSheetFolder$Word;") (.static "SheetFolder$Word" "FLANGE" "LSheetFolder$Word;")), .not (.eq (.static "SheetFolder$Word" "UP" "LSheetFolder$Word;") (.static "SheetFolder$Word" "FLANGE" "LSheetFolder$Word;")), .not (.eq (.static "SheetFolder$Word" "DOWN" "LSheetFolder$Word;") (.static "SheetFolder$Word" "FLANGE" "LSheetFolder$Word;")), .not (.eq (.static "SheetFolder$Word" "BACK" "LSheetFolder$Word;") (.static "SheetFolder$Word" "FLANGE" "LSheetFolder$Word;")), .not (.eq (.static "SheetFolder$Word" "GAUGE" "LSheetFolder$Word;") (.static "SheetFolder$Word" "FLANGE" "LSheetFolder$Word;")), .not (.eq (.static "SheetFolder$Word" "BEAM" "LSheetFolder$Word;") (.static "SheetFolder$Word" "FLANGE" "LSheetFolder$Word;")), .not (.eq (.static "SheetFolder$Word" "TABLE" "LSheetFolder$Word;") (.static "SheetFolder$Word" "FLANGE" "LSheetFolder$Word;")), .not (.eq (.static "SheetFolder$Word" "WING" "LSheetFolder$Word;") (.static "SheetFolder$Word" "FLANGE" "LSheetFolder$Word;")), .not (.eq (.static "SheetFolder$Word" "LEG" "LSheetFolder$Word;") (.static "SheetFolder$Word" "SHEET" "LSheetFolder$Word;")), .not (.eq (.static "SheetFolder$Word" "UP" "LSheetFolder$Word;") (.static "SheetFolder$Word" "SHEET" "LSheetFolder$Word;")), .not (.eq (.static "SheetFolder$Word" "DOWN" "LSheetFolder$Word;") (.static "SheetFolder$Word" "SHEET" "LSheetFolder$Word;")), .not (.eq (.static "SheetFolder$Word" "BACK" "LSheetFolder$Word;") (.static "SheetFolder$Word" "SHEET" "LSheetFolder$Word;")), .not (.eq (.static "SheetFolder$Word" "GAUGE" "LSheetFolder$Word;") (.static "SheetFolder$Word" "SHEET" "LSheetFolder$Word;")), .not (.eq (.static "SheetFolder$Word" "BEAM" "LSheetFolder$Word;") (.static "SheetFolder$Word" "SHEET" "LSheetFolder$Word;")), .not (.eq (.static "SheetFolder$Word" "TABLE" "LSheetFolder$Word;") (.static "SheetFolder$Word" "SHEET" "LSheetFolder$Word;")), .not (.eq (.static "SheetFolder$Word" "WING" "LSheetFolder$Word;") (.static "SheetFolder$Word" "SHEET" "LSheetFolder$Word;")), .not (.eq (.static "SheetFolder$Word" "FLANGE" "LSheetFolder$Word;") (.static "SheetFolder$Word" "SHEET" "LSheetFolder$Word;")), .not (.eq (.static "SheetFolder$Word" "LEG" "LSheetFolder$Word;") (.static "SheetFolder$Word" "COST" "LSheetFolder$Word;")), .not (.eq (.static "SheetFolder$Word" "UP" "LSheetFolder$Word;") (.static "SheetFolder$Word" "COST" "LSheetFolder$Word;")), .not (.eq (.static "SheetFolder$Word" "DOWN" "LSheetFolder$Word;") (.static "SheetFolder$Word" "COST" "LSheetFolder$Word;")), .not (.eq (.static "SheetFolder$Word" "BACK" "LSheetFolder$Word;") (.static "SheetFolder$Word" "COST" "LSheetFolder$Word;")), .not (.eq (.static "SheetFolder$Word" "GAUGE" "LSheetFolder$Word;") (.static "SheetFolder$Word" "COST" "LSheetFolder$Word;")), .not (.eq (.static "SheetFolder$Word" "BEAM" "LSheetFolder$Word;") (.static "SheetFolder$Word" "COST" "LSheetFolder$Word;")), .not (.eq (.static "SheetFolder$Word" "TABLE" "LSheetFolder$Word;") (.static "SheetFolder$Word" "COST" "LSheetFolder$Word;")), .not (.eq (.static "SheetFolder$Word" "WING" "LSheetFolder$Word;") (.static "SheetFolder$Word" "COST" "LSheetFolder$Word;")), .not (.eq (.static "SheetFolder$Word" "FLANGE" "LSheetFolder$Word;") (.static "SheetFolder$Word" "COST" "LSheetFolder$Word;")), .not (.eq (.static "SheetFolder$Word" "SHEET" "LSheetFolder$Word;") (.static "SheetFolder$Word" "COST" "LSheetFolder$Word;"))]
abbrev nwO : List Cond := [.isRef (.static Bundle.tN "UNASSIGNED_STACK" Bundle.steD), .isRef (.static Bundle.tN "SUPPRESSED_SENTINEL" Bundle.listD), .eq (.static "java/lang/String" "COMPACT_STRINGS" "Z") (.int 1), .not (.castable "java/lang/IllegalArgumentException" "java/lang/IndexOutOfBoundsException"), .not (.castable "java/lang/IllegalStateException" "java/lang/IndexOutOfBoundsException"), .not (.castable "java/lang/IllegalStateException" "java/lang/IllegalArgumentException")]
theorem nwS_in : ∀ w ∈ nwS, w ∈ flatC (Jvm.Cond.and given_1 narrow_1) := by decide +kernel
theorem nwE_in : ∀ w ∈ nwE, w ∈ flatC (Jvm.Cond.and given_1 narrow_1) := by decide +kernel
theorem nwF_in : ∀ w ∈ nwF, w ∈ flatC (Jvm.Cond.and given_1 narrow_1) := by decide +kernel
theorem nwN_in : ∀ w ∈ nwN, w ∈ flatC (Jvm.Cond.and given_1 narrow_1) := by decide +kernel
theorem nwO_in : ∀ w ∈ nwO, w ∈ flatC (Jvm.Cond.and given_1 narrow_1) := by decide +kernel
theorem en_l : ∀ i, i < 11 → Cond.laysStatic "SheetFolder$Word" (wNm.getD i "") "LSheetFolder$Word;" ∈ lw_tbl
  | 0, _ => (wa_t tbl_5 229 rfl)
  | 1, _ => (wa_t tbl_5 173 rfl)
  | 2, _ => (wa_t tbl_5 179 rfl)
  | 3, _ => (wa_t tbl_5 181 rfl)
  | 4, _ => (wa_t tbl_5 184 rfl)
  | 5, _ => (wa_t tbl_5 220 rfl)
  | 6, _ => (wa_t tbl_5 222 rfl)
  | 7, _ => (wa_t tbl_5 224 rfl)
  | 8, _ => (wa_t tbl_5 203 rfl)
  | 9, _ => (wa_t tbl_5 226 rfl)
  | 10, _ => (wa_t tbl_5 232 rfl)
  | n + 11, h => absurd h (by omega)
theorem en_x : ∀ i, i < 11 → Cond.exactly (.static "SheetFolder$Word" (wNm.getD i "") "LSheetFolder$Word;") "SheetFolder$Word" ∈ nwE := by decide +kernel
theorem en_f : ∀ q ∈ wFs, ∀ i, i < 11 → Cond.eq (.field (.static "SheetFolder$Word" (wNm.getD i "") "LSheetFolder$Word;") q.1 q.2.1 q.2.2.1) (.int (q.2.2.2.getD i 0)) ∈ nwF := by decide +kernel
theorem en_d : ∀ i, i < 11 → ∀ j, j < 11 → i ≠ j → (Cond.not (.eq (.static "SheetFolder$Word" (wNm.getD i "") "LSheetFolder$Word;") (.static "SheetFolder$Word" (wNm.getD j "") "LSheetFolder$Word;"))) ∈ nwN ∨ (Cond.not (.eq (.static "SheetFolder$Word" (wNm.getD j "") "LSheetFolder$Word;") (.static "SheetFolder$Word" (wNm.getD i "") "LSheetFolder$Word;"))) ∈ nwN := by decide +kernel
theorem sr_in : ∀ q ∈ sxMsgs, Cond.stringRef q.1 q.2.1 q.2.2 ∈ lw_tbl ∧ Cond.exactly (.string q.1 q.2.1) "java/lang/String" ∈ nwS := List.forall_mem_cons.mpr ⟨⟨(wa_t tbl_5 107 rfl), by decide +kernel⟩, List.forall_mem_cons.mpr ⟨⟨(wa_t tbl_6 60 rfl), by decide +kernel⟩, List.forall_mem_cons.mpr ⟨⟨(wa_t tbl_6 70 rfl), by decide +kernel⟩, List.forall_mem_cons.mpr ⟨⟨(wa_t tbl_6 89 rfl), by decide +kernel⟩, List.forall_mem_cons.mpr ⟨⟨(wa_t tbl_6 152 rfl), by decide +kernel⟩, List.forall_mem_cons.mpr ⟨⟨(wa_t tbl_6 174 rfl), by decide +kernel⟩, List.forall_mem_cons.mpr ⟨⟨(wa_t tbl_6 217 rfl), by decide +kernel⟩, List.forall_mem_cons.mpr ⟨⟨(wa_t tbl_6 233 rfl), by decide +kernel⟩, List.forall_mem_cons.mpr ⟨⟨(wa_t tbl_7 3 rfl), by decide +kernel⟩, List.forall_mem_cons.mpr ⟨⟨(wa_t tbl_7 19 rfl), by decide +kernel⟩, List.forall_mem_cons.mpr ⟨⟨(wa_t tbl_7 29 rfl), by decide +kernel⟩, List.forall_mem_cons.mpr ⟨⟨(wa_t tbl_7 39 rfl), by decide +kernel⟩, List.forall_mem_cons.mpr ⟨⟨(wa_t tbl_7 48 rfl), by decide +kernel⟩, List.forall_mem_cons.mpr ⟨⟨(wa_t tbl_6 43 rfl), by decide +kernel⟩, List.forall_mem_cons.mpr ⟨⟨(wa_t tbl_6 28 rfl), by decide +kernel⟩, List.forall_mem_cons.mpr ⟨⟨(wa_t tbl_6 81 rfl), by decide +kernel⟩, List.forall_mem_cons.mpr ⟨⟨(wa_t tbl_6 203 rfl), by decide +kernel⟩, fun _ h => absurd h List.not_mem_nil⟩⟩⟩⟩⟩⟩⟩⟩⟩⟩⟩⟩⟩⟩⟩⟩⟩
theorem sxW_in : ∀ w ∈ sxW, w ∈ lw_tbl := by decide +kernel
theorem st_S {args : Array Value} {s : State} {G : GT} (A : Nat → Prop) (hA : ∀ a : Nat, a < s.heap.size → ¬ A a) (h0 : ∀ w ∈ lw_tbl, w.before args s = true) (hn : ∀ w ∈ flatC (Jvm.Cond.and given_1 narrow_1), w.before args s = true) (hE : va_En "SheetFolder$Word" "LSheetFolder$Word;" wNm wFs G.2.2 A s s.heap) (hT : Tx G A s s.heap) : Sx G A s s.heap ∧ Ex A s s.heap ∧ Nc s := by
  refine ⟨⟨?_, ?_, ?_, ?_, hE⟩, ⟨?_, ?_, ?_⟩, ?_, ?_, ?_⟩
  · exact vx_Zqof (h0 _ (wa_t tbl_4 186 rfl)) (h0 _ (wa_t tbl_1 12 rfl)) (hn _ (nwO_in _ (List.mem_of_getElem? (i := 0) rfl))) hA
  · exact vx_Zqof (h0 _ (wa_t tbl_4 188 rfl)) (h0 _ (wa_t tbl_1 12 rfl)) (hn _ (nwO_in _ (List.mem_of_getElem? (i := 1) rfl))) hA
  · intro q hq
    obtain ⟨h1, h2⟩ := sr_in q hq
    obtain ⟨a, _, _, _, h3, -⟩ := Cond.exactly_spec (hn _ (nwS_in _ h2))
    exact ⟨a, vk_R.of (h0 _ h1) h3⟩
  · refine ⟨fun w hw => va_Nw.of (sxW_on w hw) (h0 _ (sxW_in w hw)), hT⟩
  · exact va_AO.of (h0 _ (wa_t tbl_1 181 rfl))
  · exact List.forall_mem_cons.mpr ⟨va_Nw.of rfl (h0 _ (wa_t tbl_1 39 rfl)), List.forall_mem_cons.mpr ⟨va_Nw.of rfl (h0 _ (wa_t tbl_1 196 rfl)), List.forall_mem_cons.mpr ⟨va_Nw.of rfl (h0 _ (wa_t tbl_1 237 rfl)), fun _ h => absurd h List.not_mem_nil⟩⟩⟩
  · exact va_Zof (h0 _ (wa_t tbl_2 60 rfl)) (h0 _ (wa_t tbl_1 9 rfl)) (va_eqi (hn _ (nwO_in _ (List.mem_of_getElem? (i := 2) rfl)))) hA
  · exact va_Nc.of (hn _ (nwO_in _ (List.mem_of_getElem? (i := 3) rfl)))
  · exact va_Nc.of (hn _ (nwO_in _ (List.mem_of_getElem? (i := 4) rfl)))
  · exact va_Nc.of (hn _ (nwO_in _ (List.mem_of_getElem? (i := 5) rfl)))
theorem fl_at {w : Cond} (n : Nat) (h : (flatC (Jvm.Cond.and given_1 narrow_1))[n]? = some w) : w ∈ flatC (Jvm.Cond.and given_1 narrow_1) := List.mem_of_getElem? h
theorem fl_seg (a n : Nat) (f : Nat → Cond) (h : ((flatC (Jvm.Cond.and given_1 narrow_1)).drop a).take n = (List.range n).map f) : ∀ i, i < n → f i ∈ flatC (Jvm.Cond.and given_1 narrow_1) := fun i hi => List.mem_of_mem_drop (List.mem_of_mem_take (by rw [h]; exact List.mem_map.mpr ⟨i, List.mem_range.mpr hi, rfl⟩))
def so (i : Nat) : String := (stOwn.getD i ("", 0)).1
def sk (i : Nat) : Nat := (stOwn.getD i ("", 0)).2
theorem tx_ex : ∀ i, i < 12 → Cond.exactly (.string (so i) (sk i)) "java/lang/String" ∈ flatC (Jvm.Cond.and given_1 narrow_1)
  | 0, _ => fl_at 1243 (by decide +kernel)
  | 1, _ => fl_at 1161 (by decide +kernel)
  | 2, _ => fl_at 1169 (by decide +kernel)
  | 3, _ => fl_at 1176 (by decide +kernel)
  | 4, _ => fl_at 1185 (by decide +kernel)
  | 5, _ => fl_at 1204 (by decide +kernel)
  | 6, _ => fl_at 1213 (by decide +kernel)
  | 7, _ => fl_at 1223 (by decide +kernel)
  | 8, _ => fl_at 1194 (by decide +kernel)
  | 9, _ => fl_at 1232 (by decide +kernel)
  | 10, _ => fl_at 1253 (by decide +kernel)
  | 11, _ => fl_at 508 (by decide +kernel)
  | n + 12, h => absurd h (by omega)
theorem tx_co : ∀ i, i < 12 → Cond.eq (.field (.string (so i) (sk i)) "java/lang/String" "coder" "B") (.int 0) ∈ flatC (Jvm.Cond.and given_1 narrow_1)
  | 0, _ => fl_at 1244 (by decide +kernel)
  | 1, _ => fl_at 1162 (by decide +kernel)
  | 2, _ => fl_at 1170 (by decide +kernel)
  | 3, _ => fl_at 1177 (by decide +kernel)
  | 4, _ => fl_at 1186 (by decide +kernel)
  | 5, _ => fl_at 1205 (by decide +kernel)
  | 6, _ => fl_at 1214 (by decide +kernel)
  | 7, _ => fl_at 1224 (by decide +kernel)
  | 8, _ => fl_at 1195 (by decide +kernel)
  | 9, _ => fl_at 1233 (by decide +kernel)
  | 10, _ => fl_at 1254 (by decide +kernel)
  | 11, _ => fl_at 509 (by decide +kernel)
  | n + 12, h => absurd h (by omega)
theorem tx_ar : ∀ i, i < 12 → Cond.arrayOf (.field (.string (so i) (sk i)) "java/lang/String" "value" "[B") .byte ∈ flatC (Jvm.Cond.and given_1 narrow_1)
  | 0, _ => fl_at 1245 (by decide +kernel)
  | 1, _ => fl_at 1163 (by decide +kernel)
  | 2, _ => fl_at 1171 (by decide +kernel)
  | 3, _ => fl_at 1178 (by decide +kernel)
  | 4, _ => fl_at 1187 (by decide +kernel)
  | 5, _ => fl_at 1206 (by decide +kernel)
  | 6, _ => fl_at 1215 (by decide +kernel)
  | 7, _ => fl_at 1225 (by decide +kernel)
  | 8, _ => fl_at 1196 (by decide +kernel)
  | 9, _ => fl_at 1234 (by decide +kernel)
  | 10, _ => fl_at 1255 (by decide +kernel)
  | 11, _ => fl_at 510 (by decide +kernel)
  | n + 12, h => absurd h (by omega)
theorem tx_le : ∀ i, i < 12 → Cond.eq (.length (.field (.string (so i) (sk i)) "java/lang/String" "value" "[B")) (.int (Int32.ofNat (stLen i))) ∈ flatC (Jvm.Cond.and given_1 narrow_1)
  | 0, _ => fl_at 1246 (by decide +kernel)
  | 1, _ => fl_at 1164 (by decide +kernel)
  | 2, _ => fl_at 1172 (by decide +kernel)
  | 3, _ => fl_at 1179 (by decide +kernel)
  | 4, _ => fl_at 1188 (by decide +kernel)
  | 5, _ => fl_at 1207 (by decide +kernel)
  | 6, _ => fl_at 1216 (by decide +kernel)
  | 7, _ => fl_at 1226 (by decide +kernel)
  | 8, _ => fl_at 1197 (by decide +kernel)
  | 9, _ => fl_at 1235 (by decide +kernel)
  | 10, _ => fl_at 1256 (by decide +kernel)
  | 11, _ => fl_at 511 (by decide +kernel)
  | n + 12, h => absurd h (by omega)
theorem tx_el : ∀ i, i < 12 → ∀ j, j < stLen i → Cond.eq (.elem (.field (.string (so i) (sk i)) "java/lang/String" "value" "[B") (.int (Int32.ofNat j))) (.int ((stB i).getD j 0)) ∈ flatC (Jvm.Cond.and given_1 narrow_1)
  | 0, _ => fl_seg 1247 5 (fun j => Cond.eq (.elem (.field (.string (so 0) (sk 0)) "java/lang/String" "value" "[B") (.int (Int32.ofNat j))) (.int ((stB 0).getD j 0))) (by decide +kernel)
  | 1, _ => fl_seg 1165 3 (fun j => Cond.eq (.elem (.field (.string (so 1) (sk 1)) "java/lang/String" "value" "[B") (.int (Int32.ofNat j))) (.int ((stB 1).getD j 0))) (by decide +kernel)
  | 2, _ => fl_seg 1173 2 (fun j => Cond.eq (.elem (.field (.string (so 2) (sk 2)) "java/lang/String" "value" "[B") (.int (Int32.ofNat j))) (.int ((stB 2).getD j 0))) (by decide +kernel)
  | 3, _ => fl_seg 1180 4 (fun j => Cond.eq (.elem (.field (.string (so 3) (sk 3)) "java/lang/String" "value" "[B") (.int (Int32.ofNat j))) (.int ((stB 3).getD j 0))) (by decide +kernel)
  | 4, _ => fl_seg 1189 4 (fun j => Cond.eq (.elem (.field (.string (so 4) (sk 4)) "java/lang/String" "value" "[B") (.int (Int32.ofNat j))) (.int ((stB 4).getD j 0))) (by decide +kernel)
  | 5, _ => fl_seg 1208 4 (fun j => Cond.eq (.elem (.field (.string (so 5) (sk 5)) "java/lang/String" "value" "[B") (.int (Int32.ofNat j))) (.int ((stB 5).getD j 0))) (by decide +kernel)
  | 6, _ => fl_seg 1217 5 (fun j => Cond.eq (.elem (.field (.string (so 6) (sk 6)) "java/lang/String" "value" "[B") (.int (Int32.ofNat j))) (.int ((stB 6).getD j 0))) (by decide +kernel)
  | 7, _ => fl_seg 1227 4 (fun j => Cond.eq (.elem (.field (.string (so 7) (sk 7)) "java/lang/String" "value" "[B") (.int (Int32.ofNat j))) (.int ((stB 7).getD j 0))) (by decide +kernel)
  | 8, _ => fl_seg 1198 5 (fun j => Cond.eq (.elem (.field (.string (so 8) (sk 8)) "java/lang/String" "value" "[B") (.int (Int32.ofNat j))) (.int ((stB 8).getD j 0))) (by decide +kernel)
  | 9, _ => fl_seg 1236 6 (fun j => Cond.eq (.elem (.field (.string (so 9) (sk 9)) "java/lang/String" "value" "[B") (.int (Int32.ofNat j))) (.int ((stB 9).getD j 0))) (by decide +kernel)
  | 10, _ => fl_seg 1257 4 (fun j => Cond.eq (.elem (.field (.string (so 10) (sk 10)) "java/lang/String" "value" "[B") (.int (Int32.ofNat j))) (.int ((stB 10).getD j 0))) (by decide +kernel)
  | 11, _ => fl_seg 512 6 (fun j => Cond.eq (.elem (.field (.string (so 11) (sk 11)) "java/lang/String" "value" "[B") (.int (Int32.ofNat j))) (.int ((stB 11).getD j 0))) (by decide +kernel)
  | n + 12, h => absurd h (by omega)
theorem tx_al : ∀ q ∈ sxStr, (q.1 = so q.2.2.2 ∧ q.2.1 = sk q.2.2.2) ∨ Cond.eq (.string q.1 q.2.1) (.string (so q.2.2.2) (sk q.2.2.2)) ∈ flatC (Jvm.Cond.and given_1 narrow_1) ∨ Cond.eq (.string (so q.2.2.2) (sk q.2.2.2)) (.string q.1 q.2.1) ∈ flatC (Jvm.Cond.and given_1 narrow_1) := List.forall_mem_cons.mpr ⟨(Or.inl ⟨rfl, rfl⟩), List.forall_mem_cons.mpr ⟨(Or.inr (Or.inl (fl_at 1212 (by decide +kernel)))), List.forall_mem_cons.mpr ⟨(Or.inr (Or.inl (fl_at 1222 (by decide +kernel)))), List.forall_mem_cons.mpr ⟨(Or.inr (Or.inl (fl_at 1231 (by decide +kernel)))), List.forall_mem_cons.mpr ⟨(Or.inr (Or.inl (fl_at 1203 (by decide +kernel)))), List.forall_mem_cons.mpr ⟨(Or.inr (Or.inl (fl_at 1242 (by decide +kernel)))), List.forall_mem_cons.mpr ⟨(Or.inr (Or.inl (fl_at 1252 (by decide +kernel)))), List.forall_mem_cons.mpr ⟨(Or.inr (Or.inl (fl_at 1168 (by decide +kernel)))), List.forall_mem_cons.mpr ⟨(Or.inr (Or.inl (fl_at 1175 (by decide +kernel)))), List.forall_mem_cons.mpr ⟨(Or.inr (Or.inl (fl_at 1184 (by decide +kernel)))), List.forall_mem_cons.mpr ⟨(Or.inr (Or.inl (fl_at 1193 (by decide +kernel)))), List.forall_mem_cons.mpr ⟨(Or.inr (Or.inl (fl_at 1261 (by decide +kernel)))), List.forall_mem_cons.mpr ⟨(Or.inr (Or.inr (fl_at 1160 (by decide +kernel)))), fun _ h => absurd h List.not_mem_nil⟩⟩⟩⟩⟩⟩⟩⟩⟩⟩⟩⟩⟩
theorem tx_sr : ∀ q ∈ sxStr, Cond.stringRef q.1 q.2.1 q.2.2.1 ∈ lw_tbl := List.forall_mem_cons.mpr ⟨(wa_t tbl_5 95 rfl), List.forall_mem_cons.mpr ⟨(wa_t tbl_8 11 rfl), List.forall_mem_cons.mpr ⟨(wa_t tbl_8 12 rfl), List.forall_mem_cons.mpr ⟨(wa_t tbl_8 13 rfl), List.forall_mem_cons.mpr ⟨(wa_t tbl_8 14 rfl), List.forall_mem_cons.mpr ⟨(wa_t tbl_8 15 rfl), List.forall_mem_cons.mpr ⟨(wa_t tbl_7 207 rfl), List.forall_mem_cons.mpr ⟨(wa_t tbl_7 226 rfl), List.forall_mem_cons.mpr ⟨(wa_t tbl_7 231 rfl), List.forall_mem_cons.mpr ⟨(wa_t tbl_7 232 rfl), List.forall_mem_cons.mpr ⟨(wa_t tbl_7 237 rfl), List.forall_mem_cons.mpr ⟨(wa_t tbl_8 2 rfl), List.forall_mem_cons.mpr ⟨(wa_t tbl_10 11 rfl), fun _ h => absurd h List.not_mem_nil⟩⟩⟩⟩⟩⟩⟩⟩⟩⟩⟩⟩⟩
theorem tx_i : ∀ q ∈ sxStr, q.2.2.2 < 12 := by decide +kernel
theorem tx_tx : ∀ i, i < 11 → Cond.eq (.field (.static "SheetFolder$Word" (wNm.getD i "") "LSheetFolder$Word;") "SheetFolder$Word" "text" "Ljava/lang/String;") (.string (so i) (sk i)) ∈ flatC (Jvm.Cond.and given_1 narrow_1)
  | 0, _ => fl_at 334 (by decide +kernel)
  | 1, _ => fl_at 235 (by decide +kernel)
  | 2, _ => fl_at 242 (by decide +kernel)
  | 3, _ => fl_at 250 (by decide +kernel)
  | 4, _ => fl_at 259 (by decide +kernel)
  | 5, _ => fl_at 280 (by decide +kernel)
  | 6, _ => fl_at 292 (by decide +kernel)
  | 7, _ => fl_at 305 (by decide +kernel)
  | 8, _ => fl_at 269 (by decide +kernel)
  | 9, _ => fl_at 319 (by decide +kernel)
  | 10, _ => fl_at 350 (by decide +kernel)
  | n + 11, h => absurd h (by omega)
theorem tx_all : Cond.arrayOf (.static "SheetFolder$Word" "ALL" "[LSheetFolder$Word;") (.object "SheetFolder$Word") ∈ flatC (Jvm.Cond.and given_1 narrow_1) ∧ Cond.eq (.length (.static "SheetFolder$Word" "ALL" "[LSheetFolder$Word;")) (.int 11) ∈ flatC (Jvm.Cond.and given_1 narrow_1) := ⟨fl_at 219 (by decide +kernel), fl_at 220 (by decide +kernel)⟩
theorem tx_alle : ∀ i, i < 11 → Cond.eq (.elem (.static "SheetFolder$Word" "ALL" "[LSheetFolder$Word;") (.int (Int32.ofNat i))) (.static "SheetFolder$Word" (wNm.getD i "") "LSheetFolder$Word;") ∈ flatC (Jvm.Cond.and given_1 narrow_1)
  | 0, _ => fl_at 222 (by decide +kernel)
  | 1, _ => fl_at 223 (by decide +kernel)
  | 2, _ => fl_at 224 (by decide +kernel)
  | 3, _ => fl_at 225 (by decide +kernel)
  | 4, _ => fl_at 226 (by decide +kernel)
  | 5, _ => fl_at 227 (by decide +kernel)
  | 6, _ => fl_at 228 (by decide +kernel)
  | 7, _ => fl_at 229 (by decide +kernel)
  | 8, _ => fl_at 230 (by decide +kernel)
  | 9, _ => fl_at 231 (by decide +kernel)
  | 10, _ => fl_at 232 (by decide +kernel)
  | n + 11, h => absurd h (by omega)
theorem tx_dOnes : Cond.arrayOf (.static "java/lang/Integer" "DigitOnes" "[B") .byte ∈ flatC (Jvm.Cond.and given_1 narrow_1) ∧ Cond.eq (.length (.static "java/lang/Integer" "DigitOnes" "[B")) (.int 100) ∈ flatC (Jvm.Cond.and given_1 narrow_1) ∧ ∀ i, i < 100 → Cond.eq (.elem (.static "java/lang/Integer" "DigitOnes" "[B") (.int (Int32.ofNat i))) (.int (dgOnes.getD i 0)) ∈ flatC (Jvm.Cond.and given_1 narrow_1) := ⟨fl_at 10 (by decide +kernel), fl_at 11 (by decide +kernel), fl_seg 12 100 (fun i => Cond.eq (.elem (.static "java/lang/Integer" "DigitOnes" "[B") (.int (Int32.ofNat i))) (.int (dgOnes.getD i 0))) (by decide +kernel)⟩
theorem tx_dTens : Cond.arrayOf (.static "java/lang/Integer" "DigitTens" "[B") .byte ∈ flatC (Jvm.Cond.and given_1 narrow_1) ∧ Cond.eq (.length (.static "java/lang/Integer" "DigitTens" "[B")) (.int 100) ∈ flatC (Jvm.Cond.and given_1 narrow_1) ∧ ∀ i, i < 100 → Cond.eq (.elem (.static "java/lang/Integer" "DigitTens" "[B") (.int (Int32.ofNat i))) (.int (dgTens.getD i 0)) ∈ flatC (Jvm.Cond.and given_1 narrow_1) := ⟨fl_at 113 (by decide +kernel), fl_at 114 (by decide +kernel), fl_seg 115 100 (fun i => Cond.eq (.elem (.static "java/lang/Integer" "DigitTens" "[B") (.int (Int32.ofNat i))) (.int (dgTens.getD i 0))) (by decide +kernel)⟩
theorem tx_fm : Cond.isRef (.static "jdk/internal/util/Preconditions" "SIOOBE_FORMATTER" "Ljava/util/function/BiFunction;") ∈ flatC (Jvm.Cond.and given_1 narrow_1) := fl_at 5 (by decide +kernel)
theorem va_eqw {args : Array Value} {s : State} {t u : Term} {v : Value} (h : (Cond.eq t u).before args s = true) (ht : t.eval args s none [] s = some v) : u.eval args s none [] s = some v := by
  cases hu : u.eval args s none [] s with
  | none => simp [Cond.before, Cond.holds, Cond.value, ht, hu] at h
  | some w =>
    simp only [Cond.before, Cond.holds, Cond.value, ht, hu] at h
    cases w <;> cases v <;> simp_all
def mkG (adW : Nat → Nat) (t0 t1 t2 : Nat) (adK adV : Nat → Nat) : Nat → Nat := fun a => if a < 50 then adW a else if a = 50 then t0 else if a = 51 then t1 else if a = 52 then t2 else if a < 200 then adK (a - 100) else adV (a - 200)
section MKG
variable {adW adK adV : Nat → Nat} {t0 t1 t2 i : Nat}
theorem mkG_W (h : i < 11) : mkG adW t0 t1 t2 adK adV i = adW i := if_pos (by omega)
theorem mkG_0 : mkG adW t0 t1 t2 adK adV 50 = t0 := rfl
theorem mkG_1 : mkG adW t0 t1 t2 adK adV 51 = t1 := rfl
theorem mkG_2 : mkG adW t0 t1 t2 adK adV 52 = t2 := rfl
theorem mkG_K (h : i < 12) : mkG adW t0 t1 t2 adK adV (100 + i) = adK i := by
  unfold mkG; rw [if_neg (by omega), if_neg (by omega), if_neg (by omega), if_neg (by omega), if_pos (by omega)]; exact congrArg adK (by omega)
theorem mkG_V (h : i < 12) : mkG adW t0 t1 t2 adK adV (200 + i) = adV i := by
  unfold mkG; rw [if_neg (by omega), if_neg (by omega), if_neg (by omega), if_neg (by omega), if_neg (by omega)]; exact congrArg adV (by omega)
end MKG
theorem st_one {args : Array Value} {s : State} {A : Nat → Prop} (hA : ∀ a : Nat, a < s.heap.size → ¬ A a) (hn : ∀ w ∈ flatC (Jvm.Cond.and given_1 narrow_1), w.before args s = true) (i : Nat) (hi : i < 12) : ∃ aK aV : Nat, (va_O "java/lang/String" aK A s s.heap ∧ va_OF "java/lang/String" "coder" "B" (.int 0) aK A s s.heap ∧ va_OF "java/lang/String" "value" "[B" (.ref aV) aK A s s.heap ∧ va_T .byte aV (stLen i) (fun j => .int ((stB i).getD j 0)) A s s.heap) ∧ (Term.string (so i) (sk i)).eval args s none [] s = some (.ref aK) := by
  have h8 : stLen i < 2 ^ 31 := by have := (st_len i hi).2.2; omega
  have z : ∀ j, j < 1 → j = 0 := fun j hj => by omega
  obtain ⟨adK, adV, h, he⟩ := vk_Sof (args := args) (s := s) (N := 1) (tm := fun _ => .string (so i) (sk i)) (len := [stLen i]) (byt := [stB i]) (A := A) (fun j hj => by rw [z j hj]; exact h8)
    (fun _ _ => hn _ (tx_ex i hi)) (fun _ _ => hn _ (tx_co i hi)) (fun _ _ => hn _ (tx_ar i hi)) (fun j hj => by rw [z j hj]; exact hn _ (tx_le i hi)) (fun j hj k hk => by rw [z j hj] at hk ⊢; exact hn _ (tx_el i hi k hk)) (fun j k hj hk hne => absurd ((z j hj).trans (z k hk).symm) hne) hA
  exact ⟨adK 0, adV 0, h.1 0 (by omega), he 0 (by omega)⟩
theorem tx_mk {args : Array Value} {s : State} {A : Nat → Prop} (hA : ∀ a : Nat, a < s.heap.size → ¬ A a) (h0 : ∀ w ∈ lw_tbl, w.before args s = true) (hn : ∀ w ∈ flatC (Jvm.Cond.and given_1 narrow_1), w.before args s = true) {D : va_G} {cA : Nat → ClassId} {g : Nat → Nat} {adW : Nat → Nat} {t0 t1 t2 : Nat} {ks : Nat → Nat × Nat}
    (gW : ∀ i, i < 11 → g i = adW i) (g0 : g 50 = t0) (g1 : g 51 = t1) (g2 : g 52 = t2) (gK : ∀ i, i < 12 → g (100 + i) = (ks i).1) (gV : ∀ i, i < 12 → g (200 + i) = (ks i).2)
    (hW : ∀ i, i < 11 → (Term.static "SheetFolder$Word" (wNm.getD i "") "LSheetFolder$Word;").eval args s none [] s = some (.ref (adW i)))
    (hk : ∀ i : Nat, i < 12 → (va_O "java/lang/String" (ks i).1 A s s.heap ∧ va_OF "java/lang/String" "coder" "B" (.int 0) (ks i).1 A s s.heap ∧ va_OF "java/lang/String" "value" "[B" (.ref (ks i).2) (ks i).1 A s s.heap ∧ va_T .byte (ks i).2 (stLen i) (fun j => .int ((stB i).getD j 0)) A s s.heap) ∧ (Term.string (so i) (sk i)).eval args s none [] s = some (.ref (ks i).1))
    (e0 : (Term.static "SheetFolder$Word" "ALL" "[LSheetFolder$Word;").eval args s none [] s = some (.ref t0)) (hT0 : va_T (.object "SheetFolder$Word") t0 11 (fun i => .ref (adW i)) A s s.heap) (e1 : (Term.static "java/lang/Integer" "DigitOnes" "[B").eval args s none [] s = some (.ref t1)) (hT1 : va_T .byte t1 100 (fun j => .int (dgOnes.getD j 0)) A s s.heap) (e2 : (Term.static "java/lang/Integer" "DigitTens" "[B").eval args s none [] s = some (.ref t2)) (hT2 : va_T .byte t2 100 (fun j => .int (dgTens.getD j 0)) A s s.heap) : Tx (D, cA, g) A s s.heap := by
  refine ⟨fun i hi => ?_, fun q hq => ?_, fun i hi => ?_, ⟨?_, ?_⟩, ?_, ?_, ⟨?_, ?_⟩, ⟨?_, ?_⟩⟩
  · show va_O "java/lang/String" (g (100 + i)) _ _ _ ∧ va_OF "java/lang/String" "coder" "B" (.int 0) (g (100 + i)) _ _ _ ∧ va_OF "java/lang/String" "value" "[B" (.ref (g (200 + i))) (g (100 + i)) _ _ _ ∧ va_T .byte (g (200 + i)) _ _ _ _ _
    rw [gK i hi, gV i hi]; exact (hk i hi).1
  · have hi := tx_i q hq
    show vk_R _ _ _ (g (100 + q.2.2.2)) _
    rw [gK _ hi]
    refine vk_R.of (h0 _ (tx_sr q hq)) ?_
    rcases tx_al q hq with ⟨z1, z2⟩ | z | z
    · rw [z1, z2]; exact (hk _ hi).2
    · exact va_eqv (hn _ z) (hk _ hi).2
    · exact va_eqw (hn _ z) (hk _ hi).2
  · show va_OF _ _ _ (.ref (g (100 + i))) (g i) _ _ _
    rw [gK i (by omega), gW i hi]
    exact vk_OFof (hW i hi) (va_eqv (hn _ (tx_tx i hi)) (hk i (by omega)).2) hA
  · show va_Z _ _ _ (.ref (g 50)) _ _ _
    rw [g0]; exact va_Zof (h0 _ (wa_t tbl_5 143 rfl)) (h0 _ (wa_t tbl_1 17 rfl)) e0 hA
  · show va_T _ (g 50) 11 (fun i => .ref (g i)) _ _ _
    rw [g0]
    obtain ⟨cell, z1, z2, z3, z4, z5, z6, z7⟩ := hT0
    exact ⟨cell, z1, z2, z3, z4, z5, fun j hj => by show cell.slots[j]? = some (Value.ref (g j)); rw [gW j hj]; exact z6 j hj, z7⟩
  · exact va_Zof (h0 _ (wa_t tbl_2 60 rfl)) (h0 _ (wa_t tbl_1 9 rfl)) (va_eqi (hn _ (nwO_in _ (List.mem_of_getElem? (i := 2) rfl)))) hA
  · rcases va_Zqof (h0 _ (wa_t tbl_4 42 rfl)) (h0 _ (wa_t tbl_1 19 rfl)) (hn _ tx_fm) hA with h | ⟨t, h⟩
    · exact ⟨_, rfl, h⟩
    · exact ⟨_, rfl, h⟩
  · show va_Z _ _ _ (.ref (g 51)) _ _ _
    rw [g1]; exact va_Zof (h0 _ (wa_t tbl_4 112 rfl)) (h0 _ (wa_t tbl_1 23 rfl)) e1 hA
  · show va_T _ (g 51) _ _ _ _ _
    rw [g1]; exact hT1
  · show va_Z _ _ _ (.ref (g 52)) _ _ _
    rw [g2]; exact va_Zof (h0 _ (wa_t tbl_4 114 rfl)) (h0 _ (wa_t tbl_1 23 rfl)) e2 hA
  · show va_T _ (g 52) _ _ _ _ _
    rw [g2]; exact hT2
theorem st_T {args : Array Value} {s : State} (A : Nat → Prop) (hA : ∀ a : Nat, a < s.heap.size → ¬ A a) (h0 : ∀ w ∈ lw_tbl, w.before args s = true) (hn : ∀ w ∈ flatC (Jvm.Cond.and given_1 narrow_1), w.before args s = true) : ∃ g : Nat → Nat, va_En "SheetFolder$Word" "LSheetFolder$Word;" wNm wFs g A s s.heap ∧ ∀ (D : va_G) (cA : Nat → ClassId), Tx (D, cA, g) A s s.heap := by
  obtain ⟨adW, hE, hW⟩ := va_Enof2 (args := args) (nm := wNm) (F := wFs) (fun i hi => h0 _ (en_l i hi)) (h0 _ (wa_t tbl_1 17 rfl)) (fun i hi => hn _ (nwE_in _ (en_x i hi))) (fun q hq i hi => hn _ (nwF_in _ (en_f q hq i hi))) (fun i j hi hj h => (en_d i hi j hj h).elim (fun z => Or.inl (hn _ (nwN_in _ z))) (fun z => Or.inr (hn _ (nwN_in _ z)))) hA
  have hs : ∀ i : Nat, ∃ q : Nat × Nat, i < 12 → (va_O "java/lang/String" q.1 A s s.heap ∧ va_OF "java/lang/String" "coder" "B" (.int 0) q.1 A s s.heap ∧ va_OF "java/lang/String" "value" "[B" (.ref q.2) q.1 A s s.heap ∧ va_T .byte q.2 (stLen i) (fun j => .int ((stB i).getD j 0)) A s s.heap) ∧ (Term.string (so i) (sk i)).eval args s none [] s = some (.ref q.1) := fun i => by
    by_cases hi : i < 12
    · obtain ⟨aK, aV, h⟩ := st_one hA hn i hi
      exact ⟨(aK, aV), fun _ => h⟩
    · exact ⟨(0, 0), fun h => absurd h hi⟩
  obtain ⟨ks, hk⟩ := Classical.axiomOfChoice hs
  obtain ⟨t0, e0, hT0⟩ := va_Tof (ty := .object "SheetFolder$Word") (N := 11) (f := fun i => .ref (adW i)) (A := A) (by decide) (hn _ tx_all.1) (va_eqv (hn _ tx_all.2) rfl) (fun j hj => va_eqv (hn _ (tx_alle j hj)) (hW j hj)) hA
  obtain ⟨t1, e1, hT1⟩ := va_Tof (ty := .byte) (N := 100) (f := fun i => .int (dgOnes.getD i 0)) (A := A) (by decide) (hn _ tx_dOnes.1) (va_eqv (hn _ tx_dOnes.2.1) rfl) (fun j hj => va_eqv (hn _ (tx_dOnes.2.2 j hj)) rfl) hA
  obtain ⟨t2, e2, hT2⟩ := va_Tof (ty := .byte) (N := 100) (f := fun i => .int (dgTens.getD i 0)) (A := A) (by decide) (hn _ tx_dTens.1) (va_eqv (hn _ tx_dTens.2.1) rfl) (fun j hj => va_eqv (hn _ (tx_dTens.2.2 j hj)) rfl) hA
  refine ⟨mkG adW t0 t1 t2 (fun i => (ks i).1) (fun i => (ks i).2), ⟨fun i hi => ?_, fun i j hi hj h => ?_⟩, fun D cA => tx_mk hA h0 hn (g := mkG adW t0 t1 t2 (fun i => (ks i).1) (fun i => (ks i).2)) (fun i hi => mkG_W hi) mkG_0 mkG_1 mkG_2 (fun i hi => mkG_K hi) (fun i hi => mkG_V hi) hW hk e0 hT0 e1 hT1 e2 hT2⟩
  · rw [mkG_W hi]; exact hE.1 i hi
  · rw [mkG_W hi, mkG_W hj] at h; exact hE.2 i j hi hj h
