/-! part 40.start -/
section
theorem q_t5_8 : (Cond.laysFinal "java/lang/String" "java/lang/String" "value" "[B") ∈ WA := wa_q tbl_5 8 rfl rfl
theorem q_t5_10 : (Cond.laysFinal "java/lang/String" "java/lang/String" "coder" "B") ∈ WA := wa_q tbl_5 10 rfl rfl
theorem q_t5_12 : (Cond.lays "java/lang/String" "java/lang/String" "hash" "I") ∈ WA := wa_q tbl_5 12 rfl rfl
theorem q_t5_14 : (Cond.lays "java/lang/String" "java/lang/String" "hashIsZero" "Z") ∈ WA := wa_q tbl_5 14 rfl rfl
theorem q_t5_21 : (Cond.lays "java/lang/StringIndexOutOfBoundsException" "java/lang/Throwable" "backtrace" "Ljava/lang/Object;") ∈ WA := wa_q tbl_5 21 rfl rfl
theorem q_t5_22 : (Cond.lays "java/lang/StringIndexOutOfBoundsException" "java/lang/Throwable" "detailMessage" "Ljava/lang/String;") ∈ WA := wa_q tbl_5 22 rfl rfl
theorem q_t5_23 : (Cond.lays "java/lang/StringIndexOutOfBoundsException" "java/lang/Throwable" "cause" "Ljava/lang/Throwable;") ∈ WA := wa_q tbl_5 23 rfl rfl
theorem q_t5_24 : (Cond.lays "java/lang/StringIndexOutOfBoundsException" "java/lang/Throwable" "stackTrace" "[Ljava/lang/StackTraceElement;") ∈ WA := wa_q tbl_5 24 rfl rfl
theorem q_t5_25 : (Cond.lays "java/lang/StringIndexOutOfBoundsException" "java/lang/Throwable" "depth" "I") ∈ WA := wa_q tbl_5 25 rfl rfl
theorem q_t5_26 : (Cond.lays "java/lang/StringIndexOutOfBoundsException" "java/lang/Throwable" "suppressedExceptions" "Ljava/util/List;") ∈ WA := wa_q tbl_5 26 rfl rfl
theorem q_t5_46 : (Cond.lays "java/lang/ArrayIndexOutOfBoundsException" "java/lang/Throwable" "cause" "Ljava/lang/Throwable;") ∈ WA := wa_q tbl_5 46 rfl rfl
theorem q_t5_47 : (Cond.lays "java/lang/ArrayIndexOutOfBoundsException" "java/lang/Throwable" "stackTrace" "[Ljava/lang/StackTraceElement;") ∈ WA := wa_q tbl_5 47 rfl rfl
theorem q_t5_48 : (Cond.lays "java/lang/ArrayIndexOutOfBoundsException" "java/lang/Throwable" "suppressedExceptions" "Ljava/util/List;") ∈ WA := wa_q tbl_5 48 rfl rfl
theorem q_t5_49 : (Cond.lays "java/lang/ArrayIndexOutOfBoundsException" "java/lang/Throwable" "detailMessage" "Ljava/lang/String;") ∈ WA := wa_q tbl_5 49 rfl rfl
theorem q_t5_50 : (Cond.lays "java/lang/ArrayIndexOutOfBoundsException" "java/lang/Throwable" "backtrace" "Ljava/lang/Object;") ∈ WA := wa_q tbl_5 50 rfl rfl
theorem q_t5_61 : (Cond.lays "java/lang/ArrayIndexOutOfBoundsException" "java/lang/Throwable" "depth" "I") ∈ WA := wa_q tbl_5 61 rfl rfl
theorem inWJ0 : ∀ w ∈ u_ws RJ0 TJ0 4, w ∈ WA := wa_f (List.forall_mem_cons.mpr ⟨q_t5_8, List.forall_mem_cons.mpr ⟨q_t5_10, List.forall_mem_cons.mpr ⟨q_t5_12, List.forall_mem_cons.mpr ⟨q_t5_14, fun _ h => absurd h List.not_mem_nil⟩⟩⟩⟩) _ rfl
theorem inWJx00060 : ∀ w ∈ u_ws RJx00060 TJx00060 6, w ∈ WA := wa_f (List.forall_mem_cons.mpr ⟨q_t5_46, List.forall_mem_cons.mpr ⟨q_t5_47, List.forall_mem_cons.mpr ⟨q_t5_48, List.forall_mem_cons.mpr ⟨q_t5_49, List.forall_mem_cons.mpr ⟨q_t5_50, List.forall_mem_cons.mpr ⟨q_t5_61, fun _ h => absurd h List.not_mem_nil⟩⟩⟩⟩⟩⟩) _ rfl
theorem inWJx7c733 : ∀ w ∈ u_ws RJx7c733 TJx7c733 6, w ∈ WA := wa_f (List.forall_mem_cons.mpr ⟨q_t5_21, List.forall_mem_cons.mpr ⟨q_t5_22, List.forall_mem_cons.mpr ⟨q_t5_23, List.forall_mem_cons.mpr ⟨q_t5_24, List.forall_mem_cons.mpr ⟨q_t5_25, List.forall_mem_cons.mpr ⟨q_t5_26, fun _ h => absurd h List.not_mem_nil⟩⟩⟩⟩⟩⟩) _ rfl
theorem inW5 : ∀ w ∈ u_ws RX5 TX5 0, w ∈ WA := fun _ h => absurd h List.not_mem_nil
theorem st_K {args : Array Value} {s : State} (hts : ∀ w ∈ WA, w.before args s = true) (h0 : ∀ w ∈ lw_tbl, w.before args s = true) : ∃ (D : va_G) (cA : Nat → ClassId), ∀ adW : Nat → Nat, va_K D vwCl (tyL (D, cA, adW)) s := by
  obtain ⟨c0, i0, k0⟩ := u_known (C := RJ0) (T := TJ0) (N := 4) (n := 4) hts inWJ0 (h0 _ (wa_t tbl_4 128 rfl))
  obtain ⟨c1, i1, k1⟩ := u_known (C := RJ4) (T := TJ4) (N := 4) (n := 4) hts inWJ4 (h0 _ (wa_t tbl_2 51 rfl))
  obtain ⟨c2, i2, k2⟩ := u_known (C := RJx00060) (T := TJx00060) (N := 6) (n := 6) hts inWJx00060 (h0 _ (wa_t tbl_5 41 rfl))
  obtain ⟨c3, i3, k3⟩ := u_known (C := RJx7c733) (T := TJx7c733) (N := 6) (n := 6) hts inWJx7c733 (h0 _ (wa_t tbl_3 217 rfl))
  obtain ⟨c4, i4, k4⟩ := u_known (C := RX0) (T := TX0) (N := 3) (n := 3) hts inW0 (h0 _ (wa_t tbl_1 175 rfl))
  obtain ⟨c5, i5, k5⟩ := u_known (C := RX1) (T := TX1) (N := 18) (n := 18) hts inW1 (h0 _ (wa_t tbl_1 76 rfl))
  obtain ⟨c6, i6, k6⟩ := u_known (C := RX2) (T := TX2) (N := 9) (n := 9) hts inW2 (h0 _ (wa_t tbl_1 195 rfl))
  obtain ⟨c7, i7, k7⟩ := u_known (C := RX3) (T := TX3) (N := 13) (n := 13) hts inW3 (h0 _ (wa_t tbl_1 231 rfl))
  obtain ⟨c8, i8, k8⟩ := u_known (C := RX4) (T := TX4) (N := 9) (n := 9) hts inW4 (h0 _ (wa_t tbl_1 38 rfl))
  obtain ⟨c9, i9, k9⟩ := u_known (C := RX5) (T := TX5) (N := 0) (n := 8) hts inW5 (h0 _ (wa_t tbl_5 147 rfl))
  obtain ⟨c10, i10, k10⟩ := u_known (C := RX6) (T := TX6) (N := 9) (n := 9) hts inW6 (h0 _ (wa_t tbl_1 30 rfl))
  obtain ⟨c11, i11, k11⟩ := u_known (C := RX7) (T := TX7) (N := 31) (n := 31) hts inW7 (h0 _ (wa_t tbl_7 60 rfl))
  obtain ⟨a0, b0, e0, f0, g0, x0⟩ := Cond.arrayClass_spec (h0 _ (wa_t tbl_1 74 rfl))
  obtain ⟨a1, b1, e1, f1, g1, x1⟩ := Cond.arrayClass_spec (h0 _ (wa_t tbl_1 73 rfl))
  obtain ⟨a2, b2, e2, f2, g2, x2⟩ := Cond.arrayClass_spec (h0 _ (wa_t tbl_2 48 rfl))
  obtain ⟨a3, b3, e3, f3, g3, x3⟩ := Cond.arrayClass_spec (h0 _ (wa_t tbl_2 49 rfl))
  obtain ⟨a5, b5, e5, f5, g5, x5⟩ := Cond.arrayClass_spec (h0 _ (wa_t tbl_10 21 rfl))
  obtain ⟨comp, a4, b4, q1, q2, q3, q4, q5⟩ := Cond.arrayOver_spec (h0 _ (wa_t tbl_1 181 rfl))
  refine ⟨(fun k => if k = 0 then c0 else if k = 1 then c1 else if k = 2 then c2 else if k = 3 then c3 else if k = 4 then c4 else if k = 5 then c5 else if k = 6 then c6 else if k = 7 then c7 else if k = 8 then c8 else if k = 9 then c9 else if k = 10 then c10 else c11, fun k => if k = 0 then i0 else if k = 1 then i1 else if k = 2 then i2 else if k = 3 then i3 else if k = 4 then i4 else if k = 5 then i5 else if k = 6 then i6 else if k = 7 then i7 else if k = 8 then i8 else if k = 9 then i9 else if k = 10 then i10 else i11), fun k => if k = 0 then a0 else if k = 1 then a1 else if k = 2 then a2 else if k = 3 then a3 else if k = 4 then a4 else a5, fun adW => ⟨?_, ?_⟩⟩
  · intro k q hq
    match k, hq with
    | 0, hq => cases hq; exact k0
    | 1, hq => cases hq; exact k1
    | 2, hq => cases hq; exact k2
    | 3, hq => cases hq; exact k3
    | 4, hq => cases hq; exact k4
    | 5, hq => cases hq; exact k5
    | 6, hq => cases hq; exact k6
    | 7, hq => cases hq; exact k7
    | 8, hq => cases hq; exact k8
    | 9, hq => cases hq; exact k9
    | 10, hq => cases hq; exact k10
    | 11, hq => cases hq; exact k11
    | k + 12, hq => simp [vwCl] at hq
  · intro k q hq
    match k, hq with
    | 0, hq => cases hq; exact ⟨fun n z => ⟨(fun k h => by cases h), b0, g0, e0, x0⟩, f0⟩
    | 1, hq => cases hq; exact ⟨fun n z => ⟨(fun k h => by cases h), b1, g1, e1, x1⟩, f1⟩
    | 2, hq => cases hq; exact ⟨fun n z => ⟨(fun k h => by cases h), b2, g2, e2, x2⟩, f2⟩
    | 3, hq => cases hq; exact ⟨fun n z => ⟨(fun k h => by cases h), b3, g3, e3, x3⟩, f3⟩
    | 4, hq => cases hq; exact ⟨fun n z => ⟨(fun k h => by cases h), b4, q3, comp, q4⟩, b4, comp, q3, q4, q1, q5⟩
    | 5, hq => cases hq; exact ⟨fun n z => ⟨(fun k h => by cases h), b5, g5, e5, x5⟩, f5⟩
    | k + 6, hq => simp at hq
abbrev PL : List (Nat × Cond) := [(4, (.eq (.static "java/lang/String" "COMPACT_STRINGS" "Z") (.int 1))), (5, (.isRef (.static "jdk/internal/util/Preconditions" "SIOOBE_FORMATTER" "Ljava/util/function/BiFunction;"))), (10, (.arrayOf (.static "java/lang/Integer" "DigitOnes" "[B") .byte)), (11, (.eq (.length (.static "java/lang/Integer" "DigitOnes" "[B")) (.int 100))), (113, (.arrayOf (.static "java/lang/Integer" "DigitTens" "[B") .byte)), (114, (.eq (.length (.static "java/lang/Integer" "DigitTens" "[B")) (.int 100))), (215, (.isRef (.static "java/lang/Throwable" "UNASSIGNED_STACK" "[Ljava/lang/StackTraceElement;"))), (216, (.isRef (.static "java/lang/Throwable" "SUPPRESSED_SENTINEL" "Ljava/util/List;"))), (219, (.arrayOf (.static "SheetFolder$Word" "ALL" "[LSheetFolder$Word;") (.object "SheetFolder$Word"))), (220, (.eq (.length (.static "SheetFolder$Word" "ALL" "[LSheetFolder$Word;")) (.int 11))), (222, (.eq (.elem (.static "SheetFolder$Word" "ALL" "[LSheetFolder$Word;") (.int 0)) (.static "SheetFolder$Word" "SHEET" "LSheetFolder$Word;"))), (223, (.eq (.elem (.static "SheetFolder$Word" "ALL" "[LSheetFolder$Word;") (.int 1)) (.static "SheetFolder$Word" "LEG" "LSheetFolder$Word;"))), (224, (.eq (.elem (.static "SheetFolder$Word" "ALL" "[LSheetFolder$Word;") (.int 2)) (.static "SheetFolder$Word" "UP" "LSheetFolder$Word;"))), (225, (.eq (.elem (.static "SheetFolder$Word" "ALL" "[LSheetFolder$Word;") (.int 3)) (.static "SheetFolder$Word" "DOWN" "LSheetFolder$Word;"))), (226, (.eq (.elem (.static "SheetFolder$Word" "ALL" "[LSheetFolder$Word;") (.int 4)) (.static "SheetFolder$Word" "BACK" "LSheetFolder$Word;"))), (227, (.eq (.elem (.static "SheetFolder$Word" "ALL" "[LSheetFolder$Word;") (.int 5)) (.static "SheetFolder$Word" "BEAM" "LSheetFolder$Word;"))), (228, (.eq (.elem (.static "SheetFolder$Word" "ALL" "[LSheetFolder$Word;") (.int 6)) (.static "SheetFolder$Word" "TABLE" "LSheetFolder$Word;"))), (229, (.eq (.elem (.static "SheetFolder$Word" "ALL" "[LSheetFolder$Word;") (.int 7)) (.static "SheetFolder$Word" "WING" "LSheetFolder$Word;"))), (230, (.eq (.elem (.static "SheetFolder$Word" "ALL" "[LSheetFolder$Word;") (.int 8)) (.static "SheetFolder$Word" "GAUGE" "LSheetFolder$Word;"))), (231, (.eq (.elem (.static "SheetFolder$Word" "ALL" "[LSheetFolder$Word;") (.int 9)) (.static "SheetFolder$Word" "FLANGE" "LSheetFolder$Word;"))), (232, (.eq (.elem (.static "SheetFolder$Word" "ALL" "[LSheetFolder$Word;") (.int 10)) (.static "SheetFolder$Word" "COST" "LSheetFolder$Word;"))), (233, (.exactly (.static "SheetFolder$Word" "LEG" "LSheetFolder$Word;") "SheetFolder$Word")), (235, (.eq (.field (.static "SheetFolder$Word" "LEG" "LSheetFolder$Word;") "SheetFolder$Word" "text" "Ljava/lang/String;") (.string "SheetFolder$Word" 107))), (236, (.eq (.field (.static "SheetFolder$Word" "LEG" "LSheetFolder$Word;") "SheetFolder$Word" "leastOfFirst" "I") (.int 1))), (237, (.eq (.field (.static "SheetFolder$Word" "LEG" "LSheetFolder$Word;") "SheetFolder$Word" "mostOfFirst" "I") (.int 9999))), (238, (.eq (.field (.static "SheetFolder$Word" "LEG" "LSheetFolder$Word;") "SheetFolder$Word" "mostOfSecond" "I") (.int 0))), (239, (.eq (.field (.static "SheetFolder$Word" "LEG" "LSheetFolder$Word;") "SheetFolder$Word" "mostOfThird" "I") (.int 0))), (240, (.exactly (.static "SheetFolder$Word" "UP" "LSheetFolder$Word;") "SheetFolder$Word")), (242, (.eq (.field (.static "SheetFolder$Word" "UP" "LSheetFolder$Word;") "SheetFolder$Word" "text" "Ljava/lang/String;") (.string "SheetFolder$Word" 110))), (243, (.eq (.field (.static "SheetFolder$Word" "UP" "LSheetFolder$Word;") "SheetFolder$Word" "leastOfFirst" "I") (.int 1))), (244, (.eq (.field (.static "SheetFolder$Word" "UP" "LSheetFolder$Word;") "SheetFolder$Word" "mostOfFirst" "I") (.int 9999))), (245, (.eq (.field (.static "SheetFolder$Word" "UP" "LSheetFolder$Word;") "SheetFolder$Word" "mostOfSecond" "I") (.int 0))), (246, (.eq (.field (.static "SheetFolder$Word" "UP" "LSheetFolder$Word;") "SheetFolder$Word" "mostOfThird" "I") (.int 0))), (247, (.not (.eq (.static "SheetFolder$Word" "LEG" "LSheetFolder$Word;") (.static "SheetFolder$Word" "UP" "LSheetFolder$Word;")))), (248, (.exactly (.static "SheetFolder$Word" "DOWN" "LSheetFolder$Word;") "SheetFolder$Word")), (250, (.eq (.field (.static "SheetFolder$Word" "DOWN" "LSheetFolder$Word;") "SheetFolder$Word" "text" "Ljava/lang/String;") (.string "SheetFolder$Word" 113))), (251, (.eq (.field (.static "SheetFolder$Word" "DOWN" "LSheetFolder$Word;") "SheetFolder$Word" "leastOfFirst" "I") (.int 1))), (252, (.eq (.field (.static "SheetFolder$Word" "DOWN" "LSheetFolder$Word;") "SheetFolder$Word" "mostOfFirst" "I") (.int 9999))), (253, (.eq (.field (.static "SheetFolder$Word" "DOWN" "LSheetFolder$Word;") "SheetFolder$Word" "mostOfSecond" "I") (.int 0))), (254, (.eq (.field (.static "SheetFolder$Word" "DOWN" "LSheetFolder$Word;") "SheetFolder$Word" "mostOfThird" "I") (.int 0))), (255, (.not (.eq (.static "SheetFolder$Word" "LEG" "LSheetFolder$Word;") (.static "SheetFolder$Word" "DOWN" "LSheetFolder$Word;")))), (256, (.not (.eq (.static "SheetFolder$Word" "UP" "LSheetFolder$Word;") (.static "SheetFolder$Word" "DOWN" "LSheetFolder$Word;")))), (257, (.exactly (.static "SheetFolder$Word" "BACK" "LSheetFolder$Word;") "SheetFolder$Word")), (259, (.eq (.field (.static "SheetFolder$Word" "BACK" "LSheetFolder$Word;") "SheetFolder$Word" "text" "Ljava/lang/String;") (.string "SheetFolder$Word" 116))), (260, (.eq (.field (.static "SheetFolder$Word" "BACK" "LSheetFolder$Word;") "SheetFolder$Word" "leastOfFirst" "I") (.int 0))), (261, (.eq (.field (.static "SheetFolder$Word" "BACK" "LSheetFolder$Word;") "SheetFolder$Word" "mostOfFirst" "I") (.int 999))), (262, (.eq (.field (.static "SheetFolder$Word" "BACK" "LSheetFolder$Word;") "SheetFolder$Word" "mostOfSecond" "I") (.int 300))), (263, (.eq (.field (.static "SheetFolder$Word" "BACK" "LSheetFolder$Word;") "SheetFolder$Word" "mostOfThird" "I") (.int 0))), (264, (.not (.eq (.static "SheetFolder$Word" "LEG" "LSheetFolder$Word;") (.static "SheetFolder$Word" "BACK" "LSheetFolder$Word;")))), (265, (.not (.eq (.static "SheetFolder$Word" "UP" "LSheetFolder$Word;") (.static "SheetFolder$Word" "BACK" "LSheetFolder$Word;")))), (266, (.not (.eq (.static "SheetFolder$Word" "DOWN" "LSheetFolder$Word;") (.static "SheetFolder$Word" "BACK" "LSheetFolder$Word;")))), (267, (.exactly (.static "SheetFolder$Word" "GAUGE" "LSheetFolder$Word;") "SheetFolder$Word")), (269, (.eq (.field (.static "SheetFolder$Word" "GAUGE" "LSheetFolder$Word;") "SheetFolder$Word" "text" "Ljava/lang/String;") (.string "SheetFolder$Word" 128))), (270, (.eq (.field (.static "SheetFolder$Word" "GAUGE" "LSheetFolder$Word;") "SheetFolder$Word" "leastOfFirst" "I") (.int 0))), (271, (.eq (.field (.static "SheetFolder$Word" "GAUGE" "LSheetFolder$Word;") "SheetFolder$Word" "mostOfFirst" "I") (.int 9999))), (272, (.eq (.field (.static "SheetFolder$Word" "GAUGE" "LSheetFolder$Word;") "SheetFolder$Word" "mostOfSecond" "I") (.int 9999))), (273, (.eq (.field (.static "SheetFolder$Word" "GAUGE" "LSheetFolder$Word;") "SheetFolder$Word" "mostOfThird" "I") (.int 0))), (274, (.not (.eq (.static "SheetFolder$Word" "LEG" "LSheetFolder$Word;") (.static "SheetFolder$Word" "GAUGE" "LSheetFolder$Word;")))), (275, (.not (.eq (.static "SheetFolder$Word" "UP" "LSheetFolder$Word;") (.static "SheetFolder$Word" "GAUGE" "LSheetFolder$Word;")))), (276, (.not (.eq (.static "SheetFolder$Word" "DOWN" "LSheetFolder$Word;") (.static "SheetFolder$Word" "GAUGE" "LSheetFolder$Word;")))), (277, (.not (.eq (.static "SheetFolder$Word" "BACK" "LSheetFolder$Word;") (.static "SheetFolder$Word" "GAUGE" "LSheetFolder$Word;")))), (278, (.exactly (.static "SheetFolder$Word" "BEAM" "LSheetFolder$Word;") "SheetFolder$Word")), (280, (.eq (.field (.static "SheetFolder$Word" "BEAM" "LSheetFolder$Word;") "SheetFolder$Word" "text" "Ljava/lang/String;") (.string "SheetFolder$Word" 119))), (281, (.eq (.field (.static "SheetFolder$Word" "BEAM" "LSheetFolder$Word;") "SheetFolder$Word" "leastOfFirst" "I") (.int 0))), (282, (.eq (.field (.static "SheetFolder$Word" "BEAM" "LSheetFolder$Word;") "SheetFolder$Word" "mostOfFirst" "I") (.int 9999))), (283, (.eq (.field (.static "SheetFolder$Word" "BEAM" "LSheetFolder$Word;") "SheetFolder$Word" "mostOfSecond" "I") (.int 9999))), (284, (.eq (.field (.static "SheetFolder$Word" "BEAM" "LSheetFolder$Word;") "SheetFolder$Word" "mostOfThird" "I") (.int 0))), (285, (.not (.eq (.static "SheetFolder$Word" "LEG" "LSheetFolder$Word;") (.static "SheetFolder$Word" "BEAM" "LSheetFolder$Word;")))), (286, (.not (.eq (.static "SheetFolder$Word" "UP" "LSheetFolder$Word;") (.static "SheetFolder$Word" "BEAM" "LSheetFolder$Word;")))), (287, (.not (.eq (.static "SheetFolder$Word" "DOWN" "LSheetFolder$Word;") (.static "SheetFolder$Word" "BEAM" "LSheetFolder$Word;")))), (288, (.not (.eq (.static "SheetFolder$Word" "BACK" "LSheetFolder$Word;") (.static "SheetFolder$Word" "BEAM" "LSheetFolder$Word;")))), (289, (.not (.eq (.static "SheetFolder$Word" "GAUGE" "LSheetFolder$Word;") (.static "SheetFolder$Word" "BEAM" "LSheetFolder$Word;")))), (290, (.exactly (.static "SheetFolder$Word" "TABLE" "LSheetFolder$Word;") "SheetFolder$Word")), (292, (.eq (.field (.static "SheetFolder$Word" "TABLE" "LSheetFolder$Word;") "SheetFolder$Word" "text" "Ljava/lang/String;") (.string "SheetFolder$Word" 122))), (293, (.eq (.field (.static "SheetFolder$Word" "TABLE" "LSheetFolder$Word;") "SheetFolder$Word" "leastOfFirst" "I") (.int 0))), (294, (.eq (.field (.static "SheetFolder$Word" "TABLE" "LSheetFolder$Word;") "SheetFolder$Word" "mostOfFirst" "I") (.int 9999))), (295, (.eq (.field (.static "SheetFolder$Word" "TABLE" "LSheetFolder$Word;") "SheetFolder$Word" "mostOfSecond" "I") (.int 9999))), (296, (.eq (.field (.static "SheetFolder$Word" "TABLE" "LSheetFolder$Word;") "SheetFolder$Word" "mostOfThird" "I") (.int 0))), (297, (.not (.eq (.static "SheetFolder$Word" "LEG" "LSheetFolder$Word;") (.static "SheetFolder$Word" "TABLE" "LSheetFolder$Word;")))), (298, (.not (.eq (.static "SheetFolder$Word" "UP" "LSheetFolder$Word;") (.static "SheetFolder$Word" "TABLE" "LSheetFolder$Word;")))), (299, (.not (.eq (.static "SheetFolder$Word" "DOWN" "LSheetFolder$Word;") (.static "SheetFolder$Word" "TABLE" "LSheetFolder$Word;")))), (300, (.not (.eq (.static "SheetFolder$Word" "BACK" "LSheetFolder$Word;") (.static "SheetFolder$Word" "TABLE" "LSheetFolder$Word;")))), (301, (.not (.eq (.static "SheetFolder$Word" "GAUGE" "LSheetFolder$Word;") (.static "SheetFolder$Word" "TABLE" "LSheetFolder$Word;")))), (302, (.not (.eq (.static "SheetFolder$Word" "BEAM" "LSheetFolder$Word;") (.static "SheetFolder$Word" "TABLE" "LSheetFolder$Word;")))), (303, (.exactly (.static "SheetFolder$Word" "WING" "LSheetFolder$Word;") "SheetFolder$Word")), (305, (.eq (.field (.static "SheetFolder$Word" "WING" "LSheetFolder$Word;") "SheetFolder$Word" "text" "Ljava/lang/String;") (.string "SheetFolder$Word" 125))), (306, (.eq (.field (.static "SheetFolder$Word" "WING" "LSheetFolder$Word;") "SheetFolder$Word" "leastOfFirst" "I") (.int 0))), (307, (.eq (.field (.static "SheetFolder$Word" "WING" "LSheetFolder$Word;") "SheetFolder$Word" "mostOfFirst" "I") (.int 9999))), (308, (.eq (.field (.static "SheetFolder$Word" "WING" "LSheetFolder$Word;") "SheetFolder$Word" "mostOfSecond" "I") (.int 9999))), (309, (.eq (.field (.static "SheetFolder$Word" "WING" "LSheetFolder$Word;") "SheetFolder$Word" "mostOfThird" "I") (.int 0))), (310, (.not (.eq (.static "SheetFolder$Word" "LEG" "LSheetFolder$Word;") (.static "SheetFolder$Word" "WING" "LSheetFolder$Word;")))), (311, (.not (.eq (.static "SheetFolder$Word" "UP" "LSheetFolder$Word;") (.static "SheetFolder$Word" "WING" "LSheetFolder$Word;")))), (312, (.not (.eq (.static "SheetFolder$Word" "DOWN" "LSheetFolder$Word;") (.static "SheetFolder$Word" "WING" "LSheetFolder$Word;")))), (313, (.not (.eq (.static "SheetFolder$Word" "BACK" "LSheetFolder$Word;") (.static "SheetFolder$Word" "WING" "LSheetFolder$Word;")))), (314, (.not (.eq (.static "SheetFolder$Word" "GAUGE" "LSheetFolder$Word;") (.static "SheetFolder$Word" "WING" "LSheetFolder$Word;")))), (315, (.not (.eq (.static "SheetFolder$Word" "BEAM" "LSheetFolder$Word;") (.static "SheetFolder$Word" "WING" "LSheetFolder$Word;")))), (316, (.not (.eq (.static "SheetFolder$Word" "TABLE" "LSheetFolder$Word;") (.static "SheetFolder$Word" "WING" "LSheetFolder$Word;")))), (317, (.exactly (.static "SheetFolder$Word" "FLANGE" "LSheetFolder$Word;") "SheetFolder$Word")), (319, (.eq (.field (.static "SheetFolder$Word" "FLANGE" "LSheetFolder$Word;") "SheetFolder$Word" "text" "Ljava/lang/String;") (.string "SheetFolder$Word" 131))), (320, (.eq (.field (.static "SheetFolder$Word" "FLANGE" "LSheetFolder$Word;") "SheetFolder$Word" "leastOfFirst" "I") (.int 0))), (321, (.eq (.field (.static "SheetFolder$Word" "FLANGE" "LSheetFolder$Word;") "SheetFolder$Word" "mostOfFirst" "I") (.int 9999))), (322, (.eq (.field (.static "SheetFolder$Word" "FLANGE" "LSheetFolder$Word;") "SheetFolder$Word" "mostOfSecond" "I") (.int 0))), (323, (.eq (.field (.static "SheetFolder$Word" "FLANGE" "LSheetFolder$Word;") "SheetFolder$Word" "mostOfThird" "I") (.int 0))), (324, (.not (.eq (.static "SheetFolder$Word" "LEG" "LSheetFolder$Word;") (.static "SheetFolder$Word" "FLANGE" "LSheetFolder$Word;")))), (325, (.not (.eq (.static "SheetFolder$Word" "UP" "LSheetFolder$Word;") (.static "SheetFolder$Word" "FLANGE" "LSheetFolder$Word;")))), (326, (.not (.eq (.static "SheetFolder$Word" "DOWN" "LSheetFolder$Word;") (.static "SheetFolder$Word" "FLANGE" "LSheetFolder$Word;")))), (327, (.not (.eq (.static "SheetFolder$Word" "BACK" "LSheetFolder$Word;") (.static "SheetFolder$Word" "FLANGE" "LSheetFolder$Word;")))), (328, (.not (.eq (.static "SheetFolder$Word" "GAUGE" "LSheetFolder$Word;") (.static "SheetFolder$Word" "FLANGE" "LSheetFolder$Word;")))), (329, (.not (.eq (.static "SheetFolder$Word" "BEAM" "LSheetFolder$Word;") (.static "SheetFolder$Word" "FLANGE" "LSheetFolder$Word;")))), (330, (.not (.eq (.static "SheetFolder$Word" "TABLE" "LSheetFolder$Word;") (.static "SheetFolder$Word" "FLANGE" "LSheetFolder$Word;")))), (331, (.not (.eq (.static "SheetFolder$Word" "WING" "LSheetFolder$Word;") (.static "SheetFolder$Word" "FLANGE" "LSheetFolder$Word;")))), (332, (.exactly (.static "SheetFolder$Word" "SHEET" "LSheetFolder$Word;") "SheetFolder$Word")), (334, (.eq (.field (.static "SheetFolder$Word" "SHEET" "LSheetFolder$Word;") "SheetFolder$Word" "text" "Ljava/lang/String;") (.string "SheetFolder$Word" 101))), (335, (.eq (.field (.static "SheetFolder$Word" "SHEET" "LSheetFolder$Word;") "SheetFolder$Word" "leastOfFirst" "I") (.int 1))), (336, (.eq (.field (.static "SheetFolder$Word" "SHEET" "LSheetFolder$Word;") "SheetFolder$Word" "mostOfFirst" "I") (.int 60))), (337, (.eq (.field (.static "SheetFolder$Word" "SHEET" "LSheetFolder$Word;") "SheetFolder$Word" "mostOfSecond" "I") (.int 200))), (338, (.eq (.field (.static "SheetFolder$Word" "SHEET" "LSheetFolder$Word;") "SheetFolder$Word" "mostOfThird" "I") (.int 100))), (339, (.not (.eq (.static "SheetFolder$Word" "LEG" "LSheetFolder$Word;") (.static "SheetFolder$Word" "SHEET" "LSheetFolder$Word;")))), (340, (.not (.eq (.static "SheetFolder$Word" "UP" "LSheetFolder$Word;") (.static "SheetFolder$Word" "SHEET" "LSheetFolder$Word;")))), (341, (.not (.eq (.static "SheetFolder$Word" "DOWN" "LSheetFolder$Word;") (.static "SheetFolder$Word" "SHEET" "LSheetFolder$Word;")))), (342, (.not (.eq (.static "SheetFolder$Word" "BACK" "LSheetFolder$Word;") (.static "SheetFolder$Word" "SHEET" "LSheetFolder$Word;")))), (343, (.not (.eq (.static "SheetFolder$Word" "GAUGE" "LSheetFolder$Word;") (.static "SheetFolder$Word" "SHEET" "LSheetFolder$Word;")))), (344, (.not (.eq (.static "SheetFolder$Word" "BEAM" "LSheetFolder$Word;") (.static "SheetFolder$Word" "SHEET" "LSheetFolder$Word;")))), (345, (.not (.eq (.static "SheetFolder$Word" "TABLE" "LSheetFolder$Word;") (.static "SheetFolder$Word" "SHEET" "LSheetFolder$Word;")))), (346, (.not (.eq (.static "SheetFolder$Word" "WING" "LSheetFolder$Word;") (.static "SheetFolder$Word" "SHEET" "LSheetFolder$Word;")))), (347, (.not (.eq (.static "SheetFolder$Word" "FLANGE" "LSheetFolder$Word;") (.static "SheetFolder$Word" "SHEET" "LSheetFolder$Word;")))), (348, (.exactly (.static "SheetFolder$Word" "COST" "LSheetFolder$Word;") "SheetFolder$Word")), (350, (.eq (.field (.static "SheetFolder$Word" "COST" "LSheetFolder$Word;") "SheetFolder$Word" "text" "Ljava/lang/String;") (.string "SheetFolder$Word" 134))), (351, (.eq (.field (.static "SheetFolder$Word" "COST" "LSheetFolder$Word;") "SheetFolder$Word" "leastOfFirst" "I") (.int 0))), (352, (.eq (.field (.static "SheetFolder$Word" "COST" "LSheetFolder$Word;") "SheetFolder$Word" "mostOfFirst" "I") (.int 99))), (353, (.eq (.field (.static "SheetFolder$Word" "COST" "LSheetFolder$Word;") "SheetFolder$Word" "mostOfSecond" "I") (.int 99))), (354, (.eq (.field (.static "SheetFolder$Word" "COST" "LSheetFolder$Word;") "SheetFolder$Word" "mostOfThird" "I") (.int 99))), (355, (.not (.eq (.static "SheetFolder$Word" "LEG" "LSheetFolder$Word;") (.static "SheetFolder$Word" "COST" "LSheetFolder$Word;")))), (356, (.not (.eq (.static "SheetFolder$Word" "UP" "LSheetFolder$Word;") (.static "SheetFolder$Word" "COST" "LSheetFolder$Word;")))), (357, (.not (.eq (.static "SheetFolder$Word" "DOWN" "LSheetFolder$Word;") (.static "SheetFolder$Word" "COST" "LSheetFolder$Word;")))), (358, (.not (.eq (.static "SheetFolder$Word" "BACK" "LSheetFolder$Word;") (.static "SheetFolder$Word" "COST" "LSheetFolder$Word;")))), (359, (.not (.eq (.static "SheetFolder$Word" "GAUGE" "LSheetFolder$Word;") (.static "SheetFolder$Word" "COST" "LSheetFolder$Word;")))), (360, (.not (.eq (.static "SheetFolder$Word" "BEAM" "LSheetFolder$Word;") (.static "SheetFolder$Word" "COST" "LSheetFolder$Word;")))), (361, (.not (.eq (.static "SheetFolder$Word" "TABLE" "LSheetFolder$Word;") (.static "SheetFolder$Word" "COST" "LSheetFolder$Word;")))), (362, (.not (.eq (.static "SheetFolder$Word" "WING" "LSheetFolder$Word;") (.static "SheetFolder$Word" "COST" "LSheetFolder$Word;")))), (363, (.not (.eq (.static "SheetFolder$Word" "FLANGE" "LSheetFolder$Word;") (.static "SheetFolder$Word" "COST" "LSheetFolder$Word;")))), (364, (.not (.eq (.static "SheetFolder$Word" "SHEET" "LSheetFolder$Word;") (.static "SheetFolder$Word" "COST" "LSheetFolder$Word;")))), (375, (.not (.castable "java/lang/IllegalStateException" "java/lang/IllegalArgumentException"))), (387, (.not (.castable "java/lang/IllegalArgumentException" "java/lang/IndexOutOfBoundsException"))), (389, (.not (.castable "java/lang/IllegalStateException" "java/lang/IndexOutOfBoundsException"))), (508, (.exactly (.string "SheetFolder" 352) "java/lang/String")), (509, (.eq (.field (.string "SheetFolder" 352) "java/lang/String" "coder" "B") (.int 0))), (510, (.arrayOf (.field (.string "SheetFolder" 352) "java/lang/String" "value" "[B") .byte)), (511, (.eq (.length (.field (.string "SheetFolder" 352) "java/lang/String" "value" "[B")) (.int 6))), (518, (.exactly (.string "SheetFolder" 68) "java/lang/String")), (574, (.exactly (.string "SheetFolder" 371) "java/lang/String")), (598, (.exactly (.string "SheetFolder" 369) "java/lang/String")), (623, (.exactly (.string "SheetFolder" 130) "java/lang/String")), (653, (.exactly (.string "SheetFolder" 141) "java/lang/String")), (690, (.exactly (.string "SheetFolder" 373) "java/lang/String")), (721, (.exactly (.string "SheetFolder" 178) "java/lang/String")), (746, (.exactly (.string "SheetFolder" 213) "java/lang/String")), (770, (.exactly (.string "SheetFolder" 252) "java/lang/String")), (813, (.exactly (.string "SheetFolder" 375) "java/lang/String")), (832, (.exactly (.string "SheetFolder" 278) "java/lang/String")), (855, (.exactly (.string "SheetFolder" 284) "java/lang/String")), (899, (.exactly (.string "SheetFolder" 304) "java/lang/String")), (926, (.exactly (.string "SheetFolder" 310) "java/lang/String")), (964, (.exactly (.string "SheetFolder" 318) "java/lang/String")), (1005, (.exactly (.string "SheetFolder" 329) "java/lang/String")), (1030, (.exactly (.string "SheetFolder" 363) "java/lang/String")), (1160, (.eq (.string "SheetFolder" 352) (.string "SheetFolderModel" 441))), (1161, (.exactly (.string "SheetFolder$Word" 107) "java/lang/String")), (1162, (.eq (.field (.string "SheetFolder$Word" 107) "java/lang/String" "coder" "B") (.int 0))), (1163, (.arrayOf (.field (.string "SheetFolder$Word" 107) "java/lang/String" "value" "[B") .byte)), (1164, (.eq (.length (.field (.string "SheetFolder$Word" 107) "java/lang/String" "value" "[B")) (.int 3))), (1168, (.eq (.string "SheetFolderModel" 163) (.string "SheetFolder$Word" 107))), (1169, (.exactly (.string "SheetFolder$Word" 110) "java/lang/String")), (1170, (.eq (.field (.string "SheetFolder$Word" 110) "java/lang/String" "coder" "B") (.int 0))), (1171, (.arrayOf (.field (.string "SheetFolder$Word" 110) "java/lang/String" "value" "[B") .byte)), (1172, (.eq (.length (.field (.string "SheetFolder$Word" 110) "java/lang/String" "value" "[B")) (.int 2))), (1175, (.eq (.string "SheetFolderModel" 168) (.string "SheetFolder$Word" 110))), (1176, (.exactly (.string "SheetFolder$Word" 113) "java/lang/String")), (1177, (.eq (.field (.string "SheetFolder$Word" 113) "java/lang/String" "coder" "B") (.int 0))), (1178, (.arrayOf (.field (.string "SheetFolder$Word" 113) "java/lang/String" "value" "[B") .byte)), (1179, (.eq (.length (.field (.string "SheetFolder$Word" 113) "java/lang/String" "value" "[B")) (.int 4))), (1184, (.eq (.string "SheetFolderModel" 170) (.string "SheetFolder$Word" 113))), (1185, (.exactly (.string "SheetFolder$Word" 116) "java/lang/String")), (1186, (.eq (.field (.string "SheetFolder$Word" 116) "java/lang/String" "coder" "B") (.int 0))), (1187, (.arrayOf (.field (.string "SheetFolder$Word" 116) "java/lang/String" "value" "[B") .byte)), (1188, (.eq (.length (.field (.string "SheetFolder$Word" 116) "java/lang/String" "value" "[B")) (.int 4))), (1193, (.eq (.string "SheetFolderModel" 176) (.string "SheetFolder$Word" 116))), (1194, (.exactly (.string "SheetFolder$Word" 128) "java/lang/String")), (1195, (.eq (.field (.string "SheetFolder$Word" 128) "java/lang/String" "coder" "B") (.int 0))), (1196, (.arrayOf (.field (.string "SheetFolder$Word" 128) "java/lang/String" "value" "[B") .byte)), (1197, (.eq (.length (.field (.string "SheetFolder$Word" 128) "java/lang/String" "value" "[B")) (.int 5))), (1203, (.eq (.string "SheetFolderModel" 154) (.string "SheetFolder$Word" 128))), (1204, (.exactly (.string "SheetFolder$Word" 119) "java/lang/String")), (1205, (.eq (.field (.string "SheetFolder$Word" 119) "java/lang/String" "coder" "B") (.int 0))), (1206, (.arrayOf (.field (.string "SheetFolder$Word" 119) "java/lang/String" "value" "[B") .byte)), (1207, (.eq (.length (.field (.string "SheetFolder$Word" 119) "java/lang/String" "value" "[B")) (.int 4))), (1212, (.eq (.string "SheetFolderModel" 144) (.string "SheetFolder$Word" 119))), (1213, (.exactly (.string "SheetFolder$Word" 122) "java/lang/String")), (1214, (.eq (.field (.string "SheetFolder$Word" 122) "java/lang/String" "coder" "B") (.int 0))), (1215, (.arrayOf (.field (.string "SheetFolder$Word" 122) "java/lang/String" "value" "[B") .byte)), (1216, (.eq (.length (.field (.string "SheetFolder$Word" 122) "java/lang/String" "value" "[B")) (.int 5))), (1222, (.eq (.string "SheetFolderModel" 150) (.string "SheetFolder$Word" 122))), (1223, (.exactly (.string "SheetFolder$Word" 125) "java/lang/String")), (1224, (.eq (.field (.string "SheetFolder$Word" 125) "java/lang/String" "coder" "B") (.int 0))), (1225, (.arrayOf (.field (.string "SheetFolder$Word" 125) "java/lang/String" "value" "[B") .byte)), (1226, (.eq (.length (.field (.string "SheetFolder$Word" 125) "java/lang/String" "value" "[B")) (.int 4))), (1231, (.eq (.string "SheetFolderModel" 152) (.string "SheetFolder$Word" 125))), (1232, (.exactly (.string "SheetFolder$Word" 131) "java/lang/String")), (1233, (.eq (.field (.string "SheetFolder$Word" 131) "java/lang/String" "coder" "B") (.int 0))), (1234, (.arrayOf (.field (.string "SheetFolder$Word" 131) "java/lang/String" "value" "[B") .byte)), (1235, (.eq (.length (.field (.string "SheetFolder$Word" 131) "java/lang/String" "value" "[B")) (.int 6))), (1242, (.eq (.string "SheetFolderModel" 156) (.string "SheetFolder$Word" 131))), (1243, (.exactly (.string "SheetFolder$Word" 101) "java/lang/String")), (1244, (.eq (.field (.string "SheetFolder$Word" 101) "java/lang/String" "coder" "B") (.int 0))), (1245, (.arrayOf (.field (.string "SheetFolder$Word" 101) "java/lang/String" "value" "[B") .byte)), (1246, (.eq (.length (.field (.string "SheetFolder$Word" 101) "java/lang/String" "value" "[B")) (.int 5))), (1252, (.eq (.string "SheetFolderModel" 158) (.string "SheetFolder$Word" 101))), (1253, (.exactly (.string "SheetFolder$Word" 134) "java/lang/String")), (1254, (.eq (.field (.string "SheetFolder$Word" 134) "java/lang/String" "coder" "B") (.int 0))), (1255, (.arrayOf (.field (.string "SheetFolder$Word" 134) "java/lang/String" "value" "[B") .byte)), (1256, (.eq (.length (.field (.string "SheetFolder$Word" 134) "java/lang/String" "value" "[B")) (.int 4))), (1261, (.eq (.string "SheetFolderModel" 181) (.string "SheetFolder$Word" 134)))]
def fl_ok : List Cond → Nat → List (Nat × Cond) → Bool
  | [], _, ps => ps.isEmpty
  | x :: xs, n, ps => match ps with
    | [] => true
    | q :: qs => if q.1 = n then (decide (q.2 = x) && fl_ok xs (n + 1) qs) else fl_ok xs (n + 1) ps
theorem fl_okS : ∀ (L : List Cond) (n : Nat) (ps : List (Nat × Cond)), fl_ok L n ps = true → ∀ q ∈ ps, ∃ j, q.1 = n + j ∧ L[j]? = some q.2
  | [], n, [], _, q, hq => absurd hq List.not_mem_nil
  | [], n, a :: b, h, q, hq => absurd (show false = true from h) (by decide)
  | x :: xs, n, [], _, q, hq => absurd hq List.not_mem_nil
  | x :: xs, n, a :: b, h, q, hq => by
    have h : (if a.1 = n then (decide (a.2 = x) && fl_ok xs (n + 1) b) else fl_ok xs (n + 1) (a :: b)) = true := h
    by_cases e : a.1 = n
    · rw [if_pos e, Bool.and_eq_true] at h
      rcases List.mem_cons.mp hq with e1 | e1
      · rw [e1]
        exact ⟨0, e, congrArg some (of_decide_eq_true h.1).symm⟩
      · obtain ⟨j, e2, e3⟩ := fl_okS xs (n + 1) b h.2 q e1
        exact ⟨j + 1, by omega, e3⟩
    · rw [if_neg e] at h
      obtain ⟨j, e2, e3⟩ := fl_okS xs (n + 1) (a :: b) h q hq
      exact ⟨j + 1, by omega, e3⟩
theorem fl_PL : ∀ q ∈ PL, (flatC (Jvm.Cond.and given_1 narrow_1))[q.1]? = some q.2 := fun q hq => by
  obtain ⟨j, e, h⟩ := fl_okS (flatC (Jvm.Cond.and given_1 narrow_1)) 0 PL (by decide +kernel) q hq
  rw [e, Nat.zero_add]; exact h
theorem fl_p {q : Nat × Cond} (k : Nat) (h : PL[k]? = some q) : q.2 ∈ flatC (Jvm.Cond.and given_1 narrow_1) := List.mem_of_getElem? (fl_PL q (List.mem_of_getElem? h))
abbrev nwS : List Cond := [.exactly (.string "SheetFolder" 68) "java/lang/String", .exactly (.string "SheetFolder" 130) "java/lang/String", .exactly (.string "SheetFolder" 141) "java/lang/String", .exactly (.string "SheetFolder" 178) "java/lang/String", .exactly (.string "SheetFolder" 213) "java/lang/String", .exactly (.string "SheetFolder" 252) "java/lang/String", .exactly (.string "SheetFolder" 278) "java/lang/String", .exactly (.string "SheetFolder" 284) "java/lang/String", .exactly (.string "SheetFolder" 304) "java/lang/String", .exactly (.string "SheetFolder" 310) "java/lang/String", .exactly (.string "SheetFolder" 318) "java/lang/String", .exactly (.string "SheetFolder" 329) "java/lang/String", .exactly (.string "SheetFolder" 363) "java/lang/String", .exactly (.string "SheetFolder" 369) "java/lang/String", .exactly (.string "SheetFolder" 371) "java/lang/String", .exactly (.string "SheetFolder" 373) "java/lang/String", .exactly (.string "SheetFolder" 375) "java/lang/String"]
abbrev nwE : List Cond := [.exactly (.static "SheetFolder$Word" "SHEET" "LSheetFolder$Word;") "SheetFolder$Word", .exactly (.static "SheetFolder$Word" "LEG" "LSheetFolder$Word;") "SheetFolder$Word", .exactly (.static "SheetFolder$Word" "UP" "LSheetFolder$Word;") "SheetFolder$Word", .exactly (.static "SheetFolder$Word" "DOWN" "LSheetFolder$Word;") "SheetFolder$Word", .exactly (.static "SheetFolder$Word" "BACK" "LSheetFolder$Word;") "SheetFolder$Word", .exactly (.static "SheetFolder$Word" "BEAM" "LSheetFolder$Word;") "SheetFolder$Word", .exactly (.static "SheetFolder$Word" "TABLE" "LSheetFolder$Word;") "SheetFolder$Word", .exactly (.static "SheetFolder$Word" "WING" "LSheetFolder$Word;") "SheetFolder$Word", .exactly (.static "SheetFolder$Word" "GAUGE" "LSheetFolder$Word;") "SheetFolder$Word", .exactly (.static "SheetFolder$Word" "FLANGE" "LSheetFolder$Word;") "SheetFolder$Word", .exactly (.static "SheetFolder$Word" "COST" "LSheetFolder$Word;") "SheetFolder$Word"]
abbrev nwF : List Cond := [.eq (.field (.static "SheetFolder$Word" "LEG" "LSheetFolder$Word;") "SheetFolder$Word" "leastOfFirst" "I") (.int 1), .eq (.field (.static "SheetFolder$Word" "LEG" "LSheetFolder$Word;") "SheetFolder$Word" "mostOfFirst" "I") (.int 9999), .eq (.field (.static "SheetFolder$Word" "LEG" "LSheetFolder$Word;") "SheetFolder$Word" "mostOfSecond" "I") (.int 0), .eq (.field (.static "SheetFolder$Word" "LEG" "LSheetFolder$Word;") "SheetFolder$Word" "mostOfThird" "I") (.int 0), .eq (.field (.static "SheetFolder$Word" "UP" "LSheetFolder$Word;") "SheetFolder$Word" "leastOfFirst" "I") (.int 1), .eq (.field (.static "SheetFolder$Word" "UP" "LSheetFolder$Word;") "SheetFolder$Word" "mostOfFirst" "I") (.int 9999), .eq (.field (.static "SheetFolder$Word" "UP" "LSheetFolder$Word;") "SheetFolder$Word" "mostOfSecond" "I") (.int 0), .eq (.field (.static "SheetFolder$Word" "UP" "LSheetFolder$Word;") "SheetFolder$Word" "mostOfThird" "I") (.int 0), .eq (.field (.static "SheetFolder$Word" "DOWN" "LSheetFolder$Word;") "SheetFolder$Word" "leastOfFirst" "I") (.int 1), .eq (.field (.static "SheetFolder$Word" "DOWN" "LSheetFolder$Word;") "SheetFolder$Word" "mostOfFirst" "I") (.int 9999), .eq (.field (.static "SheetFolder$Word" "DOWN" "LSheetFolder$Word;") "SheetFolder$Word" "mostOfSecond" "I") (.int 0), .eq (.field (.static "SheetFolder$Word" "DOWN" "LSheetFolder$Word;") "SheetFolder$Word" "mostOfThird" "I") (.int 0), .eq (.field (.static "SheetFolder$Word" "BACK" "LSheetFolder$Word;") "SheetFolder$Word" "leastOfFirst" "I") (.int 0), .eq (.field (.static "SheetFolder$Word" "BACK" "LSheetFolder$Word;") "SheetFolder$Word" "mostOfFirst" "I") (.int 999), .eq (.field (.static "SheetFolder$Word" "BACK" "LSheetFolder$Word;") "SheetFolder$Word" "mostOfSecond" "I") (.int 300), .eq (.field (.static "SheetFolder$Word" "BACK" "LSheetFolder$Word;") "SheetFolder$Word" "mostOfThird" "I") (.int 0), .eq (.field (.static "SheetFolder$Word" "GAUGE" "LSheetFolder$Word;") "SheetFolder$Word" "leastOfFirst" "I") (.int 0), .eq (.field (.static "SheetFolder$Word" "GAUGE" "LSheetFolder$Word;") "SheetFolder$Word" "mostOfFirst" "I") (.int 9999), .eq (.field (.static "SheetFolder$Word" "GAUGE" "LSheetFolder$Word;") "SheetFolder$Word" "mostOfSecond" "I") (.int 9999), .eq (.field (.static "SheetFolder$Word" "GAUGE" "LSheetFolder$Word;") "SheetFolder$Word" "mostOfThird" "I") (.int 0), .eq (.field (.static "SheetFolder$Word" "BEAM" "LSheetFolder$Word;") "SheetFolder$Word" "leastOfFirst" "I") (.int 0), .eq (.field (.static "SheetFolder$Word" "BEAM" "LSheetFolder$Word;") "SheetFolder$Word" "mostOfFirst" "I") (.int 9999), .eq (.field (.static "SheetFolder$Word" "BEAM" "LSheetFolder$Word;") "SheetFolder$Word" "mostOfSecond" "I") (.int 9999), .eq (.field (.static "SheetFolder$Word" "BEAM" "LSheetFolder$Word;") "SheetFolder$Word" "mostOfThird" "I") (.int 0), .eq (.field (.static "SheetFolder$Word" "TABLE" "LSheetFolder$Word;") "SheetFolder$Word" "leastOfFirst" "I") (.int 0), .eq (.field (.static "SheetFolder$Word" "TABLE" "LSheetFolder$Word;") "SheetFolder$Word" "mostOfFirst" "I") (.int 9999), .eq (.field (.static "SheetFolder$Word" "TABLE" "LSheetFolder$Word;") "SheetFolder$Word" "mostOfSecond" "I") (.int 9999), .eq (.field (.static "SheetFolder$Word" "TABLE" "LSheetFolder$Word;") "SheetFolder$Word" "mostOfThird" "I") (.int 0), .eq (.field (.static "SheetFolder$Word" "WING" "LSheetFolder$Word;") "SheetFolder$Word" "leastOfFirst" "I") (.int 0), .eq (.field (.static "SheetFolder$Word" "WING" "LSheetFolder$Word;") "SheetFolder$Word" "mostOfFirst" "I") (.int 9999), .eq (.field (.static "SheetFolder$Word" "WING" "LSheetFolder$Word;") "SheetFolder$Word" "mostOfSecond" "I") (.int 9999), .eq (.field (.static "SheetFolder$Word" "WING" "LSheetFolder$Word;") "SheetFolder$Word" "mostOfThird" "I") (.int 0), .eq (.field (.static "SheetFolder$Word" "FLANGE" "LSheetFolder$Word;") "SheetFolder$Word" "leastOfFirst" "I") (.int 0), .eq (.field (.static "SheetFolder$Word" "FLANGE" "LSheetFolder$Word;") "SheetFolder$Word" "mostOfFirst" "I") (.int 9999), .eq (.field (.static "SheetFolder$Word" "FLANGE" "LSheetFolder$Word;") "SheetFolder$Word" "mostOfSecond" "I") (.int 0), .eq (.field (.static "SheetFolder$Word" "FLANGE" "LSheetFolder$Word;") "SheetFolder$Word" "mostOfThird" "I") (.int 0), .eq (.field (.static "SheetFolder$Word" "SHEET" "LSheetFolder$Word;") "SheetFolder$Word" "leastOfFirst" "I") (.int 1), .eq (.field (.static "SheetFolder$Word" "SHEET" "LSheetFolder$Word;") "SheetFolder$Word" "mostOfFirst" "I") (.int 60), .eq (.field (.static "SheetFolder$Word" "SHEET" "LSheetFolder$Word;") "SheetFolder$Word" "mostOfSecond" "I") (.int 200), .eq (.field (.static "SheetFolder$Word" "SHEET" "LSheetFolder$Word;") "SheetFolder$Word" "mostOfThird" "I") (.int 100), .eq (.field (.static "SheetFolder$Word" "COST" "LSheetFolder$Word;") "SheetFolder$Word" "leastOfFirst" "I") (.int 0), .eq (.field (.static "SheetFolder$Word" "COST" "LSheetFolder$Word;") "SheetFolder$Word" "mostOfFirst" "I") (.int 99), .eq (.field (.static "SheetFolder$Word" "COST" "LSheetFolder$Word;") "SheetFolder$Word" "mostOfSecond" "I") (.int 99), .eq (.field (.static "SheetFolder$Word" "COST" "LSheetFolder$Word;") "SheetFolder$Word" "mostOfThird" "I") (.int 99)]
abbrev nwN : List Cond := [.not (.eq (.static "SheetFolder$Word" "LEG" "LSheetFolder$Word;") (.static "SheetFolder$Word" "UP" "LSheetFolder$Word;")), .not (.eq (.static "SheetFolder$Word" "LEG" "LSheetFolder$Word;") (.static "SheetFolder$Word" "DOWN" "LSheetFolder$Word;")), .not (.eq (.static "SheetFolder$Word" "UP" "LSheetFolder$Word;") (.static "SheetFolder$Word" "DOWN" "LSheetFolder$Word;")), .not (.eq (.static "SheetFolder$Word" "LEG" "LSheetFolder$Word;") (.static "SheetFolder$Word" "BACK" "LSheetFolder$Word;")), .not (.eq (.static "SheetFolder$Word" "UP" "LSheetFolder$Word;") (.static "SheetFolder$Word" "BACK" "LSheetFolder$Word;")), .not (.eq (.static "SheetFolder$Word" "DOWN" "LSheetFolder$Word;") (.static "SheetFolder$Word" "BACK" "LSheetFolder$Word;")), .not (.eq (.static "SheetFolder$Word" "LEG" "LSheetFolder$Word;") (.static "SheetFolder$Word" "GAUGE" "LSheetFolder$Word;")), .not (.eq (.static "SheetFolder$Word" "UP" "LSheetFolder$Word;") (.static "SheetFolder$Word" "GAUGE" "LSheetFolder$Word;")), .not (.eq (.static "SheetFolder$Word" "DOWN" "LSheetFolder$Word;") (.static "SheetFolder$Word" "GAUGE" "LSheetFolder$Word;")), .not (.eq (.static "SheetFolder$Word" "BACK" "LSheetFolder$Word;") (.static "SheetFolder$Word" "GAUGE" "LSheetFolder$Word;")), .not (.eq (.static "SheetFolder$Word" "LEG" "LSheetFolder$Word;") (.static "SheetFolder$Word" "BEAM" "LSheetFolder$Word;")), .not (.eq (.static "SheetFolder$Word" "UP" "LSheetFolder$Word;") (.static "SheetFolder$Word" "BEAM" "LSheetFolder$Word;")), .not (.eq (.static "SheetFolder$Word" "DOWN" "LSheetFolder$Word;") (.static "SheetFolder$Word" "BEAM" "LSheetFolder$Word;")), .not (.eq (.static "SheetFolder$Word" "BACK" "LSheetFolder$Word;") (.static "SheetFolder$Word" "BEAM" "LSheetFolder$Word;")), .not (.eq (.static "SheetFolder$Word" "GAUGE" "LSheetFolder$Word;") (.static "SheetFolder$Word" "BEAM" "LSheetFolder$Word;")), .not (.eq (.static "SheetFolder$Word" "LEG" "LSheetFolder$Word;") (.static "SheetFolder$Word" "TABLE" "LSheetFolder$Word;")), .not (.eq (.static "SheetFolder$Word" "UP" "LSheetFolder$Word;") (.static "SheetFolder$Word" "TABLE" "LSheetFolder$Word;")), .not (.eq (.static "SheetFolder$Word" "DOWN" "LSheetFolder$Word;") (.static "SheetFolder$Word" "TABLE" "LSheetFolder$Word;")), .not (.eq (.static "SheetFolder$Word" "BACK" "LSheetFolder$Word;") (.static "SheetFolder$Word" "TABLE" "LSheetFolder$Word;")), .not (.eq (.static "SheetFolder$Word" "GAUGE" "LSheetFolder$Word;") (.static "SheetFolder$Word" "TABLE" "LSheetFolder$Word;")), .not (.eq (.static "SheetFolder$Word" "BEAM" "LSheetFolder$Word;") (.static "SheetFolder$Word" "TABLE" "LSheetFolder$Word;")), .not (.eq (.static "SheetFolder$Word" "LEG" "LSheetFolder$Word;") (.static "SheetFolder$Word" "WING" "LSheetFolder$Word;")), .not (.eq (.static "SheetFolder$Word" "UP" "LSheetFolder$Word;") (.static "SheetFolder$Word" "WING" "LSheetFolder$Word;")), .not (.eq (.static "SheetFolder$Word" "DOWN" "LSheetFolder$Word;") (.static "SheetFolder$Word" "WING" "LSheetFolder$Word;")), .not (.eq (.static "SheetFolder$Word" "BACK" "LSheetFolder$Word;") (.static "SheetFolder$Word" "WING" "LSheetFolder$Word;")), .not (.eq (.static "SheetFolder$Word" "GAUGE" "LSheetFolder$Word;") (.static "SheetFolder$Word" "WING" "LSheetFolder$Word;")), .not (.eq (.static "SheetFolder$Word" "BEAM" "LSheetFolder$Word;") (.static "SheetFolder$Word" "WING" "LSheetFolder$Word;")), .not (.eq (.static "SheetFolder$Word" "TABLE" "LSheetFolder$Word;") (.static "SheetFolder$Word" "WING" "LSheetFolder$Word;")), .not (.eq (.static "SheetFolder$Word" "LEG" "LSheetFolder$Word;") (.static "SheetFolder$Word" "FLANGE" "LSheetFolder$Word;")), .not (.eq (.static "SheetFolder$Word" "UP" "LSheetFolder$Word;") (.static "SheetFolder$Word" "FLANGE" "LSheetFolder$Word;")), .not (.eq (.static "SheetFolder$Word" "DOWN" "LSheetFolder$Word;") (.static "SheetFolder$Word" "FLANGE" "LSheetFolder$Word;")), .not (.eq (.static "SheetFolder$Word" "BACK" "LSheetFolder$Word;") (.static "SheetFolder$Word" "FLANGE" "LSheetFolder$Word;")), .not (.eq (.static "SheetFolder$Word" "GAUGE" "LSheetFolder$Word;") (.static "SheetFolder$Word" "FLANGE" "LSheetFolder$Word;")), .not (.eq (.static "SheetFolder$Word" "BEAM" "LSheetFolder$Word;") (.static "SheetFolder$Word" "FLANGE" "LSheetFolder$Word;")), .not (.eq (.static "SheetFolder$Word" "TABLE" "LSheetFolder$Word;") (.static "SheetFolder$Word" "FLANGE" "LSheetFolder$Word;")), .not (.eq (.static "SheetFolder$Word" "WING" "LSheetFolder$Word;") (.static "SheetFolder$Word" "FLANGE" "LSheetFolder$Word;")), .not (.eq (.static "SheetFolder$Word" "LEG" "LSheetFolder$Word;") (.static "SheetFolder$Word" "SHEET" "LSheetFolder$Word;")), .not (.eq (.static "SheetFolder$Word" "UP" "LSheetFolder$Word;") (.static "SheetFolder$Word" "SHEET" "LSheetFolder$Word;")), .not (.eq (.static "SheetFolder$Word" "DOWN" "LSheetFolder$Word;") (.static "SheetFolder$Word" "SHEET" "LSheetFolder$Word;")), .not (.eq (.static "SheetFolder$Word" "BACK" "LSheetFolder$Word;") (.static "SheetFolder$Word" "SHEET" "LSheetFolder$Word;")), .not (.eq (.static "SheetFolder$Word" "GAUGE" "LSheetFolder$Word;") (.static "SheetFolder$Word" "SHEET" "LSheetFolder$Word;")), .not (.eq (.static "SheetFolder$Word" "BEAM" "LSheetFolder$Word;") (.static "SheetFolder$Word" "SHEET" "LSheetFolder$Word;")), .not (.eq (.static "SheetFolder$Word" "TABLE" "LSheetFolder$Word;") (.static "SheetFolder$Word" "SHEET" "LSheetFolder$Word;")), .not (.eq (.static "SheetFolder$Word" "WING" "LSheetFolder$Word;") (.static "SheetFolder$Word" "SHEET" "LSheetFolder$Word;")), .not (.eq (.static "SheetFolder$Word" "FLANGE" "LSheetFolder$Word;") (.static "SheetFolder$Word" "SHEET" "LSheetFolder$Word;")), .not (.eq (.static "SheetFolder$Word" "LEG" "LSheetFolder$Word;") (.static "SheetFolder$Word" "COST" "LSheetFolder$Word;")), .not (.eq (.static "SheetFolder$Word" "UP" "LSheetFolder$Word;") (.static "SheetFolder$Word" "COST" "LSheetFolder$Word;")), .not (.eq (.static "SheetFolder$Word" "DOWN" "LSheetFolder$Word;") (.static "SheetFolder$Word" "COST" "LSheetFolder$Word;")), .not (.eq (.static "SheetFolder$Word" "BACK" "LSheetFolder$Word;") (.static "SheetFolder$Word" "COST" "LSheetFolder$Word;")), .not (.eq (.static "SheetFolder$Word" "GAUGE" "LSheetFolder$Word;") (.static "SheetFolder$Word" "COST" "LSheetFolder$Word;")), .not (.eq (.static "SheetFolder$Word" "BEAM" "LSheetFolder$Word;") (.static "SheetFolder$Word" "COST" "LSheetFolder$Word;")), .not (.eq (.static "SheetFolder$Word" "TABLE" "LSheetFolder$Word;") (.static "SheetFolder$Word" "COST" "LSheetFolder$Word;")), .not (.eq (.static "SheetFolder$Word" "WING" "LSheetFolder$Word;") (.static "SheetFolder$Word" "COST" "LSheetFolder$Word;")), .not (.eq (.static "SheetFolder$Word" "FLANGE" "LSheetFolder$Word;") (.static "SheetFolder$Word" "COST" "LSheetFolder$Word;")), .not (.eq (.static "SheetFolder$Word" "SHEET" "LSheetFolder$Word;") (.static "SheetFolder$Word" "COST" "LSheetFolder$Word;"))]
abbrev nwO : List Cond := [.isRef (.static Bundle.tN "UNASSIGNED_STACK" Bundle.steD), .isRef (.static Bundle.tN "SUPPRESSED_SENTINEL" Bundle.listD), .eq (.static "java/lang/String" "COMPACT_STRINGS" "Z") (.int 1), .not (.castable "java/lang/IllegalArgumentException" "java/lang/IndexOutOfBoundsException"), .not (.castable "java/lang/IllegalStateException" "java/lang/IndexOutOfBoundsException"), .not (.castable "java/lang/IllegalStateException" "java/lang/IllegalArgumentException")]
theorem nwS_in : ∀ w ∈ nwS, w ∈ flatC (Jvm.Cond.and given_1 narrow_1) := List.forall_mem_cons.mpr ⟨(fl_p 149 (q := (518, (.exactly (.string "SheetFolder" 68) "java/lang/String"))) rfl), List.forall_mem_cons.mpr ⟨(fl_p 152 (q := (623, (.exactly (.string "SheetFolder" 130) "java/lang/String"))) rfl), List.forall_mem_cons.mpr ⟨(fl_p 153 (q := (653, (.exactly (.string "SheetFolder" 141) "java/lang/String"))) rfl), List.forall_mem_cons.mpr ⟨(fl_p 155 (q := (721, (.exactly (.string "SheetFolder" 178) "java/lang/String"))) rfl), List.forall_mem_cons.mpr ⟨(fl_p 156 (q := (746, (.exactly (.string "SheetFolder" 213) "java/lang/String"))) rfl), List.forall_mem_cons.mpr ⟨(fl_p 157 (q := (770, (.exactly (.string "SheetFolder" 252) "java/lang/String"))) rfl), List.forall_mem_cons.mpr ⟨(fl_p 159 (q := (832, (.exactly (.string "SheetFolder" 278) "java/lang/String"))) rfl), List.forall_mem_cons.mpr ⟨(fl_p 160 (q := (855, (.exactly (.string "SheetFolder" 284) "java/lang/String"))) rfl), List.forall_mem_cons.mpr ⟨(fl_p 161 (q := (899, (.exactly (.string "SheetFolder" 304) "java/lang/String"))) rfl), List.forall_mem_cons.mpr ⟨(fl_p 162 (q := (926, (.exactly (.string "SheetFolder" 310) "java/lang/String"))) rfl), List.forall_mem_cons.mpr ⟨(fl_p 163 (q := (964, (.exactly (.string "SheetFolder" 318) "java/lang/String"))) rfl), List.forall_mem_cons.mpr ⟨(fl_p 164 (q := (1005, (.exactly (.string "SheetFolder" 329) "java/lang/String"))) rfl), List.forall_mem_cons.mpr ⟨(fl_p 165 (q := (1030, (.exactly (.string "SheetFolder" 363) "java/lang/String"))) rfl), List.forall_mem_cons.mpr ⟨(fl_p 151 (q := (598, (.exactly (.string "SheetFolder" 369) "java/lang/String"))) rfl), List.forall_mem_cons.mpr ⟨(fl_p 150 (q := (574, (.exactly (.string "SheetFolder" 371) "java/lang/String"))) rfl), List.forall_mem_cons.mpr ⟨(fl_p 154 (q := (690, (.exactly (.string "SheetFolder" 373) "java/lang/String"))) rfl), List.forall_mem_cons.mpr ⟨(fl_p 158 (q := (813, (.exactly (.string "SheetFolder" 375) "java/lang/String"))) rfl), fun _ h => absurd h List.not_mem_nil⟩⟩⟩⟩⟩⟩⟩⟩⟩⟩⟩⟩⟩⟩⟩⟩⟩
theorem nwE_in : ∀ w ∈ nwE, w ∈ flatC (Jvm.Cond.and given_1 narrow_1) := List.forall_mem_cons.mpr ⟨(fl_p 111 (q := (332, (.exactly (.static "SheetFolder$Word" "SHEET" "LSheetFolder$Word;") "SheetFolder$Word"))) rfl), List.forall_mem_cons.mpr ⟨(fl_p 21 (q := (233, (.exactly (.static "SheetFolder$Word" "LEG" "LSheetFolder$Word;") "SheetFolder$Word"))) rfl), List.forall_mem_cons.mpr ⟨(fl_p 27 (q := (240, (.exactly (.static "SheetFolder$Word" "UP" "LSheetFolder$Word;") "SheetFolder$Word"))) rfl), List.forall_mem_cons.mpr ⟨(fl_p 34 (q := (248, (.exactly (.static "SheetFolder$Word" "DOWN" "LSheetFolder$Word;") "SheetFolder$Word"))) rfl), List.forall_mem_cons.mpr ⟨(fl_p 42 (q := (257, (.exactly (.static "SheetFolder$Word" "BACK" "LSheetFolder$Word;") "SheetFolder$Word"))) rfl), List.forall_mem_cons.mpr ⟨(fl_p 61 (q := (278, (.exactly (.static "SheetFolder$Word" "BEAM" "LSheetFolder$Word;") "SheetFolder$Word"))) rfl), List.forall_mem_cons.mpr ⟨(fl_p 72 (q := (290, (.exactly (.static "SheetFolder$Word" "TABLE" "LSheetFolder$Word;") "SheetFolder$Word"))) rfl), List.forall_mem_cons.mpr ⟨(fl_p 84 (q := (303, (.exactly (.static "SheetFolder$Word" "WING" "LSheetFolder$Word;") "SheetFolder$Word"))) rfl), List.forall_mem_cons.mpr ⟨(fl_p 51 (q := (267, (.exactly (.static "SheetFolder$Word" "GAUGE" "LSheetFolder$Word;") "SheetFolder$Word"))) rfl), List.forall_mem_cons.mpr ⟨(fl_p 97 (q := (317, (.exactly (.static "SheetFolder$Word" "FLANGE" "LSheetFolder$Word;") "SheetFolder$Word"))) rfl), List.forall_mem_cons.mpr ⟨(fl_p 126 (q := (348, (.exactly (.static "SheetFolder$Word" "COST" "LSheetFolder$Word;") "SheetFolder$Word"))) rfl), fun _ h => absurd h List.not_mem_nil⟩⟩⟩⟩⟩⟩⟩⟩⟩⟩⟩
theorem nwF_in : ∀ w ∈ nwF, w ∈ flatC (Jvm.Cond.and given_1 narrow_1) := List.forall_mem_cons.mpr ⟨(fl_p 23 (q := (236, (.eq (.field (.static "SheetFolder$Word" "LEG" "LSheetFolder$Word;") "SheetFolder$Word" "leastOfFirst" "I") (.int 1)))) rfl), List.forall_mem_cons.mpr ⟨(fl_p 24 (q := (237, (.eq (.field (.static "SheetFolder$Word" "LEG" "LSheetFolder$Word;") "SheetFolder$Word" "mostOfFirst" "I") (.int 9999)))) rfl), List.forall_mem_cons.mpr ⟨(fl_p 25 (q := (238, (.eq (.field (.static "SheetFolder$Word" "LEG" "LSheetFolder$Word;") "SheetFolder$Word" "mostOfSecond" "I") (.int 0)))) rfl), List.forall_mem_cons.mpr ⟨(fl_p 26 (q := (239, (.eq (.field (.static "SheetFolder$Word" "LEG" "LSheetFolder$Word;") "SheetFolder$Word" "mostOfThird" "I") (.int 0)))) rfl), List.forall_mem_cons.mpr ⟨(fl_p 29 (q := (243, (.eq (.field (.static "SheetFolder$Word" "UP" "LSheetFolder$Word;") "SheetFolder$Word" "leastOfFirst" "I") (.int 1)))) rfl), List.forall_mem_cons.mpr ⟨(fl_p 30 (q := (244, (.eq (.field (.static "SheetFolder$Word" "UP" "LSheetFolder$Word;") "SheetFolder$Word" "mostOfFirst" "I") (.int 9999)))) rfl), List.forall_mem_cons.mpr ⟨(fl_p 31 (q := (245, (.eq (.field (.static "SheetFolder$Word" "UP" "LSheetFolder$Word;") "SheetFolder$Word" "mostOfSecond" "I") (.int 0)))) rfl), List.forall_mem_cons.mpr ⟨(fl_p 32 (q := (246, (.eq (.field (.static "SheetFolder$Word" "UP" "LSheetFolder$Word;") "SheetFolder$Word" "mostOfThird" "I") (.int 0)))) rfl), List.forall_mem_cons.mpr ⟨(fl_p 36 (q := (251, (.eq (.field (.static "SheetFolder$Word" "DOWN" "LSheetFolder$Word;") "SheetFolder$Word" "leastOfFirst" "I") (.int 1)))) rfl), List.forall_mem_cons.mpr ⟨(fl_p 37 (q := (252, (.eq (.field (.static "SheetFolder$Word" "DOWN" "LSheetFolder$Word;") "SheetFolder$Word" "mostOfFirst" "I") (.int 9999)))) rfl), List.forall_mem_cons.mpr ⟨(fl_p 38 (q := (253, (.eq (.field (.static "SheetFolder$Word" "DOWN" "LSheetFolder$Word;") "SheetFolder$Word" "mostOfSecond" "I") (.int 0)))) rfl), List.forall_mem_cons.mpr ⟨(fl_p 39 (q := (254, (.eq (.field (.static "SheetFolder$Word" "DOWN" "LSheetFolder$Word;") "SheetFolder$Word" "mostOfThird" "I") (.int 0)))) rfl), List.forall_mem_cons.mpr ⟨(fl_p 44 (q := (260, (.eq (.field (.static "SheetFolder$Word" "BACK" "LSheetFolder$Word;") "SheetFolder$Word" "leastOfFirst" "I") (.int 0)))) rfl), List.forall_mem_cons.mpr ⟨(fl_p 45 (q := (261, (.eq (.field (.static "SheetFolder$Word" "BACK" "LSheetFolder$Word;") "SheetFolder$Word" "mostOfFirst" "I") (.int 999)))) rfl), List.forall_mem_cons.mpr ⟨(fl_p 46 (q := (262, (.eq (.field (.static "SheetFolder$Word" "BACK" "LSheetFolder$Word;") "SheetFolder$Word" "mostOfSecond" "I") (.int 300)))) rfl), List.forall_mem_cons.mpr ⟨(fl_p 47 (q := (263, (.eq (.field (.static "SheetFolder$Word" "BACK" "LSheetFolder$Word;") "SheetFolder$Word" "mostOfThird" "I") (.int 0)))) rfl), List.forall_mem_cons.mpr ⟨(fl_p 53 (q := (270, (.eq (.field (.static "SheetFolder$Word" "GAUGE" "LSheetFolder$Word;") "SheetFolder$Word" "leastOfFirst" "I") (.int 0)))) rfl), List.forall_mem_cons.mpr ⟨(fl_p 54 (q := (271, (.eq (.field (.static "SheetFolder$Word" "GAUGE" "LSheetFolder$Word;") "SheetFolder$Word" "mostOfFirst" "I") (.int 9999)))) rfl), List.forall_mem_cons.mpr ⟨(fl_p 55 (q := (272, (.eq (.field (.static "SheetFolder$Word" "GAUGE" "LSheetFolder$Word;") "SheetFolder$Word" "mostOfSecond" "I") (.int 9999)))) rfl), List.forall_mem_cons.mpr ⟨(fl_p 56 (q := (273, (.eq (.field (.static "SheetFolder$Word" "GAUGE" "LSheetFolder$Word;") "SheetFolder$Word" "mostOfThird" "I") (.int 0)))) rfl), List.forall_mem_cons.mpr ⟨(fl_p 63 (q := (281, (.eq (.field (.static "SheetFolder$Word" "BEAM" "LSheetFolder$Word;") "SheetFolder$Word" "leastOfFirst" "I") (.int 0)))) rfl), List.forall_mem_cons.mpr ⟨(fl_p 64 (q := (282, (.eq (.field (.static "SheetFolder$Word" "BEAM" "LSheetFolder$Word;") "SheetFolder$Word" "mostOfFirst" "I") (.int 9999)))) rfl), List.forall_mem_cons.mpr ⟨(fl_p 65 (q := (283, (.eq (.field (.static "SheetFolder$Word" "BEAM" "LSheetFolder$Word;") "SheetFolder$Word" "mostOfSecond" "I") (.int 9999)))) rfl), List.forall_mem_cons.mpr ⟨(fl_p 66 (q := (284, (.eq (.field (.static "SheetFolder$Word" "BEAM" "LSheetFolder$Word;") "SheetFolder$Word" "mostOfThird" "I") (.int 0)))) rfl), List.forall_mem_cons.mpr ⟨(fl_p 74 (q := (293, (.eq (.field (.static "SheetFolder$Word" "TABLE" "LSheetFolder$Word;") "SheetFolder$Word" "leastOfFirst" "I") (.int 0)))) rfl), List.forall_mem_cons.mpr ⟨(fl_p 75 (q := (294, (.eq (.field (.static "SheetFolder$Word" "TABLE" "LSheetFolder$Word;") "SheetFolder$Word" "mostOfFirst" "I") (.int 9999)))) rfl), List.forall_mem_cons.mpr ⟨(fl_p 76 (q := (295, (.eq (.field (.static "SheetFolder$Word" "TABLE" "LSheetFolder$Word;") "SheetFolder$Word" "mostOfSecond" "I") (.int 9999)))) rfl), List.forall_mem_cons.mpr ⟨(fl_p 77 (q := (296, (.eq (.field (.static "SheetFolder$Word" "TABLE" "LSheetFolder$Word;") "SheetFolder$Word" "mostOfThird" "I") (.int 0)))) rfl), List.forall_mem_cons.mpr ⟨(fl_p 86 (q := (306, (.eq (.field (.static "SheetFolder$Word" "WING" "LSheetFolder$Word;") "SheetFolder$Word" "leastOfFirst" "I") (.int 0)))) rfl), List.forall_mem_cons.mpr ⟨(fl_p 87 (q := (307, (.eq (.field (.static "SheetFolder$Word" "WING" "LSheetFolder$Word;") "SheetFolder$Word" "mostOfFirst" "I") (.int 9999)))) rfl), List.forall_mem_cons.mpr ⟨(fl_p 88 (q := (308, (.eq (.field (.static "SheetFolder$Word" "WING" "LSheetFolder$Word;") "SheetFolder$Word" "mostOfSecond" "I") (.int 9999)))) rfl), List.forall_mem_cons.mpr ⟨(fl_p 89 (q := (309, (.eq (.field (.static "SheetFolder$Word" "WING" "LSheetFolder$Word;") "SheetFolder$Word" "mostOfThird" "I") (.int 0)))) rfl), List.forall_mem_cons.mpr ⟨(fl_p 99 (q := (320, (.eq (.field (.static "SheetFolder$Word" "FLANGE" "LSheetFolder$Word;") "SheetFolder$Word" "leastOfFirst" "I") (.int 0)))) rfl), List.forall_mem_cons.mpr ⟨(fl_p 100 (q := (321, (.eq (.field (.static "SheetFolder$Word" "FLANGE" "LSheetFolder$Word;") "SheetFolder$Word" "mostOfFirst" "I") (.int 9999)))) rfl), List.forall_mem_cons.mpr ⟨(fl_p 101 (q := (322, (.eq (.field (.static "SheetFolder$Word" "FLANGE" "LSheetFolder$Word;") "SheetFolder$Word" "mostOfSecond" "I") (.int 0)))) rfl), List.forall_mem_cons.mpr ⟨(fl_p 102 (q := (323, (.eq (.field (.static "SheetFolder$Word" "FLANGE" "LSheetFolder$Word;") "SheetFolder$Word" "mostOfThird" "I") (.int 0)))) rfl), List.forall_mem_cons.mpr ⟨(fl_p 113 (q := (335, (.eq (.field (.static "SheetFolder$Word" "SHEET" "LSheetFolder$Word;") "SheetFolder$Word" "leastOfFirst" "I") (.int 1)))) rfl), List.forall_mem_cons.mpr ⟨(fl_p 114 (q := (336, (.eq (.field (.static "SheetFolder$Word" "SHEET" "LSheetFolder$Word;") "SheetFolder$Word" "mostOfFirst" "I") (.int 60)))) rfl), List.forall_mem_cons.mpr ⟨(fl_p 115 (q := (337, (.eq (.field (.static "SheetFolder$Word" "SHEET" "LSheetFolder$Word;") "SheetFolder$Word" "mostOfSecond" "I") (.int 200)))) rfl), List.forall_mem_cons.mpr ⟨(fl_p 116 (q := (338, (.eq (.field (.static "SheetFolder$Word" "SHEET" "LSheetFolder$Word;") "SheetFolder$Word" "mostOfThird" "I") (.int 100)))) rfl), List.forall_mem_cons.mpr ⟨(fl_p 128 (q := (351, (.eq (.field (.static "SheetFolder$Word" "COST" "LSheetFolder$Word;") "SheetFolder$Word" "leastOfFirst" "I") (.int 0)))) rfl), List.forall_mem_cons.mpr ⟨(fl_p 129 (q := (352, (.eq (.field (.static "SheetFolder$Word" "COST" "LSheetFolder$Word;") "SheetFolder$Word" "mostOfFirst" "I") (.int 99)))) rfl), List.forall_mem_cons.mpr ⟨(fl_p 130 (q := (353, (.eq (.field (.static "SheetFolder$Word" "COST" "LSheetFolder$Word;") "SheetFolder$Word" "mostOfSecond" "I") (.int 99)))) rfl), List.forall_mem_cons.mpr ⟨(fl_p 131 (q := (354, (.eq (.field (.static "SheetFolder$Word" "COST" "LSheetFolder$Word;") "SheetFolder$Word" "mostOfThird" "I") (.int 99)))) rfl), fun _ h => absurd h List.not_mem_nil⟩⟩⟩⟩⟩⟩⟩⟩⟩⟩⟩⟩⟩⟩⟩⟩⟩⟩⟩⟩⟩⟩⟩⟩⟩⟩⟩⟩⟩⟩⟩⟩⟩⟩⟩⟩⟩⟩⟩⟩⟩⟩⟩⟩
theorem nwN_in : ∀ w ∈ nwN, w ∈ flatC (Jvm.Cond.and given_1 narrow_1) := List.forall_mem_cons.mpr ⟨(fl_p 33 (q := (247, (.not (.eq (.static "SheetFolder$Word" "LEG" "LSheetFolder$Word;") (.static "SheetFolder$Word" "UP" "LSheetFolder$Word;"))))) rfl), List.forall_mem_cons.mpr ⟨(fl_p 40 (q := (255, (.not (.eq (.static "SheetFolder$Word" "LEG" "LSheetFolder$Word;") (.static "SheetFolder$Word" "DOWN" "LSheetFolder$Word;"))))) rfl), List.forall_mem_cons.mpr ⟨(fl_p 41 (q := (256, (.not (.eq (.static "SheetFolder$Word" "UP" "LSheetFolder$Word;") (.static "SheetFolder$Word" "DOWN" "LSheetFolder$Word;"))))) rfl), List.forall_mem_cons.mpr ⟨(fl_p 48 (q := (264, (.not (.eq (.static "SheetFolder$Word" "LEG" "LSheetFolder$Word;") (.static "SheetFolder$Word" "BACK" "LSheetFolder$Word;"))))) rfl), List.forall_mem_cons.mpr ⟨(fl_p 49 (q := (265, (.not (.eq (.static "SheetFolder$Word" "UP" "LSheetFolder$Word;") (.static "SheetFolder$Word" "BACK" "LSheetFolder$Word;"))))) rfl), List.forall_mem_cons.mpr ⟨(fl_p 50 (q := (266, (.not (.eq (.static "SheetFolder$Word" "DOWN" "LSheetFolder$Word;") (.static "SheetFolder$Word" "BACK" "LSheetFolder$Word;"))))) rfl), List.forall_mem_cons.mpr ⟨(fl_p 57 (q := (274, (.not (.eq (.static "SheetFolder$Word" "LEG" "LSheetFolder$Word;") (.static "SheetFolder$Word" "GAUGE" "LSheetFolder$Word;"))))) rfl), List.forall_mem_cons.mpr ⟨(fl_p 58 (q := (275, (.not (.eq (.static "SheetFolder$Word" "UP" "LSheetFolder$Word;") (.static "SheetFolder$Word" "GAUGE" "LSheetFolder$Word;"))))) rfl), List.forall_mem_cons.mpr ⟨(fl_p 59 (q := (276, (.not (.eq (.static "SheetFolder$Word" "DOWN" "LSheetFolder$Word;") (.static "SheetFolder$Word" "GAUGE" "LSheetFolder$Word;"))))) rfl), List.forall_mem_cons.mpr ⟨(fl_p 60 (q := (277, (.not (.eq (.static "SheetFolder$Word" "BACK" "LSheetFolder$Word;") (.static "SheetFolder$Word" "GAUGE" "LSheetFolder$Word;"))))) rfl), List.forall_mem_cons.mpr ⟨(fl_p 67 (q := (285, (.not (.eq (.static "SheetFolder$Word" "LEG" "LSheetFolder$Word;") (.static "SheetFolder$Word" "BEAM" "LSheetFolder$Word;"))))) rfl), List.forall_mem_cons.mpr ⟨(fl_p 68 (q := (286, (.not (.eq (.static "SheetFolder$Word" "UP" "LSheetFolder$Word;") (.static "SheetFolder$Word" "BEAM" "LSheetFolder$Word;"))))) rfl), List.forall_mem_cons.mpr ⟨(fl_p 69 (q := (287, (.not (.eq (.static "SheetFolder$Word" "DOWN" "LSheetFolder$Word;") (.static "SheetFolder$Word" "BEAM" "LSheetFolder$Word;"))))) rfl), List.forall_mem_cons.mpr ⟨(fl_p 70 (q := (288, (.not (.eq (.static "SheetFolder$Word" "BACK" "LSheetFolder$Word;") (.static "SheetFolder$Word" "BEAM" "LSheetFolder$Word;"))))) rfl), List.forall_mem_cons.mpr ⟨(fl_p 71 (q := (289, (.not (.eq (.static "SheetFolder$Word" "GAUGE" "LSheetFolder$Word;") (.static "SheetFolder$Word" "BEAM" "LSheetFolder$Word;"))))) rfl), List.forall_mem_cons.mpr ⟨(fl_p 78 (q := (297, (.not (.eq (.static "SheetFolder$Word" "LEG" "LSheetFolder$Word;") (.static "SheetFolder$Word" "TABLE" "LSheetFolder$Word;"))))) rfl), List.forall_mem_cons.mpr ⟨(fl_p 79 (q := (298, (.not (.eq (.static "SheetFolder$Word" "UP" "LSheetFolder$Word;") (.static "SheetFolder$Word" "TABLE" "LSheetFolder$Word;"))))) rfl), List.forall_mem_cons.mpr ⟨(fl_p 80 (q := (299, (.not (.eq (.static "SheetFolder$Word" "DOWN" "LSheetFolder$Word;") (.static "SheetFolder$Word" "TABLE" "LSheetFolder$Word;"))))) rfl), List.forall_mem_cons.mpr ⟨(fl_p 81 (q := (300, (.not (.eq (.static "SheetFolder$Word" "BACK" "LSheetFolder$Word;") (.static "SheetFolder$Word" "TABLE" "LSheetFolder$Word;"))))) rfl), List.forall_mem_cons.mpr ⟨(fl_p 82 (q := (301, (.not (.eq (.static "SheetFolder$Word" "GAUGE" "LSheetFolder$Word;") (.static "SheetFolder$Word" "TABLE" "LSheetFolder$Word;"))))) rfl), List.forall_mem_cons.mpr ⟨(fl_p 83 (q := (302, (.not (.eq (.static "SheetFolder$Word" "BEAM" "LSheetFolder$Word;") (.static "SheetFolder$Word" "TABLE" "LSheetFolder$Word;"))))) rfl), List.forall_mem_cons.mpr ⟨(fl_p 90 (q := (310, (.not (.eq (.static "SheetFolder$Word" "LEG" "LSheetFolder$Word;") (.static "SheetFolder$Word" "WING" "LSheetFolder$Word;"))))) rfl), List.forall_mem_cons.mpr ⟨(fl_p 91 (q := (311, (.not (.eq (.static "SheetFolder$Word" "UP" "LSheetFolder$Word;") (.static "SheetFolder$Word" "WING" "LSheetFolder$Word;"))))) rfl), List.forall_mem_cons.mpr ⟨(fl_p 92 (q := (312, (.not (.eq (.static "SheetFolder$Word" "DOWN" "LSheetFolder$Word;") (.static "SheetFolder$Word" "WING" "LSheetFolder$Word;"))))) rfl), List.forall_mem_cons.mpr ⟨(fl_p 93 (q := (313, (.not (.eq (.static "SheetFolder$Word" "BACK" "LSheetFolder$Word;") (.static "SheetFolder$Word" "WING" "LSheetFolder$Word;"))))) rfl), List.forall_mem_cons.mpr ⟨(fl_p 94 (q := (314, (.not (.eq (.static "SheetFolder$Word" "GAUGE" "LSheetFolder$Word;") (.static "SheetFolder$Word" "WING" "LSheetFolder$Word;"))))) rfl), List.forall_mem_cons.mpr ⟨(fl_p 95 (q := (315, (.not (.eq (.static "SheetFolder$Word" "BEAM" "LSheetFolder$Word;") (.static "SheetFolder$Word" "WING" "LSheetFolder$Word;"))))) rfl), List.forall_mem_cons.mpr ⟨(fl_p 96 (q := (316, (.not (.eq (.static "SheetFolder$Word" "TABLE" "LSheetFolder$Word;") (.static "SheetFolder$Word" "WING" "LSheetFolder$Word;"))))) rfl), List.forall_mem_cons.mpr ⟨(fl_p 103 (q := (324, (.not (.eq (.static "SheetFolder$Word" "LEG" "LSheetFolder$Word;") (.static "SheetFolder$Word" "FLANGE" "LSheetFolder$Word;"))))) rfl), List.forall_mem_cons.mpr ⟨(fl_p 104 (q := (325, (.not (.eq (.static "SheetFolder$Word" "UP" "LSheetFolder$Word;") (.static "SheetFolder$Word" "FLANGE" "LSheetFolder$Word;"))))) rfl), List.forall_mem_cons.mpr ⟨(fl_p 105 (q := (326, (.not (.eq (.static "SheetFolder$Word" "DOWN" "LSheetFolder$Word;") (.static "SheetFolder$Word" "FLANGE" "LSheetFolder$Word;"))))) rfl), List.forall_mem_cons.mpr ⟨(fl_p 106 (q := (327, (.not (.eq (.static "SheetFolder$Word" "BACK" "LSheetFolder$Word;") (.static "SheetFolder$Word" "FLANGE" "LSheetFolder$Word;"))))) rfl), List.forall_mem_cons.mpr ⟨(fl_p 107 (q := (328, (.not (.eq (.static "SheetFolder$Word" "GAUGE" "LSheetFolder$Word;") (.static "SheetFolder$Word" "FLANGE" "LSheetFolder$Word;"))))) rfl), List.forall_mem_cons.mpr ⟨(fl_p 108 (q := (329, (.not (.eq (.static "SheetFolder$Word" "BEAM" "LSheetFolder$Word;") (.static "SheetFolder$Word" "FLANGE" "LSheetFolder$Word;"))))) rfl), List.forall_mem_cons.mpr ⟨(fl_p 109 (q := (330, (.not (.eq (.static "SheetFolder$Word" "TABLE" "LSheetFolder$Word;") (.static "SheetFolder$Word" "FLANGE" "LSheetFolder$Word;"))))) rfl), List.forall_mem_cons.mpr ⟨(fl_p 110 (q := (331, (.not (.eq (.static "SheetFolder$Word" "WING" "LSheetFolder$Word;") (.static "SheetFolder$Word" "FLANGE" "LSheetFolder$Word;"))))) rfl), List.forall_mem_cons.mpr ⟨(fl_p 117 (q := (339, (.not (.eq (.static "SheetFolder$Word" "LEG" "LSheetFolder$Word;") (.static "SheetFolder$Word" "SHEET" "LSheetFolder$Word;"))))) rfl), List.forall_mem_cons.mpr ⟨(fl_p 118 (q := (340, (.not (.eq (.static "SheetFolder$Word" "UP" "LSheetFolder$Word;") (.static "SheetFolder$Word" "SHEET" "LSheetFolder$Word;"))))) rfl), List.forall_mem_cons.mpr ⟨(fl_p 119 (q := (341, (.not (.eq (.static "SheetFolder$Word" "DOWN" "LSheetFolder$Word;") (.static "SheetFolder$Word" "SHEET" "LSheetFolder$Word;"))))) rfl), List.forall_mem_cons.mpr ⟨(fl_p 120 (q := (342, (.not (.eq (.static "SheetFolder$Word" "BACK" "LSheetFolder$Word;") (.static "SheetFolder$Word" "SHEET" "LSheetFolder$Word;"))))) rfl), List.forall_mem_cons.mpr ⟨(fl_p 121 (q := (343, (.not (.eq (.static "SheetFolder$Word" "GAUGE" "LSheetFolder$Word;") (.static "SheetFolder$Word" "SHEET" "LSheetFolder$Word;"))))) rfl), List.forall_mem_cons.mpr ⟨(fl_p 122 (q := (344, (.not (.eq (.static "SheetFolder$Word" "BEAM" "LSheetFolder$Word;") (.static "SheetFolder$Word" "SHEET" "LSheetFolder$Word;"))))) rfl), List.forall_mem_cons.mpr ⟨(fl_p 123 (q := (345, (.not (.eq (.static "SheetFolder$Word" "TABLE" "LSheetFolder$Word;") (.static "SheetFolder$Word" "SHEET" "LSheetFolder$Word;"))))) rfl), List.forall_mem_cons.mpr ⟨(fl_p 124 (q := (346, (.not (.eq (.static "SheetFolder$Word" "WING" "LSheetFolder$Word;") (.static "SheetFolder$Word" "SHEET" "LSheetFolder$Word;"))))) rfl), List.forall_mem_cons.mpr ⟨(fl_p 125 (q := (347, (.not (.eq (.static "SheetFolder$Word" "FLANGE" "LSheetFolder$Word;") (.static "SheetFolder$Word" "SHEET" "LSheetFolder$Word;"))))) rfl), List.forall_mem_cons.mpr ⟨(fl_p 132 (q := (355, (.not (.eq (.static "SheetFolder$Word" "LEG" "LSheetFolder$Word;") (.static "SheetFolder$Word" "COST" "LSheetFolder$Word;"))))) rfl), List.forall_mem_cons.mpr ⟨(fl_p 133 (q := (356, (.not (.eq (.static "SheetFolder$Word" "UP" "LSheetFolder$Word;") (.static "SheetFolder$Word" "COST" "LSheetFolder$Word;"))))) rfl), List.forall_mem_cons.mpr ⟨(fl_p 134 (q := (357, (.not (.eq (.static "SheetFolder$Word" "DOWN" "LSheetFolder$Word;") (.static "SheetFolder$Word" "COST" "LSheetFolder$Word;"))))) rfl), List.forall_mem_cons.mpr ⟨(fl_p 135 (q := (358, (.not (.eq (.static "SheetFolder$Word" "BACK" "LSheetFolder$Word;") (.static "SheetFolder$Word" "COST" "LSheetFolder$Word;"))))) rfl), List.forall_mem_cons.mpr ⟨(fl_p 136 (q := (359, (.not (.eq (.static "SheetFolder$Word" "GAUGE" "LSheetFolder$Word;") (.static "SheetFolder$Word" "COST" "LSheetFolder$Word;"))))) rfl), List.forall_mem_cons.mpr ⟨(fl_p 137 (q := (360, (.not (.eq (.static "SheetFolder$Word" "BEAM" "LSheetFolder$Word;") (.static "SheetFolder$Word" "COST" "LSheetFolder$Word;"))))) rfl), List.forall_mem_cons.mpr ⟨(fl_p 138 (q := (361, (.not (.eq (.static "SheetFolder$Word" "TABLE" "LSheetFolder$Word;") (.static "SheetFolder$Word" "COST" "LSheetFolder$Word;"))))) rfl), List.forall_mem_cons.mpr ⟨(fl_p 139 (q := (362, (.not (.eq (.static "SheetFolder$Word" "WING" "LSheetFolder$Word;") (.static "SheetFolder$Word" "COST" "LSheetFolder$Word;"))))) rfl), List.forall_mem_cons.mpr ⟨(fl_p 140 (q := (363, (.not (.eq (.static "SheetFolder$Word" "FLANGE" "LSheetFolder$Word;") (.static "SheetFolder$Word" "COST" "LSheetFolder$Word;"))))) rfl), List.forall_mem_cons.mpr ⟨(fl_p 141 (q := (364, (.not (.eq (.static "SheetFolder$Word" "SHEET" "LSheetFolder$Word;") (.static "SheetFolder$Word" "COST" "LSheetFolder$Word;"))))) rfl), fun _ h => absurd h List.not_mem_nil⟩⟩⟩⟩⟩⟩⟩⟩⟩⟩⟩⟩⟩⟩⟩⟩⟩⟩⟩⟩⟩⟩⟩⟩⟩⟩⟩⟩⟩⟩⟩⟩⟩⟩⟩⟩⟩⟩⟩⟩⟩⟩⟩⟩⟩⟩⟩⟩⟩⟩⟩⟩⟩⟩⟩
theorem nwO_in : ∀ w ∈ nwO, w ∈ flatC (Jvm.Cond.and given_1 narrow_1) := List.forall_mem_cons.mpr ⟨(fl_p 6 (q := (215, (.isRef (.static "java/lang/Throwable" "UNASSIGNED_STACK" "[Ljava/lang/StackTraceElement;")))) rfl), List.forall_mem_cons.mpr ⟨(fl_p 7 (q := (216, (.isRef (.static "java/lang/Throwable" "SUPPRESSED_SENTINEL" "Ljava/util/List;")))) rfl), List.forall_mem_cons.mpr ⟨(fl_p 0 (q := (4, (.eq (.static "java/lang/String" "COMPACT_STRINGS" "Z") (.int 1)))) rfl), List.forall_mem_cons.mpr ⟨(fl_p 143 (q := (387, (.not (.castable "java/lang/IllegalArgumentException" "java/lang/IndexOutOfBoundsException")))) rfl), List.forall_mem_cons.mpr ⟨(fl_p 144 (q := (389, (.not (.castable "java/lang/IllegalStateException" "java/lang/IndexOutOfBoundsException")))) rfl), List.forall_mem_cons.mpr ⟨(fl_p 142 (q := (375, (.not (.castable "java/lang/IllegalStateException" "java/lang/IllegalArgumentException")))) rfl), fun _ h => absurd h List.not_mem_nil⟩⟩⟩⟩⟩⟩
theorem en_l : ∀ i, i < 11 → Cond.laysStatic "SheetFolder$Word" (wNm.getD i "") "LSheetFolder$Word;" ∈ lw_tbl
  | 0, _ => (wa_t tbl_5 229 rfl)
  | 1, _ => (wa_t tbl_5 173 rfl)
  | 2, _ => (wa_t tbl_5 179 rfl)
  | 3, _ => (wa_t tbl_5 181 rfl)
  | 4, _ => (wa_t tbl_5 184 rfl)
  | 5, _ => (wa_t tbl_5 220 rfl)
  | 6, _ => (wa_t tbl_5 222 rfl)
  | 7, _ => (wa_t tbl_5 224 rfl)
  | 8, _ => (wa_t tbl_5 203 rfl)
  | 9, _ => (wa_t tbl_5 226 rfl)
  | 10, _ => (wa_t tbl_5 232 rfl)
  | n + 11, h => absurd h (by omega)
theorem en_x : ∀ i, i < 11 → Cond.exactly (.static "SheetFolder$Word" (wNm.getD i "") "LSheetFolder$Word;") "SheetFolder$Word" ∈ nwE := by decide +kernel
theorem en_f : ∀ q ∈ wFs, ∀ i, i < 11 → Cond.eq (.field (.static "SheetFolder$Word" (wNm.getD i "") "LSheetFolder$Word;") q.1 q.2.1 q.2.2.1) (.int (q.2.2.2.getD i 0)) ∈ nwF := by decide +kernel
def enN (i j : Nat) : Cond := .not (.eq (.static "SheetFolder$Word" (wNm.getD i "") "LSheetFolder$Word;") (.static "SheetFolder$Word" (wNm.getD j "") "LSheetFolder$Word;"))
def enX : List (Nat × Bool) := [(0, true), (36, false), (37, false), (38, false), (39, false), (41, false), (42, false), (43, false), (40, false), (44, false), (54, true), (36, true), (0, true), (0, true), (1, true), (3, true), (10, true), (15, true), (21, true), (6, true), (28, true), (45, true), (37, true), (0, false), (0, true), (2, true), (4, true), (11, true), (16, true), (22, true), (7, true), (29, true), (46, true), (38, true), (1, false), (2, false), (0, true), (5, true), (12, true), (17, true), (23, true), (8, true), (30, true), (47, true), (39, true), (3, false), (4, false), (5, false), (0, true), (13, true), (18, true), (24, true), (9, true), (31, true), (48, true), (41, true), (10, false), (11, false), (12, false), (13, false), (0, true), (20, true), (26, true), (14, false), (33, true), (50, true), (42, true), (15, false), (16, false), (17, false), (18, false), (20, false), (0, true), (27, true), (19, false), (34, true), (51, true), (43, true), (21, false), (22, false), (23, false), (24, false), (26, false), (27, false), (0, true), (25, false), (35, true), (52, true), (40, true), (6, false), (7, false), (8, false), (9, false), (14, true), (19, true), (25, true), (0, true), (32, true), (49, true), (44, true), (28, false), (29, false), (30, false), (31, false), (33, false), (34, false), (35, false), (32, false), (0, true), (53, true), (54, false), (45, false), (46, false), (47, false), (48, false), (50, false), (51, false), (52, false), (49, false), (53, false), (0, true)]
theorem en_dx : ∀ i, i < 11 → ∀ j, j < 11 → i ≠ j → nwN[(enX.getD (11 * i + j) (0, true)).1]? = some (if (enX.getD (11 * i + j) (0, true)).2 then enN i j else enN j i) := by decide +kernel
theorem en_d : ∀ i, i < 11 → ∀ j, j < 11 → i ≠ j → (Cond.not (.eq (.static "SheetFolder$Word" (wNm.getD i "") "LSheetFolder$Word;") (.static "SheetFolder$Word" (wNm.getD j "") "LSheetFolder$Word;"))) ∈ nwN ∨ (Cond.not (.eq (.static "SheetFolder$Word" (wNm.getD j "") "LSheetFolder$Word;") (.static "SheetFolder$Word" (wNm.getD i "") "LSheetFolder$Word;"))) ∈ nwN := fun i hi j hj h => by
  have e := List.mem_of_getElem? (en_dx i hi j hj h)
  cases hb : (enX.getD (11 * i + j) (0, true)).2 with
  | true => rw [hb, if_pos rfl] at e; exact Or.inl e
  | false => rw [hb, if_neg (by decide)] at e; exact Or.inr e
theorem sr_in : ∀ q ∈ sxMsgs, Cond.stringRef q.1 q.2.1 q.2.2 ∈ lw_tbl ∧ Cond.exactly (.string q.1 q.2.1) "java/lang/String" ∈ nwS := List.forall_mem_cons.mpr ⟨⟨(wa_t tbl_5 107 rfl), by decide +kernel⟩, List.forall_mem_cons.mpr ⟨⟨(wa_t tbl_6 60 rfl), by decide +kernel⟩, List.forall_mem_cons.mpr ⟨⟨(wa_t tbl_6 70 rfl), by decide +kernel⟩, List.forall_mem_cons.mpr ⟨⟨(wa_t tbl_6 89 rfl), by decide +kernel⟩, List.forall_mem_cons.mpr ⟨⟨(wa_t tbl_6 152 rfl), by decide +kernel⟩, List.forall_mem_cons.mpr ⟨⟨(wa_t tbl_6 174 rfl), by decide +kernel⟩, List.forall_mem_cons.mpr ⟨⟨(wa_t tbl_6 217 rfl), by decide +kernel⟩, List.forall_mem_cons.mpr ⟨⟨(wa_t tbl_6 233 rfl), by decide +kernel⟩, List.forall_mem_cons.mpr ⟨⟨(wa_t tbl_7 3 rfl), by decide +kernel⟩, List.forall_mem_cons.mpr ⟨⟨(wa_t tbl_7 19 rfl), by decide +kernel⟩, List.forall_mem_cons.mpr ⟨⟨(wa_t tbl_7 29 rfl), by decide +kernel⟩, List.forall_mem_cons.mpr ⟨⟨(wa_t tbl_7 39 rfl), by decide +kernel⟩, List.forall_mem_cons.mpr ⟨⟨(wa_t tbl_7 48 rfl), by decide +kernel⟩, List.forall_mem_cons.mpr ⟨⟨(wa_t tbl_6 43 rfl), by decide +kernel⟩, List.forall_mem_cons.mpr ⟨⟨(wa_t tbl_6 28 rfl), by decide +kernel⟩, List.forall_mem_cons.mpr ⟨⟨(wa_t tbl_6 81 rfl), by decide +kernel⟩, List.forall_mem_cons.mpr ⟨⟨(wa_t tbl_6 203 rfl), by decide +kernel⟩, fun _ h => absurd h List.not_mem_nil⟩⟩⟩⟩⟩⟩⟩⟩⟩⟩⟩⟩⟩⟩⟩⟩⟩
theorem sxW_in : ∀ w ∈ sxW, w ∈ lw_tbl := by decide +kernel
theorem st_S {args : Array Value} {s : State} {G : GT} (A : Nat → Prop) (hA : ∀ a : Nat, a < s.heap.size → ¬ A a) (h0 : ∀ w ∈ lw_tbl, w.before args s = true) (hn : ∀ w ∈ flatC (Jvm.Cond.and given_1 narrow_1), w.before args s = true) (hE : va_En "SheetFolder$Word" "LSheetFolder$Word;" wNm wFs G.2.2 A s s.heap) (hT : Tx G A s s.heap) : Sx G A s s.heap ∧ Ex A s s.heap ∧ Nc s := by
  refine ⟨⟨?_, ?_, ?_, ?_, hE⟩, ⟨?_, ?_, ?_⟩, ?_, ?_, ?_⟩
  · exact vx_Zqof (h0 _ (wa_t tbl_4 186 rfl)) (h0 _ (wa_t tbl_1 12 rfl)) (hn _ (nwO_in _ (List.mem_of_getElem? (i := 0) rfl))) hA
  · exact vx_Zqof (h0 _ (wa_t tbl_4 188 rfl)) (h0 _ (wa_t tbl_1 12 rfl)) (hn _ (nwO_in _ (List.mem_of_getElem? (i := 1) rfl))) hA
  · intro q hq
    obtain ⟨h1, h2⟩ := sr_in q hq
    obtain ⟨a, _, _, _, h3, -⟩ := Cond.exactly_spec (hn _ (nwS_in _ h2))
    exact ⟨a, vk_R.of (h0 _ h1) h3⟩
  · refine ⟨fun w hw => va_Nw.of (sxW_on w hw) (h0 _ (sxW_in w hw)), hT⟩
  · exact va_AO.of (h0 _ (wa_t tbl_1 181 rfl))
  · exact List.forall_mem_cons.mpr ⟨va_Nw.of rfl (h0 _ (wa_t tbl_1 39 rfl)), List.forall_mem_cons.mpr ⟨va_Nw.of rfl (h0 _ (wa_t tbl_1 196 rfl)), List.forall_mem_cons.mpr ⟨va_Nw.of rfl (h0 _ (wa_t tbl_1 237 rfl)), fun _ h => absurd h List.not_mem_nil⟩⟩⟩
  · exact va_Zof (h0 _ (wa_t tbl_2 60 rfl)) (h0 _ (wa_t tbl_1 9 rfl)) (va_eqi (hn _ (nwO_in _ (List.mem_of_getElem? (i := 2) rfl)))) hA
  · exact va_Nc.of (hn _ (nwO_in _ (List.mem_of_getElem? (i := 3) rfl)))
  · exact va_Nc.of (hn _ (nwO_in _ (List.mem_of_getElem? (i := 4) rfl)))
  · exact va_Nc.of (hn _ (nwO_in _ (List.mem_of_getElem? (i := 5) rfl)))
theorem fl_seg (a n : Nat) (f : Nat → Cond) (h : ((flatC (Jvm.Cond.and given_1 narrow_1)).drop a).take n = (List.range n).map f) : ∀ i, i < n → f i ∈ flatC (Jvm.Cond.and given_1 narrow_1) := fun i hi => List.mem_of_mem_drop (List.mem_of_mem_take (by rw [h]; exact List.mem_map.mpr ⟨i, List.mem_range.mpr hi, rfl⟩))
def so (i : Nat) : String := (stOwn.getD i ("", 0)).1
def sk (i : Nat) : Nat := (stOwn.getD i ("", 0)).2
theorem tx_ex : ∀ i, i < 12 → Cond.exactly (.string (so i) (sk i)) "java/lang/String" ∈ flatC (Jvm.Cond.and given_1 narrow_1)
  | 0, _ => (fl_p 212 (q := (1243, (.exactly (.string "SheetFolder$Word" 101) "java/lang/String"))) rfl)
  | 1, _ => (fl_p 167 (q := (1161, (.exactly (.string "SheetFolder$Word" 107) "java/lang/String"))) rfl)
  | 2, _ => (fl_p 172 (q := (1169, (.exactly (.string "SheetFolder$Word" 110) "java/lang/String"))) rfl)
  | 3, _ => (fl_p 177 (q := (1176, (.exactly (.string "SheetFolder$Word" 113) "java/lang/String"))) rfl)
  | 4, _ => (fl_p 182 (q := (1185, (.exactly (.string "SheetFolder$Word" 116) "java/lang/String"))) rfl)
  | 5, _ => (fl_p 192 (q := (1204, (.exactly (.string "SheetFolder$Word" 119) "java/lang/String"))) rfl)
  | 6, _ => (fl_p 197 (q := (1213, (.exactly (.string "SheetFolder$Word" 122) "java/lang/String"))) rfl)
  | 7, _ => (fl_p 202 (q := (1223, (.exactly (.string "SheetFolder$Word" 125) "java/lang/String"))) rfl)
  | 8, _ => (fl_p 187 (q := (1194, (.exactly (.string "SheetFolder$Word" 128) "java/lang/String"))) rfl)
  | 9, _ => (fl_p 207 (q := (1232, (.exactly (.string "SheetFolder$Word" 131) "java/lang/String"))) rfl)
  | 10, _ => (fl_p 217 (q := (1253, (.exactly (.string "SheetFolder$Word" 134) "java/lang/String"))) rfl)
  | 11, _ => (fl_p 145 (q := (508, (.exactly (.string "SheetFolder" 352) "java/lang/String"))) rfl)
  | n + 12, h => absurd h (by omega)
theorem tx_co : ∀ i, i < 12 → Cond.eq (.field (.string (so i) (sk i)) "java/lang/String" "coder" "B") (.int 0) ∈ flatC (Jvm.Cond.and given_1 narrow_1)
  | 0, _ => (fl_p 213 (q := (1244, (.eq (.field (.string "SheetFolder$Word" 101) "java/lang/String" "coder" "B") (.int 0)))) rfl)
  | 1, _ => (fl_p 168 (q := (1162, (.eq (.field (.string "SheetFolder$Word" 107) "java/lang/String" "coder" "B") (.int 0)))) rfl)
  | 2, _ => (fl_p 173 (q := (1170, (.eq (.field (.string "SheetFolder$Word" 110) "java/lang/String" "coder" "B") (.int 0)))) rfl)
  | 3, _ => (fl_p 178 (q := (1177, (.eq (.field (.string "SheetFolder$Word" 113) "java/lang/String" "coder" "B") (.int 0)))) rfl)
  | 4, _ => (fl_p 183 (q := (1186, (.eq (.field (.string "SheetFolder$Word" 116) "java/lang/String" "coder" "B") (.int 0)))) rfl)
  | 5, _ => (fl_p 193 (q := (1205, (.eq (.field (.string "SheetFolder$Word" 119) "java/lang/String" "coder" "B") (.int 0)))) rfl)
  | 6, _ => (fl_p 198 (q := (1214, (.eq (.field (.string "SheetFolder$Word" 122) "java/lang/String" "coder" "B") (.int 0)))) rfl)
  | 7, _ => (fl_p 203 (q := (1224, (.eq (.field (.string "SheetFolder$Word" 125) "java/lang/String" "coder" "B") (.int 0)))) rfl)
  | 8, _ => (fl_p 188 (q := (1195, (.eq (.field (.string "SheetFolder$Word" 128) "java/lang/String" "coder" "B") (.int 0)))) rfl)
  | 9, _ => (fl_p 208 (q := (1233, (.eq (.field (.string "SheetFolder$Word" 131) "java/lang/String" "coder" "B") (.int 0)))) rfl)
  | 10, _ => (fl_p 218 (q := (1254, (.eq (.field (.string "SheetFolder$Word" 134) "java/lang/String" "coder" "B") (.int 0)))) rfl)
  | 11, _ => (fl_p 146 (q := (509, (.eq (.field (.string "SheetFolder" 352) "java/lang/String" "coder" "B") (.int 0)))) rfl)
  | n + 12, h => absurd h (by omega)
theorem tx_ar : ∀ i, i < 12 → Cond.arrayOf (.field (.string (so i) (sk i)) "java/lang/String" "value" "[B") .byte ∈ flatC (Jvm.Cond.and given_1 narrow_1)
  | 0, _ => (fl_p 214 (q := (1245, (.arrayOf (.field (.string "SheetFolder$Word" 101) "java/lang/String" "value" "[B") .byte))) rfl)
  | 1, _ => (fl_p 169 (q := (1163, (.arrayOf (.field (.string "SheetFolder$Word" 107) "java/lang/String" "value" "[B") .byte))) rfl)
  | 2, _ => (fl_p 174 (q := (1171, (.arrayOf (.field (.string "SheetFolder$Word" 110) "java/lang/String" "value" "[B") .byte))) rfl)
  | 3, _ => (fl_p 179 (q := (1178, (.arrayOf (.field (.string "SheetFolder$Word" 113) "java/lang/String" "value" "[B") .byte))) rfl)
  | 4, _ => (fl_p 184 (q := (1187, (.arrayOf (.field (.string "SheetFolder$Word" 116) "java/lang/String" "value" "[B") .byte))) rfl)
  | 5, _ => (fl_p 194 (q := (1206, (.arrayOf (.field (.string "SheetFolder$Word" 119) "java/lang/String" "value" "[B") .byte))) rfl)
  | 6, _ => (fl_p 199 (q := (1215, (.arrayOf (.field (.string "SheetFolder$Word" 122) "java/lang/String" "value" "[B") .byte))) rfl)
  | 7, _ => (fl_p 204 (q := (1225, (.arrayOf (.field (.string "SheetFolder$Word" 125) "java/lang/String" "value" "[B") .byte))) rfl)
  | 8, _ => (fl_p 189 (q := (1196, (.arrayOf (.field (.string "SheetFolder$Word" 128) "java/lang/String" "value" "[B") .byte))) rfl)
  | 9, _ => (fl_p 209 (q := (1234, (.arrayOf (.field (.string "SheetFolder$Word" 131) "java/lang/String" "value" "[B") .byte))) rfl)
  | 10, _ => (fl_p 219 (q := (1255, (.arrayOf (.field (.string "SheetFolder$Word" 134) "java/lang/String" "value" "[B") .byte))) rfl)
  | 11, _ => (fl_p 147 (q := (510, (.arrayOf (.field (.string "SheetFolder" 352) "java/lang/String" "value" "[B") .byte))) rfl)
  | n + 12, h => absurd h (by omega)
theorem tx_le : ∀ i, i < 12 → Cond.eq (.length (.field (.string (so i) (sk i)) "java/lang/String" "value" "[B")) (.int (Int32.ofNat (stLen i))) ∈ flatC (Jvm.Cond.and given_1 narrow_1)
  | 0, _ => (fl_p 215 (q := (1246, (.eq (.length (.field (.string "SheetFolder$Word" 101) "java/lang/String" "value" "[B")) (.int 5)))) rfl)
  | 1, _ => (fl_p 170 (q := (1164, (.eq (.length (.field (.string "SheetFolder$Word" 107) "java/lang/String" "value" "[B")) (.int 3)))) rfl)
  | 2, _ => (fl_p 175 (q := (1172, (.eq (.length (.field (.string "SheetFolder$Word" 110) "java/lang/String" "value" "[B")) (.int 2)))) rfl)
  | 3, _ => (fl_p 180 (q := (1179, (.eq (.length (.field (.string "SheetFolder$Word" 113) "java/lang/String" "value" "[B")) (.int 4)))) rfl)
  | 4, _ => (fl_p 185 (q := (1188, (.eq (.length (.field (.string "SheetFolder$Word" 116) "java/lang/String" "value" "[B")) (.int 4)))) rfl)
  | 5, _ => (fl_p 195 (q := (1207, (.eq (.length (.field (.string "SheetFolder$Word" 119) "java/lang/String" "value" "[B")) (.int 4)))) rfl)
  | 6, _ => (fl_p 200 (q := (1216, (.eq (.length (.field (.string "SheetFolder$Word" 122) "java/lang/String" "value" "[B")) (.int 5)))) rfl)
  | 7, _ => (fl_p 205 (q := (1226, (.eq (.length (.field (.string "SheetFolder$Word" 125) "java/lang/String" "value" "[B")) (.int 4)))) rfl)
  | 8, _ => (fl_p 190 (q := (1197, (.eq (.length (.field (.string "SheetFolder$Word" 128) "java/lang/String" "value" "[B")) (.int 5)))) rfl)
  | 9, _ => (fl_p 210 (q := (1235, (.eq (.length (.field (.string "SheetFolder$Word" 131) "java/lang/String" "value" "[B")) (.int 6)))) rfl)
  | 10, _ => (fl_p 220 (q := (1256, (.eq (.length (.field (.string "SheetFolder$Word" 134) "java/lang/String" "value" "[B")) (.int 4)))) rfl)
  | 11, _ => (fl_p 148 (q := (511, (.eq (.length (.field (.string "SheetFolder" 352) "java/lang/String" "value" "[B")) (.int 6)))) rfl)
  | n + 12, h => absurd h (by omega)
theorem tx_el : ∀ i, i < 12 → ∀ j, j < stLen i → Cond.eq (.elem (.field (.string (so i) (sk i)) "java/lang/String" "value" "[B") (.int (Int32.ofNat j))) (.int ((stB i).getD j 0)) ∈ flatC (Jvm.Cond.and given_1 narrow_1)
  | 0, _ => fl_seg 1247 5 (fun j => Cond.eq (.elem (.field (.string (so 0) (sk 0)) "java/lang/String" "value" "[B") (.int (Int32.ofNat j))) (.int ((stB 0).getD j 0))) (by decide +kernel)
  | 1, _ => fl_seg 1165 3 (fun j => Cond.eq (.elem (.field (.string (so 1) (sk 1)) "java/lang/String" "value" "[B") (.int (Int32.ofNat j))) (.int ((stB 1).getD j 0))) (by decide +kernel)
  | 2, _ => fl_seg 1173 2 (fun j => Cond.eq (.elem (.field (.string (so 2) (sk 2)) "java/lang/String" "value" "[B") (.int (Int32.ofNat j))) (.int ((stB 2).getD j 0))) (by decide +kernel)
  | 3, _ => fl_seg 1180 4 (fun j => Cond.eq (.elem (.field (.string (so 3) (sk 3)) "java/lang/String" "value" "[B") (.int (Int32.ofNat j))) (.int ((stB 3).getD j 0))) (by decide +kernel)
  | 4, _ => fl_seg 1189 4 (fun j => Cond.eq (.elem (.field (.string (so 4) (sk 4)) "java/lang/String" "value" "[B") (.int (Int32.ofNat j))) (.int ((stB 4).getD j 0))) (by decide +kernel)
  | 5, _ => fl_seg 1208 4 (fun j => Cond.eq (.elem (.field (.string (so 5) (sk 5)) "java/lang/String" "value" "[B") (.int (Int32.ofNat j))) (.int ((stB 5).getD j 0))) (by decide +kernel)
  | 6, _ => fl_seg 1217 5 (fun j => Cond.eq (.elem (.field (.string (so 6) (sk 6)) "java/lang/String" "value" "[B") (.int (Int32.ofNat j))) (.int ((stB 6).getD j 0))) (by decide +kernel)
  | 7, _ => fl_seg 1227 4 (fun j => Cond.eq (.elem (.field (.string (so 7) (sk 7)) "java/lang/String" "value" "[B") (.int (Int32.ofNat j))) (.int ((stB 7).getD j 0))) (by decide +kernel)
  | 8, _ => fl_seg 1198 5 (fun j => Cond.eq (.elem (.field (.string (so 8) (sk 8)) "java/lang/String" "value" "[B") (.int (Int32.ofNat j))) (.int ((stB 8).getD j 0))) (by decide +kernel)
  | 9, _ => fl_seg 1236 6 (fun j => Cond.eq (.elem (.field (.string (so 9) (sk 9)) "java/lang/String" "value" "[B") (.int (Int32.ofNat j))) (.int ((stB 9).getD j 0))) (by decide +kernel)
  | 10, _ => fl_seg 1257 4 (fun j => Cond.eq (.elem (.field (.string (so 10) (sk 10)) "java/lang/String" "value" "[B") (.int (Int32.ofNat j))) (.int ((stB 10).getD j 0))) (by decide +kernel)
  | 11, _ => fl_seg 512 6 (fun j => Cond.eq (.elem (.field (.string (so 11) (sk 11)) "java/lang/String" "value" "[B") (.int (Int32.ofNat j))) (.int ((stB 11).getD j 0))) (by decide +kernel)
  | n + 12, h => absurd h (by omega)
theorem tx_al : ∀ q ∈ sxStr, (q.1 = so q.2.2.2 ∧ q.2.1 = sk q.2.2.2) ∨ Cond.eq (.string q.1 q.2.1) (.string (so q.2.2.2) (sk q.2.2.2)) ∈ flatC (Jvm.Cond.and given_1 narrow_1) ∨ Cond.eq (.string (so q.2.2.2) (sk q.2.2.2)) (.string q.1 q.2.1) ∈ flatC (Jvm.Cond.and given_1 narrow_1) := List.forall_mem_cons.mpr ⟨(Or.inl ⟨rfl, rfl⟩), List.forall_mem_cons.mpr ⟨(Or.inr (Or.inl ((fl_p 196 (q := (1212, (.eq (.string "SheetFolderModel" 144) (.string "SheetFolder$Word" 119)))) rfl)))), List.forall_mem_cons.mpr ⟨(Or.inr (Or.inl ((fl_p 201 (q := (1222, (.eq (.string "SheetFolderModel" 150) (.string "SheetFolder$Word" 122)))) rfl)))), List.forall_mem_cons.mpr ⟨(Or.inr (Or.inl ((fl_p 206 (q := (1231, (.eq (.string "SheetFolderModel" 152) (.string "SheetFolder$Word" 125)))) rfl)))), List.forall_mem_cons.mpr ⟨(Or.inr (Or.inl ((fl_p 191 (q := (1203, (.eq (.string "SheetFolderModel" 154) (.string "SheetFolder$Word" 128)))) rfl)))), List.forall_mem_cons.mpr ⟨(Or.inr (Or.inl ((fl_p 211 (q := (1242, (.eq (.string "SheetFolderModel" 156) (.string "SheetFolder$Word" 131)))) rfl)))), List.forall_mem_cons.mpr ⟨(Or.inr (Or.inl ((fl_p 216 (q := (1252, (.eq (.string "SheetFolderModel" 158) (.string "SheetFolder$Word" 101)))) rfl)))), List.forall_mem_cons.mpr ⟨(Or.inr (Or.inl ((fl_p 171 (q := (1168, (.eq (.string "SheetFolderModel" 163) (.string "SheetFolder$Word" 107)))) rfl)))), List.forall_mem_cons.mpr ⟨(Or.inr (Or.inl ((fl_p 176 (q := (1175, (.eq (.string "SheetFolderModel" 168) (.string "SheetFolder$Word" 110)))) rfl)))), List.forall_mem_cons.mpr ⟨(Or.inr (Or.inl ((fl_p 181 (q := (1184, (.eq (.string "SheetFolderModel" 170) (.string "SheetFolder$Word" 113)))) rfl)))), List.forall_mem_cons.mpr ⟨(Or.inr (Or.inl ((fl_p 186 (q := (1193, (.eq (.string "SheetFolderModel" 176) (.string "SheetFolder$Word" 116)))) rfl)))), List.forall_mem_cons.mpr ⟨(Or.inr (Or.inl ((fl_p 221 (q := (1261, (.eq (.string "SheetFolderModel" 181) (.string "SheetFolder$Word" 134)))) rfl)))), List.forall_mem_cons.mpr ⟨(Or.inr (Or.inr ((fl_p 166 (q := (1160, (.eq (.string "SheetFolder" 352) (.string "SheetFolderModel" 441)))) rfl)))), fun _ h => absurd h List.not_mem_nil⟩⟩⟩⟩⟩⟩⟩⟩⟩⟩⟩⟩⟩
theorem tx_sr : ∀ q ∈ sxStr, Cond.stringRef q.1 q.2.1 q.2.2.1 ∈ lw_tbl := List.forall_mem_cons.mpr ⟨(wa_t tbl_5 95 rfl), List.forall_mem_cons.mpr ⟨(wa_t tbl_8 15 rfl), List.forall_mem_cons.mpr ⟨(wa_t tbl_8 16 rfl), List.forall_mem_cons.mpr ⟨(wa_t tbl_8 17 rfl), List.forall_mem_cons.mpr ⟨(wa_t tbl_8 18 rfl), List.forall_mem_cons.mpr ⟨(wa_t tbl_8 19 rfl), List.forall_mem_cons.mpr ⟨(wa_t tbl_7 211 rfl), List.forall_mem_cons.mpr ⟨(wa_t tbl_7 230 rfl), List.forall_mem_cons.mpr ⟨(wa_t tbl_7 235 rfl), List.forall_mem_cons.mpr ⟨(wa_t tbl_7 236 rfl), List.forall_mem_cons.mpr ⟨(wa_t tbl_8 1 rfl), List.forall_mem_cons.mpr ⟨(wa_t tbl_8 6 rfl), List.forall_mem_cons.mpr ⟨(wa_t tbl_10 15 rfl), fun _ h => absurd h List.not_mem_nil⟩⟩⟩⟩⟩⟩⟩⟩⟩⟩⟩⟩⟩
theorem tx_i : ∀ q ∈ sxStr, q.2.2.2 < 12 := by decide +kernel
theorem tx_tx : ∀ i, i < 11 → Cond.eq (.field (.static "SheetFolder$Word" (wNm.getD i "") "LSheetFolder$Word;") "SheetFolder$Word" "text" "Ljava/lang/String;") (.string (so i) (sk i)) ∈ flatC (Jvm.Cond.and given_1 narrow_1)
  | 0, _ => (fl_p 112 (q := (334, (.eq (.field (.static "SheetFolder$Word" "SHEET" "LSheetFolder$Word;") "SheetFolder$Word" "text" "Ljava/lang/String;") (.string "SheetFolder$Word" 101)))) rfl)
  | 1, _ => (fl_p 22 (q := (235, (.eq (.field (.static "SheetFolder$Word" "LEG" "LSheetFolder$Word;") "SheetFolder$Word" "text" "Ljava/lang/String;") (.string "SheetFolder$Word" 107)))) rfl)
  | 2, _ => (fl_p 28 (q := (242, (.eq (.field (.static "SheetFolder$Word" "UP" "LSheetFolder$Word;") "SheetFolder$Word" "text" "Ljava/lang/String;") (.string "SheetFolder$Word" 110)))) rfl)
  | 3, _ => (fl_p 35 (q := (250, (.eq (.field (.static "SheetFolder$Word" "DOWN" "LSheetFolder$Word;") "SheetFolder$Word" "text" "Ljava/lang/String;") (.string "SheetFolder$Word" 113)))) rfl)
  | 4, _ => (fl_p 43 (q := (259, (.eq (.field (.static "SheetFolder$Word" "BACK" "LSheetFolder$Word;") "SheetFolder$Word" "text" "Ljava/lang/String;") (.string "SheetFolder$Word" 116)))) rfl)
  | 5, _ => (fl_p 62 (q := (280, (.eq (.field (.static "SheetFolder$Word" "BEAM" "LSheetFolder$Word;") "SheetFolder$Word" "text" "Ljava/lang/String;") (.string "SheetFolder$Word" 119)))) rfl)
  | 6, _ => (fl_p 73 (q := (292, (.eq (.field (.static "SheetFolder$Word" "TABLE" "LSheetFolder$Word;") "SheetFolder$Word" "text" "Ljava/lang/String;") (.string "SheetFolder$Word" 122)))) rfl)
  | 7, _ => (fl_p 85 (q := (305, (.eq (.field (.static "SheetFolder$Word" "WING" "LSheetFolder$Word;") "SheetFolder$Word" "text" "Ljava/lang/String;") (.string "SheetFolder$Word" 125)))) rfl)
  | 8, _ => (fl_p 52 (q := (269, (.eq (.field (.static "SheetFolder$Word" "GAUGE" "LSheetFolder$Word;") "SheetFolder$Word" "text" "Ljava/lang/String;") (.string "SheetFolder$Word" 128)))) rfl)
  | 9, _ => (fl_p 98 (q := (319, (.eq (.field (.static "SheetFolder$Word" "FLANGE" "LSheetFolder$Word;") "SheetFolder$Word" "text" "Ljava/lang/String;") (.string "SheetFolder$Word" 131)))) rfl)
  | 10, _ => (fl_p 127 (q := (350, (.eq (.field (.static "SheetFolder$Word" "COST" "LSheetFolder$Word;") "SheetFolder$Word" "text" "Ljava/lang/String;") (.string "SheetFolder$Word" 134)))) rfl)
  | n + 11, h => absurd h (by omega)
theorem tx_all : Cond.arrayOf (.static "SheetFolder$Word" "ALL" "[LSheetFolder$Word;") (.object "SheetFolder$Word") ∈ flatC (Jvm.Cond.and given_1 narrow_1) ∧ Cond.eq (.length (.static "SheetFolder$Word" "ALL" "[LSheetFolder$Word;")) (.int 11) ∈ flatC (Jvm.Cond.and given_1 narrow_1) := ⟨(fl_p 8 (q := (219, (.arrayOf (.static "SheetFolder$Word" "ALL" "[LSheetFolder$Word;") (.object "SheetFolder$Word")))) rfl), (fl_p 9 (q := (220, (.eq (.length (.static "SheetFolder$Word" "ALL" "[LSheetFolder$Word;")) (.int 11)))) rfl)⟩
theorem tx_alle : ∀ i, i < 11 → Cond.eq (.elem (.static "SheetFolder$Word" "ALL" "[LSheetFolder$Word;") (.int (Int32.ofNat i))) (.static "SheetFolder$Word" (wNm.getD i "") "LSheetFolder$Word;") ∈ flatC (Jvm.Cond.and given_1 narrow_1)
  | 0, _ => (fl_p 10 (q := (222, (.eq (.elem (.static "SheetFolder$Word" "ALL" "[LSheetFolder$Word;") (.int 0)) (.static "SheetFolder$Word" "SHEET" "LSheetFolder$Word;")))) rfl)
  | 1, _ => (fl_p 11 (q := (223, (.eq (.elem (.static "SheetFolder$Word" "ALL" "[LSheetFolder$Word;") (.int 1)) (.static "SheetFolder$Word" "LEG" "LSheetFolder$Word;")))) rfl)
  | 2, _ => (fl_p 12 (q := (224, (.eq (.elem (.static "SheetFolder$Word" "ALL" "[LSheetFolder$Word;") (.int 2)) (.static "SheetFolder$Word" "UP" "LSheetFolder$Word;")))) rfl)
  | 3, _ => (fl_p 13 (q := (225, (.eq (.elem (.static "SheetFolder$Word" "ALL" "[LSheetFolder$Word;") (.int 3)) (.static "SheetFolder$Word" "DOWN" "LSheetFolder$Word;")))) rfl)
  | 4, _ => (fl_p 14 (q := (226, (.eq (.elem (.static "SheetFolder$Word" "ALL" "[LSheetFolder$Word;") (.int 4)) (.static "SheetFolder$Word" "BACK" "LSheetFolder$Word;")))) rfl)
  | 5, _ => (fl_p 15 (q := (227, (.eq (.elem (.static "SheetFolder$Word" "ALL" "[LSheetFolder$Word;") (.int 5)) (.static "SheetFolder$Word" "BEAM" "LSheetFolder$Word;")))) rfl)
  | 6, _ => (fl_p 16 (q := (228, (.eq (.elem (.static "SheetFolder$Word" "ALL" "[LSheetFolder$Word;") (.int 6)) (.static "SheetFolder$Word" "TABLE" "LSheetFolder$Word;")))) rfl)
  | 7, _ => (fl_p 17 (q := (229, (.eq (.elem (.static "SheetFolder$Word" "ALL" "[LSheetFolder$Word;") (.int 7)) (.static "SheetFolder$Word" "WING" "LSheetFolder$Word;")))) rfl)
  | 8, _ => (fl_p 18 (q := (230, (.eq (.elem (.static "SheetFolder$Word" "ALL" "[LSheetFolder$Word;") (.int 8)) (.static "SheetFolder$Word" "GAUGE" "LSheetFolder$Word;")))) rfl)
  | 9, _ => (fl_p 19 (q := (231, (.eq (.elem (.static "SheetFolder$Word" "ALL" "[LSheetFolder$Word;") (.int 9)) (.static "SheetFolder$Word" "FLANGE" "LSheetFolder$Word;")))) rfl)
  | 10, _ => (fl_p 20 (q := (232, (.eq (.elem (.static "SheetFolder$Word" "ALL" "[LSheetFolder$Word;") (.int 10)) (.static "SheetFolder$Word" "COST" "LSheetFolder$Word;")))) rfl)
  | n + 11, h => absurd h (by omega)
theorem tx_dOnes : Cond.arrayOf (.static "java/lang/Integer" "DigitOnes" "[B") .byte ∈ flatC (Jvm.Cond.and given_1 narrow_1) ∧ Cond.eq (.length (.static "java/lang/Integer" "DigitOnes" "[B")) (.int 100) ∈ flatC (Jvm.Cond.and given_1 narrow_1) ∧ ∀ i, i < 100 → Cond.eq (.elem (.static "java/lang/Integer" "DigitOnes" "[B") (.int (Int32.ofNat i))) (.int (dgOnes.getD i 0)) ∈ flatC (Jvm.Cond.and given_1 narrow_1) := ⟨(fl_p 2 (q := (10, (.arrayOf (.static "java/lang/Integer" "DigitOnes" "[B") .byte))) rfl), (fl_p 3 (q := (11, (.eq (.length (.static "java/lang/Integer" "DigitOnes" "[B")) (.int 100)))) rfl), fl_seg 12 100 (fun i => Cond.eq (.elem (.static "java/lang/Integer" "DigitOnes" "[B") (.int (Int32.ofNat i))) (.int (dgOnes.getD i 0))) (by decide +kernel)⟩
theorem tx_dTens : Cond.arrayOf (.static "java/lang/Integer" "DigitTens" "[B") .byte ∈ flatC (Jvm.Cond.and given_1 narrow_1) ∧ Cond.eq (.length (.static "java/lang/Integer" "DigitTens" "[B")) (.int 100) ∈ flatC (Jvm.Cond.and given_1 narrow_1) ∧ ∀ i, i < 100 → Cond.eq (.elem (.static "java/lang/Integer" "DigitTens" "[B") (.int (Int32.ofNat i))) (.int (dgTens.getD i 0)) ∈ flatC (Jvm.Cond.and given_1 narrow_1) := ⟨(fl_p 4 (q := (113, (.arrayOf (.static "java/lang/Integer" "DigitTens" "[B") .byte))) rfl), (fl_p 5 (q := (114, (.eq (.length (.static "java/lang/Integer" "DigitTens" "[B")) (.int 100)))) rfl), fl_seg 115 100 (fun i => Cond.eq (.elem (.static "java/lang/Integer" "DigitTens" "[B") (.int (Int32.ofNat i))) (.int (dgTens.getD i 0))) (by decide +kernel)⟩
theorem tx_fm : Cond.isRef (.static "jdk/internal/util/Preconditions" "SIOOBE_FORMATTER" "Ljava/util/function/BiFunction;") ∈ flatC (Jvm.Cond.and given_1 narrow_1) := (fl_p 1 (q := (5, (.isRef (.static "jdk/internal/util/Preconditions" "SIOOBE_FORMATTER" "Ljava/util/function/BiFunction;")))) rfl)
theorem va_eqw {args : Array Value} {s : State} {t u : Term} {v : Value} (h : (Cond.eq t u).before args s = true) (ht : t.eval args s none [] s = some v) : u.eval args s none [] s = some v := by
  cases hu : u.eval args s none [] s with
  | none => simp [Cond.before, Cond.holds, Cond.value, ht, hu] at h
  | some w =>
    simp only [Cond.before, Cond.holds, Cond.value, ht, hu] at h
    cases w <;> cases v <;> simp_all
def mkG (adW : Nat → Nat) (t0 t1 t2 : Nat) (adK adV : Nat → Nat) : Nat → Nat := fun a => if a < 50 then adW a else if a = 50 then t0 else if a = 51 then t1 else if a = 52 then t2 else if a < 200 then adK (a - 100) else adV (a - 200)
section MKG
variable {adW adK adV : Nat → Nat} {t0 t1 t2 i : Nat}
theorem mkG_W (h : i < 11) : mkG adW t0 t1 t2 adK adV i = adW i := if_pos (by omega)
theorem mkG_0 : mkG adW t0 t1 t2 adK adV 50 = t0 := rfl
theorem mkG_1 : mkG adW t0 t1 t2 adK adV 51 = t1 := rfl
theorem mkG_2 : mkG adW t0 t1 t2 adK adV 52 = t2 := rfl
theorem mkG_K (h : i < 12) : mkG adW t0 t1 t2 adK adV (100 + i) = adK i := by
  unfold mkG; rw [if_neg (by omega), if_neg (by omega), if_neg (by omega), if_neg (by omega), if_pos (by omega)]; exact congrArg adK (by omega)
theorem mkG_V (h : i < 12) : mkG adW t0 t1 t2 adK adV (200 + i) = adV i := by
  unfold mkG; rw [if_neg (by omega), if_neg (by omega), if_neg (by omega), if_neg (by omega), if_neg (by omega)]; exact congrArg adV (by omega)
end MKG
theorem st_one {args : Array Value} {s : State} {A : Nat → Prop} (hA : ∀ a : Nat, a < s.heap.size → ¬ A a) (hn : ∀ w ∈ flatC (Jvm.Cond.and given_1 narrow_1), w.before args s = true) (i : Nat) (hi : i < 12) : ∃ aK aV : Nat, (va_O "java/lang/String" aK A s s.heap ∧ va_OF "java/lang/String" "coder" "B" (.int 0) aK A s s.heap ∧ va_OF "java/lang/String" "value" "[B" (.ref aV) aK A s s.heap ∧ va_T .byte aV (stLen i) (fun j => .int ((stB i).getD j 0)) A s s.heap) ∧ (Term.string (so i) (sk i)).eval args s none [] s = some (.ref aK) := by
  have h8 : stLen i < 2 ^ 31 := by have := (st_len i hi).2.2; omega
  have z : ∀ j, j < 1 → j = 0 := fun j hj => by omega
  obtain ⟨adK, adV, h, he⟩ := vk_Sof (args := args) (s := s) (N := 1) (tm := fun _ => .string (so i) (sk i)) (len := [stLen i]) (byt := [stB i]) (A := A) (fun j hj => by rw [z j hj]; exact h8)
    (fun _ _ => hn _ (tx_ex i hi)) (fun _ _ => hn _ (tx_co i hi)) (fun _ _ => hn _ (tx_ar i hi)) (fun j hj => by rw [z j hj]; exact hn _ (tx_le i hi)) (fun j hj k hk => by rw [z j hj] at hk ⊢; exact hn _ (tx_el i hi k hk)) (fun j k hj hk hne => absurd ((z j hj).trans (z k hk).symm) hne) hA
  exact ⟨adK 0, adV 0, h.1 0 (by omega), he 0 (by omega)⟩
theorem tx_mk {args : Array Value} {s : State} {A : Nat → Prop} (hA : ∀ a : Nat, a < s.heap.size → ¬ A a) (h0 : ∀ w ∈ lw_tbl, w.before args s = true) (hn : ∀ w ∈ flatC (Jvm.Cond.and given_1 narrow_1), w.before args s = true) {D : va_G} {cA : Nat → ClassId} {g : Nat → Nat} {adW : Nat → Nat} {t0 t1 t2 : Nat} {ks : Nat → Nat × Nat}
    (gW : ∀ i, i < 11 → g i = adW i) (g0 : g 50 = t0) (g1 : g 51 = t1) (g2 : g 52 = t2) (gK : ∀ i, i < 12 → g (100 + i) = (ks i).1) (gV : ∀ i, i < 12 → g (200 + i) = (ks i).2)
    (hW : ∀ i, i < 11 → (Term.static "SheetFolder$Word" (wNm.getD i "") "LSheetFolder$Word;").eval args s none [] s = some (.ref (adW i)))
    (hk : ∀ i : Nat, i < 12 → (va_O "java/lang/String" (ks i).1 A s s.heap ∧ va_OF "java/lang/String" "coder" "B" (.int 0) (ks i).1 A s s.heap ∧ va_OF "java/lang/String" "value" "[B" (.ref (ks i).2) (ks i).1 A s s.heap ∧ va_T .byte (ks i).2 (stLen i) (fun j => .int ((stB i).getD j 0)) A s s.heap) ∧ (Term.string (so i) (sk i)).eval args s none [] s = some (.ref (ks i).1))
    (e0 : (Term.static "SheetFolder$Word" "ALL" "[LSheetFolder$Word;").eval args s none [] s = some (.ref t0)) (hT0 : va_T (.object "SheetFolder$Word") t0 11 (fun i => .ref (adW i)) A s s.heap) (e1 : (Term.static "java/lang/Integer" "DigitOnes" "[B").eval args s none [] s = some (.ref t1)) (hT1 : va_T .byte t1 100 (fun j => .int (dgOnes.getD j 0)) A s s.heap) (e2 : (Term.static "java/lang/Integer" "DigitTens" "[B").eval args s none [] s = some (.ref t2)) (hT2 : va_T .byte t2 100 (fun j => .int (dgTens.getD j 0)) A s s.heap) : Tx (D, cA, g) A s s.heap := by
  refine ⟨fun i hi => ?_, fun q hq => ?_, fun i hi => ?_, ⟨?_, ?_⟩, ?_, ?_, ⟨?_, ?_⟩, ⟨?_, ?_⟩⟩
  · show va_O "java/lang/String" (g (100 + i)) _ _ _ ∧ va_OF "java/lang/String" "coder" "B" (.int 0) (g (100 + i)) _ _ _ ∧ va_OF "java/lang/String" "value" "[B" (.ref (g (200 + i))) (g (100 + i)) _ _ _ ∧ va_T .byte (g (200 + i)) _ _ _ _ _
    rw [gK i hi, gV i hi]; exact (hk i hi).1
  · have hi := tx_i q hq
    show vk_R _ _ _ (g (100 + q.2.2.2)) _
    rw [gK _ hi]
    refine vk_R.of (h0 _ (tx_sr q hq)) ?_
    rcases tx_al q hq with ⟨z1, z2⟩ | z | z
    · rw [z1, z2]; exact (hk _ hi).2
    · exact va_eqv (hn _ z) (hk _ hi).2
    · exact va_eqw (hn _ z) (hk _ hi).2
  · show va_OF _ _ _ (.ref (g (100 + i))) (g i) _ _ _
    rw [gK i (by omega), gW i hi]
    exact vk_OFof (hW i hi) (va_eqv (hn _ (tx_tx i hi)) (hk i (by omega)).2) hA
  · show va_Z _ _ _ (.ref (g 50)) _ _ _
    rw [g0]; exact va_Zof (h0 _ (wa_t tbl_5 143 rfl)) (h0 _ (wa_t tbl_1 17 rfl)) e0 hA
  · show va_T _ (g 50) 11 (fun i => .ref (g i)) _ _ _
    rw [g0]
    obtain ⟨cell, z1, z2, z3, z4, z5, z6, z7⟩ := hT0
    exact ⟨cell, z1, z2, z3, z4, z5, fun j hj => by show cell.slots[j]? = some (Value.ref (g j)); rw [gW j hj]; exact z6 j hj, z7⟩
  · exact va_Zof (h0 _ (wa_t tbl_2 60 rfl)) (h0 _ (wa_t tbl_1 9 rfl)) (va_eqi (hn _ (nwO_in _ (List.mem_of_getElem? (i := 2) rfl)))) hA
  · rcases va_Zqof (h0 _ (wa_t tbl_4 42 rfl)) (h0 _ (wa_t tbl_1 19 rfl)) (hn _ tx_fm) hA with h | ⟨t, h⟩
    · exact ⟨_, rfl, h⟩
    · exact ⟨_, rfl, h⟩
  · show va_Z _ _ _ (.ref (g 51)) _ _ _
    rw [g1]; exact va_Zof (h0 _ (wa_t tbl_4 112 rfl)) (h0 _ (wa_t tbl_1 23 rfl)) e1 hA
  · show va_T _ (g 51) _ _ _ _ _
    rw [g1]; exact hT1
  · show va_Z _ _ _ (.ref (g 52)) _ _ _
    rw [g2]; exact va_Zof (h0 _ (wa_t tbl_4 114 rfl)) (h0 _ (wa_t tbl_1 23 rfl)) e2 hA
  · show va_T _ (g 52) _ _ _ _ _
    rw [g2]; exact hT2
theorem st_T {args : Array Value} {s : State} (A : Nat → Prop) (hA : ∀ a : Nat, a < s.heap.size → ¬ A a) (h0 : ∀ w ∈ lw_tbl, w.before args s = true) (hn : ∀ w ∈ flatC (Jvm.Cond.and given_1 narrow_1), w.before args s = true) : ∃ g : Nat → Nat, va_En "SheetFolder$Word" "LSheetFolder$Word;" wNm wFs g A s s.heap ∧ ∀ (D : va_G) (cA : Nat → ClassId), Tx (D, cA, g) A s s.heap := by
  obtain ⟨adW, hE, hW⟩ := va_Enof2 (args := args) (nm := wNm) (F := wFs) (fun i hi => h0 _ (en_l i hi)) (h0 _ (wa_t tbl_1 17 rfl)) (fun i hi => hn _ (nwE_in _ (en_x i hi))) (fun q hq i hi => hn _ (nwF_in _ (en_f q hq i hi))) (fun i j hi hj h => (en_d i hi j hj h).elim (fun z => Or.inl (hn _ (nwN_in _ z))) (fun z => Or.inr (hn _ (nwN_in _ z)))) hA
  have hs : ∀ i : Nat, ∃ q : Nat × Nat, i < 12 → (va_O "java/lang/String" q.1 A s s.heap ∧ va_OF "java/lang/String" "coder" "B" (.int 0) q.1 A s s.heap ∧ va_OF "java/lang/String" "value" "[B" (.ref q.2) q.1 A s s.heap ∧ va_T .byte q.2 (stLen i) (fun j => .int ((stB i).getD j 0)) A s s.heap) ∧ (Term.string (so i) (sk i)).eval args s none [] s = some (.ref q.1) := fun i => by
    by_cases hi : i < 12
    · obtain ⟨aK, aV, h⟩ := st_one hA hn i hi
      exact ⟨(aK, aV), fun _ => h⟩
    · exact ⟨(0, 0), fun h => absurd h hi⟩
  obtain ⟨ks, hk⟩ := Classical.axiomOfChoice hs
  obtain ⟨t0, e0, hT0⟩ := va_Tof (ty := .object "SheetFolder$Word") (N := 11) (f := fun i => .ref (adW i)) (A := A) (by decide) (hn _ tx_all.1) (va_eqv (hn _ tx_all.2) rfl) (fun j hj => va_eqv (hn _ (tx_alle j hj)) (hW j hj)) hA
  obtain ⟨t1, e1, hT1⟩ := va_Tof (ty := .byte) (N := 100) (f := fun i => .int (dgOnes.getD i 0)) (A := A) (by decide) (hn _ tx_dOnes.1) (va_eqv (hn _ tx_dOnes.2.1) rfl) (fun j hj => va_eqv (hn _ (tx_dOnes.2.2 j hj)) rfl) hA
  obtain ⟨t2, e2, hT2⟩ := va_Tof (ty := .byte) (N := 100) (f := fun i => .int (dgTens.getD i 0)) (A := A) (by decide) (hn _ tx_dTens.1) (va_eqv (hn _ tx_dTens.2.1) rfl) (fun j hj => va_eqv (hn _ (tx_dTens.2.2 j hj)) rfl) hA
  refine ⟨mkG adW t0 t1 t2 (fun i => (ks i).1) (fun i => (ks i).2), ⟨fun i hi => ?_, fun i j hi hj h => ?_⟩, fun D cA => tx_mk hA h0 hn (g := mkG adW t0 t1 t2 (fun i => (ks i).1) (fun i => (ks i).2)) (fun i hi => mkG_W hi) mkG_0 mkG_1 mkG_2 (fun i hi => mkG_K hi) (fun i hi => mkG_V hi) hW hk e0 hT0 e1 hT1 e2 hT2⟩
  · rw [mkG_W hi]; exact hE.1 i hi
  · rw [mkG_W hi, mkG_W hj] at h; exact hE.2 i j hi hj h
end
/-! part 40z.skel -/
section
/-! THE CLAIM OUT OF ONE WALK OF THE LAW'S BODY. Your part is whole_start (and what it stands on); all else here is the same for every law, but numbers. -/
def R_law : String := "SheetFolderLaw"
def lw_P (b : Addr) (xs : List Int32) (args : Array Value) (s : State) : Prop := args = #[.ref b] ∧ s.IntsAt b xs ∧ xs.length ≤ 3072 ∧ (Jvm.Cond.and given_1 narrow_1).before args s = true
/-- what a walk over the start with the record d0 says of its end, said of the start itself -/
theorem lw_closed {s t : State} {o : Outcome} {d0 : Drawn} {L : List Loc} {k n : Nat} (hd0 : s.drawn.sameBut d0 lw_cs) (hv : ∃ v, o = .returned v) (hW : (s.setDrawn d0).WarmedH t.vm) (hs : (s.setDrawn d0).sameButNew ({ t with vm := s.vm } : State) L k n) : State.butDraws s t lw_cs (fun t1 => Framed s o t1 L k n) := by
  have h2 : t.drawn = d0 := congrArg State.drawn hs.1
  refine ⟨⟨hv, hW, State.sameButNew.setDrawn hs s.drawn⟩, ?_, by decide⟩
  rw [h2]
  exact hd0
def lw_Q (_ : Array Value) (s : State) (o : Outcome) (t : State) : Prop := o = .returned (some (.int 1)) ∧ State.butDraws s t lw_cs (fun t1 => Framed s o t1 [] 601024 7293034)
def lw_Z (below : List Frame) (a : Array Value) (s : State) : State → Prop := fun t => ∃ o, t.status = .running ∧ Ended t below o ∧ lw_Q a s o t
/-- the law's own end, with 1 on the stack, nothing written that was there before, its room as the claim has it; d0: the record of draws at this point (at the entry s.drawn: begin with 'refine W.base ?_' and 'have hd0 := Drawn.sameBut.refl s.drawn lw_cs') -/
theorem lw_ret {p : Program} {l : Launch} {e : Env} {s : State} {m : MethodId} {below : List Frame} {meth : Method} {c : Code} {b : Nat} {d0 : Drawn} (hd0 : s.drawn.sameBut d0 lw_cs) (hx : p.tables.exec = Jvm.exec) (hb : c.code = code) (hr : meth.sig.returnType = ret) (hlocks : meth.locks = false) {pc : Nat} {H : Heap} {ls : Array Slot} (hdg : decode code pc = .ok (.ireturn, 1)) : W p l e room_1 (s.setDrawn d0) m #[Value.ref b] below meth c H [] 601024 7293034 (lw_Z below #[Value.ref b] s) (F0 m pc ls [.int 1]) := by
  intro T hT X
  obtain ⟨fs, hret, hrun, hended, hW, hframe⟩ := X.leave (v := some (.int 1)) (hlocks := hlocks) (fun h => by rw [hr] at h; cases h)
  have hmeth' : T.vm.method? m = some meth := X.method'
  refine ⟨T.setFrames fs, ?_, .returned (some (.int 1)), hrun, hended, rfl, lw_closed hd0 ⟨_, rfl⟩ hW hframe⟩
  jvm_step X.here [X.here.top, hx, hb, hdg, hmeth', hr, ret, narrow_b1]
  (try refine ⟨rfl, ?_⟩); (try refine ⟨rfl, ?_⟩)
  first | (intro acts; rw [hret _ acts rfl rfl rfl]) | rw [hret _ _ rfl rfl rfl]
  exact Steps.refl _
/-- what holds at the law's entry: the machine, the code, the tables' words (any of lw_tbl by 'hts w (by decide +kernel)'), the script of L ints xs at the cell b, what the Statement gives of the start (any of its parts by flat_of_before) -/
def lw_At (p : Program) (s : State) (m : MethodId) (meth : Method) (c : Code) (b L : Nat) (xs : Nat → Int32) : Prop :=
  p.tables.exec = Jvm.exec ∧ c.code = code ∧ meth.sig.returnType = ret ∧ c.maxLocals = 10 ∧ s.vm.findClass R_law = some m.cls ∧ (∀ w ∈ lw_tbl, w.before #[Value.ref b] s = true) ∧ va_X b L xs s s.heap ∧ b < s.heap.size ∧ meth.locks = false ∧ (Jvm.Cond.and given_1 narrow_1).before #[Value.ref b] s = true
end
/-! part 41.entry -/
section
def kfL : List (Nat × Nat) := [(6, 0), (11, 600), (5, 0), (10, 3), (11, 0), (1, 0), (10, 9), (10, 10), (10, 8), (10, 8), (10, 8), (10, 8), (10, 8), (1, 0), (10, 9), (10, 10), (10, 8), (10, 8), (10, 8), (10, 8), (10, 8), (4, 0), (8, 10), (1, 0), (10, 9), (10, 10), (10, 8), (10, 8), (10, 8), (10, 8), (10, 8), (1, 0), (10, 9), (10, 10), (10, 8), (10, 8), (10, 8), (10, 8), (10, 8), (1, 0), (10, 9), (10, 10), (10, 8), (10, 8), (10, 8), (10, 8), (10, 8), (1, 0), (10, 9), (10, 10), (10, 8), (10, 8), (10, 8), (10, 8), (10, 8), (1, 0), (10, 9), (10, 10), (10, 8), (10, 8), (10, 8), (10, 8), (10, 8), (1, 0), (10, 9), (10, 10), (10, 8), (10, 8), (10, 8), (10, 8), (10, 8), (1, 0), (10, 9), (10, 10), (10, 8), (10, 8), (10, 8), (10, 8), (10, 8), (1, 0), (10, 9), (10, 10), (10, 8), (10, 8), (10, 8), (10, 8), (10, 8), (1, 0), (10, 9), (10, 10), (10, 8), (10, 8), (10, 8), (10, 8), (10, 8), (1, 0), (10, 9), (10, 10), (10, 8), (10, 8), (10, 8), (10, 8), (10, 8), (2, 0), (10, 9), (10, 9), (10, 9), (10, 9), (10, 9), (10, 9), (3, 0), (10, 8), (2, 0), (10, 9), (10, 9), (10, 9), (10, 9), (10, 9), (10, 9), (1, 0), (10, 9), (10, 10), (10, 8), (10, 8), (10, 8), (10, 8), (10, 8), (10, 256), (12, 256), (13, 256), (10, 4096), (10, 4096), (10, 4096), (9, 0), (11, 16), (7, 0), (10, 86), (10, 86), (10, 86), (10, 860), (10, 600), (10, 9), (10, 9), (10, 9), (10, 9), (12, 4096), (10, 4096), (13, 256), (10, 4352), (10, 4352), (12, 256), (10, 120), (13, 1), (14, 1)]
def lowB (c k : Nat) : Bool := c == 0 || (c == 1 && decide (k ≤ 146)) || (c == 2 && decide (k ≤ 147)) || (c == 3 && decide (k ≤ 131)) || (c == 4 && decide (k ≤ 152)) || (c == 5 && decide (k ≤ 152)) || c == 6 || (c == 8 && k == 22) || c == 10 || c == 11 || c == 12 || c == 13 || c == 14
theorem lowB_s {c k : Nat} (h : lowB c k = true) : lowAt c k := by
  simp only [lowB, Bool.or_eq_true, Bool.and_eq_true, beq_iff_eq, decide_eq_true_eq] at h
  rcases h with (((((((((((rfl | ⟨rfl, h⟩) | ⟨rfl, h⟩) | ⟨rfl, h⟩) | ⟨rfl, h⟩) | ⟨rfl, h⟩) | rfl) | ⟨rfl, h⟩) | rfl) | rfl) | rfl) | rfl) | rfl
  all_goals first | trivial | exact h
def KF (k : Nat) : Nat × Nat := kfL.getD k (0, 0)
def kd1 (k : Nat) : Nat × Nat := if k < 135 ∨ 152 ≤ k then KF k else (0, 0)
def kd2 (k : Nat) : Nat × Nat := if 135 ≤ k ∧ k < 152 then KF k else (0, 0)
theorem KF_lt {k : Nat} (h : (KF k).1 ≠ 0) : k < 154 := by
  by_cases e : k < 154
  · exact e
  · exact absurd (by unfold KF; rw [List.getD_eq_getElem?_getD, List.getElem?_eq_none (by show 154 ≤ k; omega)]; rfl) h
def adF (B k : Nat) : Nat := if k = 3 then B + 4 else if k = 4 then B + 3 else B + k
theorem adF_inj (B : Nat) : ∀ i j, adF B i = adF B j → i = j := by
  intro i j h
  unfold adF at h
  split at h <;> split at h <;> (try split at h) <;> (try split at h) <;> omega
theorem adF_ge (B k : Nat) : B ≤ adF B k := by unfold adF; split <;> (try split) <;> omega
theorem adF_lt {B k : Nat} (h : k < 154) : adF B k < B + 154 := by unfold adF; split <;> (try split) <;> omega
theorem adF_o {B k : Nat} (h3 : k ≠ 3) (h4 : k ≠ 4) : adF B k = B + k := by unfold adF; rw [if_neg h3, if_neg h4]
theorem kf_root : kRoot KF 0 := by
  unfold kRoot kReader kHist kPlanner kPlaces kPart
  repeat' apply And.intro
  all_goals first | rfl | decide +kernel
theorem kf_sb : kSB KF 133 := by unfold kSB; decide +kernel
theorem kf_model : kModel KF 135 := by unfold kModel; decide +kernel
theorem kd1_root : kRoot kd1 0 := by
  unfold kRoot kReader kHist kPlanner kPlaces kPart
  repeat' apply And.intro
  all_goals first | rfl | decide +kernel
theorem kd2_model : kModel kd2 135 := by unfold kModel; decide +kernel
theorem kd1_in {k : Nat} (h : (kd1 k).1 ≠ 0) : (k < 135 ∨ 152 ≤ k) ∧ kd1 k = KF k := by
  unfold kd1 at h ⊢
  split
  · exact ⟨by assumption, rfl⟩
  · rename_i h2; rw [if_neg h2] at h; exact absurd rfl h
theorem kd2_in {k : Nat} (h : (kd2 k).1 ≠ 0) : (135 ≤ k ∧ k < 152) ∧ kd2 k = KF k := by
  unfold kd2 at h ⊢
  split
  · exact ⟨by assumption, rfl⟩
  · rename_i h2; rw [if_neg h2] at h; exact absurd rfl h
theorem AS_ge {kd : Nat → Nat × Nat} {B : Nat} : AS kd (adF B) B = fun q => B ≤ q := by
  funext q
  exact propext ⟨fun h => h.elim (fun ⟨k, _, e⟩ => by rw [e]; exact adF_ge B k) id, Or.inr⟩
def m0 : Mem := (fun _ _ => 0, fun _ _ => 0, fun _ _ => 0)
def mstart : Option (Mem × Unit) := bnd (zr m0 0) fun M1 => cal (mX6_init M1) fun M2 _ => bnd (zr M2 135) fun M3 => cal (mX7_init 135 M3) fun M4 _ => bnd (zr M4 152) fun M5 => bnd (zr M5 153) fun M6 => some (M6, ())
def mcase (a0 a1 a2 a3 a4 a5 : Int32) (M N : Mem) : Option (Mem × Mem) := ite2 (a0 &&& 63 = 0) (mlc_0 a1 a2 a3 a4 a5 M N) (ite2 (a0 &&& 63 = 1) (mlc_1 a1 a2 a3 a4 a5 M N) (ite2 (a0 &&& 63 = 2) (mlc_2 a1 a2 a3 a4 a5 M N) (ite2 (a0 &&& 63 = 3) (mlc_3 a1 a2 a3 a4 a5 M N) (ite2 (a0 &&& 63 = 4) (mlc_4 a1 a2 a3 a4 a5 M N) (ite2 (a0 &&& 63 = 5) (mlc_5 a1 a2 a3 a4 a5 M N) (ite2 (a0 &&& 63 = 6) (mlc_6 a1 a2 a3 a4 a5 M N) (ite2 (a0 &&& 63 = 7) (mlc_7 a1 a2 a3 a4 a5 M N) (ite2 (a0 &&& 63 = 8) (mlc_8 a1 a2 a3 a4 a5 M N) (ite2 (a0 &&& 63 = 9) (mlc_9 a1 a2 a3 a4 a5 M N) (ite2 (a0 &&& 63 = 10) (mlc_10 a1 a2 a3 a4 a5 M N) (ite2 (a0 &&& 63 = 11) (mlc_11 a1 a2 a3 a4 a5 M N) (ite2 (a0 &&& 63 = 12) (mlc_12 a1 a2 a3 a4 a5 M N) (ite2 (a0 &&& 63 = 13) (mlc_13 a1 a2 a3 a4 a5 M N) (ite2 (a0 &&& 63 = 14) (mlc_14 a1 a2 a3 a4 a5 M N) (ite2 (a0 &&& 63 = 15) (mlc_15 a1 a2 a3 a4 a5 M N) (ite2 (a0 &&& 63 = 16) (mlc_16 a1 a2 a3 a4 a5 M N) (ite2 (a0 &&& 63 = 17) (mlc_17 a1 a2 a3 a4 a5 M N) (ite2 (a0 &&& 63 = 18) (mlc_18 a1 a2 a3 a4 a5 M N) (ite2 (a0 &&& 63 = 19) (mlc_19 a1 a2 a3 a4 a5 M N) (ite2 (a0 &&& 63 = 20) (mlc_20 a1 a2 a3 a4 a5 M N) (ite2 (a0 &&& 63 = 21) (mlc_21 a1 a2 a3 a4 a5 M N) (ite2 (a0 &&& 63 = 22) (mlc_22 a1 a2 a3 a4 a5 M N) (ite2 (a0 &&& 63 = 23) (mlc_23 a1 a2 a3 a4 a5 M N) (ite2 (a0 &&& 63 = 24) (mlc_24 a1 a2 a3 a4 a5 M N) (ite2 (a0 &&& 63 = 25) (mlc_25 a1 a2 a3 a4 a5 M N) (ite2 (a0 &&& 63 = 26) (mlc_26 a1 a2 a3 a4 a5 M N) (ite2 (a0 &&& 63 = 27) (mlc_27 a1 a2 a3 a4 a5 M N) (ite2 (a0 &&& 63 = 28) (mlc_28 a1 a2 a3 a4 a5 M N) (ite2 (a0 &&& 63 = 29) (mlc_29 a1 a2 a3 a4 a5 M N) (ite2 (a0 &&& 63 = 30) (mlc_30 a1 a2 a3 a4 a5 M N) (ite2 (a0 &&& 63 = 31) (mlc_31 a1 a2 a3 a4 a5 M N) (ite2 (a0 &&& 63 = 32) (mlc_32 a1 a2 a3 a4 a5 M N) (ite2 (a0 &&& 63 = 33) (mlc_33 a1 a2 a3 a4 a5 M N) (ite2 (a0 &&& 63 = 34) (mlc_34 a1 a2 a3 a4 a5 M N) (ite2 (a0 &&& 63 = 35) (mlc_35 a1 a2 a3 a4 a5 M N) (ite2 (a0 &&& 63 = 36) (mlc_36 a1 a2 a3 a4 a5 M N) (ite2 (a0 &&& 63 = 37) (mlc_37 a1 a2 a3 a4 a5 M N) (ite2 (a0 &&& 63 = 38) (mlc_38 a1 a2 a3 a4 a5 M N) (ite2 (a0 &&& 63 = 39) (mlc_39 a1 a2 a3 a4 a5 M N) (ite2 (a0 &&& 63 = 40) (mlc_40 a1 a2 a3 a4 a5 M N) (ite2 (a0 &&& 63 = 41) (mlc_41 a1 a2 a3 a4 a5 M N) (ite2 (a0 &&& 63 = 42) (mlc_42 a1 a2 a3 a4 a5 M N) (ite2 (a0 &&& 63 = 43) (mlc_43 a1 a2 a3 a4 a5 M N) (ite2 (a0 &&& 63 = 44) (mlc_44 a1 a2 a3 a4 a5 M N) (ite2 (a0 &&& 63 = 45) (mlc_45 a1 a2 a3 a4 a5 M N) (ite2 (a0 &&& 63 = 46) (mlc_46 a1 a2 a3 a4 a5 M N) (ite2 (a0 &&& 63 = 47) (mlc_47 a1 a2 a3 a4 a5 M N) (ite2 (a0 &&& 63 = 48) (mlc_48 a1 a2 a3 a4 a5 M N) (ite2 (a0 &&& 63 = 49) (mlc_49 a1 a2 a3 a4 a5 M N) (ite2 (a0 &&& 63 = 50) (mlc_50 a1 a2 a3 a4 a5 M N) (ite2 (a0 &&& 63 = 51) (mlc_51 a1 a2 a3 a4 a5 M N) (ite2 (a0 &&& 63 = 52) (mlc_52 a1 a2 a3 a4 a5 M N) (ite2 (a0 &&& 63 = 53) (mlc_53 a1 a2 a3 a4 a5 M N) (ite2 (a0 &&& 63 = 54) (mlc_54 a1 a2 a3 a4 a5 M N) (ite2 (a0 &&& 63 = 55) (mlc_55 a1 a2 a3 a4 a5 M N) (some (M, N)))))))))))))))))))))))))))))))))))))))))))))))))))))))))
theorem kd1_Sb : Sb kd1 0 := by
  unfold Sb
  refine ⟨by decide +kernel, by decide +kernel, fun _ => by decide +kernel, fun h => absurd h (by decide), Or.inl rfl⟩
theorem kd1_low : Low kd1 := fun k hk => by
  have key : ∀ k, k < 154 → k ≠ 133 → lowB (kd1 k).1 k = true := by decide +kernel
  by_cases h : k < 154
  · exact lowB_s (key k h hk)
  · have h0 : (kd1 k).1 = 0 := Classical.byContradiction fun hne => h (KF_lt (by rw [← (kd1_in hne).2]; exact hne))
    rw [h0]; trivial
section LE
variable {p : Program} {l : Launch} {e : Env} {s : State} {m : MethodId} {below : List Frame} {meth : Method} {c : Code} {b L : Nat} {xs : Nat → Int32} {G : GT} {kd' : Nat → Nat × Nat} {ad' : Nat → Nat} {cells slots : Nat} {Q : State → Prop}
set_option maxHeartbeats 4000000 in
set_option maxRecDepth 100000 in
theorem law_sw (hc : cells + 64 ≤ 601024 ∧ slots + 4096 ≤ 7293034) {x5 a0 a1 a2 a3 a4 a5 : Int32} (hs : Sc xs L x5 a0 a1 a2 a3 a4 a5) {M N M' N' : Mem} (hf : mcase a0 a1 a2 a3 a4 a5 M N = some (M', N')) (hk : AtW p l e s m #[Value.ref b] below meth c L xs G kd' ad' b x5 M' N' Q (cells + 64) (slots + 4096) 1766) : AtW p l e s m #[Value.ref b] below meth c L xs G kd' ad' b x5 M N Q cells slots 38 := by
  intro kd ad H locs ls C hS hI hJ hl
  obtain ⟨hx, hb, hml, hown, hts, hK, hap, hap2, hsx, hsx2, hnc, hst, hA, hd1, hd2, hX, hbl, hbA, hk0, hLo, hk1, hk3, hk2⟩ := id C
  unfold mcase at hf
  refine lv_aload_n hx hb (dc tbL_law_0_k 20 rfl) rfl (lv_at hl 0 rfl) ?_
  refine lv_iload hx hb (dc tbL_law_0_k 21 rfl) (lv_at hl 5 rfl) ?_
  refine l_sld hx hb hX hbl hbA hI hs.1.1 hs.1.2 (dc tbL_law_0_k 22 rfl) ?_
  refine lv_bipush (v := 63) hx hb (dc tbL_law_0_k 23 rfl) (by decide) ?_
  refine lv_iand hx hb (dc tbL_law_0_k 24 rfl) ?_
  refine by_c (c := a0 &&& 63 = 0) (fun c0 => ?_) (fun c0 => ?_)
  · have hf := ite_t c0 hf
    refine lv_et c0 ?_
    refine lv_tableIn (tgt := 284) hx hb dL_law_45 (by decide) (by decide) rfl rfl ?_
    exact lc_0 hc hs hf hk _ _ _ _ _ C hS hI hJ hl
  have hf := ite_f c0 hf
  refine by_c (c := a0 &&& 63 = 1) (fun c1 => ?_) (fun c1 => ?_)
  · have hf := ite_t c1 hf
    refine lv_et c1 ?_
    refine lv_tableIn (tgt := 357) hx hb dL_law_45 (by decide) (by decide) rfl rfl ?_
    exact lc_1 hc hs hf hk _ _ _ _ _ C hS hI hJ hl
  have hf := ite_f c1 hf
  refine by_c (c := a0 &&& 63 = 2) (fun c2 => ?_) (fun c2 => ?_)
  · have hf := ite_t c2 hf
    refine lv_et c2 ?_
    refine lv_tableIn (tgt := 385) hx hb dL_law_45 (by decide) (by decide) rfl rfl ?_
    exact lc_2 hc hs hf hk _ _ _ _ _ C hS hI hJ hl
  have hf := ite_f c2 hf
  refine by_c (c := a0 &&& 63 = 3) (fun c3 => ?_) (fun c3 => ?_)
  · have hf := ite_t c3 hf
    refine lv_et c3 ?_
    refine lv_tableIn (tgt := 398) hx hb dL_law_45 (by decide) (by decide) rfl rfl ?_
    exact lc_3 hc hs hf hk _ _ _ _ _ C hS hI hJ hl
  have hf := ite_f c3 hf
  refine by_c (c := a0 &&& 63 = 4) (fun c4 => ?_) (fun c4 => ?_)
  · have hf := ite_t c4 hf
    refine lv_et c4 ?_
    refine lv_tableIn (tgt := 411) hx hb dL_law_45 (by decide) (by decide) rfl rfl ?_
    exact lc_4 hc hs hf hk _ _ _ _ _ C hS hI hJ hl
  have hf := ite_f c4 hf
  refine by_c (c := a0 &&& 63 = 5) (fun c5 => ?_) (fun c5 => ?_)
  · have hf := ite_t c5 hf
    refine lv_et c5 ?_
    refine lv_tableIn (tgt := 424) hx hb dL_law_45 (by decide) (by decide) rfl rfl ?_
    exact lc_5 hc hs hf hk _ _ _ _ _ C hS hI hJ hl
  have hf := ite_f c5 hf
  refine by_c (c := a0 &&& 63 = 6) (fun c6 => ?_) (fun c6 => ?_)
  · have hf := ite_t c6 hf
    refine lv_et c6 ?_
    refine lv_tableIn (tgt := 437) hx hb dL_law_45 (by decide) (by decide) rfl rfl ?_
    exact lc_6 hc hs hf hk _ _ _ _ _ C hS hI hJ hl
  have hf := ite_f c6 hf
  refine by_c (c := a0 &&& 63 = 7) (fun c7 => ?_) (fun c7 => ?_)
  · have hf := ite_t c7 hf
    refine lv_et c7 ?_
    refine lv_tableIn (tgt := 465) hx hb dL_law_45 (by decide) (by decide) rfl rfl ?_
    exact lc_7 hc hs hf hk _ _ _ _ _ C hS hI hJ hl
  have hf := ite_f c7 hf
  refine by_c (c := a0 &&& 63 = 8) (fun c8 => ?_) (fun c8 => ?_)
  · have hf := ite_t c8 hf
    refine lv_et c8 ?_
    refine lv_tableIn (tgt := 493) hx hb dL_law_45 (by decide) (by decide) rfl rfl ?_
    exact lc_8 hc hs hf hk _ _ _ _ _ C hS hI hJ hl
  have hf := ite_f c8 hf
  refine by_c (c := a0 &&& 63 = 9) (fun c9 => ?_) (fun c9 => ?_)
  · have hf := ite_t c9 hf
    refine lv_et c9 ?_
    refine lv_tableIn (tgt := 508) hx hb dL_law_45 (by decide) (by decide) rfl rfl ?_
    exact lc_9 hc hs hf hk _ _ _ _ _ C hS hI hJ hl
  have hf := ite_f c9 hf
  refine by_c (c := a0 &&& 63 = 10) (fun c10 => ?_) (fun c10 => ?_)
  · have hf := ite_t c10 hf
    refine lv_et c10 ?_
    refine lv_tableIn (tgt := 523) hx hb dL_law_45 (by decide) (by decide) rfl rfl ?_
    exact lc_10 hc hs hf hk _ _ _ _ _ C hS hI hJ hl
  have hf := ite_f c10 hf
  refine by_c (c := a0 &&& 63 = 11) (fun c11 => ?_) (fun c11 => ?_)
  · have hf := ite_t c11 hf
    refine lv_et c11 ?_
    refine lv_tableIn (tgt := 552) hx hb dL_law_45 (by decide) (by decide) rfl rfl ?_
    exact lc_11 hc hs hf hk _ _ _ _ _ C hS hI hJ hl
  have hf := ite_f c11 hf
  refine by_c (c := a0 &&& 63 = 12) (fun c12 => ?_) (fun c12 => ?_)
  · have hf := ite_t c12 hf
    refine lv_et c12 ?_
    refine lv_tableIn (tgt := 567) hx hb dL_law_45 (by decide) (by decide) rfl rfl ?_
    exact lc_12 hc hs hf hk _ _ _ _ _ C hS hI hJ hl
  have hf := ite_f c12 hf
  refine by_c (c := a0 &&& 63 = 13) (fun c13 => ?_) (fun c13 => ?_)
  · have hf := ite_t c13 hf
    refine lv_et c13 ?_
    refine lv_tableIn (tgt := 582) hx hb dL_law_45 (by decide) (by decide) rfl rfl ?_
    exact lc_13 hc hs hf hk _ _ _ _ _ C hS hI hJ hl
  have hf := ite_f c13 hf
  refine by_c (c := a0 &&& 63 = 14) (fun c14 => ?_) (fun c14 => ?_)
  · have hf := ite_t c14 hf
    refine lv_et c14 ?_
    refine lv_tableIn (tgt := 621) hx hb dL_law_45 (by decide) (by decide) rfl rfl ?_
    exact lc_14 hc hs hf hk _ _ _ _ _ C hS hI hJ hl
  have hf := ite_f c14 hf
  refine by_c (c := a0 &&& 63 = 15) (fun c15 => ?_) (fun c15 => ?_)
  · have hf := ite_t c15 hf
    refine lv_et c15 ?_
    refine lv_tableIn (tgt := 634) hx hb dL_law_45 (by decide) (by decide) rfl rfl ?_
    exact lc_15 hc hs hf hk _ _ _ _ _ C hS hI hJ hl
  have hf := ite_f c15 hf
  refine by_c (c := a0 &&& 63 = 16) (fun c16 => ?_) (fun c16 => ?_)
  · have hf := ite_t c16 hf
    refine lv_et c16 ?_
    refine lv_tableIn (tgt := 674) hx hb dL_law_45 (by decide) (by decide) rfl rfl ?_
    exact lc_16 hc hs hf hk _ _ _ _ _ C hS hI hJ hl
  have hf := ite_f c16 hf
  refine by_c (c := a0 &&& 63 = 17) (fun c17 => ?_) (fun c17 => ?_)
  · have hf := ite_t c17 hf
    refine lv_et c17 ?_
    refine lv_tableIn (tgt := 687) hx hb dL_law_45 (by decide) (by decide) rfl rfl ?_
    exact lc_17 hc hs hf hk _ _ _ _ _ C hS hI hJ hl
  have hf := ite_f c17 hf
  refine by_c (c := a0 &&& 63 = 18) (fun c18 => ?_) (fun c18 => ?_)
  · have hf := ite_t c18 hf
    refine lv_et c18 ?_
    refine lv_tableIn (tgt := 700) hx hb dL_law_45 (by decide) (by decide) rfl rfl ?_
    exact lc_18 hc hs hf hk _ _ _ _ _ C hS hI hJ hl
  have hf := ite_f c18 hf
  refine by_c (c := a0 &&& 63 = 19) (fun c19 => ?_) (fun c19 => ?_)
  · have hf := ite_t c19 hf
    refine lv_et c19 ?_
    refine lv_tableIn (tgt := 713) hx hb dL_law_45 (by decide) (by decide) rfl rfl ?_
    exact lc_19 hc hs hf hk _ _ _ _ _ C hS hI hJ hl
  have hf := ite_f c19 hf
  refine by_c (c := a0 &&& 63 = 20) (fun c20 => ?_) (fun c20 => ?_)
  · have hf := ite_t c20 hf
    refine lv_et c20 ?_
    refine lv_tableIn (tgt := 753) hx hb dL_law_45 (by decide) (by decide) rfl rfl ?_
    exact lc_20 hc hs hf hk _ _ _ _ _ C hS hI hJ hl
  have hf := ite_f c20 hf
  refine by_c (c := a0 &&& 63 = 21) (fun c21 => ?_) (fun c21 => ?_)
  · have hf := ite_t c21 hf
    refine lv_et c21 ?_
    refine lv_tableIn (tgt := 766) hx hb dL_law_45 (by decide) (by decide) rfl rfl ?_
    exact lc_21 hc hs hf hk _ _ _ _ _ C hS hI hJ hl
  have hf := ite_f c21 hf
  refine by_c (c := a0 &&& 63 = 22) (fun c22 => ?_) (fun c22 => ?_)
  · have hf := ite_t c22 hf
    refine lv_et c22 ?_
    refine lv_tableIn (tgt := 779) hx hb dL_law_45 (by decide) (by decide) rfl rfl ?_
    exact lc_22 hc hs hf hk _ _ _ _ _ C hS hI hJ hl
  have hf := ite_f c22 hf
  refine by_c (c := a0 &&& 63 = 23) (fun c23 => ?_) (fun c23 => ?_)
  · have hf := ite_t c23 hf
    refine lv_et c23 ?_
    refine lv_tableIn (tgt := 792) hx hb dL_law_45 (by decide) (by decide) rfl rfl ?_
    exact lc_23 hc hs hf hk _ _ _ _ _ C hS hI hJ hl
  have hf := ite_f c23 hf
  refine by_c (c := a0 &&& 63 = 24) (fun c24 => ?_) (fun c24 => ?_)
  · have hf := ite_t c24 hf
    refine lv_et c24 ?_
    refine lv_tableIn (tgt := 805) hx hb dL_law_45 (by decide) (by decide) rfl rfl ?_
    exact lc_24 hc hs hf hk _ _ _ _ _ C hS hI hJ hl
  have hf := ite_f c24 hf
  refine by_c (c := a0 &&& 63 = 25) (fun c25 => ?_) (fun c25 => ?_)
  · have hf := ite_t c25 hf
    refine lv_et c25 ?_
    refine lv_tableIn (tgt := 845) hx hb dL_law_45 (by decide) (by decide) rfl rfl ?_
    exact lc_25 hc hs hf hk _ _ _ _ _ C hS hI hJ hl
  have hf := ite_f c25 hf
  refine by_c (c := a0 &&& 63 = 26) (fun c26 => ?_) (fun c26 => ?_)
  · have hf := ite_t c26 hf
    refine lv_et c26 ?_
    refine lv_tableIn (tgt := 858) hx hb dL_law_45 (by decide) (by decide) rfl rfl ?_
    exact lc_26 hc hs hf hk _ _ _ _ _ C hS hI hJ hl
  have hf := ite_f c26 hf
  refine by_c (c := a0 &&& 63 = 27) (fun c27 => ?_) (fun c27 => ?_)
  · have hf := ite_t c27 hf
    refine lv_et c27 ?_
    refine lv_tableIn (tgt := 898) hx hb dL_law_45 (by decide) (by decide) rfl rfl ?_
    exact lc_27 hc hs hf hk _ _ _ _ _ C hS hI hJ hl
  have hf := ite_f c27 hf
  refine by_c (c := a0 &&& 63 = 28) (fun c28 => ?_) (fun c28 => ?_)
  · have hf := ite_t c28 hf
    refine lv_et c28 ?_
    refine lv_tableIn (tgt := 938) hx hb dL_law_45 (by decide) (by decide) rfl rfl ?_
    exact lc_28 hc hs hf hk _ _ _ _ _ C hS hI hJ hl
  have hf := ite_f c28 hf
  refine by_c (c := a0 &&& 63 = 29) (fun c29 => ?_) (fun c29 => ?_)
  · have hf := ite_t c29 hf
    refine lv_et c29 ?_
    refine lv_tableIn (tgt := 1002) hx hb dL_law_45 (by decide) (by decide) rfl rfl ?_
    exact lc_29 hc hs hf hk _ _ _ _ _ C hS hI hJ hl
  have hf := ite_f c29 hf
  refine by_c (c := a0 &&& 63 = 30) (fun c30 => ?_) (fun c30 => ?_)
  · have hf := ite_t c30 hf
    refine lv_et c30 ?_
    refine lv_tableIn (tgt := 1042) hx hb dL_law_45 (by decide) (by decide) rfl rfl ?_
    exact lc_30 hc hs hf hk _ _ _ _ _ C hS hI hJ hl
  have hf := ite_f c30 hf
  refine by_c (c := a0 &&& 63 = 31) (fun c31 => ?_) (fun c31 => ?_)
  · have hf := ite_t c31 hf
    refine lv_et c31 ?_
    refine lv_tableIn (tgt := 1082) hx hb dL_law_45 (by decide) (by decide) rfl rfl ?_
    exact lc_31 hc hs hf hk _ _ _ _ _ C hS hI hJ hl
  have hf := ite_f c31 hf
  refine by_c (c := a0 &&& 63 = 32) (fun c32 => ?_) (fun c32 => ?_)
  · have hf := ite_t c32 hf
    refine lv_et c32 ?_
    refine lv_tableIn (tgt := 1110) hx hb dL_law_45 (by decide) (by decide) rfl rfl ?_
    exact lc_32 hc hs hf hk _ _ _ _ _ C hS hI hJ hl
  have hf := ite_f c32 hf
  refine by_c (c := a0 &&& 63 = 33) (fun c33 => ?_) (fun c33 => ?_)
  · have hf := ite_t c33 hf
    refine lv_et c33 ?_
    refine lv_tableIn (tgt := 1123) hx hb dL_law_45 (by decide) (by decide) rfl rfl ?_
    exact lc_33 hc hs hf hk _ _ _ _ _ C hS hI hJ hl
  have hf := ite_f c33 hf
  refine by_c (c := a0 &&& 63 = 34) (fun c34 => ?_) (fun c34 => ?_)
  · have hf := ite_t c34 hf
    refine lv_et c34 ?_
    refine lv_tableIn (tgt := 1136) hx hb dL_law_45 (by decide) (by decide) rfl rfl ?_
    exact lc_34 hc hs hf hk _ _ _ _ _ C hS hI hJ hl
  have hf := ite_f c34 hf
  refine by_c (c := a0 &&& 63 = 35) (fun c35 => ?_) (fun c35 => ?_)
  · have hf := ite_t c35 hf
    refine lv_et c35 ?_
    refine lv_tableIn (tgt := 1176) hx hb dL_law_45 (by decide) (by decide) rfl rfl ?_
    exact lc_35 hc hs hf hk _ _ _ _ _ C hS hI hJ hl
  have hf := ite_f c35 hf
  refine by_c (c := a0 &&& 63 = 36) (fun c36 => ?_) (fun c36 => ?_)
  · have hf := ite_t c36 hf
    refine lv_et c36 ?_
    refine lv_tableIn (tgt := 1189) hx hb dL_law_45 (by decide) (by decide) rfl rfl ?_
    exact lc_36 hc hs hf hk _ _ _ _ _ C hS hI hJ hl
  have hf := ite_f c36 hf
  refine by_c (c := a0 &&& 63 = 37) (fun c37 => ?_) (fun c37 => ?_)
  · have hf := ite_t c37 hf
    refine lv_et c37 ?_
    refine lv_tableIn (tgt := 1202) hx hb dL_law_45 (by decide) (by decide) rfl rfl ?_
    exact lc_37 hc hs hf hk _ _ _ _ _ C hS hI hJ hl
  have hf := ite_f c37 hf
  refine by_c (c := a0 &&& 63 = 38) (fun c38 => ?_) (fun c38 => ?_)
  · have hf := ite_t c38 hf
    refine lv_et c38 ?_
    refine lv_tableIn (tgt := 1215) hx hb dL_law_45 (by decide) (by decide) rfl rfl ?_
    exact lc_38 hc hs hf hk _ _ _ _ _ C hS hI hJ hl
  have hf := ite_f c38 hf
  refine by_c (c := a0 &&& 63 = 39) (fun c39 => ?_) (fun c39 => ?_)
  · have hf := ite_t c39 hf
    refine lv_et c39 ?_
    refine lv_tableIn (tgt := 1243) hx hb dL_law_45 (by decide) (by decide) rfl rfl ?_
    exact lc_39 hc hs hf hk _ _ _ _ _ C hS hI hJ hl
  have hf := ite_f c39 hf
  refine by_c (c := a0 &&& 63 = 40) (fun c40 => ?_) (fun c40 => ?_)
  · have hf := ite_t c40 hf
    refine lv_et c40 ?_
    refine lv_tableIn (tgt := 1256) hx hb dL_law_45 (by decide) (by decide) rfl rfl ?_
    exact lc_40 hc hs hf hk _ _ _ _ _ C hS hI hJ hl
  have hf := ite_f c40 hf
  refine by_c (c := a0 &&& 63 = 41) (fun c41 => ?_) (fun c41 => ?_)
  · have hf := ite_t c41 hf
    refine lv_et c41 ?_
    refine lv_tableIn (tgt := 1296) hx hb dL_law_45 (by decide) (by decide) rfl rfl ?_
    exact lc_41 hc hs hf hk _ _ _ _ _ C hS hI hJ hl
  have hf := ite_f c41 hf
  refine by_c (c := a0 &&& 63 = 42) (fun c42 => ?_) (fun c42 => ?_)
  · have hf := ite_t c42 hf
    refine lv_et c42 ?_
    refine lv_tableIn (tgt := 1309) hx hb dL_law_45 (by decide) (by decide) rfl rfl ?_
    exact lc_42 hc hs hf hk _ _ _ _ _ C hS hI hJ hl
  have hf := ite_f c42 hf
  refine by_c (c := a0 &&& 63 = 43) (fun c43 => ?_) (fun c43 => ?_)
  · have hf := ite_t c43 hf
    refine lv_et c43 ?_
    refine lv_tableIn (tgt := 1322) hx hb dL_law_45 (by decide) (by decide) rfl rfl ?_
    exact lc_43 hc hs hf hk _ _ _ _ _ C hS hI hJ hl
  have hf := ite_f c43 hf
  refine by_c (c := a0 &&& 63 = 44) (fun c44 => ?_) (fun c44 => ?_)
  · have hf := ite_t c44 hf
    refine lv_et c44 ?_
    refine lv_tableIn (tgt := 1335) hx hb dL_law_45 (by decide) (by decide) rfl rfl ?_
    exact lc_44 hc hs hf hk _ _ _ _ _ C hS hI hJ hl
  have hf := ite_f c44 hf
  refine by_c (c := a0 &&& 63 = 45) (fun c45 => ?_) (fun c45 => ?_)
  · have hf := ite_t c45 hf
    refine lv_et c45 ?_
    refine lv_tableIn (tgt := 1363) hx hb dL_law_45 (by decide) (by decide) rfl rfl ?_
    exact lc_45 hc hs hf hk _ _ _ _ _ C hS hI hJ hl
  have hf := ite_f c45 hf
  refine by_c (c := a0 &&& 63 = 46) (fun c46 => ?_) (fun c46 => ?_)
  · have hf := ite_t c46 hf
    refine lv_et c46 ?_
    refine lv_tableIn (tgt := 1431) hx hb dL_law_45 (by decide) (by decide) rfl rfl ?_
    exact lc_46 hc hs hf hk _ _ _ _ _ C hS hI hJ hl
  have hf := ite_f c46 hf
  refine by_c (c := a0 &&& 63 = 47) (fun c47 => ?_) (fun c47 => ?_)
  · have hf := ite_t c47 hf
    refine lv_et c47 ?_
    refine lv_tableIn (tgt := 1447) hx hb dL_law_45 (by decide) (by decide) rfl rfl ?_
    exact lc_47 hc hs hf hk _ _ _ _ _ C hS hI hJ hl
  have hf := ite_f c47 hf
  refine by_c (c := a0 &&& 63 = 48) (fun c48 => ?_) (fun c48 => ?_)
  · have hf := ite_t c48 hf
    refine lv_et c48 ?_
    refine lv_tableIn (tgt := 1460) hx hb dL_law_45 (by decide) (by decide) rfl rfl ?_
    exact lc_48 hc hs hf hk _ _ _ _ _ C hS hI hJ hl
  have hf := ite_f c48 hf
  refine by_c (c := a0 &&& 63 = 49) (fun c49 => ?_) (fun c49 => ?_)
  · have hf := ite_t c49 hf
    refine lv_et c49 ?_
    refine lv_tableIn (tgt := 1500) hx hb dL_law_45 (by decide) (by decide) rfl rfl ?_
    exact lc_49 hc hs hf hk _ _ _ _ _ C hS hI hJ hl
  have hf := ite_f c49 hf
  refine by_c (c := a0 &&& 63 = 50) (fun c50 => ?_) (fun c50 => ?_)
  · have hf := ite_t c50 hf
    refine lv_et c50 ?_
    refine lv_tableIn (tgt := 1556) hx hb dL_law_45 (by decide) (by decide) rfl rfl ?_
    exact lc_50 hc hs hf hk _ _ _ _ _ C hS hI hJ hl
  have hf := ite_f c50 hf
  refine by_c (c := a0 &&& 63 = 51) (fun c51 => ?_) (fun c51 => ?_)
  · have hf := ite_t c51 hf
    refine lv_et c51 ?_
    refine lv_tableIn (tgt := 1608) hx hb dL_law_45 (by decide) (by decide) rfl rfl ?_
    exact lc_51 hc hs hf hk _ _ _ _ _ C hS hI hJ hl
  have hf := ite_f c51 hf
  refine by_c (c := a0 &&& 63 = 52) (fun c52 => ?_) (fun c52 => ?_)
  · have hf := ite_t c52 hf
    refine lv_et c52 ?_
    refine lv_tableIn (tgt := 1660) hx hb dL_law_45 (by decide) (by decide) rfl rfl ?_
    exact lc_52 hc hs hf hk _ _ _ _ _ C hS hI hJ hl
  have hf := ite_f c52 hf
  refine by_c (c := a0 &&& 63 = 53) (fun c53 => ?_) (fun c53 => ?_)
  · have hf := ite_t c53 hf
    refine lv_et c53 ?_
    refine lv_tableIn (tgt := 1712) hx hb dL_law_45 (by decide) (by decide) rfl rfl ?_
    exact lc_53 hc hs hf hk _ _ _ _ _ C hS hI hJ hl
  have hf := ite_f c53 hf
  refine by_c (c := a0 &&& 63 = 54) (fun c54 => ?_) (fun c54 => ?_)
  · have hf := ite_t c54 hf
    refine lv_et c54 ?_
    refine lv_tableIn (tgt := 1725) hx hb dL_law_45 (by decide) (by decide) rfl rfl ?_
    exact lc_54 hc hs hf hk _ _ _ _ _ C hS hI hJ hl
  have hf := ite_f c54 hf
  refine by_c (c := a0 &&& 63 = 55) (fun c55 => ?_) (fun c55 => ?_)
  · have hf := ite_t c55 hf
    refine lv_et c55 ?_
    refine lv_tableIn (tgt := 1738) hx hb dL_law_45 (by decide) (by decide) rfl rfl ?_
    exact lc_55 hc hs hf hk _ _ _ _ _ C hS hI hJ hl
  have hf := ite_f c55 hf
  refine lv_tableOut (tgt := 1766) hx hb dL_law_45 (by have := sw_ne (k := 0) (z := 0) c0 rfl; have := sw_ne (k := 1) (z := 1) c1 rfl; have := sw_ne (k := 2) (z := 2) c2 rfl; have := sw_ne (k := 3) (z := 3) c3 rfl; have := sw_ne (k := 4) (z := 4) c4 rfl; have := sw_ne (k := 5) (z := 5) c5 rfl; have := sw_ne (k := 6) (z := 6) c6 rfl; have := sw_ne (k := 7) (z := 7) c7 rfl; have := sw_ne (k := 8) (z := 8) c8 rfl; have := sw_ne (k := 9) (z := 9) c9 rfl; have := sw_ne (k := 10) (z := 10) c10 rfl; have := sw_ne (k := 11) (z := 11) c11 rfl; have := sw_ne (k := 12) (z := 12) c12 rfl; have := sw_ne (k := 13) (z := 13) c13 rfl; have := sw_ne (k := 14) (z := 14) c14 rfl; have := sw_ne (k := 15) (z := 15) c15 rfl; have := sw_ne (k := 16) (z := 16) c16 rfl; have := sw_ne (k := 17) (z := 17) c17 rfl; have := sw_ne (k := 18) (z := 18) c18 rfl; have := sw_ne (k := 19) (z := 19) c19 rfl; have := sw_ne (k := 20) (z := 20) c20 rfl; have := sw_ne (k := 21) (z := 21) c21 rfl; have := sw_ne (k := 22) (z := 22) c22 rfl; have := sw_ne (k := 23) (z := 23) c23 rfl; have := sw_ne (k := 24) (z := 24) c24 rfl; have := sw_ne (k := 25) (z := 25) c25 rfl; have := sw_ne (k := 26) (z := 26) c26 rfl; have := sw_ne (k := 27) (z := 27) c27 rfl; have := sw_ne (k := 28) (z := 28) c28 rfl; have := sw_ne (k := 29) (z := 29) c29 rfl; have := sw_ne (k := 30) (z := 30) c30 rfl; have := sw_ne (k := 31) (z := 31) c31 rfl; have := sw_ne (k := 32) (z := 32) c32 rfl; have := sw_ne (k := 33) (z := 33) c33 rfl; have := sw_ne (k := 34) (z := 34) c34 rfl; have := sw_ne (k := 35) (z := 35) c35 rfl; have := sw_ne (k := 36) (z := 36) c36 rfl; have := sw_ne (k := 37) (z := 37) c37 rfl; have := sw_ne (k := 38) (z := 38) c38 rfl; have := sw_ne (k := 39) (z := 39) c39 rfl; have := sw_ne (k := 40) (z := 40) c40 rfl; have := sw_ne (k := 41) (z := 41) c41 rfl; have := sw_ne (k := 42) (z := 42) c42 rfl; have := sw_ne (k := 43) (z := 43) c43 rfl; have := sw_ne (k := 44) (z := 44) c44 rfl; have := sw_ne (k := 45) (z := 45) c45 rfl; have := sw_ne (k := 46) (z := 46) c46 rfl; have := sw_ne (k := 47) (z := 47) c47 rfl; have := sw_ne (k := 48) (z := 48) c48 rfl; have := sw_ne (k := 49) (z := 49) c49 rfl; have := sw_ne (k := 50) (z := 50) c50 rfl; have := sw_ne (k := 51) (z := 51) c51 rfl; have := sw_ne (k := 52) (z := 52) c52 rfl; have := sw_ne (k := 53) (z := 53) c53 rfl; have := sw_ne (k := 54) (z := 54) c54 rfl; have := sw_ne (k := 55) (z := 55) c55 rfl; omega) rfl ?_
  cases hf
  refine W.widen (k := cells + 64) (n := slots + 4096) (by omega) (by omega) ?_
  exact hk _ _ _ _ _ C hS hI hJ hl
theorem law_end (hr : meth.sig.returnType = ret) (hlk : meth.locks = false) (hge : ∀ q, AS kd' ad' s.heap.size q → s.heap.size ≤ q) (hc : cells ≤ 601024 ∧ slots ≤ 7293034) {x5 : Int32} {M N : Mem} : AtW p l e s m #[Value.ref b] below meth c L xs G kd' ad' b x5 M N (lw_Z below #[Value.ref b] s) cells slots 1772 := by
  intro kd ad H locs ls C hS hI hJ hl
  obtain ⟨hx, hb, hml, hown, hts, hK, hap, hap2, hsx, hsx2, hnc, hst, hA, hd1, hd2, hX, hbl, hbA, hk0, hLo, hk1, hk3, hk2⟩ := id C
  refine lv_iconst (v := 1) hx hb (dc tbL_law_24_k 26 rfl) (by decide) ?_
  refine va_forget (fun q hq => hge _ (hJ.2.2.2 q hq)) ?_
  refine W.widen (k := 601024) (n := 7293034) hc.1 hc.2 ?_
  have h := lw_ret (e := e) (l := l) (s := s) (m := m) (below := below) (b := b) (H := H) (ls := ls) (d0 := s.drawn) (Drawn.sameBut.refl s.drawn lw_cs) hx hb hr hlk (dc tbL_law_24_k 27 rfl)
  exact h
theorem law_head {x5 : Int32} {M N : Mem} (h1 : Int32.ofNat L - 6 < x5 → AtW p l e s m #[Value.ref b] below meth c L xs G kd' ad' b x5 M N Q cells slots 1772) (h2 : ¬ Int32.ofNat L - 6 < x5 → AtW p l e s m #[Value.ref b] below meth c L xs G kd' ad' b x5 M N Q cells slots 38) : AtW p l e s m #[Value.ref b] below meth c L xs G kd' ad' b x5 M N Q cells slots 28 := by
  intro kd ad H locs ls C hS hI hJ hl
  obtain ⟨hx, hb, hml, hown, hts, hK, hap, hap2, hsx, hsx2, hnc, hst, hA, hd1, hd2, hX, hbl, hbA, hk0, hLo, hk1, hk3, hk2⟩ := id C
  refine lv_iload hx hb (dc tbL_law_0_k 14 rfl) (lv_at hl 5 rfl) ?_
  refine lv_aload_n hx hb (dc tbL_law_0_k 15 rfl) rfl (lv_at hl 0 rfl) ?_
  refine va_slen hx hb hX hbl hbA hI.2 (dc tbL_law_0_k 16 rfl) ?_
  refine lv_bipush (v := 6) hx hb (dc tbL_law_0_k 17 rfl) (by decide) ?_
  refine lv_isub hx hb (dc tbL_law_0_k 18 rfl) ?_
  refine lv_icmp_gt (tgt := 1772) hx hb (dc tbL_law_0_k 19 rfl) rfl (fun c0 => ?_) (fun c0 => ?_)
  · exact h1 c0 _ _ _ _ _ C hS hI hJ hl
  · exact h2 c0 _ _ _ _ _ C hS hI hJ hl
theorem law_inc {x5 y5 : Int32} (hy : y5 = x5 + 6) {M N : Mem} (h1 : AtW p l e s m #[Value.ref b] below meth c L xs G kd' ad' b y5 M N Q cells slots 28) : AtW p l e s m #[Value.ref b] below meth c L xs G kd' ad' b x5 M N Q cells slots 1766 := by
  intro kd ad H locs ls C hS hI hJ hl
  obtain ⟨hx, hb, hml, hown, hts, hK, hap, hap2, hsx, hsx2, hnc, hst, hA, hd1, hd2, hX, hbl, hbA, hk0, hLo, hk1, hk3, hk2⟩ := id C
  refine lv_iinc (v := y5) (lv' := [(5, .int y5), (0, .ref b), (1, .ref (ad 0)), (2, .ref (ad' 135)), (3, .ref (ad 152)), (4, .ref (ad 153))]) hx hb (dc tbL_law_24_k 24 rfl) hl (k := 5) rfl (ii_e hy (by decide)) (by decide) rfl (fun ls hl => ?_)
  refine lv_goto (tgt := 28) hx hb (dc tbL_law_24_k 25 rfl) rfl ?_
  exact h1 _ _ _ _ _ C hS hI hJ (lv_sub hl [1, 2, 3, 4, 5, 0] rfl)
theorem sub6_lt {a b : Nat} (ha : a < 100000) (hb : b < 100000) : Int32.ofNat a - 6 < nI b ↔ a < b + 6 := by
  have e1 : (Int32.ofNat a - 6).toInt = (a : Int) - 6 := by
    rw [Int32.toInt_sub, toInt_of rfl (by omega), show (6 : Int32).toInt = 6 from rfl]
    exact Int.bmod_eq_of_le (by omega) (by omega)
  rw [Int32.lt_iff_toInt_lt, e1, nI_toInt (by omega)]
  omega
theorem nI_at {a j L : Nat} (h : a + j < L) (hL : L < 100000) : vp_in (nI a + Int32.ofNat j) L := by
  have e : nI a + Int32.ofNat j = nI (a + j) := (Int32.ofNat_add a j).symm
  rw [e]; exact nI_in h (by omega)
/-- the law's loop, under any predicate of the two memories that a step keeps -/
theorem law_go {c0 s0 : Nat} (hc : c0 + 64 * 513 ≤ 601024 ∧ s0 + 4096 * 513 ≤ 7293034) (hL : L ≤ 3072) (hr : meth.sig.returnType = ret) (hlk : meth.locks = false) (hge : ∀ q, AS kd' ad' s.heap.size q → s.heap.size ≤ q) {P : Mem → Mem → Prop} (hP : ∀ a0 a1 a2 a3 a4 a5 M N, P M N → ∃ M' N', mcase a0 a1 a2 a3 a4 a5 M N = some (M', N') ∧ P M' N') :
    ∀ (n i : Nat) (M N : Mem), i + n = 513 → P M N → AtW p l e s m #[Value.ref b] below meth c L xs G kd' ad' b (nI (6 * i)) M N (lw_Z below #[Value.ref b] s) (c0 + 64 * i) (s0 + 4096 * i) 28 := by
  intro n
  induction n with
  | zero =>
    intro i M N hi _
    refine law_head (fun _ => law_end hr hlk hge ⟨by omega, by omega⟩) (fun h => absurd ((sub6_lt (by omega) (by omega)).mpr (by omega)) h)
  | succ n IH =>
    intro i M N hi hp
    refine law_head (fun _ => law_end hr hlk hge ⟨by omega, by omega⟩) (fun h => ?_)
    have h6 : 6 * i + 6 ≤ L := by
      have h9 : ¬ L < 6 * i + 6 := fun q => h ((sub6_lt (by omega) (by omega)).mpr q)
      omega
    obtain ⟨M', N', hm, hp'⟩ := hP (xs (nI (6 * i)).toNatClampNeg) (xs (nI (6 * i) + 1).toNatClampNeg) (xs (nI (6 * i) + 2).toNatClampNeg) (xs (nI (6 * i) + 3).toNatClampNeg) (xs (nI (6 * i) + 4).toNatClampNeg) (xs (nI (6 * i) + 5).toNatClampNeg) M N hp
    have h9 := IH (i + 1) M' N' (by omega) hp'
    rw [show c0 + 64 * (i + 1) = c0 + 64 * i + 64 by omega, show s0 + 4096 * (i + 1) = s0 + 4096 * i + 4096 by omega] at h9
    exact law_sw ⟨by omega, by omega⟩ ⟨⟨nI_in (by omega) (by omega), rfl⟩, ⟨nI_at (j := 1) (by omega) (by omega), rfl⟩, ⟨nI_at (j := 2) (by omega) (by omega), rfl⟩, ⟨nI_at (j := 3) (by omega) (by omega), rfl⟩, ⟨nI_at (j := 4) (by omega) (by omega), rfl⟩, ⟨nI_at (j := 5) (by omega) (by omega), rfl⟩⟩ hm (law_inc ((Int32.ofNat_add (6 * i) 6).trans rfl) h9)
theorem law_go0 (hc : cells + 64 * 513 ≤ 601024 ∧ slots + 4096 * 513 ≤ 7293034) (hL : L ≤ 3072) (hr : meth.sig.returnType = ret) (hlk : meth.locks = false) (hge : ∀ q, AS kd' ad' s.heap.size q → s.heap.size ≤ q) {P : Mem → Mem → Prop} (hP : ∀ a0 a1 a2 a3 a4 a5 M N, P M N → ∃ M' N', mcase a0 a1 a2 a3 a4 a5 M N = some (M', N') ∧ P M' N') {M N : Mem} (h0 : P M N) : AtW p l e s m #[Value.ref b] below meth c L xs G kd' ad' b 0 M N (lw_Z below #[Value.ref b] s) cells slots 28 := law_go hc hL hr hlk hge hP 513 0 M N rfl h0
end LE
end
/-! part 42.walk -/
section
theorem q_t1_29 : (Cond.classLink "SheetFolderLaw" 8 "SheetFolder") ∈ WA := wa_q tbl_1 29 rfl rfl
theorem q_t1_30 : (Cond.instantiable "SheetFolder" 9) ∈ WA := wa_q tbl_1 30 rfl rfl
theorem q_t1_31 : (Cond.methodLink "SheetFolderLaw" 104 ⟨"SheetFolder", "<init>", "()V"⟩) ∈ WA := wa_q tbl_1 31 rfl rfl
theorem q_t10_21 : (Cond.arrayClass .double) ∈ WA := wa_q tbl_10 21 rfl rfl
theorem q_t7_59 : (Cond.classLink "SheetFolderLaw" 105 "SheetFolderModel") ∈ WA := wa_q tbl_7 59 rfl rfl
theorem q_t7_60 : (Cond.instantiable "SheetFolderModel" 31) ∈ WA := wa_q tbl_7 60 rfl rfl
theorem q_t7_61 : (Cond.methodLink "SheetFolderLaw" 107 ⟨"SheetFolderModel", "<init>", "()V"⟩) ∈ WA := wa_q tbl_7 61 rfl rfl
theorem kx {G : GT} {ad : Nat → Nat} {H : Heap} {M : Mem} {kd : Nat → Nat × Nat} {k : Nat} (g : kd k = KF k) (hk : (kd k).1 ≠ 0) (h : (KF k).1 ≠ 0 → va_at G.1 vwCl (ad k, ent ad G.2.1 (KF k) k (M.1 k) (M.2.1 k) (M.2.2 k)) H) : va_at G.1 vwCl (ad k, ent ad G.2.1 (kd k) k (M.1 k) (M.2.1 k) (M.2.2 k)) H := by
  rw [g] at hk ⊢
  exact h hk
set_option maxHeartbeats 4000000 in
set_option maxRecDepth 100000 in
theorem law_entry {p : Program} {e : Env} {s : State} {m : MethodId} {below : List Frame} {meth : Method} {c : Code} (l : Launch) (hst : l.stackTraces = false) {b L : Nat} {xs : Nat → Int32} (hL : L ≤ 3072) (C0 : lw_At p s m meth c b L xs) {M0 : Mem} (h1 : mstart = some (M0, ())) (h3 : rd M0 133 0 = 0) {P : Mem → Mem → Prop} (hP : ∀ a0 a1 a2 a3 a4 a5 M N, P M N → ∃ M' N', mcase a0 a1 a2 a3 a4 a5 M N = some (M', N') ∧ P M' N') (hP0 : P M0 M0) : W p l e room_1 s m #[Value.ref b] below meth c s.heap [] 0 0 (lw_Z below #[Value.ref b] s) (entryFrame m ([Value.ref b] : List Value).toArray 10) := by
  obtain ⟨hx, hb, hr, hml, hown, h0, hX, hbl, hlk, hgv⟩ := id C0
  have hn := flat_of_before _ hgv
  have hts := wa_ok h0
  have hA : ∀ a : Nat, a < s.heap.size → ¬ (AS KF (adF s.heap.size) s.heap.size) a := fun a ha h => by rw [AS_ge] at h; exact absurd h (Nat.not_le.mpr ha)
  obtain ⟨D, cA, hK0⟩ := st_K hts h0
  obtain ⟨adW, hE, hT⟩ := st_T (AS KF (adF s.heap.size) s.heap.size) hA h0 hn
  obtain ⟨hsx, hex, hnc⟩ := st_S (G := (D, cA, adW)) (AS KF (adF s.heap.size) s.heap.size) hA h0 hn hE (hT D cA)
  have hK : va_K ((D, cA, adW) : GT).1 vwCl (tyL (D, cA, adW)) s := hK0 adW
  generalize hG : ((D, cA, adW) : GT) = G at hsx hK
  have hinj := adF_inj s.heap.size
  have hl := lv_entry ([.ref b]) (n := 10) (Nat.le_of_ble_eq_true rfl)
  rw [lg_entry_eq]
  generalize (lg_sl ([.ref b]) ++ List.replicate (10 - (lg_sl ([.ref b])).length) Slot.unset).toArray = ls at hl ⊢
  have hl : lv_has ls 10 [(0, .ref b)] := hl
  have hC : Ci G KF KF (adF s.heap.size) s m0 s.heap [] 0 := ⟨fun k hk => absurd (kdN_lt hk) (by have := adF_ge s.heap.size k; omega), va_S.rf, rfl, fun _ => Iff.rfl⟩
  unfold mstart at h1
  obtain ⟨M1, e1, h1⟩ := bnd_s h1
  refine c_new hx hb hts inW6 tyX6 tyX6_ok hown q_t1_29 q_t1_30 q_t1_1 hK hC hinj (j := 0) (adF_o (by decide) (by decide)) (show KF 0 = (6, 0) by decide +kernel) (q := (26, 0)) (by simp) (by simp) rfl (fs := [.null, .int 0, .null, .null, .null, .null, .null, .null, .null]) rfl (by decide +kernel) ⟨Nat.le_of_ble_eq_true rfl, Nat.le_of_ble_eq_true rfl⟩ e1 (dc tbL_law_0_k 0 rfl) (fun H hC => ?_)
  refine lv_dup hx hb (dc tbL_law_0_k 1 rfl) rfl ?_
  obtain ⟨M2, _, q2, h1⟩ := cal_s h1
  have had : (∀ j, 1 ≤ j → j ≤ 134 → j ≠ 3 → j ≠ 4 → adF s.heap.size j = H.size + (j - 1)) ∧ adF s.heap.size 4 = H.size + 2 ∧ adF s.heap.size 3 = H.size + 3 := by
    have h8 := hC.2.2.1
    refine ⟨fun j g1 g2 g3 g4 => by rw [adF_o g3 g4]; omega, ?_, ?_⟩
    · show s.heap.size + 3 = _; omega
    · show s.heap.size + 4 = _; omega
  refine c_callI hx hb hml hown hts hK hsx hex hC (nzE_set (by rw [show KF 0 = (6, 0) by decide +kernel]; simp) (by simp)) (As := []) (tX6_init l hinj kf_root (by decide +kernel) kf_sb had (by have h8 := hC.2.2.1; rw [adF_o (by decide) (by decide)]; omega) q2) ci_X6_init q_t1_31 ⟨rfl, by decide +kernel⟩ rfl rfl rfl ⟨Nat.le_of_ble_eq_true rfl, Nat.le_of_ble_eq_true rfl⟩ hl.1 rfl (Nat.le_of_ble_eq_true rfl) (dc tbL_law_0_k 2 rfl) ⟨Nat.le_of_ble_eq_true rfl, Nat.le_of_ble_eq_true rfl⟩ (fun H locs hC => ?_)
  refine lv_astore_n (lv' := [(1, .ref (adF s.heap.size 0)), (0, .ref b)]) hx hb (dc tbL_law_0_k 3 rfl) rfl hl (by decide) rfl (fun ls hl => ?_)
  obtain ⟨M3, e3, h1⟩ := bnd_s h1
  refine c_new hx hb hts inW7 tyX7 tyX7_ok hown q_t7_59 q_t7_60 q_t1_11 hK hC hinj (j := 135) (adF_o (by decide) (by decide)) (show KF 135 = (7, 0) by decide +kernel) (q := (27, 0)) (by simp) (by simp) rfl (fs := [.null, .null, .null, .null, .int 0, .int 0, .null, .int 0, .int 0, .int 0, .int 0, .int 0, .int 0, .int 0, .int 0, .int 0, .int 0, .null, .null, .null, .null, .int 0, .int 0, .null, .null, .null, .null, .null, .null, .null, .int 0]) rfl (by decide +kernel) ⟨Nat.le_of_ble_eq_true rfl, Nat.le_of_ble_eq_true rfl⟩ e3 (dc tbL_law_0_k 4 rfl) (fun H hC => ?_)
  refine lv_dup hx hb (dc tbL_law_0_k 5 rfl) rfl ?_
  obtain ⟨M4, _, q4, h1⟩ := cal_s h1
  refine c_callI hx hb hml hown hts hK hsx hex hC (nzE_set (by rw [show KF 135 = (7, 0) by decide +kernel]; simp) (by simp)) (As := []) (tX7_init l (k0 := 135) hinj kf_model (fun j hj => by have h8 := hC.2.2.1; rw [adF_o (by omega) (by omega)]; omega) (by have h8 := hC.2.2.1; rw [adF_o (by decide) (by decide)]; omega) q4) ci_X7_init q_t7_61 ⟨rfl, by decide +kernel⟩ rfl rfl rfl ⟨Nat.le_of_ble_eq_true rfl, Nat.le_of_ble_eq_true rfl⟩ hl.1 rfl (Nat.le_of_ble_eq_true rfl) (dc tbL_law_0_k 6 rfl) ⟨Nat.le_of_ble_eq_true rfl, Nat.le_of_ble_eq_true rfl⟩ (fun H locs hC => ?_)
  refine lv_astore_n (lv' := [(2, .ref (adF s.heap.size 135)), (1, .ref (adF s.heap.size 0)), (0, .ref b)]) hx hb (dc tbL_law_0_k 7 rfl) rfl hl (by decide) rfl (fun ls hl => ?_)
  refine lv_iconst (v := 1) hx hb (dc tbL_law_0_k 8 rfl) (by decide) ?_
  obtain ⟨M5, e5, h1⟩ := bnd_s h1
  refine c_newa (ty := .long) (n := 1) hx hb rfl q_t2_49 hts hC hinj (j := 152) (adF_o (by decide) (by decide)) (show KF 152 = (13, 1) by decide +kernel) (hK.2 3 _ rfl).2 rfl rfl ⟨by decide, by decide⟩ (Nat.le_of_ble_eq_true rfl) ⟨Nat.le_of_ble_eq_true rfl, Nat.le_of_ble_eq_true rfl⟩ e5 dL_law_17 (fun H hC => ?_)
  refine lv_astore_n (lv' := [(3, .ref (adF s.heap.size 152)), (2, .ref (adF s.heap.size 135)), (1, .ref (adF s.heap.size 0)), (0, .ref b)]) hx hb (dc tbL_law_0_k 9 rfl) rfl hl (by decide) rfl (fun ls hl => ?_)
  refine lv_iconst (v := 1) hx hb (dc tbL_law_0_k 10 rfl) (by decide) ?_
  obtain ⟨M6, e6, h1⟩ := bnd_s h1
  refine c_newa (ty := .double) (n := 1) hx hb rfl q_t10_21 hts hC hinj (j := 153) (adF_o (by decide) (by decide)) (show KF 153 = (14, 1) by decide +kernel) (hK.2 5 _ rfl).2 rfl rfl ⟨by decide, by decide⟩ (Nat.le_of_ble_eq_true rfl) ⟨Nat.le_of_ble_eq_true rfl, Nat.le_of_ble_eq_true rfl⟩ e6 dL_law_21 (fun H hC => ?_)
  refine lv_astore (lv' := [(4, .ref (adF s.heap.size 153)), (3, .ref (adF s.heap.size 152)), (2, .ref (adF s.heap.size 135)), (1, .ref (adF s.heap.size 0)), (0, .ref b)]) hx hb (dc tbL_law_0_k 11 rfl) hl (by decide) rfl (fun ls hl => ?_)
  refine lv_iconst (v := 0) hx hb (dc tbL_law_0_k 12 rfl) (by decide) ?_
  refine lv_istore (lv' := [(5, .int 0), (4, .ref (adF s.heap.size 153)), (3, .ref (adF s.heap.size 152)), (2, .ref (adF s.heap.size 135)), (1, .ref (adF s.heap.size 0)), (0, .ref b)]) hx hb (dc tbL_law_0_k 13 rfl) hl (by decide) rfl (fun ls hl => ?_)
  cases h1
  have hw : ∀ k, (KF k).1 ≠ 0 → va_at G.1 vwCl (adF s.heap.size k, ent (adF s.heap.size) G.2.1 (KF k) k (M0.1 k) (M0.2.1 k) (M0.2.2 k)) H := fun k hk => by
    have hlt := adF_lt (B := s.heap.size) (KF_lt hk)
    have h := hC.1 k (by rw [kdN_in (by omega)]; exact hk)
    rw [kdN_in (by omega)] at h
    exact h
  have hS : va_S (AS KF (adF s.heap.size) s.heap.size) s.heap H locs := hC.2.1
  have hI : Inv G kd1 (adF s.heap.size) s.heap M0 H locs := ⟨fun k hk => kx (kd1_in hk).2 hk (hw k), by rw [AS_ge] at hS ⊢; exact hS⟩
  have hJ : Inv G kd2 (adF s.heap.size) s.heap M0 H locs := ⟨fun k hk => kx (kd2_in hk).2 hk (hw k), by rw [AS_ge] at hS ⊢; exact hS⟩
  have hL9 : Lx p l s m #[Value.ref b] meth c b L xs G kd1 kd2 (adF s.heap.size) (adF s.heap.size) := ⟨hx, hb, hml, hown, hts, hK, fun k k' _ _ h => hinj _ _ h, fun k k' _ _ h => hinj _ _ h, by rw [AS_ge] at hsx ⊢; exact hsx, by rw [AS_ge] at hsx ⊢; exact hsx, hnc, hst, AS_ge.trans AS_ge.symm, fun k k' g1 g2 g3 => by have := (kd1_in g1).1; have := (kd2_in g2).1; have := hinj _ _ g3; omega, fun k k' g1 g2 g3 => by have := (kd2_in g1).1; have := (kd1_in g2).1; have := hinj _ _ g3; omega, hX, hbl, by rw [AS_ge]; exact Nat.not_le.mpr hbl, kd1_root, kd1_low, by decide +kernel, by decide +kernel, kd2_model⟩
  exact law_go0 ⟨by omega, by omega⟩ hL hr hlk (fun q h => by rw [AS_ge] at h; exact h) hP hP0 _ _ _ _ _ hL9 (by rw [h3]; exact kd1_Sb) hI hJ (lv_sub hl [5, 4, 3, 2, 1, 0] rfl)
end
/-! part 43.flags -/
section
theorem flags_st (l : Launch) (h : l.flags = flags0) : l.stackTraces = false := by
  unfold Launch.stackTraces
  rw [h, Bool.not_eq_false', List.contains_iff_mem]
  unfold flags0
  exact List.mem_append_right _ List.mem_cons_self
end
