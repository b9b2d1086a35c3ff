section JE
theorem jm_u1 {w : Cond} (i : Nat) (h : tables_1_1[i]? = some w) : w ∈ lw_tbl := List.mem_append_right _ (List.mem_append_left _ (List.mem_of_getElem? h))
theorem jm_u2 {w : Cond} (i : Nat) (h : tables_1_2[i]? = some w) : w ∈ lw_tbl := List.mem_append_right _ (List.mem_append_right _ (List.mem_append_left _ (List.mem_of_getElem? h)))
theorem jm_u3 {w : Cond} (i : Nat) (h : tables_1_3[i]? = some w) : w ∈ lw_tbl := List.mem_append_right _ (List.mem_append_right _ (List.mem_append_right _ (List.mem_append_left _ (List.mem_of_getElem? h))))
theorem jm_u4 {w : Cond} (i : Nat) (h : tables_1_4[i]? = some w) : w ∈ lw_tbl := List.mem_append_right _ (List.mem_append_right _ (List.mem_append_right _ (List.mem_append_right _ (List.mem_append_left _ (List.mem_of_getElem? h)))))
theorem jm_u5 {w : Cond} (i : Nat) (h : tables_1_5[i]? = some w) : w ∈ lw_tbl := List.mem_append_right _ (List.mem_append_right _ (List.mem_append_right _ (List.mem_append_right _ (List.mem_append_right _ (List.mem_append_left _ (List.mem_of_getElem? h))))))
theorem jm_u6 {w : Cond} (i : Nat) (h : tables_1_6[i]? = some w) : w ∈ lw_tbl := List.mem_append_right _ (List.mem_append_right _ (List.mem_append_right _ (List.mem_append_right _ (List.mem_append_right _ (List.mem_append_right _ (List.mem_append_left _ (List.mem_of_getElem? h)))))))
theorem jm_u7 {w : Cond} (i : Nat) (h : tables_1_7[i]? = some w) : w ∈ lw_tbl := List.mem_append_right _ (List.mem_append_right _ (List.mem_append_right _ (List.mem_append_right _ (List.mem_append_right _ (List.mem_append_right _ (List.mem_append_right _ (List.mem_of_getElem? h)))))))
/-- the words of the start that are used -/
def jx_nws : List Cond := [Jvm.Cond.count (1 : Nat), Jvm.Cond.isRef (Jvm.Term.arg (0 : Nat)), Jvm.Cond.arrayOf (Jvm.Term.arg (0 : Nat)) Jvm.ClassFile.FieldType.int, Jvm.Cond.le (Jvm.Term.length (Jvm.Term.arg (0 : Nat))) (Jvm.Term.int (5632 : Int32)), Jvm.Cond.isRef (Jvm.Term.static "java/lang/Throwable" "UNASSIGNED_STACK" "[Ljava/lang/StackTraceElement;"), Jvm.Cond.isRef (Jvm.Term.static "java/lang/Throwable" "SUPPRESSED_SENTINEL" "Ljava/util/List;"), Jvm.Cond.eq (Jvm.Term.static "java/lang/String" "COMPACT_STRINGS" "Z") (Jvm.Term.int (1 : Int32)), Jvm.Cond.isRef (Jvm.Term.static "jdk/internal/util/Preconditions" "SIOOBE_FORMATTER" "Ljava/util/function/BiFunction;"), Jvm.Cond.isRef (Jvm.Term.static "JobHouseModel" "LEAST" "[I"), Jvm.Cond.arrayOf (Jvm.Term.static "JobHouseModel" "LEAST" "[I") Jvm.ClassFile.FieldType.int, Jvm.Cond.eq (Jvm.Term.length (Jvm.Term.static "JobHouseModel" "LEAST" "[I")) (Jvm.Term.int (7 : Int32)), Jvm.Cond.eq (Jvm.Term.elem (Jvm.Term.static "JobHouseModel" "LEAST" "[I") (Jvm.Term.int (0 : Int32))) (Jvm.Term.int (0 : Int32)), Jvm.Cond.eq (Jvm.Term.elem (Jvm.Term.static "JobHouseModel" "LEAST" "[I") (Jvm.Term.int (1 : Int32))) (Jvm.Term.int (0 : Int32)), Jvm.Cond.eq (Jvm.Term.elem (Jvm.Term.static "JobHouseModel" "LEAST" "[I") (Jvm.Term.int (2 : Int32))) (Jvm.Term.int (0 : Int32)), Jvm.Cond.eq (Jvm.Term.elem (Jvm.Term.static "JobHouseModel" "LEAST" "[I") (Jvm.Term.int (3 : Int32))) (Jvm.Term.int (1 : Int32)), Jvm.Cond.eq (Jvm.Term.elem (Jvm.Term.static "JobHouseModel" "LEAST" "[I") (Jvm.Term.int (4 : Int32))) (Jvm.Term.int (1 : Int32)), Jvm.Cond.eq (Jvm.Term.elem (Jvm.Term.static "JobHouseModel" "LEAST" "[I") (Jvm.Term.int (5 : Int32))) (Jvm.Term.int (1 : Int32)), Jvm.Cond.eq (Jvm.Term.elem (Jvm.Term.static "JobHouseModel" "LEAST" "[I") (Jvm.Term.int (6 : Int32))) (Jvm.Term.int (1970 : Int32)), Jvm.Cond.isRef (Jvm.Term.static "JobHouseModel" "MOSTS" "[I"), Jvm.Cond.arrayOf (Jvm.Term.static "JobHouseModel" "MOSTS" "[I") Jvm.ClassFile.FieldType.int, Jvm.Cond.eq (Jvm.Term.length (Jvm.Term.static "JobHouseModel" "MOSTS" "[I")) (Jvm.Term.int (7 : Int32)), Jvm.Cond.eq (Jvm.Term.elem (Jvm.Term.static "JobHouseModel" "MOSTS" "[I") (Jvm.Term.int (0 : Int32))) (Jvm.Term.int (59 : Int32)), Jvm.Cond.eq (Jvm.Term.elem (Jvm.Term.static "JobHouseModel" "MOSTS" "[I") (Jvm.Term.int (1 : Int32))) (Jvm.Term.int (59 : Int32)), Jvm.Cond.eq (Jvm.Term.elem (Jvm.Term.static "JobHouseModel" "MOSTS" "[I") (Jvm.Term.int (2 : Int32))) (Jvm.Term.int (23 : Int32)), Jvm.Cond.eq (Jvm.Term.elem (Jvm.Term.static "JobHouseModel" "MOSTS" "[I") (Jvm.Term.int (3 : Int32))) (Jvm.Term.int (31 : Int32)), Jvm.Cond.eq (Jvm.Term.elem (Jvm.Term.static "JobHouseModel" "MOSTS" "[I") (Jvm.Term.int (4 : Int32))) (Jvm.Term.int (12 : Int32)), Jvm.Cond.eq (Jvm.Term.elem (Jvm.Term.static "JobHouseModel" "MOSTS" "[I") (Jvm.Term.int (5 : Int32))) (Jvm.Term.int (7 : Int32)), Jvm.Cond.eq (Jvm.Term.elem (Jvm.Term.static "JobHouseModel" "MOSTS" "[I") (Jvm.Term.int (6 : Int32))) (Jvm.Term.int (2299 : Int32)), Jvm.Cond.not (Jvm.Cond.castable "java/lang/IllegalArgumentException" "java/lang/IndexOutOfBoundsException"), Jvm.Cond.not (Jvm.Cond.castable "java/lang/UnsupportedOperationException" "java/lang/IndexOutOfBoundsException"), Jvm.Cond.not (Jvm.Cond.castable "java/lang/IllegalStateException" "java/lang/IndexOutOfBoundsException"), Jvm.Cond.not (Jvm.Cond.castable "java/util/NoSuchElementException" "java/lang/IndexOutOfBoundsException"), Jvm.Cond.not (Jvm.Cond.castable "java/lang/IndexOutOfBoundsException" "java/lang/IllegalArgumentException"), Jvm.Cond.not (Jvm.Cond.castable "java/lang/UnsupportedOperationException" "java/lang/IllegalArgumentException"), Jvm.Cond.not (Jvm.Cond.castable "java/lang/IllegalStateException" "java/lang/IllegalArgumentException"), Jvm.Cond.not (Jvm.Cond.castable "java/util/NoSuchElementException" "java/lang/IllegalArgumentException"), Jvm.Cond.not (Jvm.Cond.castable "java/lang/IndexOutOfBoundsException" "java/lang/UnsupportedOperationException"), Jvm.Cond.not (Jvm.Cond.castable "java/lang/IllegalArgumentException" "java/lang/UnsupportedOperationException"), Jvm.Cond.not (Jvm.Cond.castable "java/lang/IllegalStateException" "java/lang/UnsupportedOperationException"), Jvm.Cond.not (Jvm.Cond.castable "java/util/NoSuchElementException" "java/lang/UnsupportedOperationException"), Jvm.Cond.not (Jvm.Cond.castable "java/lang/IndexOutOfBoundsException" "java/lang/IllegalStateException"), Jvm.Cond.not (Jvm.Cond.castable "java/lang/IllegalArgumentException" "java/lang/IllegalStateException"), Jvm.Cond.not (Jvm.Cond.castable "java/lang/UnsupportedOperationException" "java/lang/IllegalStateException"), Jvm.Cond.not (Jvm.Cond.castable "java/util/NoSuchElementException" "java/lang/IllegalStateException"), Jvm.Cond.not (Jvm.Cond.castable "java/lang/IndexOutOfBoundsException" "java/util/NoSuchElementException"), Jvm.Cond.not (Jvm.Cond.castable "java/lang/IllegalArgumentException" "java/util/NoSuchElementException"), Jvm.Cond.not (Jvm.Cond.castable "java/lang/UnsupportedOperationException" "java/util/NoSuchElementException"), Jvm.Cond.not (Jvm.Cond.castable "java/lang/IllegalStateException" "java/util/NoSuchElementException"), Jvm.Cond.exactly (Jvm.Term.string "JobHouse$CronReader" (93 : Nat)) "java/lang/String", Jvm.Cond.eq (Jvm.Term.field (Jvm.Term.string "JobHouse$CronReader" (93 : Nat)) "java/lang/String" "coder" "B") (Jvm.Term.int (0 : Int32)), Jvm.Cond.arrayOf (Jvm.Term.field (Jvm.Term.string "JobHouse$CronReader" (93 : Nat)) "java/lang/String" "value" "[B") Jvm.ClassFile.FieldType.byte, Jvm.Cond.eq (Jvm.Term.length (Jvm.Term.field (Jvm.Term.string "JobHouse$CronReader" (93 : Nat)) "java/lang/String" "value" "[B")) (Jvm.Term.int (36 : Int32)), Jvm.Cond.eq (Jvm.Term.elem (Jvm.Term.field (Jvm.Term.string "JobHouse$CronReader" (93 : Nat)) "java/lang/String" "value" "[B") (Jvm.Term.int (0 : Int32))) (Jvm.Term.int (74 : Int32)), Jvm.Cond.eq (Jvm.Term.elem (Jvm.Term.field (Jvm.Term.string "JobHouse$CronReader" (93 : Nat)) "java/lang/String" "value" "[B") (Jvm.Term.int (1 : Int32))) (Jvm.Term.int (65 : Int32)), Jvm.Cond.eq (Jvm.Term.elem (Jvm.Term.field (Jvm.Term.string "JobHouse$CronReader" (93 : Nat)) "java/lang/String" "value" "[B") (Jvm.Term.int (2 : Int32))) (Jvm.Term.int (78 : Int32)), Jvm.Cond.eq (Jvm.Term.elem (Jvm.Term.field (Jvm.Term.string "JobHouse$CronReader" (93 : Nat)) "java/lang/String" "value" "[B") (Jvm.Term.int (3 : Int32))) (Jvm.Term.int (70 : Int32)), Jvm.Cond.eq (Jvm.Term.elem (Jvm.Term.field (Jvm.Term.string "JobHouse$CronReader" (93 : Nat)) "java/lang/String" "value" "[B") (Jvm.Term.int (4 : Int32))) (Jvm.Term.int (69 : Int32)), Jvm.Cond.eq (Jvm.Term.elem (Jvm.Term.field (Jvm.Term.string "JobHouse$CronReader" (93 : Nat)) "java/lang/String" "value" "[B") (Jvm.Term.int (5 : Int32))) (Jvm.Term.int (66 : Int32)), Jvm.Cond.eq (Jvm.Term.elem (Jvm.Term.field (Jvm.Term.string "JobHouse$CronReader" (93 : Nat)) "java/lang/String" "value" "[B") (Jvm.Term.int (6 : Int32))) (Jvm.Term.int (77 : Int32)), Jvm.Cond.eq (Jvm.Term.elem (Jvm.Term.field (Jvm.Term.string "JobHouse$CronReader" (93 : Nat)) "java/lang/String" "value" "[B") (Jvm.Term.int (7 : Int32))) (Jvm.Term.int (65 : Int32)), Jvm.Cond.eq (Jvm.Term.elem (Jvm.Term.field (Jvm.Term.string "JobHouse$CronReader" (93 : Nat)) "java/lang/String" "value" "[B") (Jvm.Term.int (8 : Int32))) (Jvm.Term.int (82 : Int32)), Jvm.Cond.eq (Jvm.Term.elem (Jvm.Term.field (Jvm.Term.string "JobHouse$CronReader" (93 : Nat)) "java/lang/String" "value" "[B") (Jvm.Term.int (9 : Int32))) (Jvm.Term.int (65 : Int32)), Jvm.Cond.eq (Jvm.Term.elem (Jvm.Term.field (Jvm.Term.string "JobHouse$CronReader" (93 : Nat)) "java/lang/String" "value" "[B") (Jvm.Term.int (10 : Int32))) (Jvm.Term.int (80 : Int32)), Jvm.Cond.eq (Jvm.Term.elem (Jvm.Term.field (Jvm.Term.string "JobHouse$CronReader" (93 : Nat)) "java/lang/String" "value" "[B") (Jvm.Term.int (11 : Int32))) (Jvm.Term.int (82 : Int32)), Jvm.Cond.eq (Jvm.Term.elem (Jvm.Term.field (Jvm.Term.string "JobHouse$CronReader" (93 : Nat)) "java/lang/String" "value" "[B") (Jvm.Term.int (12 : Int32))) (Jvm.Term.int (77 : Int32)), Jvm.Cond.eq (Jvm.Term.elem (Jvm.Term.field (Jvm.Term.string "JobHouse$CronReader" (93 : Nat)) "java/lang/String" "value" "[B") (Jvm.Term.int (13 : Int32))) (Jvm.Term.int (65 : Int32)), Jvm.Cond.eq (Jvm.Term.elem (Jvm.Term.field (Jvm.Term.string "JobHouse$CronReader" (93 : Nat)) "java/lang/String" "value" "[B") (Jvm.Term.int (14 : Int32))) (Jvm.Term.int (89 : Int32)), Jvm.Cond.eq (Jvm.Term.elem (Jvm.Term.field (Jvm.Term.string "JobHouse$CronReader" (93 : Nat)) "java/lang/String" "value" "[B") (Jvm.Term.int (15 : Int32))) (Jvm.Term.int (74 : Int32)), Jvm.Cond.eq (Jvm.Term.elem (Jvm.Term.field (Jvm.Term.string "JobHouse$CronReader" (93 : Nat)) "java/lang/String" "value" "[B") (Jvm.Term.int (16 : Int32))) (Jvm.Term.int (85 : Int32)), Jvm.Cond.eq (Jvm.Term.elem (Jvm.Term.field (Jvm.Term.string "JobHouse$CronReader" (93 : Nat)) "java/lang/String" "value" "[B") (Jvm.Term.int (17 : Int32))) (Jvm.Term.int (78 : Int32)), Jvm.Cond.eq (Jvm.Term.elem (Jvm.Term.field (Jvm.Term.string "JobHouse$CronReader" (93 : Nat)) "java/lang/String" "value" "[B") (Jvm.Term.int (18 : Int32))) (Jvm.Term.int (74 : Int32)), Jvm.Cond.eq (Jvm.Term.elem (Jvm.Term.field (Jvm.Term.string "JobHouse$CronReader" (93 : Nat)) "java/lang/String" "value" "[B") (Jvm.Term.int (19 : Int32))) (Jvm.Term.int (85 : Int32)), Jvm.Cond.eq (Jvm.Term.elem (Jvm.Term.field (Jvm.Term.string "JobHouse$CronReader" (93 : Nat)) "java/lang/String" "value" "[B") (Jvm.Term.int (20 : Int32))) (Jvm.Term.int (76 : Int32)), Jvm.Cond.eq (Jvm.Term.elem (Jvm.Term.field (Jvm.Term.string "JobHouse$CronReader" (93 : Nat)) "java/lang/String" "value" "[B") (Jvm.Term.int (21 : Int32))) (Jvm.Term.int (65 : Int32)), Jvm.Cond.eq (Jvm.Term.elem (Jvm.Term.field (Jvm.Term.string "JobHouse$CronReader" (93 : Nat)) "java/lang/String" "value" "[B") (Jvm.Term.int (22 : Int32))) (Jvm.Term.int (85 : Int32)), Jvm.Cond.eq (Jvm.Term.elem (Jvm.Term.field (Jvm.Term.string "JobHouse$CronReader" (93 : Nat)) "java/lang/String" "value" "[B") (Jvm.Term.int (23 : Int32))) (Jvm.Term.int (71 : Int32)), Jvm.Cond.eq (Jvm.Term.elem (Jvm.Term.field (Jvm.Term.string "JobHouse$CronReader" (93 : Nat)) "java/lang/String" "value" "[B") (Jvm.Term.int (24 : Int32))) (Jvm.Term.int (83 : Int32)), Jvm.Cond.eq (Jvm.Term.elem (Jvm.Term.field (Jvm.Term.string "JobHouse$CronReader" (93 : Nat)) "java/lang/String" "value" "[B") (Jvm.Term.int (25 : Int32))) (Jvm.Term.int (69 : Int32)), Jvm.Cond.eq (Jvm.Term.elem (Jvm.Term.field (Jvm.Term.string "JobHouse$CronReader" (93 : Nat)) "java/lang/String" "value" "[B") (Jvm.Term.int (26 : Int32))) (Jvm.Term.int (80 : Int32)), Jvm.Cond.eq (Jvm.Term.elem (Jvm.Term.field (Jvm.Term.string "JobHouse$CronReader" (93 : Nat)) "java/lang/String" "value" "[B") (Jvm.Term.int (27 : Int32))) (Jvm.Term.int (79 : Int32)), Jvm.Cond.eq (Jvm.Term.elem (Jvm.Term.field (Jvm.Term.string "JobHouse$CronReader" (93 : Nat)) "java/lang/String" "value" "[B") (Jvm.Term.int (28 : Int32))) (Jvm.Term.int (67 : Int32)), Jvm.Cond.eq (Jvm.Term.elem (Jvm.Term.field (Jvm.Term.string "JobHouse$CronReader" (93 : Nat)) "java/lang/String" "value" "[B") (Jvm.Term.int (29 : Int32))) (Jvm.Term.int (84 : Int32)), Jvm.Cond.eq (Jvm.Term.elem (Jvm.Term.field (Jvm.Term.string "JobHouse$CronReader" (93 : Nat)) "java/lang/String" "value" "[B") (Jvm.Term.int (30 : Int32))) (Jvm.Term.int (78 : Int32)), Jvm.Cond.eq (Jvm.Term.elem (Jvm.Term.field (Jvm.Term.string "JobHouse$CronReader" (93 : Nat)) "java/lang/String" "value" "[B") (Jvm.Term.int (31 : Int32))) (Jvm.Term.int (79 : Int32)), Jvm.Cond.eq (Jvm.Term.elem (Jvm.Term.field (Jvm.Term.string "JobHouse$CronReader" (93 : Nat)) "java/lang/String" "value" "[B") (Jvm.Term.int (32 : Int32))) (Jvm.Term.int (86 : Int32)), Jvm.Cond.eq (Jvm.Term.elem (Jvm.Term.field (Jvm.Term.string "JobHouse$CronReader" (93 : Nat)) "java/lang/String" "value" "[B") (Jvm.Term.int (33 : Int32))) (Jvm.Term.int (68 : Int32)), Jvm.Cond.eq (Jvm.Term.elem (Jvm.Term.field (Jvm.Term.string "JobHouse$CronReader" (93 : Nat)) "java/lang/String" "value" "[B") (Jvm.Term.int (34 : Int32))) (Jvm.Term.int (69 : Int32)), Jvm.Cond.eq (Jvm.Term.elem (Jvm.Term.field (Jvm.Term.string "JobHouse$CronReader" (93 : Nat)) "java/lang/String" "value" "[B") (Jvm.Term.int (35 : Int32))) (Jvm.Term.int (67 : Int32)), Jvm.Cond.exactly (Jvm.Term.string "JobHouse$CronReader" (99 : Nat)) "java/lang/String", Jvm.Cond.eq (Jvm.Term.field (Jvm.Term.string "JobHouse$CronReader" (99 : Nat)) "java/lang/String" "coder" "B") (Jvm.Term.int (0 : Int32)), Jvm.Cond.arrayOf (Jvm.Term.field (Jvm.Term.string "JobHouse$CronReader" (99 : Nat)) "java/lang/String" "value" "[B") Jvm.ClassFile.FieldType.byte, Jvm.Cond.eq (Jvm.Term.length (Jvm.Term.field (Jvm.Term.string "JobHouse$CronReader" (99 : Nat)) "java/lang/String" "value" "[B")) (Jvm.Term.int (21 : Int32)), Jvm.Cond.eq (Jvm.Term.elem (Jvm.Term.field (Jvm.Term.string "JobHouse$CronReader" (99 : Nat)) "java/lang/String" "value" "[B") (Jvm.Term.int (0 : Int32))) (Jvm.Term.int (83 : Int32)), Jvm.Cond.eq (Jvm.Term.elem (Jvm.Term.field (Jvm.Term.string "JobHouse$CronReader" (99 : Nat)) "java/lang/String" "value" "[B") (Jvm.Term.int (1 : Int32))) (Jvm.Term.int (85 : Int32)), Jvm.Cond.eq (Jvm.Term.elem (Jvm.Term.field (Jvm.Term.string "JobHouse$CronReader" (99 : Nat)) "java/lang/String" "value" "[B") (Jvm.Term.int (2 : Int32))) (Jvm.Term.int (78 : Int32)), Jvm.Cond.eq (Jvm.Term.elem (Jvm.Term.field (Jvm.Term.string "JobHouse$CronReader" (99 : Nat)) "java/lang/String" "value" "[B") (Jvm.Term.int (3 : Int32))) (Jvm.Term.int (77 : Int32)), Jvm.Cond.eq (Jvm.Term.elem (Jvm.Term.field (Jvm.Term.string "JobHouse$CronReader" (99 : Nat)) "java/lang/String" "value" "[B") (Jvm.Term.int (4 : Int32))) (Jvm.Term.int (79 : Int32)), Jvm.Cond.eq (Jvm.Term.elem (Jvm.Term.field (Jvm.Term.string "JobHouse$CronReader" (99 : Nat)) "java/lang/String" "value" "[B") (Jvm.Term.int (5 : Int32))) (Jvm.Term.int (78 : Int32)), Jvm.Cond.eq (Jvm.Term.elem (Jvm.Term.field (Jvm.Term.string "JobHouse$CronReader" (99 : Nat)) "java/lang/String" "value" "[B") (Jvm.Term.int (6 : Int32))) (Jvm.Term.int (84 : Int32)), Jvm.Cond.eq (Jvm.Term.elem (Jvm.Term.field (Jvm.Term.string "JobHouse$CronReader" (99 : Nat)) "java/lang/String" "value" "[B") (Jvm.Term.int (7 : Int32))) (Jvm.Term.int (85 : Int32)), Jvm.Cond.eq (Jvm.Term.elem (Jvm.Term.field (Jvm.Term.string "JobHouse$CronReader" (99 : Nat)) "java/lang/String" "value" "[B") (Jvm.Term.int (8 : Int32))) (Jvm.Term.int (69 : Int32)), Jvm.Cond.eq (Jvm.Term.elem (Jvm.Term.field (Jvm.Term.string "JobHouse$CronReader" (99 : Nat)) "java/lang/String" "value" "[B") (Jvm.Term.int (9 : Int32))) (Jvm.Term.int (87 : Int32)), Jvm.Cond.eq (Jvm.Term.elem (Jvm.Term.field (Jvm.Term.string "JobHouse$CronReader" (99 : Nat)) "java/lang/String" "value" "[B") (Jvm.Term.int (10 : Int32))) (Jvm.Term.int (69 : Int32)), Jvm.Cond.eq (Jvm.Term.elem (Jvm.Term.field (Jvm.Term.string "JobHouse$CronReader" (99 : Nat)) "java/lang/String" "value" "[B") (Jvm.Term.int (11 : Int32))) (Jvm.Term.int (68 : Int32)), Jvm.Cond.eq (Jvm.Term.elem (Jvm.Term.field (Jvm.Term.string "JobHouse$CronReader" (99 : Nat)) "java/lang/String" "value" "[B") (Jvm.Term.int (12 : Int32))) (Jvm.Term.int (84 : Int32)), Jvm.Cond.eq (Jvm.Term.elem (Jvm.Term.field (Jvm.Term.string "JobHouse$CronReader" (99 : Nat)) "java/lang/String" "value" "[B") (Jvm.Term.int (13 : Int32))) (Jvm.Term.int (72 : Int32)), Jvm.Cond.eq (Jvm.Term.elem (Jvm.Term.field (Jvm.Term.string "JobHouse$CronReader" (99 : Nat)) "java/lang/String" "value" "[B") (Jvm.Term.int (14 : Int32))) (Jvm.Term.int (85 : Int32)), Jvm.Cond.eq (Jvm.Term.elem (Jvm.Term.field (Jvm.Term.string "JobHouse$CronReader" (99 : Nat)) "java/lang/String" "value" "[B") (Jvm.Term.int (15 : Int32))) (Jvm.Term.int (70 : Int32)), Jvm.Cond.eq (Jvm.Term.elem (Jvm.Term.field (Jvm.Term.string "JobHouse$CronReader" (99 : Nat)) "java/lang/String" "value" "[B") (Jvm.Term.int (16 : Int32))) (Jvm.Term.int (82 : Int32)), Jvm.Cond.eq (Jvm.Term.elem (Jvm.Term.field (Jvm.Term.string "JobHouse$CronReader" (99 : Nat)) "java/lang/String" "value" "[B") (Jvm.Term.int (17 : Int32))) (Jvm.Term.int (73 : Int32)), Jvm.Cond.eq (Jvm.Term.elem (Jvm.Term.field (Jvm.Term.string "JobHouse$CronReader" (99 : Nat)) "java/lang/String" "value" "[B") (Jvm.Term.int (18 : Int32))) (Jvm.Term.int (83 : Int32)), Jvm.Cond.eq (Jvm.Term.elem (Jvm.Term.field (Jvm.Term.string "JobHouse$CronReader" (99 : Nat)) "java/lang/String" "value" "[B") (Jvm.Term.int (19 : Int32))) (Jvm.Term.int (65 : Int32)), Jvm.Cond.eq (Jvm.Term.elem (Jvm.Term.field (Jvm.Term.string "JobHouse$CronReader" (99 : Nat)) "java/lang/String" "value" "[B") (Jvm.Term.int (20 : Int32))) (Jvm.Term.int (84 : Int32)), Jvm.Cond.exactly (Jvm.Term.string "JobHouseModel" (65 : Nat)) "java/lang/String", Jvm.Cond.eq (Jvm.Term.field (Jvm.Term.string "JobHouseModel" (65 : Nat)) "java/lang/String" "coder" "B") (Jvm.Term.int (0 : Int32)), Jvm.Cond.arrayOf (Jvm.Term.field (Jvm.Term.string "JobHouseModel" (65 : Nat)) "java/lang/String" "value" "[B") Jvm.ClassFile.FieldType.byte, Jvm.Cond.eq (Jvm.Term.length (Jvm.Term.field (Jvm.Term.string "JobHouseModel" (65 : Nat)) "java/lang/String" "value" "[B")) (Jvm.Term.int (3 : Int32)), Jvm.Cond.eq (Jvm.Term.elem (Jvm.Term.field (Jvm.Term.string "JobHouseModel" (65 : Nat)) "java/lang/String" "value" "[B") (Jvm.Term.int (0 : Int32))) (Jvm.Term.int (74 : Int32)), Jvm.Cond.eq (Jvm.Term.elem (Jvm.Term.field (Jvm.Term.string "JobHouseModel" (65 : Nat)) "java/lang/String" "value" "[B") (Jvm.Term.int (1 : Int32))) (Jvm.Term.int (65 : Int32)), Jvm.Cond.eq (Jvm.Term.elem (Jvm.Term.field (Jvm.Term.string "JobHouseModel" (65 : Nat)) "java/lang/String" "value" "[B") (Jvm.Term.int (2 : Int32))) (Jvm.Term.int (78 : Int32)), Jvm.Cond.exactly (Jvm.Term.string "JobHouseModel" (67 : Nat)) "java/lang/String", Jvm.Cond.eq (Jvm.Term.field (Jvm.Term.string "JobHouseModel" (67 : Nat)) "java/lang/String" "coder" "B") (Jvm.Term.int (0 : Int32)), Jvm.Cond.arrayOf (Jvm.Term.field (Jvm.Term.string "JobHouseModel" (67 : Nat)) "java/lang/String" "value" "[B") Jvm.ClassFile.FieldType.byte, Jvm.Cond.eq (Jvm.Term.length (Jvm.Term.field (Jvm.Term.string "JobHouseModel" (67 : Nat)) "java/lang/String" "value" "[B")) (Jvm.Term.int (3 : Int32)), Jvm.Cond.eq (Jvm.Term.elem (Jvm.Term.field (Jvm.Term.string "JobHouseModel" (67 : Nat)) "java/lang/String" "value" "[B") (Jvm.Term.int (0 : Int32))) (Jvm.Term.int (70 : Int32)), Jvm.Cond.eq (Jvm.Term.elem (Jvm.Term.field (Jvm.Term.string "JobHouseModel" (67 : Nat)) "java/lang/String" "value" "[B") (Jvm.Term.int (1 : Int32))) (Jvm.Term.int (69 : Int32)), Jvm.Cond.eq (Jvm.Term.elem (Jvm.Term.field (Jvm.Term.string "JobHouseModel" (67 : Nat)) "java/lang/String" "value" "[B") (Jvm.Term.int (2 : Int32))) (Jvm.Term.int (66 : Int32)), Jvm.Cond.exactly (Jvm.Term.string "JobHouseModel" (69 : Nat)) "java/lang/String", Jvm.Cond.eq (Jvm.Term.field (Jvm.Term.string "JobHouseModel" (69 : Nat)) "java/lang/String" "coder" "B") (Jvm.Term.int (0 : Int32)), Jvm.Cond.arrayOf (Jvm.Term.field (Jvm.Term.string "JobHouseModel" (69 : Nat)) "java/lang/String" "value" "[B") Jvm.ClassFile.FieldType.byte, Jvm.Cond.eq (Jvm.Term.length (Jvm.Term.field (Jvm.Term.string "JobHouseModel" (69 : Nat)) "java/lang/String" "value" "[B")) (Jvm.Term.int (3 : Int32)), Jvm.Cond.eq (Jvm.Term.elem (Jvm.Term.field (Jvm.Term.string "JobHouseModel" (69 : Nat)) "java/lang/String" "value" "[B") (Jvm.Term.int (0 : Int32))) (Jvm.Term.int (77 : Int32)), Jvm.Cond.eq (Jvm.Term.elem (Jvm.Term.field (Jvm.Term.string "JobHouseModel" (69 : Nat)) "java/lang/String" "value" "[B") (Jvm.Term.int (1 : Int32))) (Jvm.Term.int (65 : Int32)), Jvm.Cond.eq (Jvm.Term.elem (Jvm.Term.field (Jvm.Term.string "JobHouseModel" (69 : Nat)) "java/lang/String" "value" "[B") (Jvm.Term.int (2 : Int32))) (Jvm.Term.int (82 : Int32)), Jvm.Cond.exactly (Jvm.Term.string "JobHouseModel" (71 : Nat)) "java/lang/String", Jvm.Cond.eq (Jvm.Term.field (Jvm.Term.string "JobHouseModel" (71 : Nat)) "java/lang/String" "coder" "B") (Jvm.Term.int (0 : Int32)), Jvm.Cond.arrayOf (Jvm.Term.field (Jvm.Term.string "JobHouseModel" (71 : Nat)) "java/lang/String" "value" "[B") Jvm.ClassFile.FieldType.byte, Jvm.Cond.eq (Jvm.Term.length (Jvm.Term.field (Jvm.Term.string "JobHouseModel" (71 : Nat)) "java/lang/String" "value" "[B")) (Jvm.Term.int (3 : Int32)), Jvm.Cond.eq (Jvm.Term.elem (Jvm.Term.field (Jvm.Term.string "JobHouseModel" (71 : Nat)) "java/lang/String" "value" "[B") (Jvm.Term.int (0 : Int32))) (Jvm.Term.int (65 : Int32)), Jvm.Cond.eq (Jvm.Term.elem (Jvm.Term.field (Jvm.Term.string "JobHouseModel" (71 : Nat)) "java/lang/String" "value" "[B") (Jvm.Term.int (1 : Int32))) (Jvm.Term.int (80 : Int32)), Jvm.Cond.eq (Jvm.Term.elem (Jvm.Term.field (Jvm.Term.string "JobHouseModel" (71 : Nat)) "java/lang/String" "value" "[B") (Jvm.Term.int (2 : Int32))) (Jvm.Term.int (82 : Int32)), Jvm.Cond.exactly (Jvm.Term.string "JobHouseModel" (73 : Nat)) "java/lang/String", Jvm.Cond.eq (Jvm.Term.field (Jvm.Term.string "JobHouseModel" (73 : Nat)) "java/lang/String" "coder" "B") (Jvm.Term.int (0 : Int32)), Jvm.Cond.arrayOf (Jvm.Term.field (Jvm.Term.string "JobHouseModel" (73 : Nat)) "java/lang/String" "value" "[B") Jvm.ClassFile.FieldType.byte, Jvm.Cond.eq (Jvm.Term.length (Jvm.Term.field (Jvm.Term.string "JobHouseModel" (73 : Nat)) "java/lang/String" "value" "[B")) (Jvm.Term.int (3 : Int32)), Jvm.Cond.eq (Jvm.Term.elem (Jvm.Term.field (Jvm.Term.string "JobHouseModel" (73 : Nat)) "java/lang/String" "value" "[B") (Jvm.Term.int (0 : Int32))) (Jvm.Term.int (77 : Int32)), Jvm.Cond.eq (Jvm.Term.elem (Jvm.Term.field (Jvm.Term.string "JobHouseModel" (73 : Nat)) "java/lang/String" "value" "[B") (Jvm.Term.int (1 : Int32))) (Jvm.Term.int (65 : Int32)), Jvm.Cond.eq (Jvm.Term.elem (Jvm.Term.field (Jvm.Term.string "JobHouseModel" (73 : Nat)) "java/lang/String" "value" "[B") (Jvm.Term.int (2 : Int32))) (Jvm.Term.int (89 : Int32)), Jvm.Cond.exactly (Jvm.Term.string "JobHouseModel" (75 : Nat)) "java/lang/String", Jvm.Cond.eq (Jvm.Term.field (Jvm.Term.string "JobHouseModel" (75 : Nat)) "java/lang/String" "coder" "B") (Jvm.Term.int (0 : Int32)), Jvm.Cond.arrayOf (Jvm.Term.field (Jvm.Term.string "JobHouseModel" (75 : Nat)) "java/lang/String" "value" "[B") Jvm.ClassFile.FieldType.byte, Jvm.Cond.eq (Jvm.Term.length (Jvm.Term.field (Jvm.Term.string "JobHouseModel" (75 : Nat)) "java/lang/String" "value" "[B")) (Jvm.Term.int (3 : Int32)), Jvm.Cond.eq (Jvm.Term.elem (Jvm.Term.field (Jvm.Term.string "JobHouseModel" (75 : Nat)) "java/lang/String" "value" "[B") (Jvm.Term.int (0 : Int32))) (Jvm.Term.int (74 : Int32)), Jvm.Cond.eq (Jvm.Term.elem (Jvm.Term.field (Jvm.Term.string "JobHouseModel" (75 : Nat)) "java/lang/String" "value" "[B") (Jvm.Term.int (1 : Int32))) (Jvm.Term.int (85 : Int32)), Jvm.Cond.eq (Jvm.Term.elem (Jvm.Term.field (Jvm.Term.string "JobHouseModel" (75 : Nat)) "java/lang/String" "value" "[B") (Jvm.Term.int (2 : Int32))) (Jvm.Term.int (78 : Int32)), Jvm.Cond.exactly (Jvm.Term.string "JobHouseModel" (77 : Nat)) "java/lang/String", Jvm.Cond.eq (Jvm.Term.field (Jvm.Term.string "JobHouseModel" (77 : Nat)) "java/lang/String" "coder" "B") (Jvm.Term.int (0 : Int32)), Jvm.Cond.arrayOf (Jvm.Term.field (Jvm.Term.string "JobHouseModel" (77 : Nat)) "java/lang/String" "value" "[B") Jvm.ClassFile.FieldType.byte, Jvm.Cond.eq (Jvm.Term.length (Jvm.Term.field (Jvm.Term.string "JobHouseModel" (77 : Nat)) "java/lang/String" "value" "[B")) (Jvm.Term.int (3 : Int32)), Jvm.Cond.eq (Jvm.Term.elem (Jvm.Term.field (Jvm.Term.string "JobHouseModel" (77 : Nat)) "java/lang/String" "value" "[B") (Jvm.Term.int (0 : Int32))) (Jvm.Term.int (74 : Int32)), Jvm.Cond.eq (Jvm.Term.elem (Jvm.Term.field (Jvm.Term.string "JobHouseModel" (77 : Nat)) "java/lang/String" "value" "[B") (Jvm.Term.int (1 : Int32))) (Jvm.Term.int (85 : Int32)), Jvm.Cond.eq (Jvm.Term.elem (Jvm.Term.field (Jvm.Term.string "JobHouseModel" (77 : Nat)) "java/lang/String" "value" "[B") (Jvm.Term.int (2 : Int32))) (Jvm.Term.int (76 : Int32)), Jvm.Cond.exactly (Jvm.Term.string "JobHouseModel" (79 : Nat)) "java/lang/String", Jvm.Cond.eq (Jvm.Term.field (Jvm.Term.string "JobHouseModel" (79 : Nat)) "java/lang/String" "coder" "B") (Jvm.Term.int (0 : Int32)), Jvm.Cond.arrayOf (Jvm.Term.field (Jvm.Term.string "JobHouseModel" (79 : Nat)) "java/lang/String" "value" "[B") Jvm.ClassFile.FieldType.byte, Jvm.Cond.eq (Jvm.Term.length (Jvm.Term.field (Jvm.Term.string "JobHouseModel" (79 : Nat)) "java/lang/String" "value" "[B")) (Jvm.Term.int (3 : Int32)), Jvm.Cond.eq (Jvm.Term.elem (Jvm.Term.field (Jvm.Term.string "JobHouseModel" (79 : Nat)) "java/lang/String" "value" "[B") (Jvm.Term.int (0 : Int32))) (Jvm.Term.int (65 : Int32)), Jvm.Cond.eq (Jvm.Term.elem (Jvm.Term.field (Jvm.Term.string "JobHouseModel" (79 : Nat)) "java/lang/String" "value" "[B") (Jvm.Term.int (1 : Int32))) (Jvm.Term.int (85 : Int32)), Jvm.Cond.eq (Jvm.Term.elem (Jvm.Term.field (Jvm.Term.string "JobHouseModel" (79 : Nat)) "java/lang/String" "value" "[B") (Jvm.Term.int (2 : Int32))) (Jvm.Term.int (71 : Int32)), Jvm.Cond.exactly (Jvm.Term.string "JobHouseModel" (81 : Nat)) "java/lang/String", Jvm.Cond.eq (Jvm.Term.field (Jvm.Term.string "JobHouseModel" (81 : Nat)) "java/lang/String" "coder" "B") (Jvm.Term.int (0 : Int32)), Jvm.Cond.arrayOf (Jvm.Term.field (Jvm.Term.string "JobHouseModel" (81 : Nat)) "java/lang/String" "value" "[B") Jvm.ClassFile.FieldType.byte, Jvm.Cond.eq (Jvm.Term.length (Jvm.Term.field (Jvm.Term.string "JobHouseModel" (81 : Nat)) "java/lang/String" "value" "[B")) (Jvm.Term.int (3 : Int32)), Jvm.Cond.eq (Jvm.Term.elem (Jvm.Term.field (Jvm.Term.string "JobHouseModel" (81 : Nat)) "java/lang/String" "value" "[B") (Jvm.Term.int (0 : Int32))) (Jvm.Term.int (83 : Int32)), Jvm.Cond.eq (Jvm.Term.elem (Jvm.Term.field (Jvm.Term.string "JobHouseModel" (81 : Nat)) "java/lang/String" "value" "[B") (Jvm.Term.int (1 : Int32))) (Jvm.Term.int (69 : Int32)), Jvm.Cond.eq (Jvm.Term.elem (Jvm.Term.field (Jvm.Term.string "JobHouseModel" (81 : Nat)) "java/lang/String" "value" "[B") (Jvm.Term.int (2 : Int32))) (Jvm.Term.int (80 : Int32)), Jvm.Cond.exactly (Jvm.Term.string "JobHouseModel" (83 : Nat)) "java/lang/String", Jvm.Cond.eq (Jvm.Term.field (Jvm.Term.string "JobHouseModel" (83 : Nat)) "java/lang/String" "coder" "B") (Jvm.Term.int (0 : Int32)), Jvm.Cond.arrayOf (Jvm.Term.field (Jvm.Term.string "JobHouseModel" (83 : Nat)) "java/lang/String" "value" "[B") Jvm.ClassFile.FieldType.byte, Jvm.Cond.eq (Jvm.Term.length (Jvm.Term.field (Jvm.Term.string "JobHouseModel" (83 : Nat)) "java/lang/String" "value" "[B")) (Jvm.Term.int (3 : Int32)), Jvm.Cond.eq (Jvm.Term.elem (Jvm.Term.field (Jvm.Term.string "JobHouseModel" (83 : Nat)) "java/lang/String" "value" "[B") (Jvm.Term.int (0 : Int32))) (Jvm.Term.int (79 : Int32)), Jvm.Cond.eq (Jvm.Term.elem (Jvm.Term.field (Jvm.Term.string "JobHouseModel" (83 : Nat)) "java/lang/String" "value" "[B") (Jvm.Term.int (1 : Int32))) (Jvm.Term.int (67 : Int32)), Jvm.Cond.eq (Jvm.Term.elem (Jvm.Term.field (Jvm.Term.string "JobHouseModel" (83 : Nat)) "java/lang/String" "value" "[B") (Jvm.Term.int (2 : Int32))) (Jvm.Term.int (84 : Int32)), Jvm.Cond.exactly (Jvm.Term.string "JobHouseModel" (85 : Nat)) "java/lang/String", Jvm.Cond.eq (Jvm.Term.field (Jvm.Term.string "JobHouseModel" (85 : Nat)) "java/lang/String" "coder" "B") (Jvm.Term.int (0 : Int32)), Jvm.Cond.arrayOf (Jvm.Term.field (Jvm.Term.string "JobHouseModel" (85 : Nat)) "java/lang/String" "value" "[B") Jvm.ClassFile.FieldType.byte, Jvm.Cond.eq (Jvm.Term.length (Jvm.Term.field (Jvm.Term.string "JobHouseModel" (85 : Nat)) "java/lang/String" "value" "[B")) (Jvm.Term.int (3 : Int32)), Jvm.Cond.eq (Jvm.Term.elem (Jvm.Term.field (Jvm.Term.string "JobHouseModel" (85 : Nat)) "java/lang/String" "value" "[B") (Jvm.Term.int (0 : Int32))) (Jvm.Term.int (78 : Int32)), Jvm.Cond.eq (Jvm.Term.elem (Jvm.Term.field (Jvm.Term.string "JobHouseModel" (85 : Nat)) "java/lang/String" "value" "[B") (Jvm.Term.int (1 : Int32))) (Jvm.Term.int (79 : Int32)), Jvm.Cond.eq (Jvm.Term.elem (Jvm.Term.field (Jvm.Term.string "JobHouseModel" (85 : Nat)) "java/lang/String" "value" "[B") (Jvm.Term.int (2 : Int32))) (Jvm.Term.int (86 : Int32)), Jvm.Cond.exactly (Jvm.Term.string "JobHouseModel" (87 : Nat)) "java/lang/String", Jvm.Cond.eq (Jvm.Term.field (Jvm.Term.string "JobHouseModel" (87 : Nat)) "java/lang/String" "coder" "B") (Jvm.Term.int (0 : Int32)), Jvm.Cond.arrayOf (Jvm.Term.field (Jvm.Term.string "JobHouseModel" (87 : Nat)) "java/lang/String" "value" "[B") Jvm.ClassFile.FieldType.byte, Jvm.Cond.eq (Jvm.Term.length (Jvm.Term.field (Jvm.Term.string "JobHouseModel" (87 : Nat)) "java/lang/String" "value" "[B")) (Jvm.Term.int (3 : Int32)), Jvm.Cond.eq (Jvm.Term.elem (Jvm.Term.field (Jvm.Term.string "JobHouseModel" (87 : Nat)) "java/lang/String" "value" "[B") (Jvm.Term.int (0 : Int32))) (Jvm.Term.int (68 : Int32)), Jvm.Cond.eq (Jvm.Term.elem (Jvm.Term.field (Jvm.Term.string "JobHouseModel" (87 : Nat)) "java/lang/String" "value" "[B") (Jvm.Term.int (1 : Int32))) (Jvm.Term.int (69 : Int32)), Jvm.Cond.eq (Jvm.Term.elem (Jvm.Term.field (Jvm.Term.string "JobHouseModel" (87 : Nat)) "java/lang/String" "value" "[B") (Jvm.Term.int (2 : Int32))) (Jvm.Term.int (67 : Int32)), Jvm.Cond.exactly (Jvm.Term.string "JobHouseModel" (93 : Nat)) "java/lang/String", Jvm.Cond.eq (Jvm.Term.field (Jvm.Term.string "JobHouseModel" (93 : Nat)) "java/lang/String" "coder" "B") (Jvm.Term.int (0 : Int32)), Jvm.Cond.arrayOf (Jvm.Term.field (Jvm.Term.string "JobHouseModel" (93 : Nat)) "java/lang/String" "value" "[B") Jvm.ClassFile.FieldType.byte, Jvm.Cond.eq (Jvm.Term.length (Jvm.Term.field (Jvm.Term.string "JobHouseModel" (93 : Nat)) "java/lang/String" "value" "[B")) (Jvm.Term.int (3 : Int32)), Jvm.Cond.eq (Jvm.Term.elem (Jvm.Term.field (Jvm.Term.string "JobHouseModel" (93 : Nat)) "java/lang/String" "value" "[B") (Jvm.Term.int (0 : Int32))) (Jvm.Term.int (83 : Int32)), Jvm.Cond.eq (Jvm.Term.elem (Jvm.Term.field (Jvm.Term.string "JobHouseModel" (93 : Nat)) "java/lang/String" "value" "[B") (Jvm.Term.int (1 : Int32))) (Jvm.Term.int (85 : Int32)), Jvm.Cond.eq (Jvm.Term.elem (Jvm.Term.field (Jvm.Term.string "JobHouseModel" (93 : Nat)) "java/lang/String" "value" "[B") (Jvm.Term.int (2 : Int32))) (Jvm.Term.int (78 : Int32)), Jvm.Cond.exactly (Jvm.Term.string "JobHouseModel" (95 : Nat)) "java/lang/String", Jvm.Cond.eq (Jvm.Term.field (Jvm.Term.string "JobHouseModel" (95 : Nat)) "java/lang/String" "coder" "B") (Jvm.Term.int (0 : Int32)), Jvm.Cond.arrayOf (Jvm.Term.field (Jvm.Term.string "JobHouseModel" (95 : Nat)) "java/lang/String" "value" "[B") Jvm.ClassFile.FieldType.byte, Jvm.Cond.eq (Jvm.Term.length (Jvm.Term.field (Jvm.Term.string "JobHouseModel" (95 : Nat)) "java/lang/String" "value" "[B")) (Jvm.Term.int (3 : Int32)), Jvm.Cond.eq (Jvm.Term.elem (Jvm.Term.field (Jvm.Term.string "JobHouseModel" (95 : Nat)) "java/lang/String" "value" "[B") (Jvm.Term.int (0 : Int32))) (Jvm.Term.int (77 : Int32)), Jvm.Cond.eq (Jvm.Term.elem (Jvm.Term.field (Jvm.Term.string "JobHouseModel" (95 : Nat)) "java/lang/String" "value" "[B") (Jvm.Term.int (1 : Int32))) (Jvm.Term.int (79 : Int32)), Jvm.Cond.eq (Jvm.Term.elem (Jvm.Term.field (Jvm.Term.string "JobHouseModel" (95 : Nat)) "java/lang/String" "value" "[B") (Jvm.Term.int (2 : Int32))) (Jvm.Term.int (78 : Int32)), Jvm.Cond.exactly (Jvm.Term.string "JobHouseModel" (97 : Nat)) "java/lang/String", Jvm.Cond.eq (Jvm.Term.field (Jvm.Term.string "JobHouseModel" (97 : Nat)) "java/lang/String" "coder" "B") (Jvm.Term.int (0 : Int32)), Jvm.Cond.arrayOf (Jvm.Term.field (Jvm.Term.string "JobHouseModel" (97 : Nat)) "java/lang/String" "value" "[B") Jvm.ClassFile.FieldType.byte, Jvm.Cond.eq (Jvm.Term.length (Jvm.Term.field (Jvm.Term.string "JobHouseModel" (97 : Nat)) "java/lang/String" "value" "[B")) (Jvm.Term.int (3 : Int32)), Jvm.Cond.eq (Jvm.Term.elem (Jvm.Term.field (Jvm.Term.string "JobHouseModel" (97 : Nat)) "java/lang/String" "value" "[B") (Jvm.Term.int (0 : Int32))) (Jvm.Term.int (84 : Int32)), Jvm.Cond.eq (Jvm.Term.elem (Jvm.Term.field (Jvm.Term.string "JobHouseModel" (97 : Nat)) "java/lang/String" "value" "[B") (Jvm.Term.int (1 : Int32))) (Jvm.Term.int (85 : Int32)), Jvm.Cond.eq (Jvm.Term.elem (Jvm.Term.field (Jvm.Term.string "JobHouseModel" (97 : Nat)) "java/lang/String" "value" "[B") (Jvm.Term.int (2 : Int32))) (Jvm.Term.int (69 : Int32)), Jvm.Cond.exactly (Jvm.Term.string "JobHouseModel" (99 : Nat)) "java/lang/String", Jvm.Cond.eq (Jvm.Term.field (Jvm.Term.string "JobHouseModel" (99 : Nat)) "java/lang/String" "coder" "B") (Jvm.Term.int (0 : Int32)), Jvm.Cond.arrayOf (Jvm.Term.field (Jvm.Term.string "JobHouseModel" (99 : Nat)) "java/lang/String" "value" "[B") Jvm.ClassFile.FieldType.byte, Jvm.Cond.eq (Jvm.Term.length (Jvm.Term.field (Jvm.Term.string "JobHouseModel" (99 : Nat)) "java/lang/String" "value" "[B")) (Jvm.Term.int (3 : Int32)), Jvm.Cond.eq (Jvm.Term.elem (Jvm.Term.field (Jvm.Term.string "JobHouseModel" (99 : Nat)) "java/lang/String" "value" "[B") (Jvm.Term.int (0 : Int32))) (Jvm.Term.int (87 : Int32)), Jvm.Cond.eq (Jvm.Term.elem (Jvm.Term.field (Jvm.Term.string "JobHouseModel" (99 : Nat)) "java/lang/String" "value" "[B") (Jvm.Term.int (1 : Int32))) (Jvm.Term.int (69 : Int32)), Jvm.Cond.eq (Jvm.Term.elem (Jvm.Term.field (Jvm.Term.string "JobHouseModel" (99 : Nat)) "java/lang/String" "value" "[B") (Jvm.Term.int (2 : Int32))) (Jvm.Term.int (68 : Int32)), Jvm.Cond.exactly (Jvm.Term.string "JobHouseModel" (101 : Nat)) "java/lang/String", Jvm.Cond.eq (Jvm.Term.field (Jvm.Term.string "JobHouseModel" (101 : Nat)) "java/lang/String" "coder" "B") (Jvm.Term.int (0 : Int32)), Jvm.Cond.arrayOf (Jvm.Term.field (Jvm.Term.string "JobHouseModel" (101 : Nat)) "java/lang/String" "value" "[B") Jvm.ClassFile.FieldType.byte, Jvm.Cond.eq (Jvm.Term.length (Jvm.Term.field (Jvm.Term.string "JobHouseModel" (101 : Nat)) "java/lang/String" "value" "[B")) (Jvm.Term.int (3 : Int32)), Jvm.Cond.eq (Jvm.Term.elem (Jvm.Term.field (Jvm.Term.string "JobHouseModel" (101 : Nat)) "java/lang/String" "value" "[B") (Jvm.Term.int (0 : Int32))) (Jvm.Term.int (84 : Int32)), Jvm.Cond.eq (Jvm.Term.elem (Jvm.Term.field (Jvm.Term.string "JobHouseModel" (101 : Nat)) "java/lang/String" "value" "[B") (Jvm.Term.int (1 : Int32))) (Jvm.Term.int (72 : Int32)), Jvm.Cond.eq (Jvm.Term.elem (Jvm.Term.field (Jvm.Term.string "JobHouseModel" (101 : Nat)) "java/lang/String" "value" "[B") (Jvm.Term.int (2 : Int32))) (Jvm.Term.int (85 : Int32)), Jvm.Cond.exactly (Jvm.Term.string "JobHouseModel" (103 : Nat)) "java/lang/String", Jvm.Cond.eq (Jvm.Term.field (Jvm.Term.string "JobHouseModel" (103 : Nat)) "java/lang/String" "coder" "B") (Jvm.Term.int (0 : Int32)), Jvm.Cond.arrayOf (Jvm.Term.field (Jvm.Term.string "JobHouseModel" (103 : Nat)) "java/lang/String" "value" "[B") Jvm.ClassFile.FieldType.byte, Jvm.Cond.eq (Jvm.Term.length (Jvm.Term.field (Jvm.Term.string "JobHouseModel" (103 : Nat)) "java/lang/String" "value" "[B")) (Jvm.Term.int (3 : Int32)), Jvm.Cond.eq (Jvm.Term.elem (Jvm.Term.field (Jvm.Term.string "JobHouseModel" (103 : Nat)) "java/lang/String" "value" "[B") (Jvm.Term.int (0 : Int32))) (Jvm.Term.int (70 : Int32)), Jvm.Cond.eq (Jvm.Term.elem (Jvm.Term.field (Jvm.Term.string "JobHouseModel" (103 : Nat)) "java/lang/String" "value" "[B") (Jvm.Term.int (1 : Int32))) (Jvm.Term.int (82 : Int32)), Jvm.Cond.eq (Jvm.Term.elem (Jvm.Term.field (Jvm.Term.string "JobHouseModel" (103 : Nat)) "java/lang/String" "value" "[B") (Jvm.Term.int (2 : Int32))) (Jvm.Term.int (73 : Int32)), Jvm.Cond.exactly (Jvm.Term.string "JobHouseModel" (105 : Nat)) "java/lang/String", Jvm.Cond.eq (Jvm.Term.field (Jvm.Term.string "JobHouseModel" (105 : Nat)) "java/lang/String" "coder" "B") (Jvm.Term.int (0 : Int32)), Jvm.Cond.arrayOf (Jvm.Term.field (Jvm.Term.string "JobHouseModel" (105 : Nat)) "java/lang/String" "value" "[B") Jvm.ClassFile.FieldType.byte, Jvm.Cond.eq (Jvm.Term.length (Jvm.Term.field (Jvm.Term.string "JobHouseModel" (105 : Nat)) "java/lang/String" "value" "[B")) (Jvm.Term.int (3 : Int32)), Jvm.Cond.eq (Jvm.Term.elem (Jvm.Term.field (Jvm.Term.string "JobHouseModel" (105 : Nat)) "java/lang/String" "value" "[B") (Jvm.Term.int (0 : Int32))) (Jvm.Term.int (83 : Int32)), Jvm.Cond.eq (Jvm.Term.elem (Jvm.Term.field (Jvm.Term.string "JobHouseModel" (105 : Nat)) "java/lang/String" "value" "[B") (Jvm.Term.int (1 : Int32))) (Jvm.Term.int (65 : Int32)), Jvm.Cond.eq (Jvm.Term.elem (Jvm.Term.field (Jvm.Term.string "JobHouseModel" (105 : Nat)) "java/lang/String" "value" "[B") (Jvm.Term.int (2 : Int32))) (Jvm.Term.int (84 : Int32))]
def jx_subb : List Cond → List Cond → Bool
  | [], _ => true
  | _ :: _, [] => false
  | a :: L, b :: M => if a = b then jx_subb L M else jx_subb (a :: L) M
theorem jx_subb_ok : ∀ (M L : List Cond), jx_subb L M = true → ∀ w ∈ L, w ∈ M
  | M, [], _, w, hw => by cases hw
  | [], a :: L, h, w, hw => by simp [jx_subb] at h
  | b :: M, a :: L, h, w, hw => by
    unfold jx_subb at h
    split at h
    next e =>
      rcases List.mem_cons.mp hw with q | q
      · rw [q, e]; exact List.mem_cons_self
      · exact List.mem_cons_of_mem _ (jx_subb_ok M L h w q)
    next => exact List.mem_cons_of_mem _ (jx_subb_ok M (a :: L) h w hw)
theorem jx_nws_ok : ∀ w ∈ jx_nws, w ∈ flatC (Jvm.Cond.and given_1 narrow_1) := jx_subb_ok _ _ (by decide +kernel)
theorem jx_aos {args : Array Value} {s : State} {t : FieldType} (h : (Cond.arrayOver (.array t)).before args s = true) : ∃ comp c k, s.vm.findClass (FieldType.array t).toString = some comp ∧ s.vm.classes[c]? = some k ∧ k.kind = .array comp (.array t) ∧ s.vm.findClass ("[" ++ (FieldType.array t).toString) = some c := by
  simp only [Cond.before, Cond.holds, Cond.value, beq_iff_eq] at h
  cases hc : s.vm.findClass (FieldType.array t).toString with
  | none => simp [hc] at h
  | some comp =>
    simp only [hc, Option.bind_some, Option.bind_eq_some_iff, Option.map_eq_some_iff] at h
    obtain ⟨c, hi, k, hk, hb⟩ := h
    obtain ⟨hlt, hp, -⟩ := Array.findIdx?_eq_some_iff_getElem.mp hi
    have hkk : s.vm.classes[c] = k := (Array.getElem?_eq_some_iff.mp hk).2
    rw [hkk] at hp
    cases hkind : k.kind with
    | array component ty =>
      rw [hkind] at hb hp
      simp at hb hp
      exact ⟨comp, c, k, rfl, hk, by rw [hkind, hp, hb.1], hb.2⟩
    | _ => rw [hkind] at hb; simp at hb
theorem jx_acs {args : Array Value} {s : State} {t : FieldType} (h : (Cond.arrayClass t).before args s = true) : ∃ c k comp, s.vm.findClass ("[" ++ t.toString) = some c ∧ s.vm.classes[c]? = some k ∧ k.kind = .array comp t := by
  obtain ⟨c, k, comp, h1, h2, h3⟩ := Cond.arrayClass_spec h
  exact ⟨c, k, comp, h1, h2, h3⟩
theorem jx_arr {s : State} {c comp : ClassId} {k : Class} {t : FieldType} (h1 : s.vm.classes[c]? = some k) (h2 : k.kind = .array comp t) : ArrOfT s c t := fun N z => ⟨(fun k h => by cases h), k, h1, comp, h2⟩
variable {s : State} {args : Array Value}
theorem jx_ncast {A B : String} {a b : ClassId} (ha : ClassAt s A a) (hb : ClassAt s B b) (h : (Cond.not (Cond.castable A B)).before args s = true) : s.vm.assignable a b = false := by
  simp only [Cond.before, Cond.holds, Cond.value, ha.1, hb.1] at h
  simpa using h
theorem jx_D0 (hts : ∀ w ∈ lw_tbl, w.before args s = true) : ∃ D : va_G, ∀ (c : Nat) (q : vw_C), jm_cl[c]? = some q → u_Kn s q.1 q.2.1 q.2.2 (D.1 c) (D.2 c) := by
  have hG : ∀ w ∈ jm_G, w.before args s = true := fun w hw => hts w (List.mem_filter.mp hw).1
  obtain ⟨c0, i0, h0⟩ := u_known (C := "JobHouse") (T := jn_T0) (N := 18) (n := 18) hG jn_i0 (hts _ (jm_u1 29 rfl))
  obtain ⟨c1, i1, h1⟩ := u_known (C := "JobHouse$Text") (T := jn_T1) (N := 4) (n := 4) hG jn_i1 (hts _ (jm_u1 37 rfl))
  obtain ⟨c2, i2, h2⟩ := u_known (C := "JobHouse$Zone") (T := jn_T2) (N := 7) (n := 7) hG jn_i2 (hts _ (jm_u1 109 rfl))
  obtain ⟨c3, i3, h3⟩ := u_known (C := "JobHouse$YearRule") (T := jn_T3) (N := 4) (n := 4) hG jn_i3 (hts _ (jm_u1 115 rfl))
  obtain ⟨c4, i4, h4⟩ := u_known (C := "JobHouse$Cron") (T := jn_T4) (N := 4) (n := 4) hG jn_i4 (hts _ (jm_u1 86 rfl))
  obtain ⟨c5, i5, h5⟩ := u_known (C := "JobHouse$Holidays") (T := jn_T5) (N := 2) (n := 2) hG jn_i5 (hts _ (jm_u1 65 rfl))
  obtain ⟨c6, i6, h6⟩ := u_known (C := "JobHouse$Fires") (T := jn_T6) (N := 3) (n := 3) hG jn_i6 (hts _ (jm_u1 80 rfl))
  obtain ⟨c7, i7, h7⟩ := u_known (C := "JobHouse$Job") (T := jn_T7) (N := 14) (n := 14) hG jn_i7 (hts _ (jm_u1 207 rfl))
  obtain ⟨c8, i8, h8⟩ := u_known (C := "JobHouse$StartLog") (T := jn_T8) (N := 5) (n := 5) hG jn_i8 (hts _ (jm_u1 181 rfl))
  obtain ⟨c9, i9, h9⟩ := u_known (C := "JobHouseModel") (T := jn_T9) (N := 50) (n := 50) hG jn_i9 (hts _ (jm_u5 66 rfl))
  obtain ⟨c10, i10, h10⟩ := u_known (C := "java/lang/IndexOutOfBoundsException") (T := jn_E) (N := 0) (n := 6) hG (fun w hw => by cases hw) (hts _ (jm_u2 88 rfl))
  obtain ⟨c11, i11, h11⟩ := u_known (C := "java/lang/IllegalArgumentException") (T := jn_E) (N := 0) (n := 6) hG (fun w hw => by cases hw) (hts _ (jm_u2 168 rfl))
  obtain ⟨c12, i12, h12⟩ := u_known (C := "java/lang/UnsupportedOperationException") (T := jn_E) (N := 0) (n := 6) hG (fun w hw => by cases hw) (hts _ (jm_u3 12 rfl))
  obtain ⟨c13, i13, h13⟩ := u_known (C := "java/lang/IllegalStateException") (T := jn_E) (N := 0) (n := 6) hG (fun w hw => by cases hw) (hts _ (jm_u4 145 rfl))
  obtain ⟨c14, i14, h14⟩ := u_known (C := "java/util/NoSuchElementException") (T := jn_E) (N := 0) (n := 6) hG (fun w hw => by cases hw) (hts _ (jm_u4 188 rfl))
  refine ⟨(fun k => [c0, c1, c2, c3, c4, c5, c6, c7, c8, c9, c10, c11, c12, c13, c14].getD k 0, fun k => [i0, i1, i2, i3, i4, i5, i6, i7, i8, i9, i10, i11, i12, i13, i14].getD k (fun _ => 0)), fun c q hq => ?_⟩
  match c, hq with
  | 0, hq => cases hq; exact h0
  | 1, hq => cases hq; exact h1
  | 2, hq => cases hq; exact h2
  | 3, hq => cases hq; exact h3
  | 4, hq => cases hq; exact h4
  | 5, hq => cases hq; exact h5
  | 6, hq => cases hq; exact h6
  | 7, hq => cases hq; exact h7
  | 8, hq => cases hq; exact h8
  | 9, hq => cases hq; exact h9
  | 10, hq => cases hq; exact h10
  | 11, hq => cases hq; exact h11
  | 12, hq => cases hq; exact h12
  | 13, hq => cases hq; exact h13
  | 14, hq => cases hq; exact h14
  | k + 15, hq => simp [jm_cl] at hq
theorem jx_dA0 (hts : ∀ w ∈ lw_tbl, w.before args s = true) : ∃ dA : Nat → ClassId, (∀ (k : Nat) (q : ClassId × FieldType), (jm_ty dA)[k]? = some q → ArrOfT s q.1 q.2 ∧ va_RA s q.1 q.2) ∧ jx_MF s dA := by
  obtain ⟨a0, k0, m0, p0, q0, r0⟩ := jx_acs (hts _ (jm_u1 58 rfl))
  obtain ⟨a1, k1, m1, p1, q1, r1⟩ := jx_acs (hts _ (jm_u6 12 rfl))
  obtain ⟨a2, k2, m2, p2, q2, r2⟩ := jx_acs (hts _ (jm_u1 78 rfl))
  obtain ⟨a3, k3, m3, p3, q3, r3⟩ := jx_acs (hts _ (jm_u1 107 rfl))
  obtain ⟨m4, a4, k4, n4, -, q4, r4, p4⟩ := Cond.arrayOver_spec (hts _ (jm_u1 60 rfl))
  obtain ⟨m5, a5, k5, n5, -, q5, r5, p5⟩ := Cond.arrayOver_spec (hts _ (jm_u1 62 rfl))
  obtain ⟨m6, a6, k6, n6, -, q6, r6, p6⟩ := Cond.arrayOver_spec (hts _ (jm_u1 64 rfl))
  obtain ⟨m7, a7, k7, n7, -, q7, r7, p7⟩ := Cond.arrayOver_spec (hts _ (jm_u1 179 rfl))
  obtain ⟨m8, a8, k8, n8, -, q8, r8, p8⟩ := Cond.arrayOver_spec (hts _ (jm_u5 80 rfl))
  obtain ⟨m9, a9, k9, n9, q9, r9, p9⟩ := jx_aos (hts _ (jm_u5 72 rfl))
  obtain ⟨m10, a10, k10, n10, q10, r10, p10⟩ := jx_aos (hts _ (jm_u5 74 rfl))
  obtain ⟨m11, a11, k11, n11, q11, r11, p11⟩ := jx_aos (hts _ (jm_u5 76 rfl))
  obtain ⟨m12, a12, k12, n12, q12, r12, p12⟩ := jx_aos (hts _ (jm_u5 78 rfl))
  refine ⟨fun k => [a0, a1, a2, a3, a4, a5, a6, a7, a8, a9, a10, a11, a12].getD k 0, fun k q hq => ?_, ?_⟩
  · match k, hq with
    | 0, hq => cases hq; exact ⟨jx_arr q0 r0, p0⟩
    | 1, hq => cases hq; exact ⟨jx_arr q1 r1, p1⟩
    | 2, hq => cases hq; exact ⟨jx_arr q2 r2, p2⟩
    | 3, hq => cases hq; exact ⟨jx_arr q3 r3, p3⟩
    | 4, hq => cases hq; exact ⟨jx_arr q4 r4, ⟨k4, m4, q4, r4, n4, p4⟩⟩
    | 5, hq => cases hq; exact ⟨jx_arr q5 r5, ⟨k5, m5, q5, r5, n5, p5⟩⟩
    | 6, hq => cases hq; exact ⟨jx_arr q6 r6, ⟨k6, m6, q6, r6, n6, p6⟩⟩
    | 7, hq => cases hq; exact ⟨jx_arr q7 r7, ⟨k7, m7, q7, r7, n7, p7⟩⟩
    | 8, hq => cases hq; exact ⟨jx_arr q8 r8, ⟨k8, m8, q8, r8, n8, p8⟩⟩
    | 9, hq => cases hq; exact ⟨jx_arr q9 r9, p9⟩
    | 10, hq => cases hq; exact ⟨jx_arr q10 r10, p10⟩
    | 11, hq => cases hq; exact ⟨jx_arr q11 r11, p11⟩
    | 12, hq => cases hq; exact ⟨jx_arr q12 r12, p12⟩
    | k + 13, hq => simp [jm_ty] at hq
  · exact ⟨⟨p12, ⟨k12, _, q12, (by have e : m12 = a2 := Option.some.inj (n12.symm.trans p2); rw [r12, e]; rfl), rfl, rfl⟩⟩, ⟨p9, ⟨k9, _, q9, (by have e : m9 = a3 := Option.some.inj (n9.symm.trans p3); rw [r9, e]; rfl), rfl, rfl⟩⟩, ⟨p10, ⟨k10, _, q10, (by have e : m10 = a1 := Option.some.inj (n10.symm.trans p1); rw [r10, e]; rfl), rfl, rfl⟩⟩, ⟨p11, ⟨k11, _, q11, (by have e : m11 = a10 := Option.some.inj (n11.symm.trans p10); rw [r11, e]; rfl), rfl, rfl⟩⟩⟩
def jx_byt : List (List Int32) := [[74, 65, 78, 70, 69, 66, 77, 65, 82, 65, 80, 82, 77, 65, 89, 74, 85, 78, 74, 85, 76, 65, 85, 71, 83, 69, 80, 79, 67, 84, 78, 79, 86, 68, 69, 67], [83, 85, 78, 77, 79, 78, 84, 85, 69, 87, 69, 68, 84, 72, 85, 70, 82, 73, 83, 65, 84], [74, 65, 78], [70, 69, 66], [77, 65, 82], [65, 80, 82], [77, 65, 89], [74, 85, 78], [74, 85, 76], [65, 85, 71], [83, 69, 80], [79, 67, 84], [78, 79, 86], [68, 69, 67], [83, 85, 78], [77, 79, 78], [84, 85, 69], [87, 69, 68], [84, 72, 85], [70, 82, 73], [83, 65, 84]]
/-- what is known of one String constant -/
def jx_str (s : State) (a i : Nat) : Prop := va_O "java/lang/String" a (fun q => s.heap.size ≤ q) s s.heap ∧ va_OF "java/lang/String" "coder" "B" (.int 0) a (fun q => s.heap.size ≤ q) s s.heap ∧ ∃ v : Nat, va_OF "java/lang/String" "value" "[B" (.ref v) a (fun q => s.heap.size ≤ q) s s.heap ∧ va_T .byte v (jx_byt.getD i []).length (fun j => .int ((jx_byt.getD i []).getD j 0)) (fun q => s.heap.size ≤ q) s s.heap
theorem jx_str1 {own tx : String} {idx i n : Nat} (hn : (jx_byt.getD i []).length = n) (hn2 : n < 2 ^ 31) (hr : (Cond.stringRef own idx tx).before args s = true) (hex : (Cond.exactly (.string own idx) "java/lang/String").before args s = true) (hco : (Cond.eq (.field (.string own idx) "java/lang/String" "coder" "B") (.int 0)).before args s = true) (har : (Cond.arrayOf (.field (.string own idx) "java/lang/String" "value" "[B") .byte).before args s = true) (hle : (Cond.eq (.length (.field (.string own idx) "java/lang/String" "value" "[B")) (.int (Int32.ofNat n))).before args s = true)
    (hel : ∀ j : Nat, j < n → (Cond.eq (.elem (.field (.string own idx) "java/lang/String" "value" "[B") (.int (Int32.ofNat j))) (.int ((jx_byt.getD i []).getD j 0))).before args s = true) : ∃ a : Nat, vk_R own idx tx a s ∧ jx_str s a i := by
  have hA : ∀ a : Nat, a < s.heap.size → ¬ s.heap.size ≤ a := fun a h => Nat.not_le.mpr h
  obtain ⟨a, c, cA, kA, q1, q2, q3, q4, q5, q6, -⟩ := Cond.exactly_spec (args := args) (first := s) (o := none) (s := s) (idx := []) (t := .string own idx) (cls := "java/lang/String") hex
  obtain ⟨t, ht, hT⟩ := va_Tof (f := fun j => .int ((jx_byt.getD i []).getD j 0)) (A := fun q => s.heap.size ≤ q) hn2 har (va_eqt hle) (fun j hj => va_eqt (hel j hj)) hA
  rw [← hn] at hT
  exact ⟨a, vk_R.of hr q1, ⟨cA, q3, q5, by rw [q6]; exact q2, hA a (Array.getElem?_eq_some_iff.mp q3).1⟩, vk_OFof q1 (va_eqt hco) hA, t, vk_OFof q1 ht hA, hT⟩
theorem jx_str_0 (hts : ∀ w ∈ lw_tbl, w.before args s = true) (hN : ∀ w ∈ jx_nws, w.before args s = true) : ∃ a : Nat, vk_R "JobHouse$CronReader" 93 "JANFEBMARAPRMAYJUNJULAUGSEPOCTNOVDEC" a s ∧ jx_str s a 0 := by
  refine jx_str1 (n := 36) rfl (by decide) (hts _ (jm_u3 57 rfl)) (hN _ (List.mem_of_getElem? (i := 48) rfl)) (hN _ (List.mem_of_getElem? (i := 49) rfl)) (hN _ (List.mem_of_getElem? (i := 50) rfl)) (hN _ (List.mem_of_getElem? (i := 51) rfl)) (fun j hj => ?_)
  match j, hj with
  | 0, _ => exact (hN _ (List.mem_of_getElem? (i := 52) rfl))
  | 1, _ => exact (hN _ (List.mem_of_getElem? (i := 53) rfl))
  | 2, _ => exact (hN _ (List.mem_of_getElem? (i := 54) rfl))
  | 3, _ => exact (hN _ (List.mem_of_getElem? (i := 55) rfl))
  | 4, _ => exact (hN _ (List.mem_of_getElem? (i := 56) rfl))
  | 5, _ => exact (hN _ (List.mem_of_getElem? (i := 57) rfl))
  | 6, _ => exact (hN _ (List.mem_of_getElem? (i := 58) rfl))
  | 7, _ => exact (hN _ (List.mem_of_getElem? (i := 59) rfl))
  | 8, _ => exact (hN _ (List.mem_of_getElem? (i := 60) rfl))
  | 9, _ => exact (hN _ (List.mem_of_getElem? (i := 61) rfl))
  | 10, _ => exact (hN _ (List.mem_of_getElem? (i := 62) rfl))
  | 11, _ => exact (hN _ (List.mem_of_getElem? (i := 63) rfl))
  | 12, _ => exact (hN _ (List.mem_of_getElem? (i := 64) rfl))
  | 13, _ => exact (hN _ (List.mem_of_getElem? (i := 65) rfl))
  | 14, _ => exact (hN _ (List.mem_of_getElem? (i := 66) rfl))
  | 15, _ => exact (hN _ (List.mem_of_getElem? (i := 67) rfl))
  | 16, _ => exact (hN _ (List.mem_of_getElem? (i := 68) rfl))
  | 17, _ => exact (hN _ (List.mem_of_getElem? (i := 69) rfl))
  | 18, _ => exact (hN _ (List.mem_of_getElem? (i := 70) rfl))
  | 19, _ => exact (hN _ (List.mem_of_getElem? (i := 71) rfl))
  | 20, _ => exact (hN _ (List.mem_of_getElem? (i := 72) rfl))
  | 21, _ => exact (hN _ (List.mem_of_getElem? (i := 73) rfl))
  | 22, _ => exact (hN _ (List.mem_of_getElem? (i := 74) rfl))
  | 23, _ => exact (hN _ (List.mem_of_getElem? (i := 75) rfl))
  | 24, _ => exact (hN _ (List.mem_of_getElem? (i := 76) rfl))
  | 25, _ => exact (hN _ (List.mem_of_getElem? (i := 77) rfl))
  | 26, _ => exact (hN _ (List.mem_of_getElem? (i := 78) rfl))
  | 27, _ => exact (hN _ (List.mem_of_getElem? (i := 79) rfl))
  | 28, _ => exact (hN _ (List.mem_of_getElem? (i := 80) rfl))
  | 29, _ => exact (hN _ (List.mem_of_getElem? (i := 81) rfl))
  | 30, _ => exact (hN _ (List.mem_of_getElem? (i := 82) rfl))
  | 31, _ => exact (hN _ (List.mem_of_getElem? (i := 83) rfl))
  | 32, _ => exact (hN _ (List.mem_of_getElem? (i := 84) rfl))
  | 33, _ => exact (hN _ (List.mem_of_getElem? (i := 85) rfl))
  | 34, _ => exact (hN _ (List.mem_of_getElem? (i := 86) rfl))
  | 35, _ => exact (hN _ (List.mem_of_getElem? (i := 87) rfl))
  | k + 36, hj => exact absurd hj (by omega)
theorem jx_str_1 (hts : ∀ w ∈ lw_tbl, w.before args s = true) (hN : ∀ w ∈ jx_nws, w.before args s = true) : ∃ a : Nat, vk_R "JobHouse$CronReader" 99 "SUNMONTUEWEDTHUFRISAT" a s ∧ jx_str s a 1 := by
  refine jx_str1 (n := 21) rfl (by decide) (hts _ (jm_u3 110 rfl)) (hN _ (List.mem_of_getElem? (i := 88) rfl)) (hN _ (List.mem_of_getElem? (i := 89) rfl)) (hN _ (List.mem_of_getElem? (i := 90) rfl)) (hN _ (List.mem_of_getElem? (i := 91) rfl)) (fun j hj => ?_)
  match j, hj with
  | 0, _ => exact (hN _ (List.mem_of_getElem? (i := 92) rfl))
  | 1, _ => exact (hN _ (List.mem_of_getElem? (i := 93) rfl))
  | 2, _ => exact (hN _ (List.mem_of_getElem? (i := 94) rfl))
  | 3, _ => exact (hN _ (List.mem_of_getElem? (i := 95) rfl))
  | 4, _ => exact (hN _ (List.mem_of_getElem? (i := 96) rfl))
  | 5, _ => exact (hN _ (List.mem_of_getElem? (i := 97) rfl))
  | 6, _ => exact (hN _ (List.mem_of_getElem? (i := 98) rfl))
  | 7, _ => exact (hN _ (List.mem_of_getElem? (i := 99) rfl))
  | 8, _ => exact (hN _ (List.mem_of_getElem? (i := 100) rfl))
  | 9, _ => exact (hN _ (List.mem_of_getElem? (i := 101) rfl))
  | 10, _ => exact (hN _ (List.mem_of_getElem? (i := 102) rfl))
  | 11, _ => exact (hN _ (List.mem_of_getElem? (i := 103) rfl))
  | 12, _ => exact (hN _ (List.mem_of_getElem? (i := 104) rfl))
  | 13, _ => exact (hN _ (List.mem_of_getElem? (i := 105) rfl))
  | 14, _ => exact (hN _ (List.mem_of_getElem? (i := 106) rfl))
  | 15, _ => exact (hN _ (List.mem_of_getElem? (i := 107) rfl))
  | 16, _ => exact (hN _ (List.mem_of_getElem? (i := 108) rfl))
  | 17, _ => exact (hN _ (List.mem_of_getElem? (i := 109) rfl))
  | 18, _ => exact (hN _ (List.mem_of_getElem? (i := 110) rfl))
  | 19, _ => exact (hN _ (List.mem_of_getElem? (i := 111) rfl))
  | 20, _ => exact (hN _ (List.mem_of_getElem? (i := 112) rfl))
  | k + 21, hj => exact absurd hj (by omega)
theorem jx_str_2 (hts : ∀ w ∈ lw_tbl, w.before args s = true) (hN : ∀ w ∈ jx_nws, w.before args s = true) : ∃ a : Nat, vk_R "JobHouseModel" 65 "JAN" a s ∧ jx_str s a 2 := by
  refine jx_str1 (n := 3) rfl (by decide) (hts _ (jm_u5 81 rfl)) (hN _ (List.mem_of_getElem? (i := 113) rfl)) (hN _ (List.mem_of_getElem? (i := 114) rfl)) (hN _ (List.mem_of_getElem? (i := 115) rfl)) (hN _ (List.mem_of_getElem? (i := 116) rfl)) (fun j hj => ?_)
  match j, hj with
  | 0, _ => exact (hN _ (List.mem_of_getElem? (i := 117) rfl))
  | 1, _ => exact (hN _ (List.mem_of_getElem? (i := 118) rfl))
  | 2, _ => exact (hN _ (List.mem_of_getElem? (i := 119) rfl))
  | k + 3, hj => exact absurd hj (by omega)
theorem jx_str_3 (hts : ∀ w ∈ lw_tbl, w.before args s = true) (hN : ∀ w ∈ jx_nws, w.before args s = true) : ∃ a : Nat, vk_R "JobHouseModel" 67 "FEB" a s ∧ jx_str s a 3 := by
  refine jx_str1 (n := 3) rfl (by decide) (hts _ (jm_u5 82 rfl)) (hN _ (List.mem_of_getElem? (i := 120) rfl)) (hN _ (List.mem_of_getElem? (i := 121) rfl)) (hN _ (List.mem_of_getElem? (i := 122) rfl)) (hN _ (List.mem_of_getElem? (i := 123) rfl)) (fun j hj => ?_)
  match j, hj with
  | 0, _ => exact (hN _ (List.mem_of_getElem? (i := 124) rfl))
  | 1, _ => exact (hN _ (List.mem_of_getElem? (i := 125) rfl))
  | 2, _ => exact (hN _ (List.mem_of_getElem? (i := 126) rfl))
  | k + 3, hj => exact absurd hj (by omega)
theorem jx_str_4 (hts : ∀ w ∈ lw_tbl, w.before args s = true) (hN : ∀ w ∈ jx_nws, w.before args s = true) : ∃ a : Nat, vk_R "JobHouseModel" 69 "MAR" a s ∧ jx_str s a 4 := by
  refine jx_str1 (n := 3) rfl (by decide) (hts _ (jm_u5 83 rfl)) (hN _ (List.mem_of_getElem? (i := 127) rfl)) (hN _ (List.mem_of_getElem? (i := 128) rfl)) (hN _ (List.mem_of_getElem? (i := 129) rfl)) (hN _ (List.mem_of_getElem? (i := 130) rfl)) (fun j hj => ?_)
  match j, hj with
  | 0, _ => exact (hN _ (List.mem_of_getElem? (i := 131) rfl))
  | 1, _ => exact (hN _ (List.mem_of_getElem? (i := 132) rfl))
  | 2, _ => exact (hN _ (List.mem_of_getElem? (i := 133) rfl))
  | k + 3, hj => exact absurd hj (by omega)
theorem jx_str_5 (hts : ∀ w ∈ lw_tbl, w.before args s = true) (hN : ∀ w ∈ jx_nws, w.before args s = true) : ∃ a : Nat, vk_R "JobHouseModel" 71 "APR" a s ∧ jx_str s a 5 := by
  refine jx_str1 (n := 3) rfl (by decide) (hts _ (jm_u5 84 rfl)) (hN _ (List.mem_of_getElem? (i := 134) rfl)) (hN _ (List.mem_of_getElem? (i := 135) rfl)) (hN _ (List.mem_of_getElem? (i := 136) rfl)) (hN _ (List.mem_of_getElem? (i := 137) rfl)) (fun j hj => ?_)
  match j, hj with
  | 0, _ => exact (hN _ (List.mem_of_getElem? (i := 138) rfl))
  | 1, _ => exact (hN _ (List.mem_of_getElem? (i := 139) rfl))
  | 2, _ => exact (hN _ (List.mem_of_getElem? (i := 140) rfl))
  | k + 3, hj => exact absurd hj (by omega)
theorem jx_str_6 (hts : ∀ w ∈ lw_tbl, w.before args s = true) (hN : ∀ w ∈ jx_nws, w.before args s = true) : ∃ a : Nat, vk_R "JobHouseModel" 73 "MAY" a s ∧ jx_str s a 6 := by
  refine jx_str1 (n := 3) rfl (by decide) (hts _ (jm_u5 85 rfl)) (hN _ (List.mem_of_getElem? (i := 141) rfl)) (hN _ (List.mem_of_getElem? (i := 142) rfl)) (hN _ (List.mem_of_getElem? (i := 143) rfl)) (hN _ (List.mem_of_getElem? (i := 144) rfl)) (fun j hj => ?_)
  match j, hj with
  | 0, _ => exact (hN _ (List.mem_of_getElem? (i := 145) rfl))
  | 1, _ => exact (hN _ (List.mem_of_getElem? (i := 146) rfl))
  | 2, _ => exact (hN _ (List.mem_of_getElem? (i := 147) rfl))
  | k + 3, hj => exact absurd hj (by omega)
theorem jx_str_7 (hts : ∀ w ∈ lw_tbl, w.before args s = true) (hN : ∀ w ∈ jx_nws, w.before args s = true) : ∃ a : Nat, vk_R "JobHouseModel" 75 "JUN" a s ∧ jx_str s a 7 := by
  refine jx_str1 (n := 3) rfl (by decide) (hts _ (jm_u5 86 rfl)) (hN _ (List.mem_of_getElem? (i := 148) rfl)) (hN _ (List.mem_of_getElem? (i := 149) rfl)) (hN _ (List.mem_of_getElem? (i := 150) rfl)) (hN _ (List.mem_of_getElem? (i := 151) rfl)) (fun j hj => ?_)
  match j, hj with
  | 0, _ => exact (hN _ (List.mem_of_getElem? (i := 152) rfl))
  | 1, _ => exact (hN _ (List.mem_of_getElem? (i := 153) rfl))
  | 2, _ => exact (hN _ (List.mem_of_getElem? (i := 154) rfl))
  | k + 3, hj => exact absurd hj (by omega)
theorem jx_str_8 (hts : ∀ w ∈ lw_tbl, w.before args s = true) (hN : ∀ w ∈ jx_nws, w.before args s = true) : ∃ a : Nat, vk_R "JobHouseModel" 77 "JUL" a s ∧ jx_str s a 8 := by
  refine jx_str1 (n := 3) rfl (by decide) (hts _ (jm_u5 87 rfl)) (hN _ (List.mem_of_getElem? (i := 155) rfl)) (hN _ (List.mem_of_getElem? (i := 156) rfl)) (hN _ (List.mem_of_getElem? (i := 157) rfl)) (hN _ (List.mem_of_getElem? (i := 158) rfl)) (fun j hj => ?_)
  match j, hj with
  | 0, _ => exact (hN _ (List.mem_of_getElem? (i := 159) rfl))
  | 1, _ => exact (hN _ (List.mem_of_getElem? (i := 160) rfl))
  | 2, _ => exact (hN _ (List.mem_of_getElem? (i := 161) rfl))
  | k + 3, hj => exact absurd hj (by omega)
theorem jx_str_9 (hts : ∀ w ∈ lw_tbl, w.before args s = true) (hN : ∀ w ∈ jx_nws, w.before args s = true) : ∃ a : Nat, vk_R "JobHouseModel" 79 "AUG" a s ∧ jx_str s a 9 := by
  refine jx_str1 (n := 3) rfl (by decide) (hts _ (jm_u5 88 rfl)) (hN _ (List.mem_of_getElem? (i := 162) rfl)) (hN _ (List.mem_of_getElem? (i := 163) rfl)) (hN _ (List.mem_of_getElem? (i := 164) rfl)) (hN _ (List.mem_of_getElem? (i := 165) rfl)) (fun j hj => ?_)
  match j, hj with
  | 0, _ => exact (hN _ (List.mem_of_getElem? (i := 166) rfl))
  | 1, _ => exact (hN _ (List.mem_of_getElem? (i := 167) rfl))
  | 2, _ => exact (hN _ (List.mem_of_getElem? (i := 168) rfl))
  | k + 3, hj => exact absurd hj (by omega)
theorem jx_str_10 (hts : ∀ w ∈ lw_tbl, w.before args s = true) (hN : ∀ w ∈ jx_nws, w.before args s = true) : ∃ a : Nat, vk_R "JobHouseModel" 81 "SEP" a s ∧ jx_str s a 10 := by
  refine jx_str1 (n := 3) rfl (by decide) (hts _ (jm_u5 89 rfl)) (hN _ (List.mem_of_getElem? (i := 169) rfl)) (hN _ (List.mem_of_getElem? (i := 170) rfl)) (hN _ (List.mem_of_getElem? (i := 171) rfl)) (hN _ (List.mem_of_getElem? (i := 172) rfl)) (fun j hj => ?_)
  match j, hj with
  | 0, _ => exact (hN _ (List.mem_of_getElem? (i := 173) rfl))
  | 1, _ => exact (hN _ (List.mem_of_getElem? (i := 174) rfl))
  | 2, _ => exact (hN _ (List.mem_of_getElem? (i := 175) rfl))
  | k + 3, hj => exact absurd hj (by omega)
theorem jx_str_11 (hts : ∀ w ∈ lw_tbl, w.before args s = true) (hN : ∀ w ∈ jx_nws, w.before args s = true) : ∃ a : Nat, vk_R "JobHouseModel" 83 "OCT" a s ∧ jx_str s a 11 := by
  refine jx_str1 (n := 3) rfl (by decide) (hts _ (jm_u5 90 rfl)) (hN _ (List.mem_of_getElem? (i := 176) rfl)) (hN _ (List.mem_of_getElem? (i := 177) rfl)) (hN _ (List.mem_of_getElem? (i := 178) rfl)) (hN _ (List.mem_of_getElem? (i := 179) rfl)) (fun j hj => ?_)
  match j, hj with
  | 0, _ => exact (hN _ (List.mem_of_getElem? (i := 180) rfl))
  | 1, _ => exact (hN _ (List.mem_of_getElem? (i := 181) rfl))
  | 2, _ => exact (hN _ (List.mem_of_getElem? (i := 182) rfl))
  | k + 3, hj => exact absurd hj (by omega)
theorem jx_str_12 (hts : ∀ w ∈ lw_tbl, w.before args s = true) (hN : ∀ w ∈ jx_nws, w.before args s = true) : ∃ a : Nat, vk_R "JobHouseModel" 85 "NOV" a s ∧ jx_str s a 12 := by
  refine jx_str1 (n := 3) rfl (by decide) (hts _ (jm_u5 91 rfl)) (hN _ (List.mem_of_getElem? (i := 183) rfl)) (hN _ (List.mem_of_getElem? (i := 184) rfl)) (hN _ (List.mem_of_getElem? (i := 185) rfl)) (hN _ (List.mem_of_getElem? (i := 186) rfl)) (fun j hj => ?_)
  match j, hj with
  | 0, _ => exact (hN _ (List.mem_of_getElem? (i := 187) rfl))
  | 1, _ => exact (hN _ (List.mem_of_getElem? (i := 188) rfl))
  | 2, _ => exact (hN _ (List.mem_of_getElem? (i := 189) rfl))
  | k + 3, hj => exact absurd hj (by omega)
theorem jx_str_13 (hts : ∀ w ∈ lw_tbl, w.before args s = true) (hN : ∀ w ∈ jx_nws, w.before args s = true) : ∃ a : Nat, vk_R "JobHouseModel" 87 "DEC" a s ∧ jx_str s a 13 := by
  refine jx_str1 (n := 3) rfl (by decide) (hts _ (jm_u5 92 rfl)) (hN _ (List.mem_of_getElem? (i := 190) rfl)) (hN _ (List.mem_of_getElem? (i := 191) rfl)) (hN _ (List.mem_of_getElem? (i := 192) rfl)) (hN _ (List.mem_of_getElem? (i := 193) rfl)) (fun j hj => ?_)
  match j, hj with
  | 0, _ => exact (hN _ (List.mem_of_getElem? (i := 194) rfl))
  | 1, _ => exact (hN _ (List.mem_of_getElem? (i := 195) rfl))
  | 2, _ => exact (hN _ (List.mem_of_getElem? (i := 196) rfl))
  | k + 3, hj => exact absurd hj (by omega)
theorem jx_str_14 (hts : ∀ w ∈ lw_tbl, w.before args s = true) (hN : ∀ w ∈ jx_nws, w.before args s = true) : ∃ a : Nat, vk_R "JobHouseModel" 93 "SUN" a s ∧ jx_str s a 14 := by
  refine jx_str1 (n := 3) rfl (by decide) (hts _ (jm_u5 93 rfl)) (hN _ (List.mem_of_getElem? (i := 197) rfl)) (hN _ (List.mem_of_getElem? (i := 198) rfl)) (hN _ (List.mem_of_getElem? (i := 199) rfl)) (hN _ (List.mem_of_getElem? (i := 200) rfl)) (fun j hj => ?_)
  match j, hj with
  | 0, _ => exact (hN _ (List.mem_of_getElem? (i := 201) rfl))
  | 1, _ => exact (hN _ (List.mem_of_getElem? (i := 202) rfl))
  | 2, _ => exact (hN _ (List.mem_of_getElem? (i := 203) rfl))
  | k + 3, hj => exact absurd hj (by omega)
theorem jx_str_15 (hts : ∀ w ∈ lw_tbl, w.before args s = true) (hN : ∀ w ∈ jx_nws, w.before args s = true) : ∃ a : Nat, vk_R "JobHouseModel" 95 "MON" a s ∧ jx_str s a 15 := by
  refine jx_str1 (n := 3) rfl (by decide) (hts _ (jm_u5 94 rfl)) (hN _ (List.mem_of_getElem? (i := 204) rfl)) (hN _ (List.mem_of_getElem? (i := 205) rfl)) (hN _ (List.mem_of_getElem? (i := 206) rfl)) (hN _ (List.mem_of_getElem? (i := 207) rfl)) (fun j hj => ?_)
  match j, hj with
  | 0, _ => exact (hN _ (List.mem_of_getElem? (i := 208) rfl))
  | 1, _ => exact (hN _ (List.mem_of_getElem? (i := 209) rfl))
  | 2, _ => exact (hN _ (List.mem_of_getElem? (i := 210) rfl))
  | k + 3, hj => exact absurd hj (by omega)
theorem jx_str_16 (hts : ∀ w ∈ lw_tbl, w.before args s = true) (hN : ∀ w ∈ jx_nws, w.before args s = true) : ∃ a : Nat, vk_R "JobHouseModel" 97 "TUE" a s ∧ jx_str s a 16 := by
  refine jx_str1 (n := 3) rfl (by decide) (hts _ (jm_u5 95 rfl)) (hN _ (List.mem_of_getElem? (i := 211) rfl)) (hN _ (List.mem_of_getElem? (i := 212) rfl)) (hN _ (List.mem_of_getElem? (i := 213) rfl)) (hN _ (List.mem_of_getElem? (i := 214) rfl)) (fun j hj => ?_)
  match j, hj with
  | 0, _ => exact (hN _ (List.mem_of_getElem? (i := 215) rfl))
  | 1, _ => exact (hN _ (List.mem_of_getElem? (i := 216) rfl))
  | 2, _ => exact (hN _ (List.mem_of_getElem? (i := 217) rfl))
  | k + 3, hj => exact absurd hj (by omega)
theorem jx_str_17 (hts : ∀ w ∈ lw_tbl, w.before args s = true) (hN : ∀ w ∈ jx_nws, w.before args s = true) : ∃ a : Nat, vk_R "JobHouseModel" 99 "WED" a s ∧ jx_str s a 17 := by
  refine jx_str1 (n := 3) rfl (by decide) (hts _ (jm_u5 96 rfl)) (hN _ (List.mem_of_getElem? (i := 218) rfl)) (hN _ (List.mem_of_getElem? (i := 219) rfl)) (hN _ (List.mem_of_getElem? (i := 220) rfl)) (hN _ (List.mem_of_getElem? (i := 221) rfl)) (fun j hj => ?_)
  match j, hj with
  | 0, _ => exact (hN _ (List.mem_of_getElem? (i := 222) rfl))
  | 1, _ => exact (hN _ (List.mem_of_getElem? (i := 223) rfl))
  | 2, _ => exact (hN _ (List.mem_of_getElem? (i := 224) rfl))
  | k + 3, hj => exact absurd hj (by omega)
theorem jx_str_18 (hts : ∀ w ∈ lw_tbl, w.before args s = true) (hN : ∀ w ∈ jx_nws, w.before args s = true) : ∃ a : Nat, vk_R "JobHouseModel" 101 "THU" a s ∧ jx_str s a 18 := by
  refine jx_str1 (n := 3) rfl (by decide) (hts _ (jm_u5 97 rfl)) (hN _ (List.mem_of_getElem? (i := 225) rfl)) (hN _ (List.mem_of_getElem? (i := 226) rfl)) (hN _ (List.mem_of_getElem? (i := 227) rfl)) (hN _ (List.mem_of_getElem? (i := 228) rfl)) (fun j hj => ?_)
  match j, hj with
  | 0, _ => exact (hN _ (List.mem_of_getElem? (i := 229) rfl))
  | 1, _ => exact (hN _ (List.mem_of_getElem? (i := 230) rfl))
  | 2, _ => exact (hN _ (List.mem_of_getElem? (i := 231) rfl))
  | k + 3, hj => exact absurd hj (by omega)
theorem jx_str_19 (hts : ∀ w ∈ lw_tbl, w.before args s = true) (hN : ∀ w ∈ jx_nws, w.before args s = true) : ∃ a : Nat, vk_R "JobHouseModel" 103 "FRI" a s ∧ jx_str s a 19 := by
  refine jx_str1 (n := 3) rfl (by decide) (hts _ (jm_u5 98 rfl)) (hN _ (List.mem_of_getElem? (i := 232) rfl)) (hN _ (List.mem_of_getElem? (i := 233) rfl)) (hN _ (List.mem_of_getElem? (i := 234) rfl)) (hN _ (List.mem_of_getElem? (i := 235) rfl)) (fun j hj => ?_)
  match j, hj with
  | 0, _ => exact (hN _ (List.mem_of_getElem? (i := 236) rfl))
  | 1, _ => exact (hN _ (List.mem_of_getElem? (i := 237) rfl))
  | 2, _ => exact (hN _ (List.mem_of_getElem? (i := 238) rfl))
  | k + 3, hj => exact absurd hj (by omega)
theorem jx_str_20 (hts : ∀ w ∈ lw_tbl, w.before args s = true) (hN : ∀ w ∈ jx_nws, w.before args s = true) : ∃ a : Nat, vk_R "JobHouseModel" 105 "SAT" a s ∧ jx_str s a 20 := by
  refine jx_str1 (n := 3) rfl (by decide) (hts _ (jm_u5 99 rfl)) (hN _ (List.mem_of_getElem? (i := 239) rfl)) (hN _ (List.mem_of_getElem? (i := 240) rfl)) (hN _ (List.mem_of_getElem? (i := 241) rfl)) (hN _ (List.mem_of_getElem? (i := 242) rfl)) (fun j hj => ?_)
  match j, hj with
  | 0, _ => exact (hN _ (List.mem_of_getElem? (i := 243) rfl))
  | 1, _ => exact (hN _ (List.mem_of_getElem? (i := 244) rfl))
  | 2, _ => exact (hN _ (List.mem_of_getElem? (i := 245) rfl))
  | k + 3, hj => exact absurd hj (by omega)
theorem jx_strs0 (hts : ∀ w ∈ lw_tbl, w.before args s = true) (hN : ∀ w ∈ jx_nws, w.before args s = true) : ∃ adK : Nat → Nat, (∀ i, i < 21 → jx_str s (adK i) i) ∧ ∀ (i : Nat) (own : String) (idx : Nat) (tx : String), (i, own, idx, tx) ∈ jx_strs → vk_R own idx tx (adK i) s := by
  obtain ⟨a0, r0, t0⟩ := jx_str_0 hts hN
  obtain ⟨a1, r1, t1⟩ := jx_str_1 hts hN
  obtain ⟨a2, r2, t2⟩ := jx_str_2 hts hN
  obtain ⟨a3, r3, t3⟩ := jx_str_3 hts hN
  obtain ⟨a4, r4, t4⟩ := jx_str_4 hts hN
  obtain ⟨a5, r5, t5⟩ := jx_str_5 hts hN
  obtain ⟨a6, r6, t6⟩ := jx_str_6 hts hN
  obtain ⟨a7, r7, t7⟩ := jx_str_7 hts hN
  obtain ⟨a8, r8, t8⟩ := jx_str_8 hts hN
  obtain ⟨a9, r9, t9⟩ := jx_str_9 hts hN
  obtain ⟨a10, r10, t10⟩ := jx_str_10 hts hN
  obtain ⟨a11, r11, t11⟩ := jx_str_11 hts hN
  obtain ⟨a12, r12, t12⟩ := jx_str_12 hts hN
  obtain ⟨a13, r13, t13⟩ := jx_str_13 hts hN
  obtain ⟨a14, r14, t14⟩ := jx_str_14 hts hN
  obtain ⟨a15, r15, t15⟩ := jx_str_15 hts hN
  obtain ⟨a16, r16, t16⟩ := jx_str_16 hts hN
  obtain ⟨a17, r17, t17⟩ := jx_str_17 hts hN
  obtain ⟨a18, r18, t18⟩ := jx_str_18 hts hN
  obtain ⟨a19, r19, t19⟩ := jx_str_19 hts hN
  obtain ⟨a20, r20, t20⟩ := jx_str_20 hts hN
  refine ⟨fun i => [a0, a1, a2, a3, a4, a5, a6, a7, a8, a9, a10, a11, a12, a13, a14, a15, a16, a17, a18, a19, a20].getD i 0, fun i hi => ?_, fun i own idx tx h => ?_⟩
  · match i, hi with
    | 0, _ => exact t0
    | 1, _ => exact t1
    | 2, _ => exact t2
    | 3, _ => exact t3
    | 4, _ => exact t4
    | 5, _ => exact t5
    | 6, _ => exact t6
    | 7, _ => exact t7
    | 8, _ => exact t8
    | 9, _ => exact t9
    | 10, _ => exact t10
    | 11, _ => exact t11
    | 12, _ => exact t12
    | 13, _ => exact t13
    | 14, _ => exact t14
    | 15, _ => exact t15
    | 16, _ => exact t16
    | 17, _ => exact t17
    | 18, _ => exact t18
    | 19, _ => exact t19
    | 20, _ => exact t20
    | k + 21, hi => exact absurd hi (by omega)
  · simp only [jx_strs, List.mem_cons, List.not_mem_nil, or_false, Prod.mk.injEq] at h
    rcases h with ⟨rfl, rfl, rfl, rfl⟩ | ⟨rfl, rfl, rfl, rfl⟩ | ⟨rfl, rfl, rfl, rfl⟩ | ⟨rfl, rfl, rfl, rfl⟩ | ⟨rfl, rfl, rfl, rfl⟩ | ⟨rfl, rfl, rfl, rfl⟩ | ⟨rfl, rfl, rfl, rfl⟩ | ⟨rfl, rfl, rfl, rfl⟩ | ⟨rfl, rfl, rfl, rfl⟩ | ⟨rfl, rfl, rfl, rfl⟩ | ⟨rfl, rfl, rfl, rfl⟩ | ⟨rfl, rfl, rfl, rfl⟩ | ⟨rfl, rfl, rfl, rfl⟩ | ⟨rfl, rfl, rfl, rfl⟩ | ⟨rfl, rfl, rfl, rfl⟩ | ⟨rfl, rfl, rfl, rfl⟩ | ⟨rfl, rfl, rfl, rfl⟩ | ⟨rfl, rfl, rfl, rfl⟩ | ⟨rfl, rfl, rfl, rfl⟩ | ⟨rfl, rfl, rfl, rfl⟩ | ⟨rfl, rfl, rfl, rfl⟩
    · exact r0
    · exact r1
    · exact r2
    · exact r3
    · exact r4
    · exact r5
    · exact r6
    · exact r7
    · exact r8
    · exact r9
    · exact r10
    · exact r11
    · exact r12
    · exact r13
    · exact r14
    · exact r15
    · exact r16
    · exact r17
    · exact r18
    · exact r19
    · exact r20
def jx_LEAST : Nat → Int32 := fun j => ([0, 0, 0, 1, 1, 1, 1970] : List Int32).getD j 0
theorem jx_LEAST_ok (hts : ∀ w ∈ lw_tbl, w.before args s = true) (hN : ∀ w ∈ jx_nws, w.before args s = true) : ∃ a : Nat, va_Z "JobHouseModel" "LEAST" "[I" (.ref a) (fun q => s.heap.size ≤ q) s s.heap ∧ va_T .int a 7 (fun j => .int (jx_LEAST j)) (fun q => s.heap.size ≤ q) s s.heap := by
  have hA : ∀ a : Nat, a < s.heap.size → ¬ s.heap.size ≤ a := fun a h => Nat.not_le.mpr h
  obtain ⟨t, ht, hT⟩ := va_Tof (tm := (Jvm.Term.static "JobHouseModel" "LEAST" "[I")) (ty := .int) (N := 7) (f := fun j => .int (jx_LEAST j)) (A := fun q => s.heap.size ≤ q) (by decide) (hN _ (List.mem_of_getElem? (i := 9) rfl)) (va_eqt (hN _ (List.mem_of_getElem? (i := 10) rfl))) (fun j hj => va_eqt (by
    match j, hj with
    | 0, _ => exact (hN _ (List.mem_of_getElem? (i := 11) rfl))
    | 1, _ => exact (hN _ (List.mem_of_getElem? (i := 12) rfl))
    | 2, _ => exact (hN _ (List.mem_of_getElem? (i := 13) rfl))
    | 3, _ => exact (hN _ (List.mem_of_getElem? (i := 14) rfl))
    | 4, _ => exact (hN _ (List.mem_of_getElem? (i := 15) rfl))
    | 5, _ => exact (hN _ (List.mem_of_getElem? (i := 16) rfl))
    | 6, _ => exact (hN _ (List.mem_of_getElem? (i := 17) rfl))
    | k + 7, hj => exact absurd hj (by omega))) hA
  exact ⟨t, va_Zof (hts _ (jm_u6 96 rfl)) (hts _ (jm_u1 10 rfl)) ht hA, hT⟩
def jx_MOSTS : Nat → Int32 := fun j => ([59, 59, 23, 31, 12, 7, 2299] : List Int32).getD j 0
theorem jx_MOSTS_ok (hts : ∀ w ∈ lw_tbl, w.before args s = true) (hN : ∀ w ∈ jx_nws, w.before args s = true) : ∃ a : Nat, va_Z "JobHouseModel" "MOSTS" "[I" (.ref a) (fun q => s.heap.size ≤ q) s s.heap ∧ va_T .int a 7 (fun j => .int (jx_MOSTS j)) (fun q => s.heap.size ≤ q) s s.heap := by
  have hA : ∀ a : Nat, a < s.heap.size → ¬ s.heap.size ≤ a := fun a h => Nat.not_le.mpr h
  obtain ⟨t, ht, hT⟩ := va_Tof (tm := (Jvm.Term.static "JobHouseModel" "MOSTS" "[I")) (ty := .int) (N := 7) (f := fun j => .int (jx_MOSTS j)) (A := fun q => s.heap.size ≤ q) (by decide) (hN _ (List.mem_of_getElem? (i := 19) rfl)) (va_eqt (hN _ (List.mem_of_getElem? (i := 20) rfl))) (fun j hj => va_eqt (by
    match j, hj with
    | 0, _ => exact (hN _ (List.mem_of_getElem? (i := 21) rfl))
    | 1, _ => exact (hN _ (List.mem_of_getElem? (i := 22) rfl))
    | 2, _ => exact (hN _ (List.mem_of_getElem? (i := 23) rfl))
    | 3, _ => exact (hN _ (List.mem_of_getElem? (i := 24) rfl))
    | 4, _ => exact (hN _ (List.mem_of_getElem? (i := 25) rfl))
    | 5, _ => exact (hN _ (List.mem_of_getElem? (i := 26) rfl))
    | 6, _ => exact (hN _ (List.mem_of_getElem? (i := 27) rfl))
    | k + 7, hj => exact absurd hj (by omega))) hA
  exact ⟨t, va_Zof (hts _ (jm_u6 98 rfl)) (hts _ (jm_u1 10 rfl)) ht hA, hT⟩
theorem jx_cst0 {D : va_G} (hD : ∀ (c : Nat) (q : vw_C), jm_cl[c]? = some q → u_Kn s q.1 q.2.1 q.2.2 (D.1 c) (D.2 c)) (hN : ∀ w ∈ jx_nws, w.before args s = true) : jx_cst s D := by
  have h10 : ClassAt s "java/lang/IndexOutOfBoundsException" (D.1 10) := (hD 10 _ rfl).2
  have h11 : ClassAt s "java/lang/IllegalArgumentException" (D.1 11) := (hD 11 _ rfl).2
  have h12 : ClassAt s "java/lang/UnsupportedOperationException" (D.1 12) := (hD 12 _ rfl).2
  have h13 : ClassAt s "java/lang/IllegalStateException" (D.1 13) := (hD 13 _ rfl).2
  have h14 : ClassAt s "java/util/NoSuchElementException" (D.1 14) := (hD 14 _ rfl).2
  intro ci cj hi hj
  obtain ⟨a, rfl⟩ : ∃ a, ci = 10 + a := ⟨ci - 10, by omega⟩
  obtain ⟨b, rfl⟩ : ∃ b, cj = 10 + b := ⟨cj - 10, by omega⟩
  have ha : a = 0 ∨ a = 1 ∨ a = 2 ∨ a = 3 ∨ a = 4 := by omega
  have hb : b = 0 ∨ b = 1 ∨ b = 2 ∨ b = 3 ∨ b = 4 := by omega
  rcases ha with rfl | rfl | rfl | rfl | rfl <;> rcases hb with rfl | rfl | rfl | rfl | rfl
  · exact va_assign h10
  · exact jx_ncast h10 h11 (hN _ (List.mem_of_getElem? (i := 32) rfl))
  · exact jx_ncast h10 h12 (hN _ (List.mem_of_getElem? (i := 36) rfl))
  · exact jx_ncast h10 h13 (hN _ (List.mem_of_getElem? (i := 40) rfl))
  · exact jx_ncast h10 h14 (hN _ (List.mem_of_getElem? (i := 44) rfl))
  · exact jx_ncast h11 h10 (hN _ (List.mem_of_getElem? (i := 28) rfl))
  · exact va_assign h11
  · exact jx_ncast h11 h12 (hN _ (List.mem_of_getElem? (i := 37) rfl))
  · exact jx_ncast h11 h13 (hN _ (List.mem_of_getElem? (i := 41) rfl))
  · exact jx_ncast h11 h14 (hN _ (List.mem_of_getElem? (i := 45) rfl))
  · exact jx_ncast h12 h10 (hN _ (List.mem_of_getElem? (i := 29) rfl))
  · exact jx_ncast h12 h11 (hN _ (List.mem_of_getElem? (i := 33) rfl))
  · exact va_assign h12
  · exact jx_ncast h12 h13 (hN _ (List.mem_of_getElem? (i := 42) rfl))
  · exact jx_ncast h12 h14 (hN _ (List.mem_of_getElem? (i := 46) rfl))
  · exact jx_ncast h13 h10 (hN _ (List.mem_of_getElem? (i := 30) rfl))
  · exact jx_ncast h13 h11 (hN _ (List.mem_of_getElem? (i := 34) rfl))
  · exact jx_ncast h13 h12 (hN _ (List.mem_of_getElem? (i := 38) rfl))
  · exact va_assign h13
  · exact jx_ncast h13 h14 (hN _ (List.mem_of_getElem? (i := 47) rfl))
  · exact jx_ncast h14 h10 (hN _ (List.mem_of_getElem? (i := 31) rfl))
  · exact jx_ncast h14 h11 (hN _ (List.mem_of_getElem? (i := 35) rfl))
  · exact jx_ncast h14 h12 (hN _ (List.mem_of_getElem? (i := 39) rfl))
  · exact jx_ncast h14 h13 (hN _ (List.mem_of_getElem? (i := 43) rfl))
  · exact va_assign h14
theorem jx_hw0 (hts : ∀ w ∈ lw_tbl, w.before args s = true) (hN : ∀ w ∈ jx_nws, w.before args s = true) : ∀ w ∈ jx_hw, jm_hs s w := by
  intro w hw
  simp only [jx_hw, List.mem_cons, List.not_mem_nil, or_false] at hw
  rcases hw with rfl | rfl | rfl | rfl | rfl | rfl | rfl | rfl | rfl | rfl | rfl | rfl
  · exact Or.inl ⟨_, _, _, rfl, args, hts _ (jm_u2 114 rfl)⟩
  · exact Or.inl ⟨_, _, _, rfl, args, hts _ (jm_u2 116 rfl)⟩
  · exact Or.inr (Or.inl ⟨_, _, _, rfl, args, hts _ (jm_u2 114 rfl), (hN _ (List.mem_of_getElem? (i := 4) rfl))⟩)
  · exact Or.inr (Or.inl ⟨_, _, _, rfl, args, hts _ (jm_u2 116 rfl), (hN _ (List.mem_of_getElem? (i := 5) rfl))⟩)
  · exact Or.inr (Or.inr (Or.inl ⟨_, _, rfl, args, hts _ (jm_u2 89 rfl)⟩))
  · exact Or.inr (Or.inr (Or.inl ⟨_, _, rfl, args, hts _ (jm_u2 169 rfl)⟩))
  · exact Or.inr (Or.inr (Or.inl ⟨_, _, rfl, args, hts _ (jm_u3 13 rfl)⟩))
  · exact Or.inr (Or.inr (Or.inl ⟨_, _, rfl, args, hts _ (jm_u4 146 rfl)⟩))
  · exact Or.inr (Or.inr (Or.inl ⟨_, _, rfl, args, hts _ (jm_u4 189 rfl)⟩))
  · exact Or.inr (Or.inr (Or.inr ⟨_, rfl, va_Nw.of rfl (hts _ (jm_u2 90 rfl))⟩))
  · exact Or.inr (Or.inr (Or.inr ⟨_, rfl, va_Nw.of rfl (hts _ (jm_u2 92 rfl))⟩))
  · exact Or.inr (Or.inr (Or.inr ⟨_, rfl, va_Nw.of rfl (hts _ (jm_u2 94 rfl))⟩))
/-- the constants, as the small machine has them -/
def jx_M0 (L : Nat) (xs : Nat → Int32) : jx_H := (200, jx_vi L xs) :: (200, jx_vi 7 jx_LEAST) :: (200, jx_vi 7 jx_MOSTS) :: jx_byt.map (fun b => (300, b.map Value.int))
def jx_K0 (L : Nat) (xs : Nat → Int32) (sc aL aM : Nat) (adK : Nat → Nat) : (Nat × List Value) → Nat → Prop := fun q a => (q = (200, jx_vi L xs) ∧ a = sc) ∨ (q = (200, jx_vi 7 jx_LEAST) ∧ a = aL) ∨ (q = (200, jx_vi 7 jx_MOSTS) ∧ a = aM) ∨ ∃ i, i < 21 ∧ q = (300, (jx_byt.getD i []).map Value.int) ∧ a = adK i
theorem jx_byt_len : ∀ i, i < 21 → (jx_byt.getD i []).length < 1000 := by decide +kernel
theorem jx_byt_and : ∀ i, i < 21 → ∀ z ∈ jx_byt.getD i [], z &&& 255 = z := by decide +kernel
theorem jx_start0 (hts : ∀ w ∈ lw_tbl, w.before args s = true) (hgv : (Jvm.Cond.and given_1 narrow_1).before args s = true) {b L : Nat} {xs : Nat → Int32} (hX : va_X b L xs s s.heap) (hb : b < s.heap.size) : ∃ (D : va_G) (dA : Nat → ClassId) (aL aM : Nat) (adK : Nat → Nat), jm_en s D jm_cl (jm_ty dA) jm_G ∧ jx_SF s dA aL aM adK ∧ jx_cst s D ∧ jx_KK s (jx_K0 L xs b aL aM adK) := by
  have hA : ∀ a : Nat, a < s.heap.size → ¬ s.heap.size ≤ a := fun a h => Nat.not_le.mpr h
  have hN : ∀ w ∈ jx_nws, w.before args s = true := fun w hw => flat_of_before _ hgv w (jx_nws_ok w hw)
  have hG : ∀ w ∈ jm_G, w.before args s = true := fun w hw => hts w (List.mem_filter.mp hw).1
  obtain ⟨D, hD⟩ := jx_D0 hts
  obtain ⟨dA, hdA, hMF⟩ := jx_dA0 hts
  obtain ⟨adK, hS1, hS2⟩ := jx_strs0 hts hN
  obtain ⟨aL, hL1, hL2⟩ := jx_LEAST_ok hts hN
  obtain ⟨aM, hM1, hM2⟩ := jx_MOSTS_ok hts hN
  have e : ∀ (n : Nat) (f : Nat → Int32) (i : Nat) (v : Value), (jx_vi n f)[i]? = some v → v = .int (f i) := fun n f i v h => by
    have hl := (List.getElem?_eq_some_iff.mp h).1
    rw [jx_vi_len] at hl
    rw [jx_vi_get hl] at h
    exact (Option.some.inj h).symm
  refine ⟨D, dA, aL, aM, adK, ⟨⟨args, hG⟩, jm_G_ok, hD, hdA⟩, ⟨hL1, hM1, hS2, jx_hw0 hts hN, va_Nw.of rfl (hts _ (jm_u3 159 rfl)), ?_, hMF⟩, jx_cst0 hD hN, ?_, ?_, ?_, ?_⟩
  · intro C hC
    simp only [List.mem_cons, List.not_mem_nil, or_false] at hC
    rcases hC with rfl | rfl | rfl | rfl | rfl
    · exact va_AO.of (hts _ (jm_u1 60 rfl))
    · exact va_AO.of (hts _ (jm_u1 62 rfl))
    · exact va_AO.of (hts _ (jm_u1 64 rfl))
    · exact va_AO.of (hts _ (jm_u1 179 rfl))
    · exact va_AO.of (hts _ (jm_u5 80 rfl))
  · intro Lst a hK
    rcases hK with ⟨h1, rfl⟩ | ⟨h1, rfl⟩ | ⟨h1, rfl⟩ | ⟨i, -, h1, -⟩
    · cases h1
      obtain ⟨scr, g1, g2, g3, g4, g5⟩ := hX
      exact ⟨xs, ⟨scr, g1, g2, g3, by rw [jx_vi_len, g4]; exact Nat.le_refl _, by rw [jx_vi_len, g4], fun j hj => g5 j (by rw [jx_vi_len] at hj; exact hj), hA _ hb⟩, e _ _⟩
    · cases h1
      exact ⟨jx_LEAST, by rw [jx_vi_len]; exact hL2, e _ _⟩
    · cases h1
      exact ⟨jx_MOSTS, by rw [jx_vi_len]; exact hM2, e _ _⟩
    · cases h1
  · intro Lst a hK
    rcases hK with ⟨h1, -⟩ | ⟨h1, -⟩ | ⟨h1, -⟩ | ⟨i, hi, h1, rfl⟩
    · cases h1
    · cases h1
    · cases h1
    · cases h1
      obtain ⟨g1, g2, v, g3, g4⟩ := hS1 i hi
      refine ⟨g1, g2, v, _, g3, by rw [List.length_map]; exact g4, by rw [List.length_map]; exact jx_byt_len i hi, fun j w hw => ?_⟩
      rw [List.getElem?_map] at hw
      obtain ⟨z, hz, rfl⟩ := Option.map_eq_some_iff.mp hw
      have e2 : (jx_byt.getD i []).getD j 0 = z := by rw [List.getD_eq_getElem?_getD, hz]; rfl
      rw [e2]
      exact ⟨rfl, jx_byt_and i hi z (List.mem_of_getElem? hz)⟩
  · exact va_Zof (hts _ (jm_u3 71 rfl)) (hts _ (jm_u1 19 rfl)) (va_eqt (hN _ (List.mem_of_getElem? (i := 6) rfl))) hA
  · rcases va_Zqof (hts _ (jm_u3 87 rfl)) (hts _ (jm_u1 21 rfl)) (hN _ (List.mem_of_getElem? (i := 7) rfl)) hA with h | ⟨t, h⟩
    · exact ⟨_, Or.inl rfl, h⟩
    · exact ⟨_, Or.inr ⟨t, rfl⟩, h⟩
end JE
