theorem dX3_solves_151 : decode cX3_solves 151 = .ok (.iload_n 2, 1) := by decide +kernel
theorem dX3_solves_152 : decode cX3_solves 152 = .ok (.laload, 1) := by decide +kernel
theorem dX3_solves_153 : decode cX3_solves 153 = .ok (.lmul, 1) := by decide +kernel
theorem dX3_solves_154 : decode cX3_solves 154 = .ok (.ladd, 1) := by decide +kernel
theorem dX3_solves_155 : decode cX3_solves 155 = .ok (.lastore, 1) := by decide +kernel
theorem dX3_solves_156 : decode cX3_solves 156 = .ok (.iinc 2 1, 3) := by decide +kernel
theorem dX3_solves_159 : decode cX3_solves 159 = .ok (.goto (-36), 3) := by decide +kernel
theorem dX3_solves_162 : decode cX3_solves 162 = .ok (.iinc 1 1, 3) := by decide +kernel
theorem dX3_solves_165 : decode cX3_solves 165 = .ok (.goto (-57), 3) := by decide +kernel
theorem dX3_solves_168 : decode cX3_solves 168 = .ok (.iconst 1, 1) := by decide +kernel
theorem dX3_solves_169 : decode cX3_solves 169 = .ok (.ireturn, 1) := by decide +kernel
theorem dX3_divisor_0 : decode cX3_divisor 0 = .ok (.lload_n 0, 1) := by decide +kernel
theorem dX3_divisor_1 : decode cX3_divisor 1 = .ok (.lconst 0, 1) := by decide +kernel
theorem dX3_divisor_2 : decode cX3_divisor 2 = .ok (.lcmp, 1) := by decide +kernel
theorem dX3_divisor_3 : decode cX3_divisor 3 = .ok (.ifCond .ge 8, 3) := by decide +kernel
theorem dX3_divisor_6 : decode cX3_divisor 6 = .ok (.lload_n 0, 1) := by decide +kernel
theorem dX3_divisor_7 : decode cX3_divisor 7 = .ok (.lneg, 1) := by decide +kernel
theorem dX3_divisor_8 : decode cX3_divisor 8 = .ok (.goto 4, 3) := by decide +kernel
theorem dX3_divisor_11 : decode cX3_divisor 11 = .ok (.lload_n 0, 1) := by decide +kernel
theorem dX3_divisor_12 : decode cX3_divisor 12 = .ok (.lstore 4, 2) := by decide +kernel
theorem dX3_divisor_14 : decode cX3_divisor 14 = .ok (.lload_n 2, 1) := by decide +kernel
theorem dX3_divisor_15 : decode cX3_divisor 15 = .ok (.lstore 6, 2) := by decide +kernel
theorem dX3_divisor_17 : decode cX3_divisor 17 = .ok (.lload 6, 2) := by decide +kernel
theorem dX3_divisor_19 : decode cX3_divisor 19 = .ok (.lconst 0, 1) := by decide +kernel
theorem dX3_divisor_20 : decode cX3_divisor 20 = .ok (.lcmp, 1) := by decide +kernel
theorem dX3_divisor_21 : decode cX3_divisor 21 = .ok (.ifCond .eq 21, 3) := by decide +kernel
theorem dX3_divisor_24 : decode cX3_divisor 24 = .ok (.lload 4, 2) := by decide +kernel
theorem dX3_divisor_26 : decode cX3_divisor 26 = .ok (.lload 6, 2) := by decide +kernel
theorem dX3_divisor_28 : decode cX3_divisor 28 = .ok (.lrem, 1) := by decide +kernel
theorem dX3_divisor_29 : decode cX3_divisor 29 = .ok (.lstore 8, 2) := by decide +kernel
theorem dX3_divisor_31 : decode cX3_divisor 31 = .ok (.lload 6, 2) := by decide +kernel
theorem dX3_divisor_33 : decode cX3_divisor 33 = .ok (.lstore 4, 2) := by decide +kernel
theorem dX3_divisor_35 : decode cX3_divisor 35 = .ok (.lload 8, 2) := by decide +kernel
theorem dX3_divisor_37 : decode cX3_divisor 37 = .ok (.lstore 6, 2) := by decide +kernel
theorem dX3_divisor_39 : decode cX3_divisor 39 = .ok (.goto (-22), 3) := by decide +kernel
theorem dX3_divisor_42 : decode cX3_divisor 42 = .ok (.lload 4, 2) := by decide +kernel
theorem dX3_divisor_44 : decode cX3_divisor 44 = .ok (.lreturn, 1) := by decide +kernel
set_option maxRecDepth 20000 in
theorem ggX3_partOf_X3_divisor : GoodIn wsX3_partOf wsX3_divisor := goodIn_ca (goodIn_r _ [5] (by decide +kernel) (by decide +kernel)) (goodIn_sub (fun _ h => List.mem_cons_of_mem _ (List.mem_append_right _ h)) (by decide +kernel))
set_option maxRecDepth 20000 in
theorem gX3_partOf_X3_divisor : GoodIn wsX3_partOf (va_wsS RX3 91 yX3_divisor wsX3_divisor) := goodIn_app (goodIn_of _ (by decide +kernel)) ggX3_partOf_X3_divisor
theorem dX3_partOf_0 : decode cX3_partOf 0 = .ok (.iload_n 3, 1) := by decide +kernel
theorem dX3_partOf_1 : decode cX3_partOf 1 = .ok (.ifCond .ne 7, 3) := by decide +kernel
theorem dX3_partOf_4 : decode cX3_partOf 4 = .ok (.lload_n 1, 1) := by decide +kernel
theorem dX3_partOf_5 : decode cX3_partOf 5 = .ok (.goto 7, 3) := by decide +kernel
theorem dX3_partOf_8 : decode cX3_partOf 8 = .ok (.aload_n 0, 1) := by decide +kernel
theorem dX3_partOf_9 : decode cX3_partOf 9 = .ok (.getfield 87, 3) := by decide +kernel
theorem dX3_partOf_12 : decode cX3_partOf 12 = .ok (.lload_n 1, 1) := by decide +kernel
theorem dX3_partOf_13 : decode cX3_partOf 13 = .ok (.aload_n 0, 1) := by decide +kernel
theorem dX3_partOf_14 : decode cX3_partOf 14 = .ok (.getfield 87, 3) := by decide +kernel
theorem dX3_partOf_17 : decode cX3_partOf 17 = .ok (.invokestatic 91, 3) := by decide +kernel
theorem dX3_partOf_20 : decode cX3_partOf 20 = .ok (.ldiv, 1) := by decide +kernel
theorem dX3_partOf_21 : decode cX3_partOf 21 = .ok (.lreturn, 1) := by decide +kernel
set_option maxRecDepth 20000 in
theorem ggX3_lacks_X3_in : GoodIn wsX3_lacks wsX3_in := goodIn_r _ [5] (by decide +kernel) (by decide +kernel)
set_option maxRecDepth 20000 in
theorem gX3_lacks_X3_in : GoodIn wsX3_lacks (va_wsS RX3 49 yX3_in wsX3_in) := goodIn_app (goodIn_of _ (by decide +kernel)) ggX3_lacks_X3_in
set_option maxRecDepth 20000 in
theorem ggX3_lacks_X3_solves : GoodIn wsX3_lacks wsX3_solves := goodIn_ca (goodIn_r _ [9, 10, 11, 12, 13, 14, 15, 16, 4, 17, 18, 19, 20, 21, 22, 23, 24, 25, 26, 27, 28, 29, 30, 31, 32, 33, 34, 35, 36, 37, 38, 39, 40, 41, 42, 43, 44, 45, 46, 47, 48, 49, 50, 51, 52, 53] (by decide +kernel) (by decide +kernel)) (goodIn_sub (fun _ h => List.mem_cons_of_mem _ (List.mem_append_right _ h)) (by decide +kernel))
set_option maxRecDepth 20000 in
theorem gX3_lacks_X3_solves : GoodIn wsX3_lacks (wsV RX3 95 RX3 yX3_solves wsX3_solves) := goodIn_app (goodIn_of _ (by decide +kernel)) ggX3_lacks_X3_solves
theorem dX3_lacks_0 : decode cX3_lacks 0 = .ok (.aload_n 0, 1) := by decide +kernel
theorem dX3_lacks_1 : decode cX3_lacks 1 = .ok (.iload_n 1, 1) := by decide +kernel
theorem dX3_lacks_2 : decode cX3_lacks 2 = .ok (.ifCond .ne 7, 3) := by decide +kernel
theorem dX3_lacks_5 : decode cX3_lacks 5 = .ok (.iconst 1, 1) := by decide +kernel
theorem dX3_lacks_6 : decode cX3_lacks 6 = .ok (.goto 17, 3) := by decide +kernel
theorem dX3_lacks_9 : decode cX3_lacks 9 = .ok (.iload_n 2, 1) := by decide +kernel
theorem dX3_lacks_10 : decode cX3_lacks 10 = .ok (.iconst 0, 1) := by decide +kernel
theorem dX3_lacks_11 : decode cX3_lacks 11 = .ok (.iconst 1, 1) := by decide +kernel
theorem dX3_lacks_12 : decode cX3_lacks 12 = .ok (.invokestatic 49, 3) := by decide +kernel
theorem dX3_lacks_15 : decode cX3_lacks 15 = .ok (.ifCond .ne 7, 3) := by decide +kernel
theorem dX3_lacks_18 : decode cX3_lacks 18 = .ok (.iconst 2, 1) := by decide +kernel
theorem dX3_lacks_19 : decode cX3_lacks 19 = .ok (.goto 4, 3) := by decide +kernel
theorem dX3_lacks_22 : decode cX3_lacks 22 = .ok (.iconst 0, 1) := by decide +kernel
theorem dX3_lacks_23 : decode cX3_lacks 23 = .ok (.putfield 45, 3) := by decide +kernel
theorem dX3_lacks_26 : decode cX3_lacks 26 = .ok (.aload_n 0, 1) := by decide +kernel
theorem dX3_lacks_27 : decode cX3_lacks 27 = .ok (.getfield 45, 3) := by decide +kernel
theorem dX3_lacks_30 : decode cX3_lacks 30 = .ok (.ifCond .ne 15, 3) := by decide +kernel
theorem dX3_lacks_33 : decode cX3_lacks 33 = .ok (.aload_n 0, 1) := by decide +kernel
theorem dX3_lacks_34 : decode cX3_lacks 34 = .ok (.invokevirtual 95, 3) := by decide +kernel
theorem dX3_lacks_37 : decode cX3_lacks 37 = .ok (.ifCond .ne 8, 3) := by decide +kernel
theorem dX3_lacks_40 : decode cX3_lacks 40 = .ok (.aload_n 0, 1) := by decide +kernel
theorem dX3_lacks_41 : decode cX3_lacks 41 = .ok (.iconst 3, 1) := by decide +kernel
theorem dX3_lacks_42 : decode cX3_lacks 42 = .ok (.putfield 45, 3) := by decide +kernel
theorem dX3_lacks_45 : decode cX3_lacks 45 = .ok (.aload_n 0, 1) := by decide +kernel
theorem dX3_lacks_46 : decode cX3_lacks 46 = .ok (.getfield 45, 3) := by decide +kernel
theorem dX3_lacks_49 : decode cX3_lacks 49 = .ok (.ifCond .eq 7, 3) := by decide +kernel
theorem dX3_lacks_52 : decode cX3_lacks 52 = .ok (.iconst 1, 1) := by decide +kernel
theorem dX3_lacks_53 : decode cX3_lacks 53 = .ok (.goto 4, 3) := by decide +kernel
theorem dX3_lacks_56 : decode cX3_lacks 56 = .ok (.iconst 0, 1) := by decide +kernel
theorem dX3_lacks_57 : decode cX3_lacks 57 = .ok (.ireturn, 1) := by decide +kernel
set_option maxRecDepth 20000 in
theorem ggX3_head_X3_isCell : GoodIn wsX3_head wsX3_isCell := goodIn_r _ [5, 6, 7, 4, 8] (by decide +kernel) (by decide +kernel)
set_option maxRecDepth 20000 in
theorem gX3_head_X3_isCell : GoodIn wsX3_head (va_wsS RX3 63 yX3_isCell wsX3_isCell) := goodIn_app (goodIn_of _ (by decide +kernel)) ggX3_head_X3_isCell
set_option maxRecDepth 20000 in
theorem ggX3_head_X3_lacks : GoodIn wsX3_head wsX3_lacks := goodIn_ca (goodIn_r _ [12, 13, 6, 7, 4, 8, 14, 15, 16, 17, 18, 19, 1, 20, 21, 22, 23, 24, 25, 26, 27, 28, 29, 30, 31, 32, 33, 34, 35, 36, 37, 38, 39, 40, 41, 42, 43, 44, 45, 53, 54, 55, 56, 57, 58, 59, 60, 61, 62, 63, 64, 65, 66, 67] (by decide +kernel) (by decide +kernel)) (goodIn_sub (fun _ h => List.mem_cons_of_mem _ (List.mem_append_left _ (List.mem_append_right _ h))) (by decide +kernel))
set_option maxRecDepth 20000 in
theorem gX3_head_X3_lacks : GoodIn wsX3_head (wsV RX3 98 RX3 yX3_lacks wsX3_lacks) := goodIn_app (goodIn_of _ (by decide +kernel)) ggX3_head_X3_lacks
set_option maxRecDepth 20000 in
theorem ggX3_head_X3_partOf : GoodIn wsX3_head wsX3_partOf := goodIn_ca (goodIn_r _ [49, 18, 50, 51, 4, 52, 53, 54, 55, 56, 57, 58, 59, 60, 61, 62, 63, 64, 65, 66, 67] (by decide +kernel) (by decide +kernel)) (goodIn_sub (fun _ h => List.mem_cons_of_mem _ (List.mem_append_right _ h)) (by decide +kernel))
set_option maxRecDepth 20000 in
theorem gX3_head_X3_partOf : GoodIn wsX3_head (wsV RX3 102 RX3 yX3_partOf wsX3_partOf) := goodIn_app (goodIn_of _ (by decide +kernel)) ggX3_head_X3_partOf
theorem dX3_head_0 : decode cX3_head 0 = .ok (.aload_n 0, 1) := by decide +kernel
theorem dX3_head_1 : decode cX3_head 1 = .ok (.iload_n 1, 1) := by decide +kernel
theorem dX3_head_2 : decode cX3_head 2 = .ok (.invokestatic 63, 3) := by decide +kernel
theorem dX3_head_5 : decode cX3_head 5 = .ok (.iload_n 2, 1) := by decide +kernel
theorem dX3_head_6 : decode cX3_head 6 = .ok (.invokevirtual 98, 3) := by decide +kernel
theorem dX3_head_9 : decode cX3_head 9 = .ok (.ifCond .eq 7, 3) := by decide +kernel
theorem dX3_head_12 : decode cX3_head 12 = .ok (.lconst 0, 1) := by decide +kernel
theorem dX3_head_13 : decode cX3_head 13 = .ok (.goto 14, 3) := by decide +kernel
theorem dX3_head_16 : decode cX3_head 16 = .ok (.aload_n 0, 1) := by decide +kernel
theorem dX3_head_17 : decode cX3_head 17 = .ok (.aload_n 0, 1) := by decide +kernel
theorem dX3_head_18 : decode cX3_head 18 = .ok (.getfield 36, 3) := by decide +kernel
theorem dX3_head_21 : decode cX3_head 21 = .ok (.iload_n 1, 1) := by decide +kernel
theorem dX3_head_22 : decode cX3_head 22 = .ok (.laload, 1) := by decide +kernel
theorem dX3_head_23 : decode cX3_head 23 = .ok (.iload_n 2, 1) := by decide +kernel
theorem dX3_head_24 : decode cX3_head 24 = .ok (.invokevirtual 102, 3) := by decide +kernel
theorem dX3_head_27 : decode cX3_head 27 = .ok (.lreturn, 1) := by decide +kernel
theorem dX3_headAt_0 : decode cX3_headAt 0 = .ok (.iload_n 1, 1) := by decide +kernel
theorem dX3_headAt_1 : decode cX3_headAt 1 = .ok (.bipush 9, 2) := by decide +kernel
theorem dX3_headAt_3 : decode cX3_headAt 3 = .ok (.if_icmp .ge 12, 3) := by decide +kernel
theorem dX3_headAt_6 : decode cX3_headAt 6 = .ok (.aload_n 0, 1) := by decide +kernel
theorem dX3_headAt_7 : decode cX3_headAt 7 = .ok (.getfield 36, 3) := by decide +kernel
theorem dX3_headAt_10 : decode cX3_headAt 10 = .ok (.iload_n 1, 1) := by decide +kernel
theorem dX3_headAt_11 : decode cX3_headAt 11 = .ok (.laload, 1) := by decide +kernel
theorem dX3_headAt_12 : decode cX3_headAt 12 = .ok (.goto 21, 3) := by decide +kernel
theorem dX3_headAt_15 : decode cX3_headAt 15 = .ok (.aload_n 0, 1) := by decide +kernel
theorem dX3_headAt_16 : decode cX3_headAt 16 = .ok (.getfield 7, 3) := by decide +kernel
theorem dX3_headAt_19 : decode cX3_headAt 19 = .ok (.bipush 24, 2) := by decide +kernel
theorem dX3_headAt_21 : decode cX3_headAt 21 = .ok (.iload_n 1, 1) := by decide +kernel
theorem dX3_headAt_22 : decode cX3_headAt 22 = .ok (.iadd, 1) := by decide +kernel
theorem dX3_headAt_23 : decode cX3_headAt 23 = .ok (.bipush 9, 2) := by decide +kernel
theorem dX3_headAt_25 : decode cX3_headAt 25 = .ok (.isub, 1) := by decide +kernel
theorem dX3_headAt_26 : decode cX3_headAt 26 = .ok (.iaload, 1) := by decide +kernel
theorem dX3_headAt_27 : decode cX3_headAt 27 = .ok (.i2l, 1) := by decide +kernel
theorem dX3_headAt_28 : decode cX3_headAt 28 = .ok (.aload_n 0, 1) := by decide +kernel
theorem dX3_headAt_29 : decode cX3_headAt 29 = .ok (.getfield 87, 3) := by decide +kernel
theorem dX3_headAt_32 : decode cX3_headAt 32 = .ok (.lmul, 1) := by decide +kernel
theorem dX3_headAt_33 : decode cX3_headAt 33 = .ok (.lreturn, 1) := by decide +kernel
set_option maxRecDepth 20000 in
theorem ggX3_flowOf_X3_headAt : GoodIn wsX3_flowOf wsX3_headAt := goodIn_ca (goodIn_r _ [6, 7, 1, 8, 12, 13, 14, 15, 16, 17, 18, 19, 20, 21, 22, 23, 24, 25, 26] (by decide +kernel) (by decide +kernel)) (goodIn_sub (fun _ h => List.mem_cons_of_mem _ (List.mem_append_right _ h)) (by decide +kernel))
set_option maxRecDepth 20000 in
theorem gX3_flowOf_X3_headAt : GoodIn wsX3_flowOf (wsV RX3 106 RX3 yX3_headAt wsX3_headAt) := goodIn_app (goodIn_of _ (by decide +kernel)) ggX3_flowOf_X3_headAt
set_option maxRecDepth 20000 in
theorem ggX3_flowOf_X3_otherOf : GoodIn wsX3_flowOf wsX3_otherOf := goodIn_r _ [11] (by decide +kernel) (by decide +kernel)
set_option maxRecDepth 20000 in
theorem gX3_flowOf_X3_otherOf : GoodIn wsX3_flowOf (va_wsS RX3 70 yX3_otherOf wsX3_otherOf) := goodIn_app (goodIn_of _ (by decide +kernel)) ggX3_flowOf_X3_otherOf
theorem dX3_flowOf_0 : decode cX3_flowOf 0 = .ok (.iload_n 1, 1) := by decide +kernel
theorem dX3_flowOf_1 : decode cX3_flowOf 1 = .ok (.bipush 12, 2) := by decide +kernel
theorem dX3_flowOf_3 : decode cX3_flowOf 3 = .ok (.irem, 1) := by decide +kernel
theorem dX3_flowOf_4 : decode cX3_flowOf 4 = .ok (.iconst 4, 1) := by decide +kernel
theorem dX3_flowOf_5 : decode cX3_flowOf 5 = .ok (.idiv, 1) := by decide +kernel
theorem dX3_flowOf_6 : decode cX3_flowOf 6 = .ok (.istore_n 2, 1) := by decide +kernel
theorem dX3_flowOf_7 : decode cX3_flowOf 7 = .ok (.iload_n 1, 1) := by decide +kernel
theorem dX3_flowOf_8 : decode cX3_flowOf 8 = .ok (.iconst 4, 1) := by decide +kernel
theorem dX3_flowOf_9 : decode cX3_flowOf 9 = .ok (.irem, 1) := by decide +kernel
theorem dX3_flowOf_10 : decode cX3_flowOf 10 = .ok (.istore_n 3, 1) := by decide +kernel
theorem dX3_flowOf_11 : decode cX3_flowOf 11 = .ok (.iload_n 3, 1) := by decide +kernel
theorem dX3_flowOf_12 : decode cX3_flowOf 12 = .ok (.iconst 3, 1) := by decide +kernel
theorem dX3_flowOf_13 : decode cX3_flowOf 13 = .ok (.if_icmp .ge 7, 3) := by decide +kernel
theorem dX3_flowOf_16 : decode cX3_flowOf 16 = .ok (.iload_n 3, 1) := by decide +kernel
theorem dX3_flowOf_17 : decode cX3_flowOf 17 = .ok (.goto 4, 3) := by decide +kernel
theorem dX3_flowOf_20 : decode cX3_flowOf 20 = .ok (.iconst 2, 1) := by decide +kernel
theorem dX3_flowOf_21 : decode cX3_flowOf 21 = .ok (.istore 4, 2) := by decide +kernel
theorem dX3_flowOf_23 : decode cX3_flowOf 23 = .ok (.iload_n 1, 1) := by decide +kernel
theorem dX3_flowOf_24 : decode cX3_flowOf 24 = .ok (.bipush 12, 2) := by decide +kernel
theorem dX3_flowOf_26 : decode cX3_flowOf 26 = .ok (.if_icmp .ge 12, 3) := by decide +kernel
theorem dX3_flowOf_29 : decode cX3_flowOf 29 = .ok (.iconst 3, 1) := by decide +kernel
theorem dX3_flowOf_30 : decode cX3_flowOf 30 = .ok (.iload_n 2, 1) := by decide +kernel
theorem dX3_flowOf_31 : decode cX3_flowOf 31 = .ok (.imul, 1) := by decide +kernel
theorem dX3_flowOf_32 : decode cX3_flowOf 32 = .ok (.iload 4, 2) := by decide +kernel
theorem dX3_flowOf_34 : decode cX3_flowOf 34 = .ok (.iadd, 1) := by decide +kernel
theorem dX3_flowOf_35 : decode cX3_flowOf 35 = .ok (.goto 9, 3) := by decide +kernel
theorem dX3_flowOf_38 : decode cX3_flowOf 38 = .ok (.iconst 3, 1) := by decide +kernel
theorem dX3_flowOf_39 : decode cX3_flowOf 39 = .ok (.iload 4, 2) := by decide +kernel
theorem dX3_flowOf_41 : decode cX3_flowOf 41 = .ok (.imul, 1) := by decide +kernel
theorem dX3_flowOf_42 : decode cX3_flowOf 42 = .ok (.iload_n 2, 1) := by decide +kernel
theorem dX3_flowOf_43 : decode cX3_flowOf 43 = .ok (.iadd, 1) := by decide +kernel
theorem dX3_flowOf_44 : decode cX3_flowOf 44 = .ok (.istore 5, 2) := by decide +kernel
theorem dX3_flowOf_46 : decode cX3_flowOf 46 = .ok (.iload_n 1, 1) := by decide +kernel
theorem dX3_flowOf_47 : decode cX3_flowOf 47 = .ok (.bipush 12, 2) := by decide +kernel
theorem dX3_flowOf_49 : decode cX3_flowOf 49 = .ok (.if_icmp .ge 16, 3) := by decide +kernel
theorem dX3_flowOf_52 : decode cX3_flowOf 52 = .ok (.iload_n 3, 1) := by decide +kernel
theorem dX3_flowOf_53 : decode cX3_flowOf 53 = .ok (.iconst 3, 1) := by decide +kernel
theorem dX3_flowOf_54 : decode cX3_flowOf 54 = .ok (.if_icmp .ge 7, 3) := by decide +kernel
theorem dX3_flowOf_57 : decode cX3_flowOf 57 = .ok (.iconst 3, 1) := by decide +kernel
theorem dX3_flowOf_58 : decode cX3_flowOf 58 = .ok (.goto 17, 3) := by decide +kernel
theorem dX3_flowOf_61 : decode cX3_flowOf 61 = .ok (.iconst 1, 1) := by decide +kernel
theorem dX3_flowOf_62 : decode cX3_flowOf 62 = .ok (.goto 13, 3) := by decide +kernel
theorem dX3_flowOf_65 : decode cX3_flowOf 65 = .ok (.iload_n 3, 1) := by decide +kernel
theorem dX3_flowOf_66 : decode cX3_flowOf 66 = .ok (.iconst 3, 1) := by decide +kernel
theorem dX3_flowOf_67 : decode cX3_flowOf 67 = .ok (.if_icmp .ge 7, 3) := by decide +kernel
theorem dX3_flowOf_70 : decode cX3_flowOf 70 = .ok (.iconst 0, 1) := by decide +kernel
theorem dX3_flowOf_71 : decode cX3_flowOf 71 = .ok (.goto 4, 3) := by decide +kernel
theorem dX3_flowOf_74 : decode cX3_flowOf 74 = .ok (.iconst 2, 1) := by decide +kernel
theorem dX3_flowOf_75 : decode cX3_flowOf 75 = .ok (.istore 6, 2) := by decide +kernel
theorem dX3_flowOf_77 : decode cX3_flowOf 77 = .ok (.aload_n 0, 1) := by decide +kernel
theorem dX3_flowOf_78 : decode cX3_flowOf 78 = .ok (.iload 5, 2) := by decide +kernel
theorem dX3_flowOf_80 : decode cX3_flowOf 80 = .ok (.invokevirtual 106, 3) := by decide +kernel
theorem dX3_flowOf_83 : decode cX3_flowOf 83 = .ok (.lstore 7, 2) := by decide +kernel
theorem dX3_flowOf_85 : decode cX3_flowOf 85 = .ok (.aload_n 0, 1) := by decide +kernel
theorem dX3_flowOf_86 : decode cX3_flowOf 86 = .ok (.iload 5, 2) := by decide +kernel
theorem dX3_flowOf_88 : decode cX3_flowOf 88 = .ok (.iload 6, 2) := by decide +kernel
theorem dX3_flowOf_90 : decode cX3_flowOf 90 = .ok (.invokestatic 70, 3) := by decide +kernel
theorem dX3_flowOf_93 : decode cX3_flowOf 93 = .ok (.invokevirtual 106, 3) := by decide +kernel
theorem dX3_flowOf_96 : decode cX3_flowOf 96 = .ok (.lstore 9, 2) := by decide +kernel
theorem dX3_flowOf_98 : decode cX3_flowOf 98 = .ok (.aload_n 0, 1) := by decide +kernel
theorem dX3_flowOf_99 : decode cX3_flowOf 99 = .ok (.getfield 7, 3) := by decide +kernel
theorem dX3_flowOf_102 : decode cX3_flowOf 102 = .ok (.iconst 0, 1) := by decide +kernel
theorem dX3_flowOf_103 : decode cX3_flowOf 103 = .ok (.iload_n 1, 1) := by decide +kernel
theorem dX3_flowOf_104 : decode cX3_flowOf 104 = .ok (.iadd, 1) := by decide +kernel
theorem dX3_flowOf_105 : decode cX3_flowOf 105 = .ok (.iaload, 1) := by decide +kernel
theorem dX3_flowOf_106 : decode cX3_flowOf 106 = .ok (.i2l, 1) := by decide +kernel
theorem dX3_flowOf_107 : decode cX3_flowOf 107 = .ok (.iload_n 3, 1) := by decide +kernel
theorem dX3_flowOf_108 : decode cX3_flowOf 108 = .ok (.iconst 3, 1) := by decide +kernel
theorem dX3_flowOf_109 : decode cX3_flowOf 109 = .ok (.if_icmp .ge 11, 3) := by decide +kernel
theorem dX3_flowOf_112 : decode cX3_flowOf 112 = .ok (.lload 9, 2) := by decide +kernel
theorem dX3_flowOf_114 : decode cX3_flowOf 114 = .ok (.lload 7, 2) := by decide +kernel
theorem dX3_flowOf_116 : decode cX3_flowOf 116 = .ok (.lsub, 1) := by decide +kernel
theorem dX3_flowOf_117 : decode cX3_flowOf 117 = .ok (.goto 8, 3) := by decide +kernel
theorem dX3_flowOf_120 : decode cX3_flowOf 120 = .ok (.lload 7, 2) := by decide +kernel
theorem dX3_flowOf_122 : decode cX3_flowOf 122 = .ok (.lload 9, 2) := by decide +kernel
theorem dX3_flowOf_124 : decode cX3_flowOf 124 = .ok (.lsub, 1) := by decide +kernel
theorem dX3_flowOf_125 : decode cX3_flowOf 125 = .ok (.lmul, 1) := by decide +kernel
theorem dX3_flowOf_126 : decode cX3_flowOf 126 = .ok (.lreturn, 1) := by decide +kernel
set_option maxRecDepth 20000 in
theorem ggX3_flow_X3_in : GoodIn wsX3_flow wsX3_in := goodIn_r _ [4] (by decide +kernel) (by decide +kernel)
set_option maxRecDepth 20000 in
theorem gX3_flow_X3_in : GoodIn wsX3_flow (va_wsS RX3 49 yX3_in wsX3_in) := goodIn_app (goodIn_of _ (by decide +kernel)) ggX3_flow_X3_in
set_option maxRecDepth 20000 in
theorem ggX3_flow_X3_lacks : GoodIn wsX3_flow wsX3_lacks := goodIn_ca (goodIn_r _ [8, 9, 1, 2, 3, 4, 10, 11, 12, 13, 14, 15, 16, 17, 18, 19, 20, 21, 22, 23, 24, 25, 26, 27, 28, 29, 30, 31, 32, 33, 34, 35, 36, 37, 38, 39, 40, 41, 42, 58, 59, 60, 61, 62, 63, 64, 65, 66, 67, 68, 69, 70, 71, 72] (by decide +kernel) (by decide +kernel)) (goodIn_sub (fun _ h => List.mem_cons_of_mem _ (List.mem_append_left _ (List.mem_append_right _ h))) (by decide +kernel))
set_option maxRecDepth 20000 in
theorem gX3_flow_X3_lacks : GoodIn wsX3_flow (wsV RX3 98 RX3 yX3_lacks wsX3_lacks) := goodIn_app (goodIn_of _ (by decide +kernel)) ggX3_flow_X3_lacks
set_option maxRecDepth 20000 in
theorem ggX3_flow_X3_flowOf : GoodIn wsX3_flow wsX3_flowOf := goodIn_ca (goodIn_r _ [46, 29, 47, 48, 49, 3, 50, 16, 14, 22, 23, 24, 58, 59, 60, 61, 62, 63, 64, 65, 66, 67, 68, 69, 70, 71, 72] (by decide +kernel) (by decide +kernel)) (goodIn_sub (fun _ h => List.mem_cons_of_mem _ (List.mem_append_left _ (List.mem_append_right _ h))) (by decide +kernel))
set_option maxRecDepth 20000 in
theorem gX3_flow_X3_flowOf : GoodIn wsX3_flow (wsV RX3 110 RX3 yX3_flowOf wsX3_flowOf) := goodIn_app (goodIn_of _ (by decide +kernel)) ggX3_flow_X3_flowOf
set_option maxRecDepth 20000 in
theorem ggX3_flow_X3_partOf : GoodIn wsX3_flow wsX3_partOf := goodIn_ca (goodIn_r _ [54, 14, 55, 56, 3, 57, 58, 59, 60, 61, 62, 63, 64, 65, 66, 67, 68, 69, 70, 71, 72] (by decide +kernel) (by decide +kernel)) (goodIn_sub (fun _ h => List.mem_cons_of_mem _ (List.mem_append_right _ h)) (by decide +kernel))
set_option maxRecDepth 20000 in
theorem gX3_flow_X3_partOf : GoodIn wsX3_flow (wsV RX3 102 RX3 yX3_partOf wsX3_partOf) := goodIn_app (goodIn_of _ (by decide +kernel)) ggX3_flow_X3_partOf
theorem dX3_flow_0 : decode cX3_flow 0 = .ok (.aload_n 0, 1) := by decide +kernel
theorem dX3_flow_1 : decode cX3_flow 1 = .ok (.iload_n 1, 1) := by decide +kernel
theorem dX3_flow_2 : decode cX3_flow 2 = .ok (.iconst 0, 1) := by decide +kernel
theorem dX3_flow_3 : decode cX3_flow 3 = .ok (.bipush 23, 2) := by decide +kernel
theorem dX3_flow_5 : decode cX3_flow 5 = .ok (.invokestatic 49, 3) := by decide +kernel
theorem dX3_flow_8 : decode cX3_flow 8 = .ok (.iload_n 2, 1) := by decide +kernel
theorem dX3_flow_9 : decode cX3_flow 9 = .ok (.invokevirtual 98, 3) := by decide +kernel
theorem dX3_flow_12 : decode cX3_flow 12 = .ok (.ifCond .eq 7, 3) := by decide +kernel
theorem dX3_flow_15 : decode cX3_flow 15 = .ok (.lconst 0, 1) := by decide +kernel
theorem dX3_flow_16 : decode cX3_flow 16 = .ok (.goto 13, 3) := by decide +kernel
theorem dX3_flow_19 : decode cX3_flow 19 = .ok (.aload_n 0, 1) := by decide +kernel
theorem dX3_flow_20 : decode cX3_flow 20 = .ok (.aload_n 0, 1) := by decide +kernel
theorem dX3_flow_21 : decode cX3_flow 21 = .ok (.iload_n 1, 1) := by decide +kernel
theorem dX3_flow_22 : decode cX3_flow 22 = .ok (.invokevirtual 110, 3) := by decide +kernel
theorem dX3_flow_25 : decode cX3_flow 25 = .ok (.iload_n 2, 1) := by decide +kernel
theorem dX3_flow_26 : decode cX3_flow 26 = .ok (.invokevirtual 102, 3) := by decide +kernel
theorem dX3_flow_29 : decode cX3_flow 29 = .ok (.lreturn, 1) := by decide +kernel
set_option maxRecDepth 20000 in
theorem ggX3_inflowOf_X3_conductanceOf : GoodIn wsX3_inflowOf wsX3_conductanceOf := goodIn_ca (goodIn_r _ [6, 7, 8, 9, 5, 10, 19, 20, 21, 22, 23, 24, 25, 26, 27, 28, 29, 30, 31, 32, 33] (by decide +kernel) (by decide +kernel)) (goodIn_sub (fun _ h => List.mem_cons_of_mem _ (List.mem_append_right _ h)) (by decide +kernel))
set_option maxRecDepth 20000 in
theorem gX3_inflowOf_X3_conductanceOf : GoodIn wsX3_inflowOf (wsV RX3 73 RX3 yX3_conductanceOf wsX3_conductanceOf) := goodIn_app (goodIn_of _ (by decide +kernel)) ggX3_inflowOf_X3_conductanceOf
set_option maxRecDepth 20000 in
theorem ggX3_inflowOf_X3_otherOf : GoodIn wsX3_inflowOf wsX3_otherOf := goodIn_r _ [13] (by decide +kernel) (by decide +kernel)
set_option maxRecDepth 20000 in
theorem gX3_inflowOf_X3_otherOf : GoodIn wsX3_inflowOf (va_wsS RX3 70 yX3_otherOf wsX3_otherOf) := goodIn_app (goodIn_of _ (by decide +kernel)) ggX3_inflowOf_X3_otherOf
set_option maxRecDepth 20000 in
theorem ggX3_inflowOf_X3_headAt : GoodIn wsX3_inflowOf wsX3_headAt := goodIn_ca (goodIn_r _ [17, 1, 7, 18, 19, 20, 21, 22, 23, 24, 25, 26, 27, 28, 29, 30, 31, 32, 33] (by decide +kernel) (by decide +kernel)) (goodIn_sub (fun _ h => List.mem_cons_of_mem _ (List.mem_append_right _ h)) (by decide +kernel))
set_option maxRecDepth 20000 in
theorem gX3_inflowOf_X3_headAt : GoodIn wsX3_inflowOf (wsV RX3 106 RX3 yX3_headAt wsX3_headAt) := goodIn_app (goodIn_of _ (by decide +kernel)) ggX3_inflowOf_X3_headAt
theorem dX3_inflowOf_0 : decode cX3_inflowOf 0 = .ok (.lconst 0, 1) := by decide +kernel
theorem dX3_inflowOf_1 : decode cX3_inflowOf 1 = .ok (.lstore_n 2, 1) := by decide +kernel
theorem dX3_inflowOf_2 : decode cX3_inflowOf 2 = .ok (.iconst 0, 1) := by decide +kernel
theorem dX3_inflowOf_3 : decode cX3_inflowOf 3 = .ok (.istore 4, 2) := by decide +kernel
theorem dX3_inflowOf_5 : decode cX3_inflowOf 5 = .ok (.iload 4, 2) := by decide +kernel
theorem dX3_inflowOf_7 : decode cX3_inflowOf 7 = .ok (.iconst 3, 1) := by decide +kernel
theorem dX3_inflowOf_8 : decode cX3_inflowOf 8 = .ok (.if_icmp .ge 81, 3) := by decide +kernel
theorem dX3_inflowOf_11 : decode cX3_inflowOf 11 = .ok (.iload_n 1, 1) := by decide +kernel
theorem dX3_inflowOf_12 : decode cX3_inflowOf 12 = .ok (.ifCond .ne 8, 3) := by decide +kernel
theorem dX3_inflowOf_15 : decode cX3_inflowOf 15 = .ok (.iload 4, 2) := by decide +kernel
theorem dX3_inflowOf_17 : decode cX3_inflowOf 17 = .ok (.goto 34, 3) := by decide +kernel
theorem dX3_inflowOf_20 : decode cX3_inflowOf 20 = .ok (.iload_n 1, 1) := by decide +kernel
theorem dX3_inflowOf_21 : decode cX3_inflowOf 21 = .ok (.iconst 1, 1) := by decide +kernel
theorem dX3_inflowOf_22 : decode cX3_inflowOf 22 = .ok (.if_icmp .ne 12, 3) := by decide +kernel
theorem dX3_inflowOf_25 : decode cX3_inflowOf 25 = .ok (.iconst 3, 1) := by decide +kernel
theorem dX3_inflowOf_26 : decode cX3_inflowOf 26 = .ok (.iload 4, 2) := by decide +kernel
theorem dX3_inflowOf_28 : decode cX3_inflowOf 28 = .ok (.imul, 1) := by decide +kernel
theorem dX3_inflowOf_29 : decode cX3_inflowOf 29 = .ok (.iconst 2, 1) := by decide +kernel
theorem dX3_inflowOf_30 : decode cX3_inflowOf 30 = .ok (.iadd, 1) := by decide +kernel
theorem dX3_inflowOf_31 : decode cX3_inflowOf 31 = .ok (.goto 20, 3) := by decide +kernel
theorem dX3_inflowOf_34 : decode cX3_inflowOf 34 = .ok (.iload_n 1, 1) := by decide +kernel
theorem dX3_inflowOf_35 : decode cX3_inflowOf 35 = .ok (.iconst 2, 1) := by decide +kernel
theorem dX3_inflowOf_36 : decode cX3_inflowOf 36 = .ok (.if_icmp .ne 11, 3) := by decide +kernel
theorem dX3_inflowOf_39 : decode cX3_inflowOf 39 = .ok (.bipush 6, 2) := by decide +kernel
theorem dX3_inflowOf_41 : decode cX3_inflowOf 41 = .ok (.iload 4, 2) := by decide +kernel
theorem dX3_inflowOf_43 : decode cX3_inflowOf 43 = .ok (.iadd, 1) := by decide +kernel
theorem dX3_inflowOf_44 : decode cX3_inflowOf 44 = .ok (.goto 7, 3) := by decide +kernel
theorem dX3_inflowOf_47 : decode cX3_inflowOf 47 = .ok (.iconst 3, 1) := by decide +kernel
theorem dX3_inflowOf_48 : decode cX3_inflowOf 48 = .ok (.iload 4, 2) := by decide +kernel
theorem dX3_inflowOf_50 : decode cX3_inflowOf 50 = .ok (.imul, 1) := by decide +kernel
theorem dX3_inflowOf_51 : decode cX3_inflowOf 51 = .ok (.istore 5, 2) := by decide +kernel
theorem dX3_inflowOf_53 : decode cX3_inflowOf 53 = .ok (.lload_n 2, 1) := by decide +kernel
theorem dX3_inflowOf_54 : decode cX3_inflowOf 54 = .ok (.aload_n 0, 1) := by decide +kernel
theorem dX3_inflowOf_55 : decode cX3_inflowOf 55 = .ok (.iload 5, 2) := by decide +kernel
theorem dX3_inflowOf_57 : decode cX3_inflowOf 57 = .ok (.iload_n 1, 1) := by decide +kernel
theorem dX3_inflowOf_58 : decode cX3_inflowOf 58 = .ok (.invokevirtual 73, 3) := by decide +kernel
theorem dX3_inflowOf_61 : decode cX3_inflowOf 61 = .ok (.i2l, 1) := by decide +kernel
theorem dX3_inflowOf_62 : decode cX3_inflowOf 62 = .ok (.aload_n 0, 1) := by decide +kernel
theorem dX3_inflowOf_63 : decode cX3_inflowOf 63 = .ok (.iload 5, 2) := by decide +kernel
theorem dX3_inflowOf_65 : decode cX3_inflowOf 65 = .ok (.iload_n 1, 1) := by decide +kernel
theorem dX3_inflowOf_66 : decode cX3_inflowOf 66 = .ok (.invokestatic 70, 3) := by decide +kernel
theorem dX3_inflowOf_69 : decode cX3_inflowOf 69 = .ok (.invokevirtual 106, 3) := by decide +kernel
theorem dX3_inflowOf_72 : decode cX3_inflowOf 72 = .ok (.aload_n 0, 1) := by decide +kernel
theorem dX3_inflowOf_73 : decode cX3_inflowOf 73 = .ok (.getfield 36, 3) := by decide +kernel
theorem dX3_inflowOf_76 : decode cX3_inflowOf 76 = .ok (.iload 5, 2) := by decide +kernel
theorem dX3_inflowOf_78 : decode cX3_inflowOf 78 = .ok (.laload, 1) := by decide +kernel
theorem dX3_inflowOf_79 : decode cX3_inflowOf 79 = .ok (.lsub, 1) := by decide +kernel
theorem dX3_inflowOf_80 : decode cX3_inflowOf 80 = .ok (.lmul, 1) := by decide +kernel
theorem dX3_inflowOf_81 : decode cX3_inflowOf 81 = .ok (.ladd, 1) := by decide +kernel
theorem dX3_inflowOf_82 : decode cX3_inflowOf 82 = .ok (.lstore_n 2, 1) := by decide +kernel
theorem dX3_inflowOf_83 : decode cX3_inflowOf 83 = .ok (.iinc 4 1, 3) := by decide +kernel
theorem dX3_inflowOf_86 : decode cX3_inflowOf 86 = .ok (.goto (-81), 3) := by decide +kernel
theorem dX3_inflowOf_89 : decode cX3_inflowOf 89 = .ok (.lload_n 2, 1) := by decide +kernel
theorem dX3_inflowOf_90 : decode cX3_inflowOf 90 = .ok (.lreturn, 1) := by decide +kernel
set_option maxRecDepth 20000 in
theorem ggX3_inflow_X3_in : GoodIn wsX3_inflow wsX3_in := goodIn_r _ [4] (by decide +kernel) (by decide +kernel)
set_option maxRecDepth 20000 in
theorem gX3_inflow_X3_in : GoodIn wsX3_inflow (va_wsS RX3 49 yX3_in wsX3_in) := goodIn_app (goodIn_of _ (by decide +kernel)) ggX3_inflow_X3_in
set_option maxRecDepth 20000 in
theorem ggX3_inflow_X3_lacks : GoodIn wsX3_inflow wsX3_lacks := goodIn_ca (goodIn_r _ [8, 9, 1, 2, 3, 4, 10, 11, 12, 13, 14, 15, 16, 17, 18, 19, 20, 21, 22, 23, 24, 25, 26, 27, 28, 29, 30, 31, 32, 33, 34, 35, 36, 37, 38, 39, 40, 41, 42, 58, 59, 60, 61, 62, 63, 64, 65, 66, 67, 68, 69, 70, 71, 72] (by decide +kernel) (by decide +kernel)) (goodIn_sub (fun _ h => List.mem_cons_of_mem _ (List.mem_append_left _ (List.mem_append_right _ h))) (by decide +kernel))
set_option maxRecDepth 20000 in
theorem gX3_inflow_X3_lacks : GoodIn wsX3_inflow (wsV RX3 98 RX3 yX3_lacks wsX3_lacks) := goodIn_app (goodIn_of _ (by decide +kernel)) ggX3_inflow_X3_lacks
set_option maxRecDepth 20000 in
theorem ggX3_inflow_X3_inflowOf : GoodIn wsX3_inflow wsX3_inflowOf := goodIn_ca (goodIn_r _ [46, 16, 25, 26, 27, 3, 28, 29, 30, 31, 32, 22, 23, 24, 47, 48, 49, 50, 14, 58, 59, 60, 61, 62, 63, 64, 65, 66, 67, 68, 69, 70, 71, 72] (by decide +kernel) (by decide +kernel)) (goodIn_sub (fun _ h => List.mem_cons_of_mem _ (List.mem_append_left _ (List.mem_append_right _ h))) (by decide +kernel))
set_option maxRecDepth 20000 in
theorem gX3_inflow_X3_inflowOf : GoodIn wsX3_inflow (wsV RX3 113 RX3 yX3_inflowOf wsX3_inflowOf) := goodIn_app (goodIn_of _ (by decide +kernel)) ggX3_inflow_X3_inflowOf
set_option maxRecDepth 20000 in
theorem ggX3_inflow_X3_partOf : GoodIn wsX3_inflow wsX3_partOf := goodIn_ca (goodIn_r _ [54, 14, 55, 56, 3, 57, 58, 59, 60, 61, 62, 63, 64, 65, 66, 67, 68, 69, 70, 71, 72] (by decide +kernel) (by decide +kernel)) (goodIn_sub (fun _ h => List.mem_cons_of_mem _ (List.mem_append_right _ h)) (by decide +kernel))
set_option maxRecDepth 20000 in
theorem gX3_inflow_X3_partOf : GoodIn wsX3_inflow (wsV RX3 102 RX3 yX3_partOf wsX3_partOf) := goodIn_app (goodIn_of _ (by decide +kernel)) ggX3_inflow_X3_partOf
theorem dX3_inflow_0 : decode cX3_inflow 0 = .ok (.aload_n 0, 1) := by decide +kernel
theorem dX3_inflow_1 : decode cX3_inflow 1 = .ok (.iload_n 1, 1) := by decide +kernel
theorem dX3_inflow_2 : decode cX3_inflow 2 = .ok (.iconst 0, 1) := by decide +kernel
theorem dX3_inflow_3 : decode cX3_inflow 3 = .ok (.iconst 3, 1) := by decide +kernel
theorem dX3_inflow_4 : decode cX3_inflow 4 = .ok (.invokestatic 49, 3) := by decide +kernel
theorem dX3_inflow_7 : decode cX3_inflow 7 = .ok (.iload_n 2, 1) := by decide +kernel
theorem dX3_inflow_8 : decode cX3_inflow 8 = .ok (.invokevirtual 98, 3) := by decide +kernel
theorem dX3_inflow_11 : decode cX3_inflow 11 = .ok (.ifCond .eq 7, 3) := by decide +kernel
theorem dX3_inflow_14 : decode cX3_inflow 14 = .ok (.lconst 0, 1) := by decide +kernel
theorem dX3_inflow_15 : decode cX3_inflow 15 = .ok (.goto 13, 3) := by decide +kernel
theorem dX3_inflow_18 : decode cX3_inflow 18 = .ok (.aload_n 0, 1) := by decide +kernel
theorem dX3_inflow_19 : decode cX3_inflow 19 = .ok (.aload_n 0, 1) := by decide +kernel
theorem dX3_inflow_20 : decode cX3_inflow 20 = .ok (.iload_n 1, 1) := by decide +kernel
theorem dX3_inflow_21 : decode cX3_inflow 21 = .ok (.invokevirtual 113, 3) := by decide +kernel
theorem dX3_inflow_24 : decode cX3_inflow 24 = .ok (.iload_n 2, 1) := by decide +kernel
theorem dX3_inflow_25 : decode cX3_inflow 25 = .ok (.invokevirtual 102, 3) := by decide +kernel
theorem dX3_inflow_28 : decode cX3_inflow 28 = .ok (.lreturn, 1) := by decide +kernel
set_option maxRecDepth 20000 in
theorem ggX3_influence_X3_isCell : GoodIn wsX3_influence wsX3_isCell := goodIn_r _ [5, 6, 7, 4, 8] (by decide +kernel) (by decide +kernel)
set_option maxRecDepth 20000 in
theorem gX3_influence_X3_isCell : GoodIn wsX3_influence (va_wsS RX3 63 yX3_isCell wsX3_isCell) := goodIn_app (goodIn_of _ (by decide +kernel)) ggX3_influence_X3_isCell
set_option maxRecDepth 20000 in
theorem ggX3_influence_X3_lacks : GoodIn wsX3_influence wsX3_lacks := goodIn_ca (goodIn_r _ [12, 13, 6, 7, 4, 8, 14, 15, 16, 17, 18, 1, 19, 20, 21, 22, 23, 24, 25, 26, 27, 28, 29, 30, 31, 32, 33, 34, 35, 36, 37, 38, 39, 40, 41, 42, 43, 44, 45, 53, 54, 55, 56, 57, 58, 59, 60, 61, 62, 63, 64, 65, 66, 67] (by decide +kernel) (by decide +kernel)) (goodIn_sub (fun _ h => List.mem_cons_of_mem _ (List.mem_append_left _ (List.mem_append_right _ h))) (by decide +kernel))
set_option maxRecDepth 20000 in
theorem gX3_influence_X3_lacks : GoodIn wsX3_influence (wsV RX3 98 RX3 yX3_lacks wsX3_lacks) := goodIn_app (goodIn_of _ (by decide +kernel)) ggX3_influence_X3_lacks
set_option maxRecDepth 20000 in
theorem ggX3_influence_X3_partOf : GoodIn wsX3_influence wsX3_partOf := goodIn_ca (goodIn_r _ [49, 18, 50, 51, 4, 52, 53, 54, 55, 56, 57, 58, 59, 60, 61, 62, 63, 64, 65, 66, 67] (by decide +kernel) (by decide +kernel)) (goodIn_sub (fun _ h => List.mem_cons_of_mem _ (List.mem_append_right _ h)) (by decide +kernel))
set_option maxRecDepth 20000 in
theorem gX3_influence_X3_partOf : GoodIn wsX3_influence (wsV RX3 102 RX3 yX3_partOf wsX3_partOf) := goodIn_app (goodIn_of _ (by decide +kernel)) ggX3_influence_X3_partOf
theorem dX3_influence_0 : decode cX3_influence 0 = .ok (.aload_n 0, 1) := by decide +kernel
theorem dX3_influence_1 : decode cX3_influence 1 = .ok (.iload_n 1, 1) := by decide +kernel
theorem dX3_influence_2 : decode cX3_influence 2 = .ok (.invokestatic 63, 3) := by decide +kernel
theorem dX3_influence_5 : decode cX3_influence 5 = .ok (.ifCond .eq 14, 3) := by decide +kernel
theorem dX3_influence_8 : decode cX3_influence 8 = .ok (.iload_n 2, 1) := by decide +kernel
theorem dX3_influence_9 : decode cX3_influence 9 = .ok (.invokestatic 63, 3) := by decide +kernel
theorem dX3_influence_12 : decode cX3_influence 12 = .ok (.ifCond .eq 7, 3) := by decide +kernel
theorem dX3_influence_15 : decode cX3_influence 15 = .ok (.iconst 1, 1) := by decide +kernel
theorem dX3_influence_16 : decode cX3_influence 16 = .ok (.goto 4, 3) := by decide +kernel
theorem dX3_influence_19 : decode cX3_influence 19 = .ok (.iconst 0, 1) := by decide +kernel
theorem dX3_influence_20 : decode cX3_influence 20 = .ok (.iload_n 3, 1) := by decide +kernel
theorem dX3_influence_21 : decode cX3_influence 21 = .ok (.invokevirtual 98, 3) := by decide +kernel
theorem dX3_influence_24 : decode cX3_influence 24 = .ok (.ifCond .eq 7, 3) := by decide +kernel
theorem dX3_influence_27 : decode cX3_influence 27 = .ok (.lconst 0, 1) := by decide +kernel
theorem dX3_influence_28 : decode cX3_influence 28 = .ok (.goto 19, 3) := by decide +kernel
theorem dX3_influence_31 : decode cX3_influence 31 = .ok (.aload_n 0, 1) := by decide +kernel
theorem dX3_influence_32 : decode cX3_influence 32 = .ok (.aload_n 0, 1) := by decide +kernel
theorem dX3_influence_33 : decode cX3_influence 33 = .ok (.getfield 33, 3) := by decide +kernel
theorem dX3_influence_36 : decode cX3_influence 36 = .ok (.bipush 9, 2) := by decide +kernel
theorem dX3_influence_38 : decode cX3_influence 38 = .ok (.iload_n 1, 1) := by decide +kernel
theorem dX3_influence_39 : decode cX3_influence 39 = .ok (.imul, 1) := by decide +kernel
theorem dX3_influence_40 : decode cX3_influence 40 = .ok (.iload_n 2, 1) := by decide +kernel
theorem dX3_influence_41 : decode cX3_influence 41 = .ok (.iadd, 1) := by decide +kernel
theorem dX3_influence_42 : decode cX3_influence 42 = .ok (.laload, 1) := by decide +kernel
theorem dX3_influence_43 : decode cX3_influence 43 = .ok (.iload_n 3, 1) := by decide +kernel
theorem dX3_influence_44 : decode cX3_influence 44 = .ok (.invokevirtual 102, 3) := by decide +kernel
theorem dX3_influence_47 : decode cX3_influence 47 = .ok (.lreturn, 1) := by decide +kernel
theorem dX3_drawdownOf_0 : decode cX3_drawdownOf 0 = .ok (.lconst 0, 1) := by decide +kernel
theorem dX3_drawdownOf_1 : decode cX3_drawdownOf 1 = .ok (.lstore_n 2, 1) := by decide +kernel
theorem dX3_drawdownOf_2 : decode cX3_drawdownOf 2 = .ok (.iconst 0, 1) := by decide +kernel
theorem dX3_drawdownOf_3 : decode cX3_drawdownOf 3 = .ok (.istore 4, 2) := by decide +kernel
theorem dX3_drawdownOf_5 : decode cX3_drawdownOf 5 = .ok (.iload 4, 2) := by decide +kernel
theorem dX3_drawdownOf_7 : decode cX3_drawdownOf 7 = .ok (.bipush 9, 2) := by decide +kernel
theorem dX3_drawdownOf_9 : decode cX3_drawdownOf 9 = .ok (.if_icmp .ge 36, 3) := by decide +kernel
theorem dX3_drawdownOf_12 : decode cX3_drawdownOf 12 = .ok (.lload_n 2, 1) := by decide +kernel
theorem dX3_drawdownOf_13 : decode cX3_drawdownOf 13 = .ok (.aload_n 0, 1) := by decide +kernel
theorem dX3_drawdownOf_14 : decode cX3_drawdownOf 14 = .ok (.getfield 33, 3) := by decide +kernel
theorem dX3_drawdownOf_17 : decode cX3_drawdownOf 17 = .ok (.bipush 9, 2) := by decide +kernel
theorem dX3_drawdownOf_19 : decode cX3_drawdownOf 19 = .ok (.iload_n 1, 1) := by decide +kernel
theorem dX3_drawdownOf_20 : decode cX3_drawdownOf 20 = .ok (.imul, 1) := by decide +kernel
theorem dX3_drawdownOf_21 : decode cX3_drawdownOf 21 = .ok (.iload 4, 2) := by decide +kernel
theorem dX3_drawdownOf_23 : decode cX3_drawdownOf 23 = .ok (.iadd, 1) := by decide +kernel
theorem dX3_drawdownOf_24 : decode cX3_drawdownOf 24 = .ok (.laload, 1) := by decide +kernel
theorem dX3_drawdownOf_25 : decode cX3_drawdownOf 25 = .ok (.aload_n 0, 1) := by decide +kernel
theorem dX3_drawdownOf_26 : decode cX3_drawdownOf 26 = .ok (.getfield 7, 3) := by decide +kernel
theorem dX3_drawdownOf_29 : decode cX3_drawdownOf 29 = .ok (.bipush 45, 2) := by decide +kernel
theorem dX3_drawdownOf_31 : decode cX3_drawdownOf 31 = .ok (.iload 4, 2) := by decide +kernel
theorem dX3_drawdownOf_33 : decode cX3_drawdownOf 33 = .ok (.iadd, 1) := by decide +kernel
theorem dX3_drawdownOf_34 : decode cX3_drawdownOf 34 = .ok (.iaload, 1) := by decide +kernel
theorem dX3_drawdownOf_35 : decode cX3_drawdownOf 35 = .ok (.i2l, 1) := by decide +kernel
theorem dX3_drawdownOf_36 : decode cX3_drawdownOf 36 = .ok (.lmul, 1) := by decide +kernel
theorem dX3_drawdownOf_37 : decode cX3_drawdownOf 37 = .ok (.ladd, 1) := by decide +kernel
theorem dX3_drawdownOf_38 : decode cX3_drawdownOf 38 = .ok (.lstore_n 2, 1) := by decide +kernel
theorem dX3_drawdownOf_39 : decode cX3_drawdownOf 39 = .ok (.iinc 4 1, 3) := by decide +kernel
theorem dX3_drawdownOf_42 : decode cX3_drawdownOf 42 = .ok (.goto (-37), 3) := by decide +kernel
theorem dX3_drawdownOf_45 : decode cX3_drawdownOf 45 = .ok (.lload_n 2, 1) := by decide +kernel
theorem dX3_drawdownOf_46 : decode cX3_drawdownOf 46 = .ok (.lreturn, 1) := by decide +kernel
set_option maxRecDepth 20000 in
theorem ggX3_drawdown_X3_isCell : GoodIn wsX3_drawdown wsX3_isCell := goodIn_r _ [4, 5, 6, 3, 7] (by decide +kernel) (by decide +kernel)
set_option maxRecDepth 20000 in
theorem gX3_drawdown_X3_isCell : GoodIn wsX3_drawdown (va_wsS RX3 63 yX3_isCell wsX3_isCell) := goodIn_app (goodIn_of _ (by decide +kernel)) ggX3_drawdown_X3_isCell
set_option maxRecDepth 20000 in
theorem ggX3_drawdown_X3_lacks : GoodIn wsX3_drawdown wsX3_lacks := goodIn_ca (goodIn_r _ [11, 12, 5, 6, 3, 7, 13, 14, 15, 16, 17, 18, 19, 20, 21, 22, 23, 24, 25, 26, 27, 28, 29, 30, 31, 32, 33, 34, 35, 36, 37, 38, 39, 40, 41, 42, 43, 44, 45, 57, 58, 59, 60, 61, 62, 63, 64, 65, 66, 67, 68, 69, 70, 71] (by decide +kernel) (by decide +kernel)) (goodIn_sub (fun _ h => List.mem_cons_of_mem _ (List.mem_append_left _ (List.mem_append_right _ h))) (by decide +kernel))
set_option maxRecDepth 20000 in
theorem gX3_drawdown_X3_lacks : GoodIn wsX3_drawdown (wsV RX3 98 RX3 yX3_lacks wsX3_lacks) := goodIn_app (goodIn_of _ (by decide +kernel)) ggX3_drawdown_X3_lacks
set_option maxRecDepth 20000 in
theorem ggX3_drawdown_X3_drawdownOf : GoodIn wsX3_drawdown wsX3_drawdownOf := goodIn_ca (goodIn_r _ [49, 18, 32, 57, 58, 59, 60, 61, 62, 63, 64, 65, 66, 67, 68, 69, 70, 71] (by decide +kernel) (by decide +kernel)) (goodIn_sub (fun _ h => List.mem_cons_of_mem _ (List.mem_append_left _ (List.mem_append_right _ h))) (by decide +kernel))
set_option maxRecDepth 20000 in
theorem gX3_drawdown_X3_drawdownOf : GoodIn wsX3_drawdown (wsV RX3 116 RX3 yX3_drawdownOf wsX3_drawdownOf) := goodIn_app (goodIn_of _ (by decide +kernel)) ggX3_drawdown_X3_drawdownOf
set_option maxRecDepth 20000 in
theorem ggX3_drawdown_X3_partOf : GoodIn wsX3_drawdown wsX3_partOf := goodIn_ca (goodIn_r _ [53, 17, 54, 55, 3, 56, 57, 58, 59, 60, 61, 62, 63, 64, 65, 66, 67, 68, 69, 70, 71] (by decide +kernel) (by decide +kernel)) (goodIn_sub (fun _ h => List.mem_cons_of_mem _ (List.mem_append_right _ h)) (by decide +kernel))
set_option maxRecDepth 20000 in
theorem gX3_drawdown_X3_partOf : GoodIn wsX3_drawdown (wsV RX3 102 RX3 yX3_partOf wsX3_partOf) := goodIn_app (goodIn_of _ (by decide +kernel)) ggX3_drawdown_X3_partOf
theorem dX3_drawdown_0 : decode cX3_drawdown 0 = .ok (.aload_n 0, 1) := by decide +kernel
theorem dX3_drawdown_1 : decode cX3_drawdown 1 = .ok (.iload_n 1, 1) := by decide +kernel
theorem dX3_drawdown_2 : decode cX3_drawdown 2 = .ok (.invokestatic 63, 3) := by decide +kernel
theorem dX3_drawdown_5 : decode cX3_drawdown 5 = .ok (.iload_n 2, 1) := by decide +kernel
theorem dX3_drawdown_6 : decode cX3_drawdown 6 = .ok (.invokevirtual 98, 3) := by decide +kernel
theorem dX3_drawdown_9 : decode cX3_drawdown 9 = .ok (.ifCond .eq 7, 3) := by decide +kernel
theorem dX3_drawdown_12 : decode cX3_drawdown 12 = .ok (.lconst 0, 1) := by decide +kernel
theorem dX3_drawdown_13 : decode cX3_drawdown 13 = .ok (.goto 13, 3) := by decide +kernel
theorem dX3_drawdown_16 : decode cX3_drawdown 16 = .ok (.aload_n 0, 1) := by decide +kernel
theorem dX3_drawdown_17 : decode cX3_drawdown 17 = .ok (.aload_n 0, 1) := by decide +kernel
theorem dX3_drawdown_18 : decode cX3_drawdown 18 = .ok (.iload_n 1, 1) := by decide +kernel
theorem dX3_drawdown_19 : decode cX3_drawdown 19 = .ok (.invokevirtual 116, 3) := by decide +kernel
theorem dX3_drawdown_22 : decode cX3_drawdown 22 = .ok (.iload_n 2, 1) := by decide +kernel
theorem dX3_drawdown_23 : decode cX3_drawdown 23 = .ok (.invokevirtual 102, 3) := by decide +kernel
theorem dX3_drawdown_26 : decode cX3_drawdown 26 = .ok (.lreturn, 1) := by decide +kernel
set_option maxRecDepth 20000 in
theorem ggX3_determinantNow_X3_layMatrix : GoodIn wsX3_determinantNow wsX3_layMatrix := goodIn_ca (goodIn_r _ [5, 6, 7, 8, 9, 10, 11, 4, 12, 13, 14, 15, 16, 17, 18, 24, 25, 26, 27, 28, 29, 30, 31, 32, 33, 34, 35, 36, 37, 38] (by decide +kernel) (by decide +kernel)) (goodIn_sub (fun _ h => List.mem_cons_of_mem _ (List.mem_append_right _ h)) (by decide +kernel))
set_option maxRecDepth 20000 in
theorem gX3_determinantNow_X3_layMatrix : GoodIn wsX3_determinantNow (wsV RX3 80 RX3 yX3_layMatrix wsX3_layMatrix) := goodIn_app (goodIn_of _ (by decide +kernel)) ggX3_determinantNow_X3_layMatrix
set_option maxRecDepth 20000 in
theorem ggX3_determinantNow_X3_determinantWithout : GoodIn wsX3_determinantNow wsX3_determinantWithout := goodIn_ca (goodIn_r _ [22, 23, 6, 24, 25, 26, 27, 28, 29, 30, 31, 32, 33, 34, 35, 36, 37, 38] (by decide +kernel) (by decide +kernel)) (goodIn_sub (fun _ h => List.mem_cons_of_mem _ (List.mem_append_right _ h)) (by decide +kernel))
set_option maxRecDepth 20000 in
theorem gX3_determinantNow_X3_determinantWithout : GoodIn wsX3_determinantNow (wsV RX3 83 RX3 yX3_determinantWithout wsX3_determinantWithout) := goodIn_app (goodIn_of _ (by decide +kernel)) ggX3_determinantNow_X3_determinantWithout
theorem dX3_determinantNow_0 : decode cX3_determinantNow 0 = .ok (.aload_n 0, 1) := by decide +kernel
theorem dX3_determinantNow_1 : decode cX3_determinantNow 1 = .ok (.invokevirtual 80, 3) := by decide +kernel
theorem dX3_determinantNow_4 : decode cX3_determinantNow 4 = .ok (.aload_n 0, 1) := by decide +kernel
theorem dX3_determinantNow_5 : decode cX3_determinantNow 5 = .ok (.bipush 9, 2) := by decide +kernel
theorem dX3_determinantNow_7 : decode cX3_determinantNow 7 = .ok (.bipush 9, 2) := by decide +kernel
theorem dX3_determinantNow_9 : decode cX3_determinantNow 9 = .ok (.invokevirtual 83, 3) := by decide +kernel
theorem dX3_determinantNow_12 : decode cX3_determinantNow 12 = .ok (.lreturn, 1) := by decide +kernel
set_option maxRecDepth 20000 in
theorem ggX3_determinant_X3_determinantNow : GoodIn wsX3_determinant wsX3_determinantNow := goodIn_ca (goodIn_r _ [6, 7, 8, 9, 5, 10, 11, 12, 13, 14, 15, 16, 17, 18, 19, 20, 21, 22, 23, 24, 25, 26, 27, 28, 29, 30, 31, 32, 33, 34, 35, 36, 37, 38, 39, 40, 41, 42, 43] (by decide +kernel) (by decide +kernel)) (goodIn_sub (fun _ h => List.mem_cons_of_mem _ (List.mem_append_right _ h)) (by decide +kernel))
set_option maxRecDepth 20000 in
theorem gX3_determinant_X3_determinantNow : GoodIn wsX3_determinant (wsV RX3 119 RX3 yX3_determinantNow wsX3_determinantNow) := goodIn_app (goodIn_of _ (by decide +kernel)) ggX3_determinant_X3_determinantNow
theorem dX3_determinant_0 : decode cX3_determinant 0 = .ok (.aload_n 0, 1) := by decide +kernel
theorem dX3_determinant_1 : decode cX3_determinant 1 = .ok (.iconst 0, 1) := by decide +kernel
theorem dX3_determinant_2 : decode cX3_determinant 2 = .ok (.putfield 45, 3) := by decide +kernel
theorem dX3_determinant_5 : decode cX3_determinant 5 = .ok (.aload_n 0, 1) := by decide +kernel
theorem dX3_determinant_6 : decode cX3_determinant 6 = .ok (.invokevirtual 119, 3) := by decide +kernel
theorem dX3_determinant_9 : decode cX3_determinant 9 = .ok (.lreturn, 1) := by decide +kernel
set_option maxRecDepth 20000 in
theorem ggX3_isSolved_X3_solves : GoodIn wsX3_isSolved wsX3_solves := goodIn_ca (goodIn_r _ [6, 7, 8, 9, 10, 11, 12, 13, 5, 14, 15, 16, 17, 18, 19, 20, 21, 22, 23, 24, 25, 26, 27, 28, 29, 30, 31, 32, 33, 34, 35, 36, 37, 38, 39, 40, 41, 42, 43, 44, 45, 46, 47, 48, 49, 50] (by decide +kernel) (by decide +kernel)) (goodIn_sub (fun _ h => List.mem_cons_of_mem _ (List.mem_append_right _ h)) (by decide +kernel))
set_option maxRecDepth 20000 in
theorem gX3_isSolved_X3_solves : GoodIn wsX3_isSolved (wsV RX3 95 RX3 yX3_solves wsX3_solves) := goodIn_app (goodIn_of _ (by decide +kernel)) ggX3_isSolved_X3_solves
theorem dX3_isSolved_0 : decode cX3_isSolved 0 = .ok (.aload_n 0, 1) := by decide +kernel
theorem dX3_isSolved_1 : decode cX3_isSolved 1 = .ok (.aload_n 0, 1) := by decide +kernel
theorem dX3_isSolved_2 : decode cX3_isSolved 2 = .ok (.invokevirtual 95, 3) := by decide +kernel
theorem dX3_isSolved_5 : decode cX3_isSolved 5 = .ok (.ifCond .eq 7, 3) := by decide +kernel
theorem dX3_isSolved_8 : decode cX3_isSolved 8 = .ok (.iconst 0, 1) := by decide +kernel
theorem dX3_isSolved_9 : decode cX3_isSolved 9 = .ok (.goto 4, 3) := by decide +kernel
theorem dX3_isSolved_12 : decode cX3_isSolved 12 = .ok (.iconst 1, 1) := by decide +kernel
theorem dX3_isSolved_13 : decode cX3_isSolved 13 = .ok (.putfield 45, 3) := by decide +kernel
theorem dX3_isSolved_16 : decode cX3_isSolved 16 = .ok (.aload_n 0, 1) := by decide +kernel
theorem dX3_isSolved_17 : decode cX3_isSolved 17 = .ok (.getfield 45, 3) := by decide +kernel
theorem dX3_isSolved_20 : decode cX3_isSolved 20 = .ok (.ifCond .ne 7, 3) := by decide +kernel
theorem dX3_isSolved_23 : decode cX3_isSolved 23 = .ok (.iconst 1, 1) := by decide +kernel
theorem dX3_isSolved_24 : decode cX3_isSolved 24 = .ok (.goto 4, 3) := by decide +kernel
theorem dX3_isSolved_27 : decode cX3_isSolved 27 = .ok (.iconst 0, 1) := by decide +kernel
theorem dX3_isSolved_28 : decode cX3_isSolved 28 = .ok (.ireturn, 1) := by decide +kernel
set_option maxRecDepth 20000 in
theorem ggX3_extreme_X3_isSolved : GoodIn wsX3_extreme wsX3_isSolved := goodIn_ca (goodIn_r _ [6, 7, 8, 9, 10, 5, 11, 12, 13, 1, 14, 15, 16, 17, 18, 19, 20, 21, 22, 23, 24, 25, 26, 27, 28, 29, 30, 31, 32, 33, 34, 35, 36, 37, 38, 39, 40, 41, 42, 43, 44, 45, 46, 47, 48, 49, 50, 51, 52, 53, 54] (by decide +kernel) (by decide +kernel)) (goodIn_sub (fun _ h => List.mem_cons_of_mem _ (List.mem_append_right _ h)) (by decide +kernel))
set_option maxRecDepth 20000 in
theorem gX3_extreme_X3_isSolved : GoodIn wsX3_extreme (wsV RX3 123 RX3 yX3_isSolved wsX3_isSolved) := goodIn_app (goodIn_of _ (by decide +kernel)) ggX3_extreme_X3_isSolved
theorem dX3_extreme_0 : decode cX3_extreme 0 = .ok (.aload_n 0, 1) := by decide +kernel
theorem dX3_extreme_1 : decode cX3_extreme 1 = .ok (.invokevirtual 123, 3) := by decide +kernel
theorem dX3_extreme_4 : decode cX3_extreme 4 = .ok (.ifCond .ne 5, 3) := by decide +kernel
theorem dX3_extreme_7 : decode cX3_extreme 7 = .ok (.iconst 0, 1) := by decide +kernel
theorem dX3_extreme_8 : decode cX3_extreme 8 = .ok (.ireturn, 1) := by decide +kernel
theorem dX3_extreme_9 : decode cX3_extreme 9 = .ok (.iconst 0, 1) := by decide +kernel
theorem dX3_extreme_10 : decode cX3_extreme 10 = .ok (.istore_n 2, 1) := by decide +kernel
theorem dX3_extreme_11 : decode cX3_extreme 11 = .ok (.iconst 1, 1) := by decide +kernel
theorem dX3_extreme_12 : decode cX3_extreme 12 = .ok (.istore_n 3, 1) := by decide +kernel
theorem dX3_extreme_13 : decode cX3_extreme 13 = .ok (.iload_n 3, 1) := by decide +kernel
theorem dX3_extreme_14 : decode cX3_extreme 14 = .ok (.bipush 9, 2) := by decide +kernel
theorem dX3_extreme_16 : decode cX3_extreme 16 = .ok (.if_icmp .ge 59, 3) := by decide +kernel
theorem dX3_extreme_19 : decode cX3_extreme 19 = .ok (.iload_n 1, 1) := by decide +kernel
theorem dX3_extreme_20 : decode cX3_extreme 20 = .ok (.ifCond .eq 27, 3) := by decide +kernel
theorem dX3_extreme_23 : decode cX3_extreme 23 = .ok (.aload_n 0, 1) := by decide +kernel
theorem dX3_extreme_24 : decode cX3_extreme 24 = .ok (.getfield 36, 3) := by decide +kernel
theorem dX3_extreme_27 : decode cX3_extreme 27 = .ok (.iload_n 3, 1) := by decide +kernel
theorem dX3_extreme_28 : decode cX3_extreme 28 = .ok (.laload, 1) := by decide +kernel
theorem dX3_extreme_29 : decode cX3_extreme 29 = .ok (.aload_n 0, 1) := by decide +kernel
theorem dX3_extreme_30 : decode cX3_extreme 30 = .ok (.getfield 36, 3) := by decide +kernel
theorem dX3_extreme_33 : decode cX3_extreme 33 = .ok (.iload_n 2, 1) := by decide +kernel
theorem dX3_extreme_34 : decode cX3_extreme 34 = .ok (.laload, 1) := by decide +kernel
theorem dX3_extreme_35 : decode cX3_extreme 35 = .ok (.lcmp, 1) := by decide +kernel
theorem dX3_extreme_36 : decode cX3_extreme 36 = .ok (.ifCond .le 7, 3) := by decide +kernel
theorem dX3_extreme_39 : decode cX3_extreme 39 = .ok (.iload_n 3, 1) := by decide +kernel
theorem dX3_extreme_40 : decode cX3_extreme 40 = .ok (.goto 28, 3) := by decide +kernel
theorem dX3_extreme_43 : decode cX3_extreme 43 = .ok (.iload_n 2, 1) := by decide +kernel
theorem dX3_extreme_44 : decode cX3_extreme 44 = .ok (.goto 24, 3) := by decide +kernel
theorem dX3_extreme_47 : decode cX3_extreme 47 = .ok (.aload_n 0, 1) := by decide +kernel
theorem dX3_extreme_48 : decode cX3_extreme 48 = .ok (.getfield 36, 3) := by decide +kernel
theorem dX3_extreme_51 : decode cX3_extreme 51 = .ok (.iload_n 3, 1) := by decide +kernel
theorem dX3_extreme_52 : decode cX3_extreme 52 = .ok (.laload, 1) := by decide +kernel
theorem dX3_extreme_53 : decode cX3_extreme 53 = .ok (.aload_n 0, 1) := by decide +kernel
theorem dX3_extreme_54 : decode cX3_extreme 54 = .ok (.getfield 36, 3) := by decide +kernel
theorem dX3_extreme_57 : decode cX3_extreme 57 = .ok (.iload_n 2, 1) := by decide +kernel
theorem dX3_extreme_58 : decode cX3_extreme 58 = .ok (.laload, 1) := by decide +kernel
theorem dX3_extreme_59 : decode cX3_extreme 59 = .ok (.lcmp, 1) := by decide +kernel
theorem dX3_extreme_60 : decode cX3_extreme 60 = .ok (.ifCond .ge 7, 3) := by decide +kernel
theorem dX3_extreme_63 : decode cX3_extreme 63 = .ok (.iload_n 3, 1) := by decide +kernel
theorem dX3_extreme_64 : decode cX3_extreme 64 = .ok (.goto 4, 3) := by decide +kernel
theorem dX3_extreme_67 : decode cX3_extreme 67 = .ok (.iload_n 2, 1) := by decide +kernel
theorem dX3_extreme_68 : decode cX3_extreme 68 = .ok (.istore_n 2, 1) := by decide +kernel
theorem dX3_extreme_69 : decode cX3_extreme 69 = .ok (.iinc 3 1, 3) := by decide +kernel
theorem dX3_extreme_72 : decode cX3_extreme 72 = .ok (.goto (-59), 3) := by decide +kernel
theorem dX3_extreme_75 : decode cX3_extreme 75 = .ok (.iload_n 2, 1) := by decide +kernel
theorem dX3_extreme_76 : decode cX3_extreme 76 = .ok (.ireturn, 1) := by decide +kernel
set_option maxRecDepth 20000 in
theorem ggX3_dry_X3_isSolved : GoodIn wsX3_dry wsX3_isSolved := goodIn_ca (goodIn_r _ [8, 9, 10, 11, 12, 7, 13, 3, 14, 1, 15, 16, 17, 18, 19, 20, 21, 22, 23, 24, 25, 26, 2, 27, 28, 29, 30, 31, 32, 33, 34, 35, 36, 37, 38, 39, 40, 41, 42, 43, 44, 45, 46, 47, 48, 49, 50, 51, 52, 53, 54] (by decide +kernel) (by decide +kernel)) (goodIn_sub (fun _ h => List.mem_cons_of_mem _ (List.mem_append_right _ h)) (by decide +kernel))
set_option maxRecDepth 20000 in
theorem gX3_dry_X3_isSolved : GoodIn wsX3_dry (wsV RX3 123 RX3 yX3_isSolved wsX3_isSolved) := goodIn_app (goodIn_of _ (by decide +kernel)) ggX3_dry_X3_isSolved
theorem dX3_dry_0 : decode cX3_dry 0 = .ok (.aload_n 0, 1) := by decide +kernel
theorem dX3_dry_1 : decode cX3_dry 1 = .ok (.invokevirtual 123, 3) := by decide +kernel
theorem dX3_dry_4 : decode cX3_dry 4 = .ok (.ifCond .ne 5, 3) := by decide +kernel
theorem dX3_dry_7 : decode cX3_dry 7 = .ok (.iconst 0, 1) := by decide +kernel
theorem dX3_dry_8 : decode cX3_dry 8 = .ok (.ireturn, 1) := by decide +kernel
theorem dX3_dry_9 : decode cX3_dry 9 = .ok (.iconst 0, 1) := by decide +kernel
theorem dX3_dry_10 : decode cX3_dry 10 = .ok (.istore_n 1, 1) := by decide +kernel
theorem dX3_dry_11 : decode cX3_dry 11 = .ok (.iconst 0, 1) := by decide +kernel
theorem dX3_dry_12 : decode cX3_dry 12 = .ok (.istore_n 2, 1) := by decide +kernel
theorem dX3_dry_13 : decode cX3_dry 13 = .ok (.iload_n 2, 1) := by decide +kernel
theorem dX3_dry_14 : decode cX3_dry 14 = .ok (.bipush 9, 2) := by decide +kernel
theorem dX3_dry_16 : decode cX3_dry 16 = .ok (.if_icmp .ge 44, 3) := by decide +kernel
theorem dX3_dry_19 : decode cX3_dry 19 = .ok (.iload_n 1, 1) := by decide +kernel
theorem dX3_dry_20 : decode cX3_dry 20 = .ok (.aload_n 0, 1) := by decide +kernel
theorem dX3_dry_21 : decode cX3_dry 21 = .ok (.getfield 36, 3) := by decide +kernel
theorem dX3_dry_24 : decode cX3_dry 24 = .ok (.iload_n 2, 1) := by decide +kernel
theorem dX3_dry_25 : decode cX3_dry 25 = .ok (.laload, 1) := by decide +kernel
theorem dX3_dry_26 : decode cX3_dry 26 = .ok (.aload_n 0, 1) := by decide +kernel
theorem dX3_dry_27 : decode cX3_dry 27 = .ok (.getfield 7, 3) := by decide +kernel
theorem dX3_dry_30 : decode cX3_dry 30 = .ok (.bipush 54, 2) := by decide +kernel
theorem dX3_dry_32 : decode cX3_dry 32 = .ok (.iload_n 2, 1) := by decide +kernel
theorem dX3_dry_33 : decode cX3_dry 33 = .ok (.iadd, 1) := by decide +kernel
theorem dX3_dry_34 : decode cX3_dry 34 = .ok (.iaload, 1) := by decide +kernel
theorem dX3_dry_35 : decode cX3_dry 35 = .ok (.i2l, 1) := by decide +kernel
theorem dX3_dry_36 : decode cX3_dry 36 = .ok (.aload_n 0, 1) := by decide +kernel
theorem dX3_dry_37 : decode cX3_dry 37 = .ok (.getfield 87, 3) := by decide +kernel
theorem dX3_dry_40 : decode cX3_dry 40 = .ok (.lmul, 1) := by decide +kernel
theorem dX3_dry_41 : decode cX3_dry 41 = .ok (.lcmp, 1) := by decide +kernel
theorem dX3_dry_42 : decode cX3_dry 42 = .ok (.ifCond .ge 9, 3) := by decide +kernel
theorem dX3_dry_45 : decode cX3_dry 45 = .ok (.iconst 1, 1) := by decide +kernel
theorem dX3_dry_46 : decode cX3_dry 46 = .ok (.iload_n 2, 1) := by decide +kernel
theorem dX3_dry_47 : decode cX3_dry 47 = .ok (.ishl, 1) := by decide +kernel
theorem dX3_dry_48 : decode cX3_dry 48 = .ok (.goto 4, 3) := by decide +kernel
theorem dX3_dry_51 : decode cX3_dry 51 = .ok (.iconst 0, 1) := by decide +kernel
theorem dX3_dry_52 : decode cX3_dry 52 = .ok (.ior, 1) := by decide +kernel
theorem dX3_dry_53 : decode cX3_dry 53 = .ok (.istore_n 1, 1) := by decide +kernel
theorem dX3_dry_54 : decode cX3_dry 54 = .ok (.iinc 2 1, 3) := by decide +kernel
theorem dX3_dry_57 : decode cX3_dry 57 = .ok (.goto (-44), 3) := by decide +kernel
theorem dX3_dry_60 : decode cX3_dry 60 = .ok (.iload_n 1, 1) := by decide +kernel
theorem dX3_dry_61 : decode cX3_dry 61 = .ok (.ireturn, 1) := by decide +kernel
theorem dX3_laysAbove_0 : decode cX3_laysAbove 0 = .ok (.iconst 1, 1) := by decide +kernel
theorem dX3_laysAbove_1 : decode cX3_laysAbove 1 = .ok (.istore_n 2, 1) := by decide +kernel
theorem dX3_laysAbove_2 : decode cX3_laysAbove 2 = .ok (.iconst 0, 1) := by decide +kernel
theorem dX3_laysAbove_3 : decode cX3_laysAbove 3 = .ok (.istore_n 3, 1) := by decide +kernel
theorem dX3_laysAbove_4 : decode cX3_laysAbove 4 = .ok (.iload_n 3, 1) := by decide +kernel
theorem dX3_laysAbove_5 : decode cX3_laysAbove 5 = .ok (.bipush 9, 2) := by decide +kernel
theorem dX3_laysAbove_7 : decode cX3_laysAbove 7 = .ok (.if_icmp .ge 145, 3) := by decide +kernel
theorem dX3_laysAbove_10 : decode cX3_laysAbove 10 = .ok (.aload_n 0, 1) := by decide +kernel
theorem dX3_laysAbove_11 : decode cX3_laysAbove 11 = .ok (.getfield 39, 3) := by decide +kernel
theorem dX3_laysAbove_14 : decode cX3_laysAbove 14 = .ok (.iload_n 3, 1) := by decide +kernel
theorem dX3_laysAbove_15 : decode cX3_laysAbove 15 = .ok (.aload_n 0, 1) := by decide +kernel
theorem dX3_laysAbove_16 : decode cX3_laysAbove 16 = .ok (.getfield 36, 3) := by decide +kernel
theorem dX3_laysAbove_19 : decode cX3_laysAbove 19 = .ok (.iload_n 3, 1) := by decide +kernel
theorem dX3_laysAbove_20 : decode cX3_laysAbove 20 = .ok (.laload, 1) := by decide +kernel
theorem dX3_laysAbove_21 : decode cX3_laysAbove 21 = .ok (.aload_n 0, 1) := by decide +kernel
theorem dX3_laysAbove_22 : decode cX3_laysAbove 22 = .ok (.getfield 7, 3) := by decide +kernel
theorem dX3_laysAbove_25 : decode cX3_laysAbove 25 = .ok (.bipush 63, 2) := by decide +kernel
theorem dX3_laysAbove_27 : decode cX3_laysAbove 27 = .ok (.iload_n 3, 1) := by decide +kernel
theorem dX3_laysAbove_28 : decode cX3_laysAbove 28 = .ok (.iadd, 1) := by decide +kernel
theorem dX3_laysAbove_29 : decode cX3_laysAbove 29 = .ok (.iaload, 1) := by decide +kernel
theorem dX3_laysAbove_30 : decode cX3_laysAbove 30 = .ok (.i2l, 1) := by decide +kernel
theorem dX3_laysAbove_31 : decode cX3_laysAbove 31 = .ok (.aload_n 0, 1) := by decide +kernel
theorem dX3_laysAbove_32 : decode cX3_laysAbove 32 = .ok (.getfield 87, 3) := by decide +kernel
theorem dX3_laysAbove_35 : decode cX3_laysAbove 35 = .ok (.lmul, 1) := by decide +kernel
theorem dX3_laysAbove_36 : decode cX3_laysAbove 36 = .ok (.lsub, 1) := by decide +kernel
theorem dX3_laysAbove_37 : decode cX3_laysAbove 37 = .ok (.lastore, 1) := by decide +kernel
theorem dX3_laysAbove_38 : decode cX3_laysAbove 38 = .ok (.aload_n 0, 1) := by decide +kernel
theorem dX3_laysAbove_39 : decode cX3_laysAbove 39 = .ok (.getfield 42, 3) := by decide +kernel
theorem dX3_laysAbove_42 : decode cX3_laysAbove 42 = .ok (.iload_n 3, 1) := by decide +kernel
theorem dX3_laysAbove_43 : decode cX3_laysAbove 43 = .ok (.lconst 0, 1) := by decide +kernel
theorem dX3_laysAbove_44 : decode cX3_laysAbove 44 = .ok (.lastore, 1) := by decide +kernel
theorem dX3_laysAbove_45 : decode cX3_laysAbove 45 = .ok (.iconst 0, 1) := by decide +kernel
theorem dX3_laysAbove_46 : decode cX3_laysAbove 46 = .ok (.istore 4, 2) := by decide +kernel
theorem dX3_laysAbove_48 : decode cX3_laysAbove 48 = .ok (.iload 4, 2) := by decide +kernel
theorem dX3_laysAbove_50 : decode cX3_laysAbove 50 = .ok (.bipush 9, 2) := by decide +kernel
theorem dX3_laysAbove_52 : decode cX3_laysAbove 52 = .ok (.if_icmp .ge 73, 3) := by decide +kernel
theorem dX3_laysAbove_55 : decode cX3_laysAbove 55 = .ok (.iload_n 1, 1) := by decide +kernel
theorem dX3_laysAbove_56 : decode cX3_laysAbove 56 = .ok (.iload 4, 2) := by decide +kernel
theorem dX3_laysAbove_58 : decode cX3_laysAbove 58 = .ok (.ishr, 1) := by decide +kernel
theorem dX3_laysAbove_59 : decode cX3_laysAbove 59 = .ok (.iconst 1, 1) := by decide +kernel
theorem dX3_laysAbove_60 : decode cX3_laysAbove 60 = .ok (.iand, 1) := by decide +kernel
theorem dX3_laysAbove_61 : decode cX3_laysAbove 61 = .ok (.iconst 1, 1) := by decide +kernel
theorem dX3_laysAbove_62 : decode cX3_laysAbove 62 = .ok (.if_icmp .ne 57, 3) := by decide +kernel
theorem dX3_laysAbove_65 : decode cX3_laysAbove 65 = .ok (.aload_n 0, 1) := by decide +kernel
theorem dX3_laysAbove_66 : decode cX3_laysAbove 66 = .ok (.getfield 39, 3) := by decide +kernel
theorem dX3_laysAbove_69 : decode cX3_laysAbove 69 = .ok (.iload_n 3, 1) := by decide +kernel
theorem dX3_laysAbove_70 : decode cX3_laysAbove 70 = .ok (.dup2, 1) := by decide +kernel
theorem dX3_laysAbove_71 : decode cX3_laysAbove 71 = .ok (.laload, 1) := by decide +kernel
theorem dX3_laysAbove_72 : decode cX3_laysAbove 72 = .ok (.aload_n 0, 1) := by decide +kernel
theorem dX3_laysAbove_73 : decode cX3_laysAbove 73 = .ok (.getfield 33, 3) := by decide +kernel
theorem dX3_laysAbove_76 : decode cX3_laysAbove 76 = .ok (.bipush 9, 2) := by decide +kernel
theorem dX3_laysAbove_78 : decode cX3_laysAbove 78 = .ok (.iload_n 3, 1) := by decide +kernel
theorem dX3_laysAbove_79 : decode cX3_laysAbove 79 = .ok (.imul, 1) := by decide +kernel
theorem dX3_laysAbove_80 : decode cX3_laysAbove 80 = .ok (.iload 4, 2) := by decide +kernel
theorem dX3_laysAbove_82 : decode cX3_laysAbove 82 = .ok (.iadd, 1) := by decide +kernel
theorem dX3_laysAbove_83 : decode cX3_laysAbove 83 = .ok (.laload, 1) := by decide +kernel
theorem dX3_laysAbove_84 : decode cX3_laysAbove 84 = .ok (.aload_n 0, 1) := by decide +kernel
theorem dX3_laysAbove_85 : decode cX3_laysAbove 85 = .ok (.getfield 7, 3) := by decide +kernel
theorem dX3_laysAbove_88 : decode cX3_laysAbove 88 = .ok (.bipush 45, 2) := by decide +kernel
theorem dX3_laysAbove_90 : decode cX3_laysAbove 90 = .ok (.iload 4, 2) := by decide +kernel
theorem dX3_laysAbove_92 : decode cX3_laysAbove 92 = .ok (.iadd, 1) := by decide +kernel
theorem dX3_laysAbove_93 : decode cX3_laysAbove 93 = .ok (.iaload, 1) := by decide +kernel
theorem dX3_laysAbove_94 : decode cX3_laysAbove 94 = .ok (.i2l, 1) := by decide +kernel
theorem dX3_laysAbove_95 : decode cX3_laysAbove 95 = .ok (.lmul, 1) := by decide +kernel
theorem dX3_laysAbove_96 : decode cX3_laysAbove 96 = .ok (.ladd, 1) := by decide +kernel
theorem dX3_laysAbove_97 : decode cX3_laysAbove 97 = .ok (.lastore, 1) := by decide +kernel
theorem dX3_laysAbove_98 : decode cX3_laysAbove 98 = .ok (.aload_n 0, 1) := by decide +kernel
theorem dX3_laysAbove_99 : decode cX3_laysAbove 99 = .ok (.getfield 42, 3) := by decide +kernel
theorem dX3_laysAbove_102 : decode cX3_laysAbove 102 = .ok (.iload_n 3, 1) := by decide +kernel
theorem dX3_laysAbove_103 : decode cX3_laysAbove 103 = .ok (.dup2, 1) := by decide +kernel
theorem dX3_laysAbove_104 : decode cX3_laysAbove 104 = .ok (.laload, 1) := by decide +kernel
theorem dX3_laysAbove_105 : decode cX3_laysAbove 105 = .ok (.aload_n 0, 1) := by decide +kernel
theorem dX3_laysAbove_106 : decode cX3_laysAbove 106 = .ok (.getfield 33, 3) := by decide +kernel
theorem dX3_laysAbove_109 : decode cX3_laysAbove 109 = .ok (.bipush 9, 2) := by decide +kernel
theorem dX3_laysAbove_111 : decode cX3_laysAbove 111 = .ok (.iload_n 3, 1) := by decide +kernel
theorem dX3_laysAbove_112 : decode cX3_laysAbove 112 = .ok (.imul, 1) := by decide +kernel
theorem dX3_laysAbove_113 : decode cX3_laysAbove 113 = .ok (.iload 4, 2) := by decide +kernel
theorem dX3_laysAbove_115 : decode cX3_laysAbove 115 = .ok (.iadd, 1) := by decide +kernel
theorem dX3_laysAbove_116 : decode cX3_laysAbove 116 = .ok (.laload, 1) := by decide +kernel
theorem dX3_laysAbove_117 : decode cX3_laysAbove 117 = .ok (.ladd, 1) := by decide +kernel
theorem dX3_laysAbove_118 : decode cX3_laysAbove 118 = .ok (.lastore, 1) := by decide +kernel
theorem dX3_laysAbove_119 : decode cX3_laysAbove 119 = .ok (.iinc 4 1, 3) := by decide +kernel
theorem dX3_laysAbove_122 : decode cX3_laysAbove 122 = .ok (.goto (-74), 3) := by decide +kernel
theorem dX3_laysAbove_125 : decode cX3_laysAbove 125 = .ok (.iload_n 2, 1) := by decide +kernel
theorem dX3_laysAbove_126 : decode cX3_laysAbove 126 = .ok (.ifCond .eq 18, 3) := by decide +kernel
theorem dX3_laysAbove_129 : decode cX3_laysAbove 129 = .ok (.aload_n 0, 1) := by decide +kernel
theorem dX3_laysAbove_130 : decode cX3_laysAbove 130 = .ok (.getfield 39, 3) := by decide +kernel
theorem dX3_laysAbove_133 : decode cX3_laysAbove 133 = .ok (.iload_n 3, 1) := by decide +kernel
theorem dX3_laysAbove_134 : decode cX3_laysAbove 134 = .ok (.laload, 1) := by decide +kernel
theorem dX3_laysAbove_135 : decode cX3_laysAbove 135 = .ok (.lconst 0, 1) := by decide +kernel
theorem dX3_laysAbove_136 : decode cX3_laysAbove 136 = .ok (.lcmp, 1) := by decide +kernel
theorem dX3_laysAbove_137 : decode cX3_laysAbove 137 = .ok (.ifCond .lt 7, 3) := by decide +kernel
theorem dX3_laysAbove_140 : decode cX3_laysAbove 140 = .ok (.iconst 1, 1) := by decide +kernel
theorem dX3_laysAbove_141 : decode cX3_laysAbove 141 = .ok (.goto 4, 3) := by decide +kernel
theorem dX3_laysAbove_144 : decode cX3_laysAbove 144 = .ok (.iconst 0, 1) := by decide +kernel
theorem dX3_laysAbove_145 : decode cX3_laysAbove 145 = .ok (.istore_n 2, 1) := by decide +kernel
theorem dX3_laysAbove_146 : decode cX3_laysAbove 146 = .ok (.iinc 3 1, 3) := by decide +kernel
theorem dX3_laysAbove_149 : decode cX3_laysAbove 149 = .ok (.goto (-145), 3) := by decide +kernel
theorem dX3_laysAbove_152 : decode cX3_laysAbove 152 = .ok (.iload_n 2, 1) := by decide +kernel
theorem dX3_laysAbove_153 : decode cX3_laysAbove 153 = .ok (.ireturn, 1) := by decide +kernel
set_option maxRecDepth 20000 in
theorem ggX3_isAllowed_X3_isSolved : GoodIn wsX3_isAllowed wsX3_isSolved := goodIn_ca (goodIn_r _ [5, 6, 7, 8, 9, 4, 10, 11, 12, 13, 14, 15, 16, 17, 18, 19, 20, 21, 22, 23, 24, 25, 26, 27, 28, 29, 30, 31, 32, 33, 34, 35, 36, 37, 38, 39, 46, 47, 48, 49, 50, 51, 52, 53, 54, 55, 56, 57, 58, 59, 60] (by decide +kernel) (by decide +kernel)) (goodIn_sub (fun _ h => List.mem_cons_of_mem _ (List.mem_append_right _ h)) (by decide +kernel))
set_option maxRecDepth 20000 in
theorem gX3_isAllowed_X3_isSolved : GoodIn wsX3_isAllowed (wsV RX3 123 RX3 yX3_isSolved wsX3_isSolved) := goodIn_app (goodIn_of _ (by decide +kernel)) ggX3_isAllowed_X3_isSolved
set_option maxRecDepth 20000 in
theorem ggX3_isAllowed_X3_laysAbove : GoodIn wsX3_isAllowed wsX3_laysAbove := goodIn_ca (goodIn_r _ [43, 44, 13, 26, 11, 45, 12, 46, 47, 48, 49, 50, 51, 52, 53, 54, 55, 56, 57, 58, 59, 60] (by decide +kernel) (by decide +kernel)) (goodIn_sub (fun _ h => List.mem_cons_of_mem _ (List.mem_append_right _ h)) (by decide +kernel))
set_option maxRecDepth 20000 in
theorem gX3_isAllowed_X3_laysAbove : GoodIn wsX3_isAllowed (wsV RX3 126 RX3 yX3_laysAbove wsX3_laysAbove) := goodIn_app (goodIn_of _ (by decide +kernel)) ggX3_isAllowed_X3_laysAbove
theorem dX3_isAllowed_0 : decode cX3_isAllowed 0 = .ok (.aload_n 0, 1) := by decide +kernel
theorem dX3_isAllowed_1 : decode cX3_isAllowed 1 = .ok (.invokevirtual 123, 3) := by decide +kernel
theorem dX3_isAllowed_4 : decode cX3_isAllowed 4 = .ok (.ifCond .eq 15, 3) := by decide +kernel
theorem dX3_isAllowed_7 : decode cX3_isAllowed 7 = .ok (.aload_n 0, 1) := by decide +kernel
theorem dX3_isAllowed_8 : decode cX3_isAllowed 8 = .ok (.iconst 0, 1) := by decide +kernel
theorem dX3_isAllowed_9 : decode cX3_isAllowed 9 = .ok (.invokevirtual 126, 3) := by decide +kernel
theorem dX3_isAllowed_12 : decode cX3_isAllowed 12 = .ok (.ifCond .eq 7, 3) := by decide +kernel
theorem dX3_isAllowed_15 : decode cX3_isAllowed 15 = .ok (.iconst 1, 1) := by decide +kernel
theorem dX3_isAllowed_16 : decode cX3_isAllowed 16 = .ok (.goto 4, 3) := by decide +kernel
theorem dX3_isAllowed_19 : decode cX3_isAllowed 19 = .ok (.iconst 0, 1) := by decide +kernel
theorem dX3_isAllowed_20 : decode cX3_isAllowed 20 = .ok (.ireturn, 1) := by decide +kernel
set_option maxRecDepth 20000 in
theorem ggX3_greatest_X3_laysAbove : GoodIn wsX3_greatest wsX3_laysAbove := goodIn_ca (goodIn_r _ [8, 3, 9, 10, 11, 2, 12, 13, 14, 15, 16, 17, 18, 19, 20, 21, 22, 23, 24, 25, 26, 27] (by decide +kernel) (by decide +kernel)) (goodIn_sub (fun _ h => List.mem_cons_of_mem _ (List.mem_append_left _ (List.mem_append_right _ h))) (by decide +kernel))
set_option maxRecDepth 20000 in
theorem gX3_greatest_X3_laysAbove : GoodIn wsX3_greatest (wsV RX3 126 RX3 yX3_laysAbove wsX3_laysAbove) := goodIn_app (goodIn_of _ (by decide +kernel)) ggX3_greatest_X3_laysAbove
theorem dX3_greatest_0 : decode cX3_greatest 0 = .ok (.aload_n 0, 1) := by decide +kernel
theorem dX3_greatest_1 : decode cX3_greatest 1 = .ok (.iload_n 1, 1) := by decide +kernel
theorem dX3_greatest_2 : decode cX3_greatest 2 = .ok (.invokevirtual 126, 3) := by decide +kernel
theorem dX3_greatest_5 : decode cX3_greatest 5 = .ok (.ifCond .ne 5, 3) := by decide +kernel
theorem dX3_greatest_8 : decode cX3_greatest 8 = .ok (.iconst (-1), 1) := by decide +kernel
theorem dX3_greatest_9 : decode cX3_greatest 9 = .ok (.ireturn, 1) := by decide +kernel
theorem dX3_greatest_10 : decode cX3_greatest 10 = .ok (.ldc2_w 129, 3) := by decide +kernel
theorem dX3_greatest_13 : decode cX3_greatest 13 = .ok (.lstore_n 2, 1) := by decide +kernel
theorem dX3_greatest_14 : decode cX3_greatest 14 = .ok (.iconst 0, 1) := by decide +kernel
theorem dX3_greatest_15 : decode cX3_greatest 15 = .ok (.istore 4, 2) := by decide +kernel
theorem dX3_greatest_17 : decode cX3_greatest 17 = .ok (.iload 4, 2) := by decide +kernel
theorem dX3_greatest_19 : decode cX3_greatest 19 = .ok (.bipush 9, 2) := by decide +kernel
theorem dX3_greatest_21 : decode cX3_greatest 21 = .ok (.if_icmp .ge 61, 3) := by decide +kernel
theorem dX3_greatest_24 : decode cX3_greatest 24 = .ok (.aload_n 0, 1) := by decide +kernel
theorem dX3_greatest_25 : decode cX3_greatest 25 = .ok (.getfield 42, 3) := by decide +kernel
theorem dX3_greatest_28 : decode cX3_greatest 28 = .ok (.iload 4, 2) := by decide +kernel
theorem dX3_greatest_30 : decode cX3_greatest 30 = .ok (.laload, 1) := by decide +kernel
theorem dX3_greatest_31 : decode cX3_greatest 31 = .ok (.lconst 0, 1) := by decide +kernel
theorem dX3_greatest_32 : decode cX3_greatest 32 = .ok (.lcmp, 1) := by decide +kernel
theorem dX3_greatest_33 : decode cX3_greatest 33 = .ok (.ifCond .le 41, 3) := by decide +kernel
theorem dX3_greatest_36 : decode cX3_greatest 36 = .ok (.aload_n 0, 1) := by decide +kernel
theorem dX3_greatest_37 : decode cX3_greatest 37 = .ok (.getfield 39, 3) := by decide +kernel
theorem dX3_greatest_40 : decode cX3_greatest 40 = .ok (.iload 4, 2) := by decide +kernel
theorem dX3_greatest_42 : decode cX3_greatest 42 = .ok (.laload, 1) := by decide +kernel
theorem dX3_greatest_43 : decode cX3_greatest 43 = .ok (.aload_n 0, 1) := by decide +kernel
theorem dX3_greatest_44 : decode cX3_greatest 44 = .ok (.getfield 42, 3) := by decide +kernel
theorem dX3_greatest_47 : decode cX3_greatest 47 = .ok (.iload 4, 2) := by decide +kernel
theorem dX3_greatest_49 : decode cX3_greatest 49 = .ok (.laload, 1) := by decide +kernel
theorem dX3_greatest_50 : decode cX3_greatest 50 = .ok (.ldiv, 1) := by decide +kernel
theorem dX3_greatest_51 : decode cX3_greatest 51 = .ok (.lload_n 2, 1) := by decide +kernel
theorem dX3_greatest_52 : decode cX3_greatest 52 = .ok (.lcmp, 1) := by decide +kernel
theorem dX3_greatest_53 : decode cX3_greatest 53 = .ok (.ifCond .ge 21, 3) := by decide +kernel
theorem dX3_greatest_56 : decode cX3_greatest 56 = .ok (.aload_n 0, 1) := by decide +kernel
theorem dX3_greatest_57 : decode cX3_greatest 57 = .ok (.getfield 39, 3) := by decide +kernel
theorem dX3_greatest_60 : decode cX3_greatest 60 = .ok (.iload 4, 2) := by decide +kernel
theorem dX3_greatest_62 : decode cX3_greatest 62 = .ok (.laload, 1) := by decide +kernel
theorem dX3_greatest_63 : decode cX3_greatest 63 = .ok (.aload_n 0, 1) := by decide +kernel
theorem dX3_greatest_64 : decode cX3_greatest 64 = .ok (.getfield 42, 3) := by decide +kernel
theorem dX3_greatest_67 : decode cX3_greatest 67 = .ok (.iload 4, 2) := by decide +kernel
theorem dX3_greatest_69 : decode cX3_greatest 69 = .ok (.laload, 1) := by decide +kernel
theorem dX3_greatest_70 : decode cX3_greatest 70 = .ok (.ldiv, 1) := by decide +kernel
theorem dX3_greatest_71 : decode cX3_greatest 71 = .ok (.goto 4, 3) := by decide +kernel
theorem dX3_greatest_74 : decode cX3_greatest 74 = .ok (.lload_n 2, 1) := by decide +kernel
theorem dX3_greatest_75 : decode cX3_greatest 75 = .ok (.lstore_n 2, 1) := by decide +kernel
theorem dX3_greatest_76 : decode cX3_greatest 76 = .ok (.iinc 4 1, 3) := by decide +kernel
theorem dX3_greatest_79 : decode cX3_greatest 79 = .ok (.goto (-62), 3) := by decide +kernel
theorem dX3_greatest_82 : decode cX3_greatest 82 = .ok (.lload_n 2, 1) := by decide +kernel
theorem dX3_greatest_83 : decode cX3_greatest 83 = .ok (.l2i, 1) := by decide +kernel
theorem dX3_greatest_84 : decode cX3_greatest 84 = .ok (.ireturn, 1) := by decide +kernel
set_option maxRecDepth 20000 in
theorem ggX3_greatestRate_X3_isCell : GoodIn wsX3_greatestRate wsX3_isCell := goodIn_r _ [5, 6, 7, 4, 8] (by decide +kernel) (by decide +kernel)
set_option maxRecDepth 20000 in
theorem gX3_greatestRate_X3_isCell : GoodIn wsX3_greatestRate (va_wsS RX3 63 yX3_isCell wsX3_isCell) := goodIn_app (goodIn_of _ (by decide +kernel)) ggX3_greatestRate_X3_isCell
set_option maxRecDepth 20000 in
theorem ggX3_greatestRate_X3_solves : GoodIn wsX3_greatestRate wsX3_solves := goodIn_ca (goodIn_r _ [12, 13, 14, 15, 16, 17, 18, 19, 4, 20, 21, 22, 23, 24, 25, 26, 27, 28, 29, 30, 31, 32, 33, 34, 35, 36, 37, 38, 39, 40, 41, 53, 54, 55, 56, 57, 58, 59, 60, 61, 62, 63, 64, 65, 66, 67] (by decide +kernel) (by decide +kernel)) (goodIn_sub (fun _ h => List.mem_cons_of_mem _ (List.mem_append_left _ (List.mem_append_right _ h))) (by decide +kernel))
set_option maxRecDepth 20000 in
theorem gX3_greatestRate_X3_solves : GoodIn wsX3_greatestRate (wsV RX3 95 RX3 yX3_solves wsX3_solves) := goodIn_app (goodIn_of _ (by decide +kernel)) ggX3_greatestRate_X3_solves
set_option maxRecDepth 20000 in
theorem ggX3_greatestRate_X3_greatest : GoodIn wsX3_greatestRate wsX3_greatest := goodIn_ca (goodIn_ca (goodIn_r _ [45, 46, 47, 48, 49, 50, 51, 4, 52, 15, 28, 13, 14, 53, 54, 55, 56, 57, 58, 59, 60, 61, 62, 63, 64, 65, 66, 67] (by decide +kernel) (by decide +kernel)) (goodIn_sub (fun _ h => List.mem_cons_of_mem _ (List.mem_append_left _ (List.mem_append_right _ h))) (by decide +kernel))) (goodIn_sub (fun _ h => List.mem_cons_of_mem _ (List.mem_append_right _ h)) (by decide +kernel))
set_option maxRecDepth 20000 in
theorem gX3_greatestRate_X3_greatest : GoodIn wsX3_greatestRate (wsV RX3 131 RX3 yX3_greatest wsX3_greatest) := goodIn_app (goodIn_of _ (by decide +kernel)) ggX3_greatestRate_X3_greatest
theorem dX3_greatestRate_0 : decode cX3_greatestRate 0 = .ok (.aload_n 0, 1) := by decide +kernel
theorem dX3_greatestRate_1 : decode cX3_greatestRate 1 = .ok (.iload_n 1, 1) := by decide +kernel
theorem dX3_greatestRate_2 : decode cX3_greatestRate 2 = .ok (.invokestatic 63, 3) := by decide +kernel
theorem dX3_greatestRate_5 : decode cX3_greatestRate 5 = .ok (.ifCond .ne 7, 3) := by decide +kernel
theorem dX3_greatestRate_8 : decode cX3_greatestRate 8 = .ok (.iconst 1, 1) := by decide +kernel
theorem dX3_greatestRate_9 : decode cX3_greatestRate 9 = .ok (.goto 15, 3) := by decide +kernel
theorem dX3_greatestRate_12 : decode cX3_greatestRate 12 = .ok (.aload_n 0, 1) := by decide +kernel
theorem dX3_greatestRate_13 : decode cX3_greatestRate 13 = .ok (.invokevirtual 95, 3) := by decide +kernel
theorem dX3_greatestRate_16 : decode cX3_greatestRate 16 = .ok (.ifCond .ne 7, 3) := by decide +kernel
theorem dX3_greatestRate_19 : decode cX3_greatestRate 19 = .ok (.iconst 2, 1) := by decide +kernel
theorem dX3_greatestRate_20 : decode cX3_greatestRate 20 = .ok (.goto 4, 3) := by decide +kernel
theorem dX3_greatestRate_23 : decode cX3_greatestRate 23 = .ok (.iconst 0, 1) := by decide +kernel
theorem dX3_greatestRate_24 : decode cX3_greatestRate 24 = .ok (.putfield 45, 3) := by decide +kernel
theorem dX3_greatestRate_27 : decode cX3_greatestRate 27 = .ok (.aload_n 0, 1) := by decide +kernel
theorem dX3_greatestRate_28 : decode cX3_greatestRate 28 = .ok (.getfield 45, 3) := by decide +kernel
theorem dX3_greatestRate_31 : decode cX3_greatestRate 31 = .ok (.ifCond .eq 7, 3) := by decide +kernel
theorem dX3_greatestRate_34 : decode cX3_greatestRate 34 = .ok (.iconst 0, 1) := by decide +kernel
theorem dX3_greatestRate_35 : decode cX3_greatestRate 35 = .ok (.goto 10, 3) := by decide +kernel
theorem dX3_greatestRate_38 : decode cX3_greatestRate 38 = .ok (.aload_n 0, 1) := by decide +kernel
theorem dX3_greatestRate_39 : decode cX3_greatestRate 39 = .ok (.iconst 1, 1) := by decide +kernel
theorem dX3_greatestRate_40 : decode cX3_greatestRate 40 = .ok (.iload_n 1, 1) := by decide +kernel
theorem dX3_greatestRate_41 : decode cX3_greatestRate 41 = .ok (.ishl, 1) := by decide +kernel
theorem dX3_greatestRate_42 : decode cX3_greatestRate 42 = .ok (.invokevirtual 131, 3) := by decide +kernel
theorem dX3_greatestRate_45 : decode cX3_greatestRate 45 = .ok (.ireturn, 1) := by decide +kernel
set_option maxRecDepth 20000 in
theorem ggX3_greatestEqual_X3_in : GoodIn wsX3_greatestEqual wsX3_in := goodIn_r _ [5] (by decide +kernel) (by decide +kernel)
set_option maxRecDepth 20000 in
theorem gX3_greatestEqual_X3_in : GoodIn wsX3_greatestEqual (va_wsS RX3 49 yX3_in wsX3_in) := goodIn_app (goodIn_of _ (by decide +kernel)) ggX3_greatestEqual_X3_in
set_option maxRecDepth 20000 in
theorem ggX3_greatestEqual_X3_solves : GoodIn wsX3_greatestEqual wsX3_solves := goodIn_ca (goodIn_r _ [9, 10, 11, 12, 13, 14, 15, 16, 4, 17, 18, 19, 20, 21, 22, 23, 24, 25, 26, 27, 28, 29, 30, 31, 32, 33, 34, 35, 36, 37, 38, 50, 51, 52, 53, 54, 55, 56, 57, 58, 59, 60, 61, 62, 63, 64] (by decide +kernel) (by decide +kernel)) (goodIn_sub (fun _ h => List.mem_cons_of_mem _ (List.mem_append_left _ (List.mem_append_right _ h))) (by decide +kernel))
set_option maxRecDepth 20000 in
theorem gX3_greatestEqual_X3_solves : GoodIn wsX3_greatestEqual (wsV RX3 95 RX3 yX3_solves wsX3_solves) := goodIn_app (goodIn_of _ (by decide +kernel)) ggX3_greatestEqual_X3_solves
set_option maxRecDepth 20000 in
theorem ggX3_greatestEqual_X3_greatest : GoodIn wsX3_greatestEqual wsX3_greatest := goodIn_ca (goodIn_ca (goodIn_r _ [42, 43, 44, 45, 46, 47, 48, 4, 49, 12, 25, 10, 11, 50, 51, 52, 53, 54, 55, 56, 57, 58, 59, 60, 61, 62, 63, 64] (by decide +kernel) (by decide +kernel)) (goodIn_sub (fun _ h => List.mem_cons_of_mem _ (List.mem_append_left _ (List.mem_append_right _ h))) (by decide +kernel))) (goodIn_sub (fun _ h => List.mem_cons_of_mem _ (List.mem_append_right _ h)) (by decide +kernel))
set_option maxRecDepth 20000 in
theorem gX3_greatestEqual_X3_greatest : GoodIn wsX3_greatestEqual (wsV RX3 131 RX3 yX3_greatest wsX3_greatest) := goodIn_app (goodIn_of _ (by decide +kernel)) ggX3_greatestEqual_X3_greatest
theorem dX3_greatestEqual_0 : decode cX3_greatestEqual 0 = .ok (.aload_n 0, 1) := by decide +kernel
theorem dX3_greatestEqual_1 : decode cX3_greatestEqual 1 = .ok (.iload_n 1, 1) := by decide +kernel
theorem dX3_greatestEqual_2 : decode cX3_greatestEqual 2 = .ok (.iconst 1, 1) := by decide +kernel
theorem dX3_greatestEqual_3 : decode cX3_greatestEqual 3 = .ok (.sipush 511, 3) := by decide +kernel
theorem dX3_greatestEqual_6 : decode cX3_greatestEqual 6 = .ok (.invokestatic 49, 3) := by decide +kernel
theorem dX3_greatestEqual_9 : decode cX3_greatestEqual 9 = .ok (.ifCond .ne 7, 3) := by decide +kernel
theorem dX3_greatestEqual_12 : decode cX3_greatestEqual 12 = .ok (.iconst 1, 1) := by decide +kernel
theorem dX3_greatestEqual_13 : decode cX3_greatestEqual 13 = .ok (.goto 15, 3) := by decide +kernel
theorem dX3_greatestEqual_16 : decode cX3_greatestEqual 16 = .ok (.aload_n 0, 1) := by decide +kernel
theorem dX3_greatestEqual_17 : decode cX3_greatestEqual 17 = .ok (.invokevirtual 95, 3) := by decide +kernel
theorem dX3_greatestEqual_20 : decode cX3_greatestEqual 20 = .ok (.ifCond .ne 7, 3) := by decide +kernel
theorem dX3_greatestEqual_23 : decode cX3_greatestEqual 23 = .ok (.iconst 2, 1) := by decide +kernel
theorem dX3_greatestEqual_24 : decode cX3_greatestEqual 24 = .ok (.goto 4, 3) := by decide +kernel
theorem dX3_greatestEqual_27 : decode cX3_greatestEqual 27 = .ok (.iconst 0, 1) := by decide +kernel
theorem dX3_greatestEqual_28 : decode cX3_greatestEqual 28 = .ok (.putfield 45, 3) := by decide +kernel
theorem dX3_greatestEqual_31 : decode cX3_greatestEqual 31 = .ok (.aload_n 0, 1) := by decide +kernel
theorem dX3_greatestEqual_32 : decode cX3_greatestEqual 32 = .ok (.getfield 45, 3) := by decide +kernel
theorem dX3_greatestEqual_35 : decode cX3_greatestEqual 35 = .ok (.ifCond .eq 7, 3) := by decide +kernel
theorem dX3_greatestEqual_38 : decode cX3_greatestEqual 38 = .ok (.iconst 0, 1) := by decide +kernel
theorem dX3_greatestEqual_39 : decode cX3_greatestEqual 39 = .ok (.goto 8, 3) := by decide +kernel
theorem dX3_greatestEqual_42 : decode cX3_greatestEqual 42 = .ok (.aload_n 0, 1) := by decide +kernel
theorem dX3_greatestEqual_43 : decode cX3_greatestEqual 43 = .ok (.iload_n 1, 1) := by decide +kernel
theorem dX3_greatestEqual_44 : decode cX3_greatestEqual 44 = .ok (.invokevirtual 131, 3) := by decide +kernel
theorem dX3_greatestEqual_47 : decode cX3_greatestEqual 47 = .ok (.ireturn, 1) := by decide +kernel
theorem dX3_restFor_0 : decode cX3_restFor 0 = .ok (.ldc2_w 129, 3) := by decide +kernel
theorem dX3_restFor_3 : decode cX3_restFor 3 = .ok (.lstore 4, 2) := by decide +kernel
theorem dX3_restFor_5 : decode cX3_restFor 5 = .ok (.iconst 0, 1) := by decide +kernel
theorem dX3_restFor_6 : decode cX3_restFor 6 = .ok (.istore 6, 2) := by decide +kernel
theorem dX3_restFor_8 : decode cX3_restFor 8 = .ok (.iload 6, 2) := by decide +kernel
theorem dX3_restFor_10 : decode cX3_restFor 10 = .ok (.bipush 9, 2) := by decide +kernel
theorem dX3_restFor_12 : decode cX3_restFor 12 = .ok (.if_icmp .ge 89, 3) := by decide +kernel
theorem dX3_restFor_15 : decode cX3_restFor 15 = .ok (.aload_n 0, 1) := by decide +kernel
theorem dX3_restFor_16 : decode cX3_restFor 16 = .ok (.getfield 39, 3) := by decide +kernel
theorem dX3_restFor_19 : decode cX3_restFor 19 = .ok (.iload 6, 2) := by decide +kernel
theorem dX3_restFor_21 : decode cX3_restFor 21 = .ok (.laload, 1) := by decide +kernel
theorem dX3_restFor_22 : decode cX3_restFor 22 = .ok (.aload_n 0, 1) := by decide +kernel
theorem dX3_restFor_23 : decode cX3_restFor 23 = .ok (.getfield 33, 3) := by decide +kernel
theorem dX3_restFor_26 : decode cX3_restFor 26 = .ok (.bipush 9, 2) := by decide +kernel
theorem dX3_restFor_28 : decode cX3_restFor 28 = .ok (.iload 6, 2) := by decide +kernel
theorem dX3_restFor_30 : decode cX3_restFor 30 = .ok (.imul, 1) := by decide +kernel
theorem dX3_restFor_31 : decode cX3_restFor 31 = .ok (.iload_n 1, 1) := by decide +kernel
theorem dX3_restFor_32 : decode cX3_restFor 32 = .ok (.iadd, 1) := by decide +kernel
theorem dX3_restFor_33 : decode cX3_restFor 33 = .ok (.laload, 1) := by decide +kernel
theorem dX3_restFor_34 : decode cX3_restFor 34 = .ok (.iload_n 3, 1) := by decide +kernel
theorem dX3_restFor_35 : decode cX3_restFor 35 = .ok (.i2l, 1) := by decide +kernel
theorem dX3_restFor_36 : decode cX3_restFor 36 = .ok (.lmul, 1) := by decide +kernel
theorem dX3_restFor_37 : decode cX3_restFor 37 = .ok (.lsub, 1) := by decide +kernel
theorem dX3_restFor_38 : decode cX3_restFor 38 = .ok (.lstore 7, 2) := by decide +kernel
theorem dX3_restFor_40 : decode cX3_restFor 40 = .ok (.aload_n 0, 1) := by decide +kernel
theorem dX3_restFor_41 : decode cX3_restFor 41 = .ok (.getfield 33, 3) := by decide +kernel
theorem dX3_restFor_44 : decode cX3_restFor 44 = .ok (.bipush 9, 2) := by decide +kernel
theorem dX3_restFor_46 : decode cX3_restFor 46 = .ok (.iload 6, 2) := by decide +kernel
theorem dX3_restFor_48 : decode cX3_restFor 48 = .ok (.imul, 1) := by decide +kernel
theorem dX3_restFor_49 : decode cX3_restFor 49 = .ok (.iload_n 2, 1) := by decide +kernel
theorem dX3_restFor_50 : decode cX3_restFor 50 = .ok (.iadd, 1) := by decide +kernel
theorem dX3_restFor_51 : decode cX3_restFor 51 = .ok (.laload, 1) := by decide +kernel
theorem dX3_restFor_52 : decode cX3_restFor 52 = .ok (.lstore 9, 2) := by decide +kernel
theorem dX3_restFor_54 : decode cX3_restFor 54 = .ok (.lload 7, 2) := by decide +kernel
theorem dX3_restFor_56 : decode cX3_restFor 56 = .ok (.lconst 0, 1) := by decide +kernel
theorem dX3_restFor_57 : decode cX3_restFor 57 = .ok (.lcmp, 1) := by decide +kernel
theorem dX3_restFor_58 : decode cX3_restFor 58 = .ok (.ifCond .ge 7, 3) := by decide +kernel
theorem dX3_restFor_61 : decode cX3_restFor 61 = .ok (.ldc2_w 135, 3) := by decide +kernel
theorem dX3_restFor_64 : decode cX3_restFor 64 = .ok (.lreturn, 1) := by decide +kernel
theorem dX3_restFor_65 : decode cX3_restFor 65 = .ok (.lload 9, 2) := by decide +kernel
theorem dX3_restFor_67 : decode cX3_restFor 67 = .ok (.lconst 0, 1) := by decide +kernel
theorem dX3_restFor_68 : decode cX3_restFor 68 = .ok (.lcmp, 1) := by decide +kernel
theorem dX3_restFor_69 : decode cX3_restFor 69 = .ok (.ifCond .le 22, 3) := by decide +kernel
theorem dX3_restFor_72 : decode cX3_restFor 72 = .ok (.lload 7, 2) := by decide +kernel
theorem dX3_restFor_74 : decode cX3_restFor 74 = .ok (.lload 9, 2) := by decide +kernel
theorem dX3_restFor_76 : decode cX3_restFor 76 = .ok (.ldiv, 1) := by decide +kernel
theorem dX3_restFor_77 : decode cX3_restFor 77 = .ok (.lload 4, 2) := by decide +kernel
theorem dX3_restFor_79 : decode cX3_restFor 79 = .ok (.lcmp, 1) := by decide +kernel
theorem dX3_restFor_80 : decode cX3_restFor 80 = .ok (.ifCond .ge 11, 3) := by decide +kernel
theorem dX3_restFor_83 : decode cX3_restFor 83 = .ok (.lload 7, 2) := by decide +kernel
theorem dX3_restFor_85 : decode cX3_restFor 85 = .ok (.lload 9, 2) := by decide +kernel
theorem dX3_restFor_87 : decode cX3_restFor 87 = .ok (.ldiv, 1) := by decide +kernel
theorem dX3_restFor_88 : decode cX3_restFor 88 = .ok (.goto 5, 3) := by decide +kernel
theorem dX3_restFor_91 : decode cX3_restFor 91 = .ok (.lload 4, 2) := by decide +kernel
theorem dX3_restFor_93 : decode cX3_restFor 93 = .ok (.lstore 4, 2) := by decide +kernel
theorem dX3_restFor_95 : decode cX3_restFor 95 = .ok (.iinc 6 1, 3) := by decide +kernel
theorem dX3_restFor_98 : decode cX3_restFor 98 = .ok (.goto (-90), 3) := by decide +kernel
theorem dX3_restFor_101 : decode cX3_restFor 101 = .ok (.lload 4, 2) := by decide +kernel
theorem dX3_restFor_103 : decode cX3_restFor 103 = .ok (.lreturn, 1) := by decide +kernel
set_option maxRecDepth 20000 in
theorem ggX3_bestOf_X3_laysAbove : GoodIn wsX3_bestOf wsX3_laysAbove := goodIn_ca (goodIn_r _ [6, 7, 8, 9, 10, 11, 12, 18, 19, 20, 21, 22, 23, 24, 25, 26, 27, 28, 29, 30, 31, 32] (by decide +kernel) (by decide +kernel)) (goodIn_sub (fun _ h => List.mem_cons_of_mem _ (List.mem_append_left _ (List.mem_append_right _ h))) (by decide +kernel))
set_option maxRecDepth 20000 in
theorem gX3_bestOf_X3_laysAbove : GoodIn wsX3_bestOf (wsV RX3 126 RX3 yX3_laysAbove wsX3_laysAbove) := goodIn_app (goodIn_of _ (by decide +kernel)) ggX3_bestOf_X3_laysAbove
set_option maxRecDepth 20000 in
theorem ggX3_bestOf_X3_restFor : GoodIn wsX3_bestOf wsX3_restFor := goodIn_ca (goodIn_ca (goodIn_r _ [16, 17, 7, 12, 1, 18, 19, 20, 21, 22, 23, 24, 25, 26, 27, 28, 29, 30, 31, 32] (by decide +kernel) (by decide +kernel)) (goodIn_sub (fun _ h => List.mem_cons_of_mem _ (List.mem_append_left _ (List.mem_append_right _ h))) (by decide +kernel))) (goodIn_sub (fun _ h => List.mem_cons_of_mem _ (List.mem_append_right _ h)) (by decide +kernel))
set_option maxRecDepth 20000 in
theorem gX3_bestOf_X3_restFor : GoodIn wsX3_bestOf (wsV RX3 137 RX3 yX3_restFor wsX3_restFor) := goodIn_app (goodIn_of _ (by decide +kernel)) ggX3_bestOf_X3_restFor
theorem dX3_bestOf_0 : decode cX3_bestOf 0 = .ok (.aload_n 0, 1) := by decide +kernel
theorem dX3_bestOf_1 : decode cX3_bestOf 1 = .ok (.iconst 1, 1) := by decide +kernel
theorem dX3_bestOf_2 : decode cX3_bestOf 2 = .ok (.iload_n 1, 1) := by decide +kernel
theorem dX3_bestOf_3 : decode cX3_bestOf 3 = .ok (.ishl, 1) := by decide +kernel
theorem dX3_bestOf_4 : decode cX3_bestOf 4 = .ok (.iconst 1, 1) := by decide +kernel
theorem dX3_bestOf_5 : decode cX3_bestOf 5 = .ok (.iload_n 2, 1) := by decide +kernel
theorem dX3_bestOf_6 : decode cX3_bestOf 6 = .ok (.ishl, 1) := by decide +kernel
theorem dX3_bestOf_7 : decode cX3_bestOf 7 = .ok (.ior, 1) := by decide +kernel
theorem dX3_bestOf_8 : decode cX3_bestOf 8 = .ok (.invokevirtual 126, 3) := by decide +kernel
theorem dX3_bestOf_11 : decode cX3_bestOf 11 = .ok (.ifCond .ne 5, 3) := by decide +kernel
theorem dX3_bestOf_14 : decode cX3_bestOf 14 = .ok (.iconst (-1), 1) := by decide +kernel
theorem dX3_bestOf_15 : decode cX3_bestOf 15 = .ok (.ireturn, 1) := by decide +kernel
theorem dX3_bestOf_16 : decode cX3_bestOf 16 = .ok (.iconst 0, 1) := by decide +kernel
theorem dX3_bestOf_17 : decode cX3_bestOf 17 = .ok (.istore_n 3, 1) := by decide +kernel
theorem dX3_bestOf_18 : decode cX3_bestOf 18 = .ok (.ldc2_w 135, 3) := by decide +kernel
theorem dX3_bestOf_21 : decode cX3_bestOf 21 = .ok (.lstore 4, 2) := by decide +kernel
theorem dX3_bestOf_23 : decode cX3_bestOf 23 = .ok (.iconst 0, 1) := by decide +kernel
theorem dX3_bestOf_24 : decode cX3_bestOf 24 = .ok (.istore 6, 2) := by decide +kernel
theorem dX3_bestOf_26 : decode cX3_bestOf 26 = .ok (.iload 6, 2) := by decide +kernel
theorem dX3_bestOf_28 : decode cX3_bestOf 28 = .ok (.sipush 1000, 3) := by decide +kernel
theorem dX3_bestOf_31 : decode cX3_bestOf 31 = .ok (.if_icmp .gt 57, 3) := by decide +kernel
theorem dX3_bestOf_34 : decode cX3_bestOf 34 = .ok (.aload_n 0, 1) := by decide +kernel
theorem dX3_bestOf_35 : decode cX3_bestOf 35 = .ok (.iload_n 1, 1) := by decide +kernel
theorem dX3_bestOf_36 : decode cX3_bestOf 36 = .ok (.iload_n 2, 1) := by decide +kernel
theorem dX3_bestOf_37 : decode cX3_bestOf 37 = .ok (.iload 6, 2) := by decide +kernel
theorem dX3_bestOf_39 : decode cX3_bestOf 39 = .ok (.invokevirtual 137, 3) := by decide +kernel
theorem dX3_bestOf_42 : decode cX3_bestOf 42 = .ok (.lstore 7, 2) := by decide +kernel
theorem dX3_bestOf_44 : decode cX3_bestOf 44 = .ok (.lload 7, 2) := by decide +kernel
theorem dX3_bestOf_46 : decode cX3_bestOf 46 = .ok (.lconst 0, 1) := by decide +kernel
theorem dX3_bestOf_47 : decode cX3_bestOf 47 = .ok (.lcmp, 1) := by decide +kernel
theorem dX3_bestOf_48 : decode cX3_bestOf 48 = .ok (.ifCond .lt 34, 3) := by decide +kernel
theorem dX3_bestOf_51 : decode cX3_bestOf 51 = .ok (.iload 6, 2) := by decide +kernel
theorem dX3_bestOf_53 : decode cX3_bestOf 53 = .ok (.i2l, 1) := by decide +kernel
theorem dX3_bestOf_54 : decode cX3_bestOf 54 = .ok (.lload 7, 2) := by decide +kernel
theorem dX3_bestOf_56 : decode cX3_bestOf 56 = .ok (.ladd, 1) := by decide +kernel
theorem dX3_bestOf_57 : decode cX3_bestOf 57 = .ok (.lload 4, 2) := by decide +kernel
theorem dX3_bestOf_59 : decode cX3_bestOf 59 = .ok (.lcmp, 1) := by decide +kernel
theorem dX3_bestOf_60 : decode cX3_bestOf 60 = .ok (.ifCond .le 22, 3) := by decide +kernel
theorem dX3_bestOf_63 : decode cX3_bestOf 63 = .ok (.iload 6, 2) := by decide +kernel
theorem dX3_bestOf_65 : decode cX3_bestOf 65 = .ok (.i2l, 1) := by decide +kernel
theorem dX3_bestOf_66 : decode cX3_bestOf 66 = .ok (.lload 7, 2) := by decide +kernel
theorem dX3_bestOf_68 : decode cX3_bestOf 68 = .ok (.ladd, 1) := by decide +kernel
theorem dX3_bestOf_69 : decode cX3_bestOf 69 = .ok (.lstore 4, 2) := by decide +kernel
theorem dX3_bestOf_71 : decode cX3_bestOf 71 = .ok (.sipush 10000, 3) := by decide +kernel
theorem dX3_bestOf_74 : decode cX3_bestOf 74 = .ok (.iload 6, 2) := by decide +kernel
theorem dX3_bestOf_76 : decode cX3_bestOf 76 = .ok (.imul, 1) := by decide +kernel
theorem dX3_bestOf_77 : decode cX3_bestOf 77 = .ok (.lload 7, 2) := by decide +kernel
theorem dX3_bestOf_79 : decode cX3_bestOf 79 = .ok (.l2i, 1) := by decide +kernel
theorem dX3_bestOf_80 : decode cX3_bestOf 80 = .ok (.iadd, 1) := by decide +kernel
theorem dX3_bestOf_81 : decode cX3_bestOf 81 = .ok (.istore_n 3, 1) := by decide +kernel
theorem dX3_bestOf_82 : decode cX3_bestOf 82 = .ok (.iinc 6 1, 3) := by decide +kernel
theorem dX3_bestOf_85 : decode cX3_bestOf 85 = .ok (.goto (-59), 3) := by decide +kernel
theorem dX3_bestOf_88 : decode cX3_bestOf 88 = .ok (.iload_n 3, 1) := by decide +kernel
theorem dX3_bestOf_89 : decode cX3_bestOf 89 = .ok (.ireturn, 1) := by decide +kernel
set_option maxRecDepth 20000 in
theorem ggX3_bestPair_X3_isCell : GoodIn wsX3_bestPair wsX3_isCell := goodIn_r _ [5, 6, 7, 4, 8] (by decide +kernel) (by decide +kernel)
set_option maxRecDepth 20000 in
theorem gX3_bestPair_X3_isCell : GoodIn wsX3_bestPair (va_wsS RX3 63 yX3_isCell wsX3_isCell) := goodIn_app (goodIn_of _ (by decide +kernel)) ggX3_bestPair_X3_isCell
set_option maxRecDepth 20000 in
theorem ggX3_bestPair_X3_solves : GoodIn wsX3_bestPair wsX3_solves := goodIn_ca (goodIn_r _ [12, 13, 14, 15, 16, 17, 18, 19, 4, 20, 21, 22, 23, 24, 25, 26, 27, 28, 29, 30, 31, 32, 33, 34, 35, 36, 37, 38, 39, 40, 41, 58, 59, 60, 61, 62, 63, 64, 65, 66, 67, 68, 69, 70, 71, 72] (by decide +kernel) (by decide +kernel)) (goodIn_sub (fun _ h => List.mem_cons_of_mem _ (List.mem_append_left _ (List.mem_append_right _ h))) (by decide +kernel))
set_option maxRecDepth 20000 in
theorem gX3_bestPair_X3_solves : GoodIn wsX3_bestPair (wsV RX3 95 RX3 yX3_solves wsX3_solves) := goodIn_app (goodIn_of _ (by decide +kernel)) ggX3_bestPair_X3_solves
set_option maxRecDepth 20000 in
theorem ggX3_bestPair_X3_bestOf : GoodIn wsX3_bestPair wsX3_bestOf := goodIn_ca (goodIn_ca (goodIn_r _ [45, 46, 47, 48, 49, 4, 50, 51, 15, 28, 13, 52, 14, 53, 54, 55, 56, 57, 58, 59, 60, 61, 62, 63, 64, 65, 66, 67, 68, 69, 70, 71, 72] (by decide +kernel) (by decide +kernel)) (goodIn_sub (fun _ h => List.mem_cons_of_mem _ (List.mem_append_left _ (List.mem_append_right _ h))) (by decide +kernel))) (goodIn_sub (fun _ h => List.mem_cons_of_mem _ (List.mem_append_right _ h)) (by decide +kernel))
set_option maxRecDepth 20000 in
theorem gX3_bestPair_X3_bestOf : GoodIn wsX3_bestPair (wsV RX3 141 RX3 yX3_bestOf wsX3_bestOf) := goodIn_app (goodIn_of _ (by decide +kernel)) ggX3_bestPair_X3_bestOf
theorem dX3_bestPair_0 : decode cX3_bestPair 0 = .ok (.aload_n 0, 1) := by decide +kernel
theorem dX3_bestPair_1 : decode cX3_bestPair 1 = .ok (.iload_n 1, 1) := by decide +kernel
theorem dX3_bestPair_2 : decode cX3_bestPair 2 = .ok (.invokestatic 63, 3) := by decide +kernel
theorem dX3_bestPair_5 : decode cX3_bestPair 5 = .ok (.ifCond .eq 10, 3) := by decide +kernel
theorem dX3_bestPair_8 : decode cX3_bestPair 8 = .ok (.iload_n 2, 1) := by decide +kernel
theorem dX3_bestPair_9 : decode cX3_bestPair 9 = .ok (.invokestatic 63, 3) := by decide +kernel
theorem dX3_bestPair_12 : decode cX3_bestPair 12 = .ok (.ifCond .ne 7, 3) := by decide +kernel
theorem dX3_bestPair_15 : decode cX3_bestPair 15 = .ok (.iconst 1, 1) := by decide +kernel
theorem dX3_bestPair_16 : decode cX3_bestPair 16 = .ok (.goto 24, 3) := by decide +kernel
theorem dX3_bestPair_19 : decode cX3_bestPair 19 = .ok (.iload_n 1, 1) := by decide +kernel
theorem dX3_bestPair_20 : decode cX3_bestPair 20 = .ok (.iload_n 2, 1) := by decide +kernel
theorem dX3_bestPair_21 : decode cX3_bestPair 21 = .ok (.if_icmp .ne 7, 3) := by decide +kernel
theorem dX3_bestPair_24 : decode cX3_bestPair 24 = .ok (.iconst 2, 1) := by decide +kernel
theorem dX3_bestPair_25 : decode cX3_bestPair 25 = .ok (.goto 15, 3) := by decide +kernel
theorem dX3_bestPair_28 : decode cX3_bestPair 28 = .ok (.aload_n 0, 1) := by decide +kernel
theorem dX3_bestPair_29 : decode cX3_bestPair 29 = .ok (.invokevirtual 95, 3) := by decide +kernel
theorem dX3_bestPair_32 : decode cX3_bestPair 32 = .ok (.ifCond .ne 7, 3) := by decide +kernel
theorem dX3_bestPair_35 : decode cX3_bestPair 35 = .ok (.iconst 3, 1) := by decide +kernel
theorem dX3_bestPair_36 : decode cX3_bestPair 36 = .ok (.goto 4, 3) := by decide +kernel
theorem dX3_bestPair_39 : decode cX3_bestPair 39 = .ok (.iconst 0, 1) := by decide +kernel
theorem dX3_bestPair_40 : decode cX3_bestPair 40 = .ok (.putfield 45, 3) := by decide +kernel
theorem dX3_bestPair_43 : decode cX3_bestPair 43 = .ok (.aload_n 0, 1) := by decide +kernel
theorem dX3_bestPair_44 : decode cX3_bestPair 44 = .ok (.getfield 45, 3) := by decide +kernel
theorem dX3_bestPair_47 : decode cX3_bestPair 47 = .ok (.ifCond .eq 7, 3) := by decide +kernel
theorem dX3_bestPair_50 : decode cX3_bestPair 50 = .ok (.iconst 0, 1) := by decide +kernel
theorem dX3_bestPair_51 : decode cX3_bestPair 51 = .ok (.goto 9, 3) := by decide +kernel
theorem dX3_bestPair_54 : decode cX3_bestPair 54 = .ok (.aload_n 0, 1) := by decide +kernel
theorem dX3_bestPair_55 : decode cX3_bestPair 55 = .ok (.iload_n 1, 1) := by decide +kernel
theorem dX3_bestPair_56 : decode cX3_bestPair 56 = .ok (.iload_n 2, 1) := by decide +kernel
theorem dX3_bestPair_57 : decode cX3_bestPair 57 = .ok (.invokevirtual 141, 3) := by decide +kernel
theorem dX3_bestPair_60 : decode cX3_bestPair 60 = .ok (.ireturn, 1) := by decide +kernel
theorem dX3_relaxedAt_0 : decode cX3_relaxedAt 0 = .ok (.iload_n 1, 1) := by decide +kernel
theorem dX3_relaxedAt_1 : decode cX3_relaxedAt 1 = .ok (.bipush 9, 2) := by decide +kernel
theorem dX3_relaxedAt_3 : decode cX3_relaxedAt 3 = .ok (.if_icmp .ge 12, 3) := by decide +kernel
theorem dX3_relaxedAt_6 : decode cX3_relaxedAt 6 = .ok (.aload_n 0, 1) := by decide +kernel
theorem dX3_relaxedAt_7 : decode cX3_relaxedAt 7 = .ok (.getfield 13, 3) := by decide +kernel
theorem dX3_relaxedAt_10 : decode cX3_relaxedAt 10 = .ok (.iload_n 1, 1) := by decide +kernel
theorem dX3_relaxedAt_11 : decode cX3_relaxedAt 11 = .ok (.daload, 1) := by decide +kernel
theorem dX3_relaxedAt_12 : decode cX3_relaxedAt 12 = .ok (.goto 16, 3) := by decide +kernel
theorem dX3_relaxedAt_15 : decode cX3_relaxedAt 15 = .ok (.aload_n 0, 1) := by decide +kernel
theorem dX3_relaxedAt_16 : decode cX3_relaxedAt 16 = .ok (.getfield 7, 3) := by decide +kernel
theorem dX3_relaxedAt_19 : decode cX3_relaxedAt 19 = .ok (.bipush 24, 2) := by decide +kernel
theorem dX3_relaxedAt_21 : decode cX3_relaxedAt 21 = .ok (.iload_n 1, 1) := by decide +kernel
theorem dX3_relaxedAt_22 : decode cX3_relaxedAt 22 = .ok (.iadd, 1) := by decide +kernel
theorem dX3_relaxedAt_23 : decode cX3_relaxedAt 23 = .ok (.bipush 9, 2) := by decide +kernel
theorem dX3_relaxedAt_25 : decode cX3_relaxedAt 25 = .ok (.isub, 1) := by decide +kernel
theorem dX3_relaxedAt_26 : decode cX3_relaxedAt 26 = .ok (.iaload, 1) := by decide +kernel
theorem dX3_relaxedAt_27 : decode cX3_relaxedAt 27 = .ok (.i2d, 1) := by decide +kernel
theorem dX3_relaxedAt_28 : decode cX3_relaxedAt 28 = .ok (.dreturn, 1) := by decide +kernel
set_option maxRecDepth 20000 in
theorem ggX3_relaxes_X3_conductanceOf : GoodIn wsX3_relaxes wsX3_conductanceOf := goodIn_ca (goodIn_r _ [7, 2, 8, 9, 6, 10, 18, 19, 20, 21, 22, 23, 24, 25, 26, 27, 28, 29, 30, 31, 32] (by decide +kernel) (by decide +kernel)) (goodIn_sub (fun _ h => List.mem_cons_of_mem _ (List.mem_append_right _ h)) (by decide +kernel))
set_option maxRecDepth 20000 in
theorem gX3_relaxes_X3_conductanceOf : GoodIn wsX3_relaxes (wsV RX3 73 RX3 yX3_conductanceOf wsX3_conductanceOf) := goodIn_app (goodIn_of _ (by decide +kernel)) ggX3_relaxes_X3_conductanceOf
set_option maxRecDepth 20000 in
theorem ggX3_relaxes_X3_otherOf : GoodIn wsX3_relaxes wsX3_otherOf := goodIn_r _ [13] (by decide +kernel) (by decide +kernel)
set_option maxRecDepth 20000 in
theorem gX3_relaxes_X3_otherOf : GoodIn wsX3_relaxes (va_wsS RX3 70 yX3_otherOf wsX3_otherOf) := goodIn_app (goodIn_of _ (by decide +kernel)) ggX3_relaxes_X3_otherOf
set_option maxRecDepth 20000 in
theorem ggX3_relaxes_X3_relaxedAt : GoodIn wsX3_relaxes wsX3_relaxedAt := goodIn_ca (goodIn_r _ [17, 1, 2, 18, 19, 20, 21, 22, 23, 24, 25, 26, 27, 28, 29, 30, 31, 32] (by decide +kernel) (by decide +kernel)) (goodIn_sub (fun _ h => List.mem_cons_of_mem _ (List.mem_append_right _ h)) (by decide +kernel))
set_option maxRecDepth 20000 in
theorem gX3_relaxes_X3_relaxedAt : GoodIn wsX3_relaxes (wsV RX3 144 RX3 yX3_relaxedAt wsX3_relaxedAt) := goodIn_app (goodIn_of _ (by decide +kernel)) ggX3_relaxes_X3_relaxedAt
theorem dX3_relaxes_0 : decode cX3_relaxes 0 = .ok (.dconst 0, 1) := by decide +kernel
theorem dX3_relaxes_1 : decode cX3_relaxes 1 = .ok (.dstore_n 2, 1) := by decide +kernel
theorem dX3_relaxes_2 : decode cX3_relaxes 2 = .ok (.iconst 0, 1) := by decide +kernel
theorem dX3_relaxes_3 : decode cX3_relaxes 3 = .ok (.istore 4, 2) := by decide +kernel
theorem dX3_relaxes_5 : decode cX3_relaxes 5 = .ok (.iconst 0, 1) := by decide +kernel
theorem dX3_relaxes_6 : decode cX3_relaxes 6 = .ok (.istore 5, 2) := by decide +kernel
theorem dX3_relaxes_8 : decode cX3_relaxes 8 = .ok (.iload 5, 2) := by decide +kernel
theorem dX3_relaxes_10 : decode cX3_relaxes 10 = .ok (.iconst 4, 1) := by decide +kernel
theorem dX3_relaxes_11 : decode cX3_relaxes 11 = .ok (.if_icmp .ge 43, 3) := by decide +kernel
theorem dX3_relaxes_14 : decode cX3_relaxes 14 = .ok (.dload_n 2, 1) := by decide +kernel
theorem dX3_relaxes_15 : decode cX3_relaxes 15 = .ok (.aload_n 0, 1) := by decide +kernel
theorem dX3_relaxes_16 : decode cX3_relaxes 16 = .ok (.iload_n 1, 1) := by decide +kernel
theorem dX3_relaxes_17 : decode cX3_relaxes 17 = .ok (.iload 5, 2) := by decide +kernel
theorem dX3_relaxes_19 : decode cX3_relaxes 19 = .ok (.invokevirtual 73, 3) := by decide +kernel
theorem dX3_relaxes_22 : decode cX3_relaxes 22 = .ok (.i2d, 1) := by decide +kernel
theorem dX3_relaxes_23 : decode cX3_relaxes 23 = .ok (.aload_n 0, 1) := by decide +kernel
theorem dX3_relaxes_24 : decode cX3_relaxes 24 = .ok (.iload_n 1, 1) := by decide +kernel
theorem dX3_relaxes_25 : decode cX3_relaxes 25 = .ok (.iload 5, 2) := by decide +kernel
theorem dX3_relaxes_27 : decode cX3_relaxes 27 = .ok (.invokestatic 70, 3) := by decide +kernel
theorem dX3_relaxes_30 : decode cX3_relaxes 30 = .ok (.invokevirtual 144, 3) := by decide +kernel
theorem dX3_relaxes_33 : decode cX3_relaxes 33 = .ok (.dmul, 1) := by decide +kernel
theorem dX3_relaxes_34 : decode cX3_relaxes 34 = .ok (.dadd, 1) := by decide +kernel
theorem dX3_relaxes_35 : decode cX3_relaxes 35 = .ok (.dstore_n 2, 1) := by decide +kernel
theorem dX3_relaxes_36 : decode cX3_relaxes 36 = .ok (.iload 4, 2) := by decide +kernel
theorem dX3_relaxes_38 : decode cX3_relaxes 38 = .ok (.aload_n 0, 1) := by decide +kernel
theorem dX3_relaxes_39 : decode cX3_relaxes 39 = .ok (.iload_n 1, 1) := by decide +kernel
theorem dX3_relaxes_40 : decode cX3_relaxes 40 = .ok (.iload 5, 2) := by decide +kernel
theorem dX3_relaxes_42 : decode cX3_relaxes 42 = .ok (.invokevirtual 73, 3) := by decide +kernel
theorem dX3_relaxes_45 : decode cX3_relaxes 45 = .ok (.iadd, 1) := by decide +kernel
theorem dX3_relaxes_46 : decode cX3_relaxes 46 = .ok (.istore 4, 2) := by decide +kernel
theorem dX3_relaxes_48 : decode cX3_relaxes 48 = .ok (.iinc 5 1, 3) := by decide +kernel
theorem dX3_relaxes_51 : decode cX3_relaxes 51 = .ok (.goto (-43), 3) := by decide +kernel
theorem dX3_relaxes_54 : decode cX3_relaxes 54 = .ok (.iload 4, 2) := by decide +kernel
theorem dX3_relaxes_56 : decode cX3_relaxes 56 = .ok (.ifCond .ne 5, 3) := by decide +kernel
theorem dX3_relaxes_59 : decode cX3_relaxes 59 = .ok (.dconst 0, 1) := by decide +kernel
theorem dX3_relaxes_60 : decode cX3_relaxes 60 = .ok (.dreturn, 1) := by decide +kernel
theorem dX3_relaxes_61 : decode cX3_relaxes 61 = .ok (.aload_n 0, 1) := by decide +kernel
theorem dX3_relaxes_62 : decode cX3_relaxes 62 = .ok (.getfield 13, 3) := by decide +kernel
theorem dX3_relaxes_65 : decode cX3_relaxes 65 = .ok (.iload_n 1, 1) := by decide +kernel
theorem dX3_relaxes_66 : decode cX3_relaxes 66 = .ok (.daload, 1) := by decide +kernel
theorem dX3_relaxes_67 : decode cX3_relaxes 67 = .ok (.dstore 5, 2) := by decide +kernel
theorem dX3_relaxes_69 : decode cX3_relaxes 69 = .ok (.aload_n 0, 1) := by decide +kernel
theorem dX3_relaxes_70 : decode cX3_relaxes 70 = .ok (.getfield 13, 3) := by decide +kernel
theorem dX3_relaxes_73 : decode cX3_relaxes 73 = .ok (.iload_n 1, 1) := by decide +kernel
theorem dX3_relaxes_74 : decode cX3_relaxes 74 = .ok (.dload_n 2, 1) := by decide +kernel
theorem dX3_relaxes_75 : decode cX3_relaxes 75 = .ok (.aload_n 0, 1) := by decide +kernel
theorem dX3_relaxes_76 : decode cX3_relaxes 76 = .ok (.getfield 7, 3) := by decide +kernel
theorem dX3_relaxes_79 : decode cX3_relaxes 79 = .ok (.bipush 36, 2) := by decide +kernel
theorem dX3_relaxes_81 : decode cX3_relaxes 81 = .ok (.iload_n 1, 1) := by decide +kernel
theorem dX3_relaxes_82 : decode cX3_relaxes 82 = .ok (.iadd, 1) := by decide +kernel
theorem dX3_relaxes_83 : decode cX3_relaxes 83 = .ok (.iaload, 1) := by decide +kernel
theorem dX3_relaxes_84 : decode cX3_relaxes 84 = .ok (.aload_n 0, 1) := by decide +kernel
theorem dX3_relaxes_85 : decode cX3_relaxes 85 = .ok (.getfield 7, 3) := by decide +kernel
theorem dX3_relaxes_88 : decode cX3_relaxes 88 = .ok (.bipush 45, 2) := by decide +kernel
theorem dX3_relaxes_90 : decode cX3_relaxes 90 = .ok (.iload_n 1, 1) := by decide +kernel
theorem dX3_relaxes_91 : decode cX3_relaxes 91 = .ok (.iadd, 1) := by decide +kernel
theorem dX3_relaxes_92 : decode cX3_relaxes 92 = .ok (.iaload, 1) := by decide +kernel
theorem dX3_relaxes_93 : decode cX3_relaxes 93 = .ok (.isub, 1) := by decide +kernel
theorem dX3_relaxes_94 : decode cX3_relaxes 94 = .ok (.i2d, 1) := by decide +kernel
theorem dX3_relaxes_95 : decode cX3_relaxes 95 = .ok (.dadd, 1) := by decide +kernel
theorem dX3_relaxes_96 : decode cX3_relaxes 96 = .ok (.iload 4, 2) := by decide +kernel
theorem dX3_relaxes_98 : decode cX3_relaxes 98 = .ok (.i2d, 1) := by decide +kernel
theorem dX3_relaxes_99 : decode cX3_relaxes 99 = .ok (.ddiv, 1) := by decide +kernel
theorem dX3_relaxes_100 : decode cX3_relaxes 100 = .ok (.dastore, 1) := by decide +kernel
theorem dX3_relaxes_101 : decode cX3_relaxes 101 = .ok (.aload_n 0, 1) := by decide +kernel
theorem dX3_relaxes_102 : decode cX3_relaxes 102 = .ok (.getfield 13, 3) := by decide +kernel
theorem dX3_relaxes_105 : decode cX3_relaxes 105 = .ok (.iload_n 1, 1) := by decide +kernel
theorem dX3_relaxes_106 : decode cX3_relaxes 106 = .ok (.daload, 1) := by decide +kernel
theorem dX3_relaxes_107 : decode cX3_relaxes 107 = .ok (.dload 5, 2) := by decide +kernel
theorem dX3_relaxes_109 : decode cX3_relaxes 109 = .ok (.dcmp .g, 1) := by decide +kernel
theorem dX3_relaxes_110 : decode cX3_relaxes 110 = .ok (.ifCond .ge 15, 3) := by decide +kernel
theorem dX3_relaxes_113 : decode cX3_relaxes 113 = .ok (.dload 5, 2) := by decide +kernel
theorem dX3_relaxes_115 : decode cX3_relaxes 115 = .ok (.aload_n 0, 1) := by decide +kernel
theorem dX3_relaxes_116 : decode cX3_relaxes 116 = .ok (.getfield 13, 3) := by decide +kernel
theorem dX3_relaxes_119 : decode cX3_relaxes 119 = .ok (.iload_n 1, 1) := by decide +kernel
theorem dX3_relaxes_120 : decode cX3_relaxes 120 = .ok (.daload, 1) := by decide +kernel
theorem dX3_relaxes_121 : decode cX3_relaxes 121 = .ok (.dsub, 1) := by decide +kernel
theorem dX3_relaxes_122 : decode cX3_relaxes 122 = .ok (.goto 12, 3) := by decide +kernel
theorem dX3_relaxes_125 : decode cX3_relaxes 125 = .ok (.aload_n 0, 1) := by decide +kernel
theorem dX3_relaxes_126 : decode cX3_relaxes 126 = .ok (.getfield 13, 3) := by decide +kernel
theorem dX3_relaxes_129 : decode cX3_relaxes 129 = .ok (.iload_n 1, 1) := by decide +kernel
theorem dX3_relaxes_130 : decode cX3_relaxes 130 = .ok (.daload, 1) := by decide +kernel
theorem dX3_relaxes_131 : decode cX3_relaxes 131 = .ok (.dload 5, 2) := by decide +kernel
theorem dX3_relaxes_133 : decode cX3_relaxes 133 = .ok (.dsub, 1) := by decide +kernel
theorem dX3_relaxes_134 : decode cX3_relaxes 134 = .ok (.dreturn, 1) := by decide +kernel
set_option maxRecDepth 20000 in
theorem ggX3_relax_X3_in : GoodIn wsX3_relax wsX3_in := goodIn_r _ [5] (by decide +kernel) (by decide +kernel)
set_option maxRecDepth 20000 in
theorem gX3_relax_X3_in : GoodIn wsX3_relax (va_wsS RX3 49 yX3_in wsX3_in) := goodIn_app (goodIn_of _ (by decide +kernel)) ggX3_relax_X3_in
set_option maxRecDepth 20000 in
theorem ggX3_relax_X3_keep : GoodIn wsX3_relax wsX3_keep := goodIn_ca (goodIn_r _ [9, 10, 11, 12, 13, 14, 33, 34, 35, 36, 37, 38, 39, 40, 41, 42, 43, 44, 45, 46, 47] (by decide +kernel) (by decide +kernel)) (goodIn_sub (fun _ h => List.mem_cons_of_mem _ (List.mem_append_right _ h)) (by decide +kernel))
set_option maxRecDepth 20000 in
theorem gX3_relax_X3_keep : GoodIn wsX3_relax (wsV RX3 56 RX3 yX3_keep wsX3_keep) := goodIn_app (goodIn_of _ (by decide +kernel)) ggX3_relax_X3_keep
set_option maxRecDepth 20000 in
theorem ggX3_relax_X3_relaxes : GoodIn wsX3_relax wsX3_relaxes := goodIn_ca (goodIn_r _ [18, 14, 13, 19, 20, 21, 4, 22, 23, 24, 25, 26, 27, 28, 29, 30, 31, 32, 33, 34, 35, 36, 37, 38, 39, 40, 41, 42, 43, 44, 45, 46, 47] (by decide +kernel) (by decide +kernel)) (goodIn_sub (fun _ h => List.mem_cons_of_mem _ (List.mem_append_right _ h)) (by decide +kernel))
set_option maxRecDepth 20000 in
theorem gX3_relax_X3_relaxes : GoodIn wsX3_relax (wsV RX3 148 RX3 yX3_relaxes wsX3_relaxes) := goodIn_app (goodIn_of _ (by decide +kernel)) ggX3_relax_X3_relaxes
theorem dX3_relax_0 : decode cX3_relax 0 = .ok (.aload_n 0, 1) := by decide +kernel
theorem dX3_relax_1 : decode cX3_relax 1 = .ok (.iload_n 1, 1) := by decide +kernel
theorem dX3_relax_2 : decode cX3_relax 2 = .ok (.iconst 0, 1) := by decide +kernel
theorem dX3_relax_3 : decode cX3_relax 3 = .ok (.bipush 100, 2) := by decide +kernel
theorem dX3_relax_5 : decode cX3_relax 5 = .ok (.invokestatic 49, 3) := by decide +kernel
theorem dX3_relax_8 : decode cX3_relax 8 = .ok (.ifCond .eq 7, 3) := by decide +kernel
theorem dX3_relax_11 : decode cX3_relax 11 = .ok (.iconst 0, 1) := by decide +kernel
theorem dX3_relax_12 : decode cX3_relax 12 = .ok (.goto 4, 3) := by decide +kernel
theorem dX3_relax_15 : decode cX3_relax 15 = .ok (.iconst 1, 1) := by decide +kernel
theorem dX3_relax_16 : decode cX3_relax 16 = .ok (.putfield 45, 3) := by decide +kernel
theorem dX3_relax_19 : decode cX3_relax 19 = .ok (.aload_n 0, 1) := by decide +kernel
theorem dX3_relax_20 : decode cX3_relax 20 = .ok (.getfield 45, 3) := by decide +kernel
theorem dX3_relax_23 : decode cX3_relax 23 = .ok (.ifCond .eq 5, 3) := by decide +kernel
theorem dX3_relax_26 : decode cX3_relax 26 = .ok (.dconst 0, 1) := by decide +kernel
theorem dX3_relax_27 : decode cX3_relax 27 = .ok (.dreturn, 1) := by decide +kernel
theorem dX3_relax_28 : decode cX3_relax 28 = .ok (.aload_n 0, 1) := by decide +kernel
theorem dX3_relax_29 : decode cX3_relax 29 = .ok (.invokevirtual 56, 3) := by decide +kernel
theorem dX3_relax_32 : decode cX3_relax 32 = .ok (.dconst 0, 1) := by decide +kernel
theorem dX3_relax_33 : decode cX3_relax 33 = .ok (.dstore_n 2, 1) := by decide +kernel
theorem dX3_relax_34 : decode cX3_relax 34 = .ok (.iconst 0, 1) := by decide +kernel
theorem dX3_relax_35 : decode cX3_relax 35 = .ok (.istore 4, 2) := by decide +kernel
theorem dX3_relax_37 : decode cX3_relax 37 = .ok (.iload 4, 2) := by decide +kernel
theorem dX3_relax_39 : decode cX3_relax 39 = .ok (.iload_n 1, 1) := by decide +kernel
theorem dX3_relax_40 : decode cX3_relax 40 = .ok (.if_icmp .ge 49, 3) := by decide +kernel
theorem dX3_relax_43 : decode cX3_relax 43 = .ok (.dconst 0, 1) := by decide +kernel
theorem dX3_relax_44 : decode cX3_relax 44 = .ok (.dstore_n 2, 1) := by decide +kernel
theorem dX3_relax_45 : decode cX3_relax 45 = .ok (.iconst 0, 1) := by decide +kernel
theorem dX3_relax_46 : decode cX3_relax 46 = .ok (.istore 5, 2) := by decide +kernel
theorem dX3_relax_48 : decode cX3_relax 48 = .ok (.iload 5, 2) := by decide +kernel
theorem dX3_relax_50 : decode cX3_relax 50 = .ok (.bipush 9, 2) := by decide +kernel
theorem dX3_relax_52 : decode cX3_relax 52 = .ok (.if_icmp .ge 31, 3) := by decide +kernel
theorem dX3_relax_55 : decode cX3_relax 55 = .ok (.aload_n 0, 1) := by decide +kernel
theorem dX3_relax_56 : decode cX3_relax 56 = .ok (.iload 5, 2) := by decide +kernel
theorem dX3_relax_58 : decode cX3_relax 58 = .ok (.invokevirtual 148, 3) := by decide +kernel
theorem dX3_relax_61 : decode cX3_relax 61 = .ok (.dstore 6, 2) := by decide +kernel
theorem dX3_relax_63 : decode cX3_relax 63 = .ok (.dload 6, 2) := by decide +kernel
theorem dX3_relax_65 : decode cX3_relax 65 = .ok (.dload_n 2, 1) := by decide +kernel
theorem dX3_relax_66 : decode cX3_relax 66 = .ok (.dcmp .l, 1) := by decide +kernel
theorem dX3_relax_67 : decode cX3_relax 67 = .ok (.ifCond .le 8, 3) := by decide +kernel
theorem dX3_relax_70 : decode cX3_relax 70 = .ok (.dload 6, 2) := by decide +kernel
theorem dX3_relax_72 : decode cX3_relax 72 = .ok (.goto 4, 3) := by decide +kernel
theorem dX3_relax_75 : decode cX3_relax 75 = .ok (.dload_n 2, 1) := by decide +kernel
theorem dX3_relax_76 : decode cX3_relax 76 = .ok (.dstore_n 2, 1) := by decide +kernel
theorem dX3_relax_77 : decode cX3_relax 77 = .ok (.iinc 5 1, 3) := by decide +kernel
theorem dX3_relax_80 : decode cX3_relax 80 = .ok (.goto (-32), 3) := by decide +kernel
theorem dX3_relax_83 : decode cX3_relax 83 = .ok (.iinc 4 1, 3) := by decide +kernel
theorem dX3_relax_86 : decode cX3_relax 86 = .ok (.goto (-49), 3) := by decide +kernel
theorem dX3_relax_89 : decode cX3_relax 89 = .ok (.dload_n 2, 1) := by decide +kernel
theorem dX3_relax_90 : decode cX3_relax 90 = .ok (.dreturn, 1) := by decide +kernel
set_option maxRecDepth 20000 in
theorem ggX3_relaxed_X3_isCell : GoodIn wsX3_relaxed wsX3_isCell := goodIn_r _ [6, 7, 8, 5, 9] (by decide +kernel) (by decide +kernel)
set_option maxRecDepth 20000 in
theorem gX3_relaxed_X3_isCell : GoodIn wsX3_relaxed (va_wsS RX3 63 yX3_isCell wsX3_isCell) := goodIn_app (goodIn_of _ (by decide +kernel)) ggX3_relaxed_X3_isCell
theorem dX3_relaxed_0 : decode cX3_relaxed 0 = .ok (.aload_n 0, 1) := by decide +kernel
theorem dX3_relaxed_1 : decode cX3_relaxed 1 = .ok (.iload_n 1, 1) := by decide +kernel
theorem dX3_relaxed_2 : decode cX3_relaxed 2 = .ok (.invokestatic 63, 3) := by decide +kernel
theorem dX3_relaxed_5 : decode cX3_relaxed 5 = .ok (.ifCond .eq 7, 3) := by decide +kernel
theorem dX3_relaxed_8 : decode cX3_relaxed 8 = .ok (.iconst 0, 1) := by decide +kernel
theorem dX3_relaxed_9 : decode cX3_relaxed 9 = .ok (.goto 4, 3) := by decide +kernel
theorem dX3_relaxed_12 : decode cX3_relaxed 12 = .ok (.iconst 1, 1) := by decide +kernel
theorem dX3_relaxed_13 : decode cX3_relaxed 13 = .ok (.putfield 45, 3) := by decide +kernel
theorem dX3_relaxed_16 : decode cX3_relaxed 16 = .ok (.aload_n 0, 1) := by decide +kernel
theorem dX3_relaxed_17 : decode cX3_relaxed 17 = .ok (.getfield 45, 3) := by decide +kernel
theorem dX3_relaxed_20 : decode cX3_relaxed 20 = .ok (.ifCond .eq 7, 3) := by decide +kernel
theorem dX3_relaxed_23 : decode cX3_relaxed 23 = .ok (.dconst 0, 1) := by decide +kernel
theorem dX3_relaxed_24 : decode cX3_relaxed 24 = .ok (.goto 9, 3) := by decide +kernel
theorem dX3_relaxed_27 : decode cX3_relaxed 27 = .ok (.aload_n 0, 1) := by decide +kernel
theorem dX3_relaxed_28 : decode cX3_relaxed 28 = .ok (.getfield 13, 3) := by decide +kernel
theorem dX3_relaxed_31 : decode cX3_relaxed 31 = .ok (.iload_n 1, 1) := by decide +kernel
theorem dX3_relaxed_32 : decode cX3_relaxed 32 = .ok (.daload, 1) := by decide +kernel
theorem dX3_relaxed_33 : decode cX3_relaxed 33 = .ok (.dreturn, 1) := by decide +kernel
set_option maxRecDepth 20000 in
theorem ggX3_error_X3_isSolved : GoodIn wsX3_error wsX3_isSolved := goodIn_ca (goodIn_r _ [7, 8, 9, 10, 11, 6, 12, 13, 14, 1, 15, 16, 17, 18, 19, 20, 21, 22, 23, 24, 25, 26, 27, 28, 29, 30, 31, 32, 33, 34, 35, 36, 37, 38, 39, 40, 48, 49, 50, 51, 52, 53, 54, 55, 56, 57, 58, 59, 60, 61, 62] (by decide +kernel) (by decide +kernel)) (goodIn_sub (fun _ h => List.mem_cons_of_mem _ (List.mem_append_left _ (List.mem_append_right _ h))) (by decide +kernel))
set_option maxRecDepth 20000 in
theorem gX3_error_X3_isSolved : GoodIn wsX3_error (wsV RX3 123 RX3 yX3_isSolved wsX3_isSolved) := goodIn_app (goodIn_of _ (by decide +kernel)) ggX3_error_X3_isSolved
set_option maxRecDepth 20000 in
theorem ggX3_error_X3_partOf : GoodIn wsX3_error wsX3_partOf := goodIn_ca (goodIn_r _ [44, 13, 45, 46, 6, 47, 48, 49, 50, 51, 52, 53, 54, 55, 56, 57, 58, 59, 60, 61, 62] (by decide +kernel) (by decide +kernel)) (goodIn_sub (fun _ h => List.mem_cons_of_mem _ (List.mem_append_right _ h)) (by decide +kernel))
set_option maxRecDepth 20000 in
theorem gX3_error_X3_partOf : GoodIn wsX3_error (wsV RX3 102 RX3 yX3_partOf wsX3_partOf) := goodIn_app (goodIn_of _ (by decide +kernel)) ggX3_error_X3_partOf
theorem dX3_error_0 : decode cX3_error 0 = .ok (.aload_n 0, 1) := by decide +kernel
theorem dX3_error_1 : decode cX3_error 1 = .ok (.invokevirtual 123, 3) := by decide +kernel
theorem dX3_error_4 : decode cX3_error 4 = .ok (.ifCond .ne 5, 3) := by decide +kernel
theorem dX3_error_7 : decode cX3_error 7 = .ok (.dconst 0, 1) := by decide +kernel
theorem dX3_error_8 : decode cX3_error 8 = .ok (.dreturn, 1) := by decide +kernel
theorem dX3_error_9 : decode cX3_error 9 = .ok (.dconst 0, 1) := by decide +kernel
theorem dX3_error_10 : decode cX3_error 10 = .ok (.dstore_n 1, 1) := by decide +kernel
theorem dX3_error_11 : decode cX3_error 11 = .ok (.iconst 0, 1) := by decide +kernel
theorem dX3_error_12 : decode cX3_error 12 = .ok (.istore_n 3, 1) := by decide +kernel
theorem dX3_error_13 : decode cX3_error 13 = .ok (.iload_n 3, 1) := by decide +kernel
theorem dX3_error_14 : decode cX3_error 14 = .ok (.bipush 9, 2) := by decide +kernel
theorem dX3_error_16 : decode cX3_error 16 = .ok (.if_icmp .ge 85, 3) := by decide +kernel
theorem dX3_error_19 : decode cX3_error 19 = .ok (.aload_n 0, 1) := by decide +kernel
theorem dX3_error_20 : decode cX3_error 20 = .ok (.aload_n 0, 1) := by decide +kernel
theorem dX3_error_21 : decode cX3_error 21 = .ok (.getfield 36, 3) := by decide +kernel
theorem dX3_error_24 : decode cX3_error 24 = .ok (.iload_n 3, 1) := by decide +kernel
theorem dX3_error_25 : decode cX3_error 25 = .ok (.laload, 1) := by decide +kernel
theorem dX3_error_26 : decode cX3_error 26 = .ok (.iconst 0, 1) := by decide +kernel
theorem dX3_error_27 : decode cX3_error 27 = .ok (.invokevirtual 102, 3) := by decide +kernel
theorem dX3_error_30 : decode cX3_error 30 = .ok (.l2d, 1) := by decide +kernel
theorem dX3_error_31 : decode cX3_error 31 = .ok (.aload_n 0, 1) := by decide +kernel
theorem dX3_error_32 : decode cX3_error 32 = .ok (.aload_n 0, 1) := by decide +kernel
theorem dX3_error_33 : decode cX3_error 33 = .ok (.getfield 36, 3) := by decide +kernel
theorem dX3_error_36 : decode cX3_error 36 = .ok (.iload_n 3, 1) := by decide +kernel
theorem dX3_error_37 : decode cX3_error 37 = .ok (.laload, 1) := by decide +kernel
theorem dX3_error_38 : decode cX3_error 38 = .ok (.iconst 1, 1) := by decide +kernel
theorem dX3_error_39 : decode cX3_error 39 = .ok (.invokevirtual 102, 3) := by decide +kernel
theorem dX3_error_42 : decode cX3_error 42 = .ok (.l2d, 1) := by decide +kernel
theorem dX3_error_43 : decode cX3_error 43 = .ok (.ddiv, 1) := by decide +kernel
theorem dX3_error_44 : decode cX3_error 44 = .ok (.dstore 4, 2) := by decide +kernel
theorem dX3_error_46 : decode cX3_error 46 = .ok (.aload_n 0, 1) := by decide +kernel
theorem dX3_error_47 : decode cX3_error 47 = .ok (.getfield 13, 3) := by decide +kernel
theorem dX3_error_50 : decode cX3_error 50 = .ok (.iload_n 3, 1) := by decide +kernel
theorem dX3_error_51 : decode cX3_error 51 = .ok (.daload, 1) := by decide +kernel
theorem dX3_error_52 : decode cX3_error 52 = .ok (.dload 4, 2) := by decide +kernel
theorem dX3_error_54 : decode cX3_error 54 = .ok (.dcmp .g, 1) := by decide +kernel
theorem dX3_error_55 : decode cX3_error 55 = .ok (.ifCond .ge 15, 3) := by decide +kernel
theorem dX3_error_58 : decode cX3_error 58 = .ok (.dload 4, 2) := by decide +kernel
theorem dX3_error_60 : decode cX3_error 60 = .ok (.aload_n 0, 1) := by decide +kernel
theorem dX3_error_61 : decode cX3_error 61 = .ok (.getfield 13, 3) := by decide +kernel
theorem dX3_error_64 : decode cX3_error 64 = .ok (.iload_n 3, 1) := by decide +kernel
theorem dX3_error_65 : decode cX3_error 65 = .ok (.daload, 1) := by decide +kernel
theorem dX3_error_66 : decode cX3_error 66 = .ok (.dsub, 1) := by decide +kernel
theorem dX3_error_67 : decode cX3_error 67 = .ok (.goto 12, 3) := by decide +kernel
theorem dX3_error_70 : decode cX3_error 70 = .ok (.aload_n 0, 1) := by decide +kernel
theorem dX3_error_71 : decode cX3_error 71 = .ok (.getfield 13, 3) := by decide +kernel
theorem dX3_error_74 : decode cX3_error 74 = .ok (.iload_n 3, 1) := by decide +kernel
theorem dX3_error_75 : decode cX3_error 75 = .ok (.daload, 1) := by decide +kernel
theorem dX3_error_76 : decode cX3_error 76 = .ok (.dload 4, 2) := by decide +kernel
theorem dX3_error_78 : decode cX3_error 78 = .ok (.dsub, 1) := by decide +kernel
theorem dX3_error_79 : decode cX3_error 79 = .ok (.dstore 6, 2) := by decide +kernel
theorem dX3_error_81 : decode cX3_error 81 = .ok (.dload 6, 2) := by decide +kernel
theorem dX3_error_83 : decode cX3_error 83 = .ok (.dload_n 1, 1) := by decide +kernel
theorem dX3_error_84 : decode cX3_error 84 = .ok (.dcmp .l, 1) := by decide +kernel
theorem dX3_error_85 : decode cX3_error 85 = .ok (.ifCond .le 8, 3) := by decide +kernel
theorem dX3_error_88 : decode cX3_error 88 = .ok (.dload 6, 2) := by decide +kernel
theorem dX3_error_90 : decode cX3_error 90 = .ok (.goto 4, 3) := by decide +kernel
theorem dX3_error_93 : decode cX3_error 93 = .ok (.dload_n 1, 1) := by decide +kernel
theorem dX3_error_94 : decode cX3_error 94 = .ok (.dstore_n 1, 1) := by decide +kernel
theorem dX3_error_95 : decode cX3_error 95 = .ok (.iinc 3 1, 3) := by decide +kernel
theorem dX3_error_98 : decode cX3_error 98 = .ok (.goto (-85), 3) := by decide +kernel
theorem dX3_error_101 : decode cX3_error 101 = .ok (.dload_n 1, 1) := by decide +kernel
theorem dX3_error_102 : decode cX3_error 102 = .ok (.dreturn, 1) := by decide +kernel
theorem dX3_undo_0 : decode cX3_undo 0 = .ok (.aload_n 0, 1) := by decide +kernel
theorem dX3_undo_1 : decode cX3_undo 1 = .ok (.aload_n 0, 1) := by decide +kernel
theorem dX3_undo_2 : decode cX3_undo 2 = .ok (.getfield 53, 3) := by decide +kernel
theorem dX3_undo_5 : decode cX3_undo 5 = .ok (.ifCond .ne 7, 3) := by decide +kernel
theorem dX3_undo_8 : decode cX3_undo 8 = .ok (.iconst 1, 1) := by decide +kernel
theorem dX3_undo_9 : decode cX3_undo 9 = .ok (.goto 4, 3) := by decide +kernel
theorem dX3_undo_12 : decode cX3_undo 12 = .ok (.iconst 0, 1) := by decide +kernel
theorem dX3_undo_13 : decode cX3_undo 13 = .ok (.putfield 45, 3) := by decide +kernel
theorem dX3_undo_16 : decode cX3_undo 16 = .ok (.aload_n 0, 1) := by decide +kernel
theorem dX3_undo_17 : decode cX3_undo 17 = .ok (.getfield 45, 3) := by decide +kernel
theorem dX3_undo_20 : decode cX3_undo 20 = .ok (.ifCond .eq 5, 3) := by decide +kernel
theorem dX3_undo_23 : decode cX3_undo 23 = .ok (.iconst 0, 1) := by decide +kernel
theorem dX3_undo_24 : decode cX3_undo 24 = .ok (.ireturn, 1) := by decide +kernel
theorem dX3_undo_25 : decode cX3_undo 25 = .ok (.aload_n 0, 1) := by decide +kernel
theorem dX3_undo_26 : decode cX3_undo 26 = .ok (.dup, 1) := by decide +kernel
theorem dX3_undo_27 : decode cX3_undo 27 = .ok (.getfield 53, 3) := by decide +kernel
theorem dX3_undo_30 : decode cX3_undo 30 = .ok (.iconst 1, 1) := by decide +kernel
theorem dX3_undo_31 : decode cX3_undo 31 = .ok (.isub, 1) := by decide +kernel
theorem dX3_undo_32 : decode cX3_undo 32 = .ok (.putfield 53, 3) := by decide +kernel
theorem dX3_undo_35 : decode cX3_undo 35 = .ok (.iconst 0, 1) := by decide +kernel
theorem dX3_undo_36 : decode cX3_undo 36 = .ok (.istore_n 1, 1) := by decide +kernel
theorem dX3_undo_37 : decode cX3_undo 37 = .ok (.iload_n 1, 1) := by decide +kernel
theorem dX3_undo_38 : decode cX3_undo 38 = .ok (.bipush 72, 2) := by decide +kernel
theorem dX3_undo_40 : decode cX3_undo 40 = .ok (.if_icmp .ge 29, 3) := by decide +kernel
theorem dX3_undo_43 : decode cX3_undo 43 = .ok (.aload_n 0, 1) := by decide +kernel
theorem dX3_undo_44 : decode cX3_undo 44 = .ok (.getfield 7, 3) := by decide +kernel
theorem dX3_undo_47 : decode cX3_undo 47 = .ok (.iload_n 1, 1) := by decide +kernel
theorem dX3_undo_48 : decode cX3_undo 48 = .ok (.aload_n 0, 1) := by decide +kernel
theorem dX3_undo_49 : decode cX3_undo 49 = .ok (.getfield 17, 3) := by decide +kernel
theorem dX3_undo_52 : decode cX3_undo 52 = .ok (.bipush 72, 2) := by decide +kernel
theorem dX3_undo_54 : decode cX3_undo 54 = .ok (.aload_n 0, 1) := by decide +kernel
theorem dX3_undo_55 : decode cX3_undo 55 = .ok (.getfield 53, 3) := by decide +kernel
theorem dX3_undo_58 : decode cX3_undo 58 = .ok (.imul, 1) := by decide +kernel
theorem dX3_undo_59 : decode cX3_undo 59 = .ok (.iload_n 1, 1) := by decide +kernel
theorem dX3_undo_60 : decode cX3_undo 60 = .ok (.iadd, 1) := by decide +kernel
theorem dX3_undo_61 : decode cX3_undo 61 = .ok (.iaload, 1) := by decide +kernel
theorem dX3_undo_62 : decode cX3_undo 62 = .ok (.iastore, 1) := by decide +kernel
theorem dX3_undo_63 : decode cX3_undo 63 = .ok (.iinc 1 1, 3) := by decide +kernel
theorem dX3_undo_66 : decode cX3_undo 66 = .ok (.goto (-29), 3) := by decide +kernel
theorem dX3_undo_69 : decode cX3_undo 69 = .ok (.iconst 0, 1) := by decide +kernel
theorem dX3_undo_70 : decode cX3_undo 70 = .ok (.istore_n 1, 1) := by decide +kernel
theorem dX3_undo_71 : decode cX3_undo 71 = .ok (.iload_n 1, 1) := by decide +kernel
theorem dX3_undo_72 : decode cX3_undo 72 = .ok (.bipush 9, 2) := by decide +kernel
theorem dX3_undo_74 : decode cX3_undo 74 = .ok (.if_icmp .ge 29, 3) := by decide +kernel
theorem dX3_undo_77 : decode cX3_undo 77 = .ok (.aload_n 0, 1) := by decide +kernel
theorem dX3_undo_78 : decode cX3_undo 78 = .ok (.getfield 13, 3) := by decide +kernel
theorem dX3_undo_81 : decode cX3_undo 81 = .ok (.iload_n 1, 1) := by decide +kernel
theorem dX3_undo_82 : decode cX3_undo 82 = .ok (.aload_n 0, 1) := by decide +kernel
theorem dX3_undo_83 : decode cX3_undo 83 = .ok (.getfield 20, 3) := by decide +kernel
theorem dX3_undo_86 : decode cX3_undo 86 = .ok (.bipush 9, 2) := by decide +kernel
theorem dX3_undo_88 : decode cX3_undo 88 = .ok (.aload_n 0, 1) := by decide +kernel
theorem dX3_undo_89 : decode cX3_undo 89 = .ok (.getfield 53, 3) := by decide +kernel
theorem dX3_undo_92 : decode cX3_undo 92 = .ok (.imul, 1) := by decide +kernel
theorem dX3_undo_93 : decode cX3_undo 93 = .ok (.iload_n 1, 1) := by decide +kernel
theorem dX3_undo_94 : decode cX3_undo 94 = .ok (.iadd, 1) := by decide +kernel
theorem dX3_undo_95 : decode cX3_undo 95 = .ok (.daload, 1) := by decide +kernel
theorem dX3_undo_96 : decode cX3_undo 96 = .ok (.dastore, 1) := by decide +kernel
theorem dX3_undo_97 : decode cX3_undo 97 = .ok (.iinc 1 1, 3) := by decide +kernel
theorem dX3_undo_100 : decode cX3_undo 100 = .ok (.goto (-29), 3) := by decide +kernel
theorem dX3_undo_103 : decode cX3_undo 103 = .ok (.aload_n 0, 1) := by decide +kernel
theorem dX3_undo_104 : decode cX3_undo 104 = .ok (.getfield 53, 3) := by decide +kernel
theorem dX3_undo_107 : decode cX3_undo 107 = .ok (.ireturn, 1) := by decide +kernel
theorem dX3_bitsOf_0 : decode cX3_bitsOf 0 = .ok (.dload_n 0, 1) := by decide +kernel
theorem dX3_bitsOf_1 : decode cX3_bitsOf 1 = .ok (.dconst 0, 1) := by decide +kernel
theorem dX3_bitsOf_2 : decode cX3_bitsOf 2 = .ok (.dcmp .g, 1) := by decide +kernel
theorem dX3_bitsOf_3 : decode cX3_bitsOf 3 = .ok (.ifCond .lt 17, 3) := by decide +kernel
theorem dX3_bitsOf_6 : decode cX3_bitsOf 6 = .ok (.dload_n 0, 1) := by decide +kernel
theorem dX3_bitsOf_7 : decode cX3_bitsOf 7 = .ok (.dconst 0, 1) := by decide +kernel
theorem dX3_bitsOf_8 : decode cX3_bitsOf 8 = .ok (.dcmp .l, 1) := by decide +kernel
theorem dX3_bitsOf_9 : decode cX3_bitsOf 9 = .ok (.ifCond .ne 17, 3) := by decide +kernel
theorem dX3_bitsOf_12 : decode cX3_bitsOf 12 = .ok (.dconst 1, 1) := by decide +kernel
theorem dX3_bitsOf_13 : decode cX3_bitsOf 13 = .ok (.dload_n 0, 1) := by decide +kernel
theorem dX3_bitsOf_14 : decode cX3_bitsOf 14 = .ok (.ddiv, 1) := by decide +kernel
theorem dX3_bitsOf_15 : decode cX3_bitsOf 15 = .ok (.dconst 0, 1) := by decide +kernel
theorem dX3_bitsOf_16 : decode cX3_bitsOf 16 = .ok (.dcmp .g, 1) := by decide +kernel
theorem dX3_bitsOf_17 : decode cX3_bitsOf 17 = .ok (.ifCond .ge 9, 3) := by decide +kernel
theorem dX3_bitsOf_20 : decode cX3_bitsOf 20 = .ok (.ldc2_w 151, 3) := by decide +kernel
theorem dX3_bitsOf_23 : decode cX3_bitsOf 23 = .ok (.goto 4, 3) := by decide +kernel
theorem dX3_bitsOf_26 : decode cX3_bitsOf 26 = .ok (.lconst 0, 1) := by decide +kernel
theorem dX3_bitsOf_27 : decode cX3_bitsOf 27 = .ok (.lstore_n 2, 1) := by decide +kernel
theorem dX3_bitsOf_28 : decode cX3_bitsOf 28 = .ok (.dload_n 0, 1) := by decide +kernel
theorem dX3_bitsOf_29 : decode cX3_bitsOf 29 = .ok (.dconst 0, 1) := by decide +kernel
theorem dX3_bitsOf_30 : decode cX3_bitsOf 30 = .ok (.dcmp .g, 1) := by decide +kernel
theorem dX3_bitsOf_31 : decode cX3_bitsOf 31 = .ok (.ifCond .ge 8, 3) := by decide +kernel
theorem dX3_bitsOf_34 : decode cX3_bitsOf 34 = .ok (.dload_n 0, 1) := by decide +kernel
theorem dX3_bitsOf_35 : decode cX3_bitsOf 35 = .ok (.dneg, 1) := by decide +kernel
theorem dX3_bitsOf_36 : decode cX3_bitsOf 36 = .ok (.goto 4, 3) := by decide +kernel
theorem dX3_bitsOf_39 : decode cX3_bitsOf 39 = .ok (.dload_n 0, 1) := by decide +kernel
theorem dX3_bitsOf_40 : decode cX3_bitsOf 40 = .ok (.dstore 4, 2) := by decide +kernel
theorem dX3_bitsOf_42 : decode cX3_bitsOf 42 = .ok (.dload 4, 2) := by decide +kernel
theorem dX3_bitsOf_44 : decode cX3_bitsOf 44 = .ok (.ldc2_w 153, 3) := by decide +kernel
theorem dX3_bitsOf_47 : decode cX3_bitsOf 47 = .ok (.dcmp .g, 1) := by decide +kernel
theorem dX3_bitsOf_48 : decode cX3_bitsOf 48 = .ok (.ifCond .ge 34, 3) := by decide +kernel
theorem dX3_bitsOf_51 : decode cX3_bitsOf 51 = .ok (.iconst 0, 1) := by decide +kernel
theorem dX3_bitsOf_52 : decode cX3_bitsOf 52 = .ok (.istore 6, 2) := by decide +kernel
theorem dX3_bitsOf_54 : decode cX3_bitsOf 54 = .ok (.iload 6, 2) := by decide +kernel
theorem dX3_bitsOf_56 : decode cX3_bitsOf 56 = .ok (.sipush 1074, 3) := by decide +kernel
theorem dX3_bitsOf_59 : decode cX3_bitsOf 59 = .ok (.if_icmp .ge 17, 3) := by decide +kernel
theorem dX3_bitsOf_62 : decode cX3_bitsOf 62 = .ok (.dload 4, 2) := by decide +kernel
theorem dX3_bitsOf_64 : decode cX3_bitsOf 64 = .ok (.ldc2_w 155, 3) := by decide +kernel
theorem dX3_bitsOf_67 : decode cX3_bitsOf 67 = .ok (.dmul, 1) := by decide +kernel
theorem dX3_bitsOf_68 : decode cX3_bitsOf 68 = .ok (.dstore 4, 2) := by decide +kernel
theorem dX3_bitsOf_70 : decode cX3_bitsOf 70 = .ok (.iinc 6 1, 3) := by decide +kernel
theorem dX3_bitsOf_73 : decode cX3_bitsOf 73 = .ok (.goto (-19), 3) := by decide +kernel
theorem dX3_bitsOf_76 : decode cX3_bitsOf 76 = .ok (.lload_n 2, 1) := by decide +kernel
theorem dX3_bitsOf_77 : decode cX3_bitsOf 77 = .ok (.dload 4, 2) := by decide +kernel
theorem dX3_bitsOf_79 : decode cX3_bitsOf 79 = .ok (.d2l, 1) := by decide +kernel
theorem dX3_bitsOf_80 : decode cX3_bitsOf 80 = .ok (.lor, 1) := by decide +kernel
theorem dX3_bitsOf_81 : decode cX3_bitsOf 81 = .ok (.lreturn, 1) := by decide +kernel
theorem dX3_bitsOf_82 : decode cX3_bitsOf 82 = .ok (.ldc2_w 157, 3) := by decide +kernel
theorem dX3_bitsOf_85 : decode cX3_bitsOf 85 = .ok (.lstore 6, 2) := by decide +kernel
theorem dX3_bitsOf_87 : decode cX3_bitsOf 87 = .ok (.dload 4, 2) := by decide +kernel
theorem dX3_bitsOf_89 : decode cX3_bitsOf 89 = .ok (.ldc2_w 155, 3) := by decide +kernel
theorem dX3_bitsOf_92 : decode cX3_bitsOf 92 = .ok (.dcmp .l, 1) := by decide +kernel
theorem dX3_bitsOf_93 : decode cX3_bitsOf 93 = .ok (.ifCond .lt 20, 3) := by decide +kernel
theorem dX3_bitsOf_96 : decode cX3_bitsOf 96 = .ok (.dload 4, 2) := by decide +kernel
theorem dX3_bitsOf_98 : decode cX3_bitsOf 98 = .ok (.ldc2_w 155, 3) := by decide +kernel
theorem dX3_bitsOf_101 : decode cX3_bitsOf 101 = .ok (.ddiv, 1) := by decide +kernel
theorem dX3_bitsOf_102 : decode cX3_bitsOf 102 = .ok (.dstore 4, 2) := by decide +kernel
theorem dX3_bitsOf_104 : decode cX3_bitsOf 104 = .ok (.lload 6, 2) := by decide +kernel
theorem dX3_bitsOf_106 : decode cX3_bitsOf 106 = .ok (.lconst 1, 1) := by decide +kernel
theorem dX3_bitsOf_107 : decode cX3_bitsOf 107 = .ok (.ladd, 1) := by decide +kernel
theorem dX3_bitsOf_108 : decode cX3_bitsOf 108 = .ok (.lstore 6, 2) := by decide +kernel
theorem dX3_bitsOf_110 : decode cX3_bitsOf 110 = .ok (.goto (-23), 3) := by decide +kernel
theorem dX3_bitsOf_113 : decode cX3_bitsOf 113 = .ok (.dload 4, 2) := by decide +kernel
theorem dX3_bitsOf_115 : decode cX3_bitsOf 115 = .ok (.dconst 1, 1) := by decide +kernel
theorem dX3_bitsOf_116 : decode cX3_bitsOf 116 = .ok (.dcmp .g, 1) := by decide +kernel
theorem dX3_bitsOf_117 : decode cX3_bitsOf 117 = .ok (.ifCond .ge 20, 3) := by decide +kernel
theorem dX3_bitsOf_120 : decode cX3_bitsOf 120 = .ok (.dload 4, 2) := by decide +kernel
theorem dX3_bitsOf_122 : decode cX3_bitsOf 122 = .ok (.ldc2_w 155, 3) := by decide +kernel
theorem dX3_bitsOf_125 : decode cX3_bitsOf 125 = .ok (.dmul, 1) := by decide +kernel
theorem dX3_bitsOf_126 : decode cX3_bitsOf 126 = .ok (.dstore 4, 2) := by decide +kernel
theorem dX3_bitsOf_128 : decode cX3_bitsOf 128 = .ok (.lload 6, 2) := by decide +kernel
theorem dX3_bitsOf_130 : decode cX3_bitsOf 130 = .ok (.lconst 1, 1) := by decide +kernel
theorem dX3_bitsOf_131 : decode cX3_bitsOf 131 = .ok (.lsub, 1) := by decide +kernel
theorem dX3_bitsOf_132 : decode cX3_bitsOf 132 = .ok (.lstore 6, 2) := by decide +kernel
theorem dX3_bitsOf_134 : decode cX3_bitsOf 134 = .ok (.goto (-21), 3) := by decide +kernel
theorem dX3_bitsOf_137 : decode cX3_bitsOf 137 = .ok (.lload_n 2, 1) := by decide +kernel
theorem dX3_bitsOf_138 : decode cX3_bitsOf 138 = .ok (.lload 6, 2) := by decide +kernel
theorem dX3_bitsOf_140 : decode cX3_bitsOf 140 = .ok (.bipush 52, 2) := by decide +kernel
theorem dX3_bitsOf_142 : decode cX3_bitsOf 142 = .ok (.lshl, 1) := by decide +kernel
theorem dX3_bitsOf_143 : decode cX3_bitsOf 143 = .ok (.lor, 1) := by decide +kernel
theorem dX3_bitsOf_144 : decode cX3_bitsOf 144 = .ok (.dload 4, 2) := by decide +kernel
theorem dX3_bitsOf_146 : decode cX3_bitsOf 146 = .ok (.dconst 1, 1) := by decide +kernel
theorem dX3_bitsOf_147 : decode cX3_bitsOf 147 = .ok (.dsub, 1) := by decide +kernel
theorem dX3_bitsOf_148 : decode cX3_bitsOf 148 = .ok (.ldc2_w 159, 3) := by decide +kernel
theorem dX3_bitsOf_151 : decode cX3_bitsOf 151 = .ok (.dmul, 1) := by decide +kernel
theorem dX3_bitsOf_152 : decode cX3_bitsOf 152 = .ok (.d2l, 1) := by decide +kernel
theorem dX3_bitsOf_153 : decode cX3_bitsOf 153 = .ok (.lor, 1) := by decide +kernel
theorem dX3_bitsOf_154 : decode cX3_bitsOf 154 = .ok (.lreturn, 1) := by decide +kernel
theorem dX3_mix_0 : decode cX3_mix 0 = .ok (.aload_n 0, 1) := by decide +kernel
theorem dX3_mix_1 : decode cX3_mix 1 = .ok (.ldc2_w 161, 3) := by decide +kernel
theorem dX3_mix_4 : decode cX3_mix 4 = .ok (.aload_n 0, 1) := by decide +kernel
theorem dX3_mix_5 : decode cX3_mix 5 = .ok (.getfield 163, 3) := by decide +kernel
theorem dX3_mix_8 : decode cX3_mix 8 = .ok (.lmul, 1) := by decide +kernel
theorem dX3_mix_9 : decode cX3_mix 9 = .ok (.lload_n 1, 1) := by decide +kernel
theorem dX3_mix_10 : decode cX3_mix 10 = .ok (.ladd, 1) := by decide +kernel
theorem dX3_mix_11 : decode cX3_mix 11 = .ok (.putfield 163, 3) := by decide +kernel
theorem dX3_mix_14 : decode cX3_mix 14 = .ok (.return_, 1) := by decide +kernel
set_option maxRecDepth 20000 in
theorem ggX3_digest_X3_mix : GoodIn wsX3_digest wsX3_mix := goodIn_r _ [12, 13, 3, 64, 65, 66, 67, 68, 69, 70, 71, 72, 73, 74, 75, 76, 77, 78] (by decide +kernel) (by decide +kernel)
set_option maxRecDepth 20000 in
theorem gX3_digest_X3_mix : GoodIn wsX3_digest (wsV RX3 168 RX3 yX3_mix wsX3_mix) := goodIn_app (goodIn_of _ (by decide +kernel)) ggX3_digest_X3_mix
set_option maxRecDepth 20000 in
theorem ggX3_digest_X3_bitsOf : GoodIn wsX3_digest wsX3_bitsOf := goodIn_r _ [16, 17, 18, 19, 20, 21] (by decide +kernel) (by decide +kernel)
set_option maxRecDepth 20000 in
theorem gX3_digest_X3_bitsOf : GoodIn wsX3_digest (va_wsS RX3 172 yX3_bitsOf wsX3_bitsOf) := goodIn_app (goodIn_of _ (by decide +kernel)) ggX3_digest_X3_bitsOf
set_option maxRecDepth 20000 in
theorem ggX3_digest_X3_determinantNow : GoodIn wsX3_digest wsX3_determinantNow := goodIn_ca (goodIn_r _ [25, 26, 27, 28, 11, 29, 30, 31, 4, 32, 33, 34, 35, 36, 37, 38, 39, 40, 41, 42, 43, 44, 45, 46, 64, 65, 66, 67, 68, 69, 70, 71, 72, 73, 74, 75, 76, 77, 78] (by decide +kernel) (by decide +kernel)) (goodIn_sub (fun _ h => List.mem_cons_of_mem _ (List.mem_append_left _ (List.mem_append_right _ h))) (by decide +kernel))
set_option maxRecDepth 20000 in
theorem gX3_digest_X3_determinantNow : GoodIn wsX3_digest (wsV RX3 119 RX3 yX3_determinantNow wsX3_determinantNow) := goodIn_app (goodIn_of _ (by decide +kernel)) ggX3_digest_X3_determinantNow
set_option maxRecDepth 20000 in
theorem ggX3_digest_X3_solves : GoodIn wsX3_digest wsX3_solves := goodIn_ca (goodIn_r _ [50, 51, 52, 6, 31, 53, 54, 55, 11, 56, 39, 40, 41, 32, 33, 34, 35, 4, 36, 37, 38, 26, 27, 28, 29, 30, 42, 43, 44, 45, 46, 64, 65, 66, 67, 68, 69, 70, 71, 72, 73, 74, 75, 76, 77, 78] (by decide +kernel) (by decide +kernel)) (goodIn_sub (fun _ h => List.mem_cons_of_mem _ (List.mem_append_left _ (List.mem_append_right _ h))) (by decide +kernel))
set_option maxRecDepth 20000 in
theorem gX3_digest_X3_solves : GoodIn wsX3_digest (wsV RX3 95 RX3 yX3_solves wsX3_solves) := goodIn_app (goodIn_of _ (by decide +kernel)) ggX3_digest_X3_solves
set_option maxRecDepth 20000 in
theorem ggX3_digest_X3_partOf : GoodIn wsX3_digest wsX3_partOf := goodIn_ca (goodIn_r _ [60, 51, 61, 62, 11, 63, 64, 65, 66, 67, 68, 69, 70, 71, 72, 73, 74, 75, 76, 77, 78] (by decide +kernel) (by decide +kernel)) (goodIn_sub (fun _ h => List.mem_cons_of_mem _ (List.mem_append_right _ h)) (by decide +kernel))
set_option maxRecDepth 20000 in
theorem gX3_digest_X3_partOf : GoodIn wsX3_digest (wsV RX3 102 RX3 yX3_partOf wsX3_partOf) := goodIn_app (goodIn_of _ (by decide +kernel)) ggX3_digest_X3_partOf
theorem dX3_digest_0 : decode cX3_digest 0 = .ok (.aload_n 0, 1) := by decide +kernel
theorem dX3_digest_1 : decode cX3_digest 1 = .ok (.iconst 0, 1) := by decide +kernel
theorem dX3_digest_2 : decode cX3_digest 2 = .ok (.putfield 45, 3) := by decide +kernel
theorem dX3_digest_5 : decode cX3_digest 5 = .ok (.aload_n 0, 1) := by decide +kernel
theorem dX3_digest_6 : decode cX3_digest 6 = .ok (.ldc2_w 166, 3) := by decide +kernel
theorem dX3_digest_9 : decode cX3_digest 9 = .ok (.putfield 163, 3) := by decide +kernel
theorem dX3_digest_12 : decode cX3_digest 12 = .ok (.iconst 0, 1) := by decide +kernel
theorem dX3_digest_13 : decode cX3_digest 13 = .ok (.istore_n 1, 1) := by decide +kernel
theorem dX3_digest_14 : decode cX3_digest 14 = .ok (.iload_n 1, 1) := by decide +kernel
theorem dX3_digest_15 : decode cX3_digest 15 = .ok (.bipush 36, 2) := by decide +kernel
theorem dX3_digest_17 : decode cX3_digest 17 = .ok (.if_icmp .ge 20, 3) := by decide +kernel
theorem dX3_digest_20 : decode cX3_digest 20 = .ok (.aload_n 0, 1) := by decide +kernel
theorem dX3_digest_21 : decode cX3_digest 21 = .ok (.aload_n 0, 1) := by decide +kernel
theorem dX3_digest_22 : decode cX3_digest 22 = .ok (.getfield 7, 3) := by decide +kernel
theorem dX3_digest_25 : decode cX3_digest 25 = .ok (.iload_n 1, 1) := by decide +kernel
theorem dX3_digest_26 : decode cX3_digest 26 = .ok (.iaload, 1) := by decide +kernel
theorem dX3_digest_27 : decode cX3_digest 27 = .ok (.i2l, 1) := by decide +kernel
theorem dX3_digest_28 : decode cX3_digest 28 = .ok (.invokevirtual 168, 3) := by decide +kernel
theorem dX3_digest_31 : decode cX3_digest 31 = .ok (.iinc 1 1, 3) := by decide +kernel
theorem dX3_digest_34 : decode cX3_digest 34 = .ok (.goto (-20), 3) := by decide +kernel
theorem dX3_digest_37 : decode cX3_digest 37 = .ok (.iconst 0, 1) := by decide +kernel
theorem dX3_digest_38 : decode cX3_digest 38 = .ok (.istore_n 1, 1) := by decide +kernel
theorem dX3_digest_39 : decode cX3_digest 39 = .ok (.iload_n 1, 1) := by decide +kernel
theorem dX3_digest_40 : decode cX3_digest 40 = .ok (.bipush 9, 2) := by decide +kernel
theorem dX3_digest_42 : decode cX3_digest 42 = .ok (.if_icmp .ge 78, 3) := by decide +kernel
theorem dX3_digest_45 : decode cX3_digest 45 = .ok (.aload_n 0, 1) := by decide +kernel
theorem dX3_digest_46 : decode cX3_digest 46 = .ok (.aload_n 0, 1) := by decide +kernel
theorem dX3_digest_47 : decode cX3_digest 47 = .ok (.getfield 7, 3) := by decide +kernel
theorem dX3_digest_50 : decode cX3_digest 50 = .ok (.bipush 36, 2) := by decide +kernel
theorem dX3_digest_52 : decode cX3_digest 52 = .ok (.iload_n 1, 1) := by decide +kernel
theorem dX3_digest_53 : decode cX3_digest 53 = .ok (.iadd, 1) := by decide +kernel
theorem dX3_digest_54 : decode cX3_digest 54 = .ok (.iaload, 1) := by decide +kernel
theorem dX3_digest_55 : decode cX3_digest 55 = .ok (.i2l, 1) := by decide +kernel
theorem dX3_digest_56 : decode cX3_digest 56 = .ok (.invokevirtual 168, 3) := by decide +kernel
theorem dX3_digest_59 : decode cX3_digest 59 = .ok (.aload_n 0, 1) := by decide +kernel
theorem dX3_digest_60 : decode cX3_digest 60 = .ok (.aload_n 0, 1) := by decide +kernel
theorem dX3_digest_61 : decode cX3_digest 61 = .ok (.getfield 7, 3) := by decide +kernel
theorem dX3_digest_64 : decode cX3_digest 64 = .ok (.bipush 45, 2) := by decide +kernel
theorem dX3_digest_66 : decode cX3_digest 66 = .ok (.iload_n 1, 1) := by decide +kernel
theorem dX3_digest_67 : decode cX3_digest 67 = .ok (.iadd, 1) := by decide +kernel
theorem dX3_digest_68 : decode cX3_digest 68 = .ok (.iaload, 1) := by decide +kernel
theorem dX3_digest_69 : decode cX3_digest 69 = .ok (.i2l, 1) := by decide +kernel
theorem dX3_digest_70 : decode cX3_digest 70 = .ok (.invokevirtual 168, 3) := by decide +kernel
theorem dX3_digest_73 : decode cX3_digest 73 = .ok (.aload_n 0, 1) := by decide +kernel
theorem dX3_digest_74 : decode cX3_digest 74 = .ok (.aload_n 0, 1) := by decide +kernel
theorem dX3_digest_75 : decode cX3_digest 75 = .ok (.getfield 7, 3) := by decide +kernel
theorem dX3_digest_78 : decode cX3_digest 78 = .ok (.bipush 54, 2) := by decide +kernel
theorem dX3_digest_80 : decode cX3_digest 80 = .ok (.iload_n 1, 1) := by decide +kernel
theorem dX3_digest_81 : decode cX3_digest 81 = .ok (.iadd, 1) := by decide +kernel
theorem dX3_digest_82 : decode cX3_digest 82 = .ok (.iaload, 1) := by decide +kernel
theorem dX3_digest_83 : decode cX3_digest 83 = .ok (.i2l, 1) := by decide +kernel
theorem dX3_digest_84 : decode cX3_digest 84 = .ok (.invokevirtual 168, 3) := by decide +kernel
theorem dX3_digest_87 : decode cX3_digest 87 = .ok (.aload_n 0, 1) := by decide +kernel
theorem dX3_digest_88 : decode cX3_digest 88 = .ok (.aload_n 0, 1) := by decide +kernel
theorem dX3_digest_89 : decode cX3_digest 89 = .ok (.getfield 7, 3) := by decide +kernel
theorem dX3_digest_92 : decode cX3_digest 92 = .ok (.bipush 63, 2) := by decide +kernel
theorem dX3_digest_94 : decode cX3_digest 94 = .ok (.iload_n 1, 1) := by decide +kernel
theorem dX3_digest_95 : decode cX3_digest 95 = .ok (.iadd, 1) := by decide +kernel
theorem dX3_digest_96 : decode cX3_digest 96 = .ok (.iaload, 1) := by decide +kernel
theorem dX3_digest_97 : decode cX3_digest 97 = .ok (.i2l, 1) := by decide +kernel
theorem dX3_digest_98 : decode cX3_digest 98 = .ok (.invokevirtual 168, 3) := by decide +kernel
theorem dX3_digest_101 : decode cX3_digest 101 = .ok (.aload_n 0, 1) := by decide +kernel
theorem dX3_digest_102 : decode cX3_digest 102 = .ok (.aload_n 0, 1) := by decide +kernel
theorem dX3_digest_103 : decode cX3_digest 103 = .ok (.getfield 13, 3) := by decide +kernel
theorem dX3_digest_106 : decode cX3_digest 106 = .ok (.iload_n 1, 1) := by decide +kernel
theorem dX3_digest_107 : decode cX3_digest 107 = .ok (.daload, 1) := by decide +kernel
theorem dX3_digest_108 : decode cX3_digest 108 = .ok (.invokestatic 172, 3) := by decide +kernel
theorem dX3_digest_111 : decode cX3_digest 111 = .ok (.invokevirtual 168, 3) := by decide +kernel
theorem dX3_digest_114 : decode cX3_digest 114 = .ok (.iinc 1 1, 3) := by decide +kernel
theorem dX3_digest_117 : decode cX3_digest 117 = .ok (.goto (-78), 3) := by decide +kernel
theorem dX3_digest_120 : decode cX3_digest 120 = .ok (.aload_n 0, 1) := by decide +kernel
theorem dX3_digest_121 : decode cX3_digest 121 = .ok (.aload_n 0, 1) := by decide +kernel
theorem dX3_digest_122 : decode cX3_digest 122 = .ok (.invokevirtual 119, 3) := by decide +kernel
theorem dX3_digest_125 : decode cX3_digest 125 = .ok (.invokevirtual 168, 3) := by decide +kernel
theorem dX3_digest_128 : decode cX3_digest 128 = .ok (.aload_n 0, 1) := by decide +kernel
theorem dX3_digest_129 : decode cX3_digest 129 = .ok (.invokevirtual 95, 3) := by decide +kernel
theorem dX3_digest_132 : decode cX3_digest 132 = .ok (.istore_n 1, 1) := by decide +kernel
theorem dX3_digest_133 : decode cX3_digest 133 = .ok (.iconst 0, 1) := by decide +kernel
theorem dX3_digest_134 : decode cX3_digest 134 = .ok (.istore_n 2, 1) := by decide +kernel
theorem dX3_digest_135 : decode cX3_digest 135 = .ok (.iload_n 2, 1) := by decide +kernel
theorem dX3_digest_136 : decode cX3_digest 136 = .ok (.bipush 9, 2) := by decide +kernel
theorem dX3_digest_138 : decode cX3_digest 138 = .ok (.if_icmp .ge 43, 3) := by decide +kernel
theorem dX3_digest_141 : decode cX3_digest 141 = .ok (.iload_n 1, 1) := by decide +kernel
theorem dX3_digest_142 : decode cX3_digest 142 = .ok (.ifCond .eq 39, 3) := by decide +kernel
theorem dX3_digest_145 : decode cX3_digest 145 = .ok (.aload_n 0, 1) := by decide +kernel
theorem dX3_digest_146 : decode cX3_digest 146 = .ok (.aload_n 0, 1) := by decide +kernel
theorem dX3_digest_147 : decode cX3_digest 147 = .ok (.aload_n 0, 1) := by decide +kernel
theorem dX3_digest_148 : decode cX3_digest 148 = .ok (.getfield 36, 3) := by decide +kernel
theorem dX3_digest_151 : decode cX3_digest 151 = .ok (.iload_n 2, 1) := by decide +kernel
theorem dX3_digest_152 : decode cX3_digest 152 = .ok (.laload, 1) := by decide +kernel
theorem dX3_digest_153 : decode cX3_digest 153 = .ok (.iconst 0, 1) := by decide +kernel
theorem dX3_digest_154 : decode cX3_digest 154 = .ok (.invokevirtual 102, 3) := by decide +kernel
theorem dX3_digest_157 : decode cX3_digest 157 = .ok (.invokevirtual 168, 3) := by decide +kernel
theorem dX3_digest_160 : decode cX3_digest 160 = .ok (.aload_n 0, 1) := by decide +kernel
theorem dX3_digest_161 : decode cX3_digest 161 = .ok (.aload_n 0, 1) := by decide +kernel
theorem dX3_digest_162 : decode cX3_digest 162 = .ok (.aload_n 0, 1) := by decide +kernel
theorem dX3_digest_163 : decode cX3_digest 163 = .ok (.getfield 36, 3) := by decide +kernel
theorem dX3_digest_166 : decode cX3_digest 166 = .ok (.iload_n 2, 1) := by decide +kernel
theorem dX3_digest_167 : decode cX3_digest 167 = .ok (.laload, 1) := by decide +kernel
theorem dX3_digest_168 : decode cX3_digest 168 = .ok (.iconst 1, 1) := by decide +kernel
theorem dX3_digest_169 : decode cX3_digest 169 = .ok (.invokevirtual 102, 3) := by decide +kernel
theorem dX3_digest_172 : decode cX3_digest 172 = .ok (.invokevirtual 168, 3) := by decide +kernel
theorem dX3_digest_175 : decode cX3_digest 175 = .ok (.iinc 2 1, 3) := by decide +kernel
theorem dX3_digest_178 : decode cX3_digest 178 = .ok (.goto (-43), 3) := by decide +kernel
theorem dX3_digest_181 : decode cX3_digest 181 = .ok (.aload_n 0, 1) := by decide +kernel
theorem dX3_digest_182 : decode cX3_digest 182 = .ok (.aload_n 0, 1) := by decide +kernel
theorem dX3_digest_183 : decode cX3_digest 183 = .ok (.getfield 53, 3) := by decide +kernel
theorem dX3_digest_186 : decode cX3_digest 186 = .ok (.i2l, 1) := by decide +kernel
theorem dX3_digest_187 : decode cX3_digest 187 = .ok (.invokevirtual 168, 3) := by decide +kernel
theorem dX3_digest_190 : decode cX3_digest 190 = .ok (.aload_n 0, 1) := by decide +kernel
theorem dX3_digest_191 : decode cX3_digest 191 = .ok (.getfield 163, 3) := by decide +kernel
theorem dX3_digest_194 : decode cX3_digest 194 = .ok (.lreturn, 1) := by decide +kernel
theorem dJx00060_init_a7421_0 : decode cJx00060_init_a7421 0 = .ok (.aload_n 0, 1) := by decide +kernel
theorem dJx00060_init_a7421_1 : decode cJx00060_init_a7421 1 = .ok (.aload_n 1, 1) := by decide +kernel
theorem dJx00060_init_a7421_2 : decode cJx00060_init_a7421 2 = .ok (.invokespecial 7, 3) := by decide +kernel
theorem dJx00060_init_a7421_5 : decode cJx00060_init_a7421 5 = .ok (.return_, 1) := by decide +kernel
theorem dJ9_abs_067f4_0 : decode cJ9_abs_067f4 0 = .ok (.lload_n 0, 1) := by decide +kernel
theorem dJ9_abs_067f4_1 : decode cJ9_abs_067f4 1 = .ok (.lconst 0, 1) := by decide +kernel
theorem dJ9_abs_067f4_2 : decode cJ9_abs_067f4 2 = .ok (.lcmp, 1) := by decide +kernel
theorem dJ9_abs_067f4_3 : decode cJ9_abs_067f4 3 = .ok (.ifCond .ge 8, 3) := by decide +kernel
theorem dJ9_abs_067f4_6 : decode cJ9_abs_067f4 6 = .ok (.lload_n 0, 1) := by decide +kernel
theorem dJ9_abs_067f4_7 : decode cJ9_abs_067f4 7 = .ok (.lneg, 1) := by decide +kernel
theorem dJ9_abs_067f4_8 : decode cJ9_abs_067f4 8 = .ok (.goto 4, 3) := by decide +kernel
theorem dJ9_abs_067f4_11 : decode cJ9_abs_067f4 11 = .ok (.lload_n 0, 1) := by decide +kernel
theorem dJ9_abs_067f4_12 : decode cJ9_abs_067f4 12 = .ok (.lreturn, 1) := by decide +kernel
theorem dJ9_max_f86c9_0 : decode cJ9_max_f86c9 0 = .ok (.lload_n 0, 1) := by decide +kernel
theorem dJ9_max_f86c9_1 : decode cJ9_max_f86c9 1 = .ok (.lload_n 2, 1) := by decide +kernel
theorem dJ9_max_f86c9_2 : decode cJ9_max_f86c9 2 = .ok (.lcmp, 1) := by decide +kernel
theorem dJ9_max_f86c9_3 : decode cJ9_max_f86c9 3 = .ok (.ifCond .lt 7, 3) := by decide +kernel
theorem dJ9_max_f86c9_6 : decode cJ9_max_f86c9 6 = .ok (.lload_n 0, 1) := by decide +kernel
theorem dJ9_max_f86c9_7 : decode cJ9_max_f86c9 7 = .ok (.goto 4, 3) := by decide +kernel
theorem dJ9_max_f86c9_10 : decode cJ9_max_f86c9 10 = .ok (.lload_n 2, 1) := by decide +kernel
theorem dJ9_max_f86c9_11 : decode cJ9_max_f86c9 11 = .ok (.lreturn, 1) := by decide +kernel
theorem dJ9_min_f86c9_0 : decode cJ9_min_f86c9 0 = .ok (.lload_n 0, 1) := by decide +kernel
theorem dJ9_min_f86c9_1 : decode cJ9_min_f86c9 1 = .ok (.lload_n 2, 1) := by decide +kernel
theorem dJ9_min_f86c9_2 : decode cJ9_min_f86c9 2 = .ok (.lcmp, 1) := by decide +kernel
theorem dJ9_min_f86c9_3 : decode cJ9_min_f86c9 3 = .ok (.ifCond .gt 7, 3) := by decide +kernel
theorem dJ9_min_f86c9_6 : decode cJ9_min_f86c9 6 = .ok (.lload_n 0, 1) := by decide +kernel
theorem dJ9_min_f86c9_7 : decode cJ9_min_f86c9 7 = .ok (.goto 4, 3) := by decide +kernel
theorem dJ9_min_f86c9_10 : decode cJ9_min_f86c9 10 = .ok (.lload_n 2, 1) := by decide +kernel
theorem dJ9_min_f86c9_11 : decode cJ9_min_f86c9 11 = .ok (.lreturn, 1) := by decide +kernel
theorem dJ7_fill_d0a16_0 : decode cJ7_fill_d0a16 0 = .ok (.iconst 0, 1) := by decide +kernel
theorem dJ7_fill_d0a16_1 : decode cJ7_fill_d0a16 1 = .ok (.istore_n 3, 1) := by decide +kernel
theorem dJ7_fill_d0a16_2 : decode cJ7_fill_d0a16 2 = .ok (.aload_n 0, 1) := by decide +kernel
theorem dJ7_fill_d0a16_3 : decode cJ7_fill_d0a16 3 = .ok (.arraylength, 1) := by decide +kernel
theorem dJ7_fill_d0a16_4 : decode cJ7_fill_d0a16 4 = .ok (.istore 4, 2) := by decide +kernel
theorem dJ7_fill_d0a16_6 : decode cJ7_fill_d0a16 6 = .ok (.iload_n 3, 1) := by decide +kernel
theorem dJ7_fill_d0a16_7 : decode cJ7_fill_d0a16 7 = .ok (.iload 4, 2) := by decide +kernel
