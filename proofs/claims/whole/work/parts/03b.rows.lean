theorem dX2_commonDivisor_15 : decode cX2_commonDivisor 15 = .ok (.iload 8, 2) := by decide +kernel
theorem dX2_commonDivisor_17 : decode cX2_commonDivisor 17 = .ok (.bipush 100, 2) := by decide +kernel
theorem dX2_commonDivisor_19 : decode cX2_commonDivisor 19 = .ok (.if_icmp .ge 31, 3) := by decide +kernel
theorem dX2_commonDivisor_22 : decode cX2_commonDivisor 22 = .ok (.lload 6, 2) := by decide +kernel
theorem dX2_commonDivisor_24 : decode cX2_commonDivisor 24 = .ok (.lconst 0, 1) := by decide +kernel
theorem dX2_commonDivisor_25 : decode cX2_commonDivisor 25 = .ok (.lcmp, 1) := by decide +kernel
theorem dX2_commonDivisor_26 : decode cX2_commonDivisor 26 = .ok (.ifCond .eq 24, 3) := by decide +kernel
theorem dX2_commonDivisor_29 : decode cX2_commonDivisor 29 = .ok (.lload 4, 2) := by decide +kernel
theorem dX2_commonDivisor_31 : decode cX2_commonDivisor 31 = .ok (.lload 6, 2) := by decide +kernel
theorem dX2_commonDivisor_33 : decode cX2_commonDivisor 33 = .ok (.lrem, 1) := by decide +kernel
theorem dX2_commonDivisor_34 : decode cX2_commonDivisor 34 = .ok (.lstore 9, 2) := by decide +kernel
theorem dX2_commonDivisor_36 : decode cX2_commonDivisor 36 = .ok (.lload 6, 2) := by decide +kernel
theorem dX2_commonDivisor_38 : decode cX2_commonDivisor 38 = .ok (.lstore 4, 2) := by decide +kernel
theorem dX2_commonDivisor_40 : decode cX2_commonDivisor 40 = .ok (.lload 9, 2) := by decide +kernel
theorem dX2_commonDivisor_42 : decode cX2_commonDivisor 42 = .ok (.lstore 6, 2) := by decide +kernel
theorem dX2_commonDivisor_44 : decode cX2_commonDivisor 44 = .ok (.iinc 8 1, 3) := by decide +kernel
theorem dX2_commonDivisor_47 : decode cX2_commonDivisor 47 = .ok (.goto (-32), 3) := by decide +kernel
theorem dX2_commonDivisor_50 : decode cX2_commonDivisor 50 = .ok (.lload 4, 2) := by decide +kernel
theorem dX2_commonDivisor_52 : decode cX2_commonDivisor 52 = .ok (.lconst 1, 1) := by decide +kernel
theorem dX2_commonDivisor_53 : decode cX2_commonDivisor 53 = .ok (.invokestatic 233, 3) := by decide +kernel
theorem dX2_commonDivisor_56 : decode cX2_commonDivisor 56 = .ok (.lreturn, 1) := by decide +kernel
set_option maxRecDepth 20000 in
theorem ggX2_fillSlack_X0_scaledInfluence : GoodIn wsX2_fillSlack wsX0_scaledInfluence := goodIn_ca (goodIn_r _ [12, 13, 21, 22, 23, 24] (by decide +kernel) (by decide +kernel)) (goodIn_sub (fun _ h => List.mem_cons_of_mem _ (List.mem_append_right _ h)) (by decide +kernel))
set_option maxRecDepth 20000 in
theorem gX2_fillSlack_X0_scaledInfluence : GoodIn wsX2_fillSlack (wsV RX2 109 RX0 yX0_scaledInfluence wsX0_scaledInfluence) := goodIn_app (goodIn_of _ (by decide +kernel)) ggX2_fillSlack_X0_scaledInfluence
theorem dX2_fillSlack_0 : decode cX2_fillSlack 0 = .ok (.iconst 0, 1) := by decide +kernel
theorem dX2_fillSlack_1 : decode cX2_fillSlack 1 = .ok (.istore_n 2, 1) := by decide +kernel
theorem dX2_fillSlack_2 : decode cX2_fillSlack 2 = .ok (.iload_n 2, 1) := by decide +kernel
theorem dX2_fillSlack_3 : decode cX2_fillSlack 3 = .ok (.bipush 9, 2) := by decide +kernel
theorem dX2_fillSlack_5 : decode cX2_fillSlack 5 = .ok (.if_icmp .ge 95, 3) := by decide +kernel
theorem dX2_fillSlack_8 : decode cX2_fillSlack 8 = .ok (.aload_n 0, 1) := by decide +kernel
theorem dX2_fillSlack_9 : decode cX2_fillSlack 9 = .ok (.getfield 27, 3) := by decide +kernel
theorem dX2_fillSlack_12 : decode cX2_fillSlack 12 = .ok (.getfield 92, 3) := by decide +kernel
theorem dX2_fillSlack_15 : decode cX2_fillSlack 15 = .ok (.iload_n 2, 1) := by decide +kernel
theorem dX2_fillSlack_16 : decode cX2_fillSlack 16 = .ok (.laload, 1) := by decide +kernel
theorem dX2_fillSlack_17 : decode cX2_fillSlack 17 = .ok (.aload_n 0, 1) := by decide +kernel
theorem dX2_fillSlack_18 : decode cX2_fillSlack 18 = .ok (.getfield 27, 3) := by decide +kernel
theorem dX2_fillSlack_21 : decode cX2_fillSlack 21 = .ok (.getfield 212, 3) := by decide +kernel
theorem dX2_fillSlack_24 : decode cX2_fillSlack 24 = .ok (.aload_n 0, 1) := by decide +kernel
theorem dX2_fillSlack_25 : decode cX2_fillSlack 25 = .ok (.getfield 10, 3) := by decide +kernel
theorem dX2_fillSlack_28 : decode cX2_fillSlack 28 = .ok (.getfield 79, 3) := by decide +kernel
theorem dX2_fillSlack_31 : decode cX2_fillSlack 31 = .ok (.iload_n 2, 1) := by decide +kernel
theorem dX2_fillSlack_32 : decode cX2_fillSlack 32 = .ok (.iaload, 1) := by decide +kernel
theorem dX2_fillSlack_33 : decode cX2_fillSlack 33 = .ok (.i2l, 1) := by decide +kernel
theorem dX2_fillSlack_34 : decode cX2_fillSlack 34 = .ok (.lmul, 1) := by decide +kernel
theorem dX2_fillSlack_35 : decode cX2_fillSlack 35 = .ok (.lsub, 1) := by decide +kernel
theorem dX2_fillSlack_36 : decode cX2_fillSlack 36 = .ok (.lstore_n 3, 1) := by decide +kernel
theorem dX2_fillSlack_37 : decode cX2_fillSlack 37 = .ok (.iconst 0, 1) := by decide +kernel
theorem dX2_fillSlack_38 : decode cX2_fillSlack 38 = .ok (.istore 5, 2) := by decide +kernel
theorem dX2_fillSlack_40 : decode cX2_fillSlack 40 = .ok (.iload 5, 2) := by decide +kernel
theorem dX2_fillSlack_42 : decode cX2_fillSlack 42 = .ok (.bipush 9, 2) := by decide +kernel
theorem dX2_fillSlack_44 : decode cX2_fillSlack 44 = .ok (.if_icmp .ge 43, 3) := by decide +kernel
theorem dX2_fillSlack_47 : decode cX2_fillSlack 47 = .ok (.iload_n 1, 1) := by decide +kernel
theorem dX2_fillSlack_48 : decode cX2_fillSlack 48 = .ok (.iload 5, 2) := by decide +kernel
theorem dX2_fillSlack_50 : decode cX2_fillSlack 50 = .ok (.ishr, 1) := by decide +kernel
theorem dX2_fillSlack_51 : decode cX2_fillSlack 51 = .ok (.iconst 1, 1) := by decide +kernel
theorem dX2_fillSlack_52 : decode cX2_fillSlack 52 = .ok (.iand, 1) := by decide +kernel
theorem dX2_fillSlack_53 : decode cX2_fillSlack 53 = .ok (.ifCond .eq 28, 3) := by decide +kernel
theorem dX2_fillSlack_56 : decode cX2_fillSlack 56 = .ok (.lload_n 3, 1) := by decide +kernel
theorem dX2_fillSlack_57 : decode cX2_fillSlack 57 = .ok (.aload_n 0, 1) := by decide +kernel
theorem dX2_fillSlack_58 : decode cX2_fillSlack 58 = .ok (.getfield 27, 3) := by decide +kernel
theorem dX2_fillSlack_61 : decode cX2_fillSlack 61 = .ok (.iload_n 2, 1) := by decide +kernel
theorem dX2_fillSlack_62 : decode cX2_fillSlack 62 = .ok (.iload 5, 2) := by decide +kernel
theorem dX2_fillSlack_64 : decode cX2_fillSlack 64 = .ok (.invokevirtual 109, 3) := by decide +kernel
theorem dX2_fillSlack_67 : decode cX2_fillSlack 67 = .ok (.aload_n 0, 1) := by decide +kernel
theorem dX2_fillSlack_68 : decode cX2_fillSlack 68 = .ok (.getfield 10, 3) := by decide +kernel
theorem dX2_fillSlack_71 : decode cX2_fillSlack 71 = .ok (.getfield 73, 3) := by decide +kernel
theorem dX2_fillSlack_74 : decode cX2_fillSlack 74 = .ok (.iload 5, 2) := by decide +kernel
theorem dX2_fillSlack_76 : decode cX2_fillSlack 76 = .ok (.iaload, 1) := by decide +kernel
theorem dX2_fillSlack_77 : decode cX2_fillSlack 77 = .ok (.i2l, 1) := by decide +kernel
theorem dX2_fillSlack_78 : decode cX2_fillSlack 78 = .ok (.lmul, 1) := by decide +kernel
theorem dX2_fillSlack_79 : decode cX2_fillSlack 79 = .ok (.ladd, 1) := by decide +kernel
theorem dX2_fillSlack_80 : decode cX2_fillSlack 80 = .ok (.lstore_n 3, 1) := by decide +kernel
theorem dX2_fillSlack_81 : decode cX2_fillSlack 81 = .ok (.iinc 5 1, 3) := by decide +kernel
theorem dX2_fillSlack_84 : decode cX2_fillSlack 84 = .ok (.goto (-44), 3) := by decide +kernel
theorem dX2_fillSlack_87 : decode cX2_fillSlack 87 = .ok (.aload_n 0, 1) := by decide +kernel
theorem dX2_fillSlack_88 : decode cX2_fillSlack 88 = .ok (.getfield 35, 3) := by decide +kernel
theorem dX2_fillSlack_91 : decode cX2_fillSlack 91 = .ok (.iload_n 2, 1) := by decide +kernel
theorem dX2_fillSlack_92 : decode cX2_fillSlack 92 = .ok (.lload_n 3, 1) := by decide +kernel
theorem dX2_fillSlack_93 : decode cX2_fillSlack 93 = .ok (.lastore, 1) := by decide +kernel
theorem dX2_fillSlack_94 : decode cX2_fillSlack 94 = .ok (.iinc 2 1, 3) := by decide +kernel
theorem dX2_fillSlack_97 : decode cX2_fillSlack 97 = .ok (.goto (-95), 3) := by decide +kernel
theorem dX2_fillSlack_100 : decode cX2_fillSlack 100 = .ok (.return_, 1) := by decide +kernel
set_option maxRecDepth 20000 in
theorem ggX2_fillCost_X0_scaledInfluence : GoodIn wsX2_fillCost wsX0_scaledInfluence := goodIn_ca (goodIn_r _ [7, 8, 16, 17, 18, 19] (by decide +kernel) (by decide +kernel)) (goodIn_sub (fun _ h => List.mem_cons_of_mem _ (List.mem_append_right _ h)) (by decide +kernel))
set_option maxRecDepth 20000 in
theorem gX2_fillCost_X0_scaledInfluence : GoodIn wsX2_fillCost (wsV RX2 109 RX0 yX0_scaledInfluence wsX0_scaledInfluence) := goodIn_app (goodIn_of _ (by decide +kernel)) ggX2_fillCost_X0_scaledInfluence
theorem dX2_fillCost_0 : decode cX2_fillCost 0 = .ok (.iconst 0, 1) := by decide +kernel
theorem dX2_fillCost_1 : decode cX2_fillCost 1 = .ok (.istore_n 2, 1) := by decide +kernel
theorem dX2_fillCost_2 : decode cX2_fillCost 2 = .ok (.iload_n 2, 1) := by decide +kernel
theorem dX2_fillCost_3 : decode cX2_fillCost 3 = .ok (.bipush 9, 2) := by decide +kernel
theorem dX2_fillCost_5 : decode cX2_fillCost 5 = .ok (.if_icmp .ge 56, 3) := by decide +kernel
theorem dX2_fillCost_8 : decode cX2_fillCost 8 = .ok (.lconst 0, 1) := by decide +kernel
theorem dX2_fillCost_9 : decode cX2_fillCost 9 = .ok (.lstore_n 3, 1) := by decide +kernel
theorem dX2_fillCost_10 : decode cX2_fillCost 10 = .ok (.iconst 0, 1) := by decide +kernel
theorem dX2_fillCost_11 : decode cX2_fillCost 11 = .ok (.istore 5, 2) := by decide +kernel
theorem dX2_fillCost_13 : decode cX2_fillCost 13 = .ok (.iload 5, 2) := by decide +kernel
theorem dX2_fillCost_15 : decode cX2_fillCost 15 = .ok (.bipush 9, 2) := by decide +kernel
theorem dX2_fillCost_17 : decode cX2_fillCost 17 = .ok (.if_icmp .ge 31, 3) := by decide +kernel
theorem dX2_fillCost_20 : decode cX2_fillCost 20 = .ok (.iload_n 1, 1) := by decide +kernel
theorem dX2_fillCost_21 : decode cX2_fillCost 21 = .ok (.iload 5, 2) := by decide +kernel
theorem dX2_fillCost_23 : decode cX2_fillCost 23 = .ok (.ishr, 1) := by decide +kernel
theorem dX2_fillCost_24 : decode cX2_fillCost 24 = .ok (.iconst 1, 1) := by decide +kernel
theorem dX2_fillCost_25 : decode cX2_fillCost 25 = .ok (.iand, 1) := by decide +kernel
theorem dX2_fillCost_26 : decode cX2_fillCost 26 = .ok (.ifCond .eq 16, 3) := by decide +kernel
theorem dX2_fillCost_29 : decode cX2_fillCost 29 = .ok (.lload_n 3, 1) := by decide +kernel
theorem dX2_fillCost_30 : decode cX2_fillCost 30 = .ok (.aload_n 0, 1) := by decide +kernel
theorem dX2_fillCost_31 : decode cX2_fillCost 31 = .ok (.getfield 27, 3) := by decide +kernel
theorem dX2_fillCost_34 : decode cX2_fillCost 34 = .ok (.iload_n 2, 1) := by decide +kernel
theorem dX2_fillCost_35 : decode cX2_fillCost 35 = .ok (.iload 5, 2) := by decide +kernel
theorem dX2_fillCost_37 : decode cX2_fillCost 37 = .ok (.invokevirtual 109, 3) := by decide +kernel
theorem dX2_fillCost_40 : decode cX2_fillCost 40 = .ok (.ladd, 1) := by decide +kernel
theorem dX2_fillCost_41 : decode cX2_fillCost 41 = .ok (.lstore_n 3, 1) := by decide +kernel
theorem dX2_fillCost_42 : decode cX2_fillCost 42 = .ok (.iinc 5 1, 3) := by decide +kernel
theorem dX2_fillCost_45 : decode cX2_fillCost 45 = .ok (.goto (-32), 3) := by decide +kernel
theorem dX2_fillCost_48 : decode cX2_fillCost 48 = .ok (.aload_n 0, 1) := by decide +kernel
theorem dX2_fillCost_49 : decode cX2_fillCost 49 = .ok (.getfield 39, 3) := by decide +kernel
theorem dX2_fillCost_52 : decode cX2_fillCost 52 = .ok (.iload_n 2, 1) := by decide +kernel
theorem dX2_fillCost_53 : decode cX2_fillCost 53 = .ok (.lload_n 3, 1) := by decide +kernel
theorem dX2_fillCost_54 : decode cX2_fillCost 54 = .ok (.lastore, 1) := by decide +kernel
theorem dX2_fillCost_55 : decode cX2_fillCost 55 = .ok (.iinc 2 1, 3) := by decide +kernel
theorem dX2_fillCost_58 : decode cX2_fillCost 58 = .ok (.goto (-56), 3) := by decide +kernel
theorem dX2_fillCost_61 : decode cX2_fillCost 61 = .ok (.return_, 1) := by decide +kernel
theorem dX2_greatestPaidRate_0 : decode cX2_greatestPaidRate 0 = .ok (.ldc2_w 236, 3) := by decide +kernel
theorem dX2_greatestPaidRate_3 : decode cX2_greatestPaidRate 3 = .ok (.lstore_n 1, 1) := by decide +kernel
theorem dX2_greatestPaidRate_4 : decode cX2_greatestPaidRate 4 = .ok (.iconst 0, 1) := by decide +kernel
theorem dX2_greatestPaidRate_5 : decode cX2_greatestPaidRate 5 = .ok (.istore_n 3, 1) := by decide +kernel
theorem dX2_greatestPaidRate_6 : decode cX2_greatestPaidRate 6 = .ok (.iload_n 3, 1) := by decide +kernel
theorem dX2_greatestPaidRate_7 : decode cX2_greatestPaidRate 7 = .ok (.bipush 9, 2) := by decide +kernel
theorem dX2_greatestPaidRate_9 : decode cX2_greatestPaidRate 9 = .ok (.if_icmp .ge 51, 3) := by decide +kernel
theorem dX2_greatestPaidRate_12 : decode cX2_greatestPaidRate 12 = .ok (.aload_n 0, 1) := by decide +kernel
theorem dX2_greatestPaidRate_13 : decode cX2_greatestPaidRate 13 = .ok (.getfield 35, 3) := by decide +kernel
theorem dX2_greatestPaidRate_16 : decode cX2_greatestPaidRate 16 = .ok (.iload_n 3, 1) := by decide +kernel
theorem dX2_greatestPaidRate_17 : decode cX2_greatestPaidRate 17 = .ok (.laload, 1) := by decide +kernel
theorem dX2_greatestPaidRate_18 : decode cX2_greatestPaidRate 18 = .ok (.lconst 0, 1) := by decide +kernel
theorem dX2_greatestPaidRate_19 : decode cX2_greatestPaidRate 19 = .ok (.lcmp, 1) := by decide +kernel
theorem dX2_greatestPaidRate_20 : decode cX2_greatestPaidRate 20 = .ok (.ifCond .ge 5, 3) := by decide +kernel
theorem dX2_greatestPaidRate_23 : decode cX2_greatestPaidRate 23 = .ok (.iconst (-1), 1) := by decide +kernel
theorem dX2_greatestPaidRate_24 : decode cX2_greatestPaidRate 24 = .ok (.ireturn, 1) := by decide +kernel
theorem dX2_greatestPaidRate_25 : decode cX2_greatestPaidRate 25 = .ok (.aload_n 0, 1) := by decide +kernel
theorem dX2_greatestPaidRate_26 : decode cX2_greatestPaidRate 26 = .ok (.getfield 39, 3) := by decide +kernel
theorem dX2_greatestPaidRate_29 : decode cX2_greatestPaidRate 29 = .ok (.iload_n 3, 1) := by decide +kernel
theorem dX2_greatestPaidRate_30 : decode cX2_greatestPaidRate 30 = .ok (.laload, 1) := by decide +kernel
theorem dX2_greatestPaidRate_31 : decode cX2_greatestPaidRate 31 = .ok (.lconst 0, 1) := by decide +kernel
theorem dX2_greatestPaidRate_32 : decode cX2_greatestPaidRate 32 = .ok (.lcmp, 1) := by decide +kernel
theorem dX2_greatestPaidRate_33 : decode cX2_greatestPaidRate 33 = .ok (.ifCond .le 21, 3) := by decide +kernel
theorem dX2_greatestPaidRate_36 : decode cX2_greatestPaidRate 36 = .ok (.lload_n 1, 1) := by decide +kernel
theorem dX2_greatestPaidRate_37 : decode cX2_greatestPaidRate 37 = .ok (.aload_n 0, 1) := by decide +kernel
theorem dX2_greatestPaidRate_38 : decode cX2_greatestPaidRate 38 = .ok (.getfield 35, 3) := by decide +kernel
theorem dX2_greatestPaidRate_41 : decode cX2_greatestPaidRate 41 = .ok (.iload_n 3, 1) := by decide +kernel
theorem dX2_greatestPaidRate_42 : decode cX2_greatestPaidRate 42 = .ok (.laload, 1) := by decide +kernel
theorem dX2_greatestPaidRate_43 : decode cX2_greatestPaidRate 43 = .ok (.aload_n 0, 1) := by decide +kernel
theorem dX2_greatestPaidRate_44 : decode cX2_greatestPaidRate 44 = .ok (.getfield 39, 3) := by decide +kernel
theorem dX2_greatestPaidRate_47 : decode cX2_greatestPaidRate 47 = .ok (.iload_n 3, 1) := by decide +kernel
theorem dX2_greatestPaidRate_48 : decode cX2_greatestPaidRate 48 = .ok (.laload, 1) := by decide +kernel
theorem dX2_greatestPaidRate_49 : decode cX2_greatestPaidRate 49 = .ok (.ldiv, 1) := by decide +kernel
theorem dX2_greatestPaidRate_50 : decode cX2_greatestPaidRate 50 = .ok (.invokestatic 238, 3) := by decide +kernel
theorem dX2_greatestPaidRate_53 : decode cX2_greatestPaidRate 53 = .ok (.lstore_n 1, 1) := by decide +kernel
theorem dX2_greatestPaidRate_54 : decode cX2_greatestPaidRate 54 = .ok (.iinc 3 1, 3) := by decide +kernel
theorem dX2_greatestPaidRate_57 : decode cX2_greatestPaidRate 57 = .ok (.goto (-51), 3) := by decide +kernel
theorem dX2_greatestPaidRate_60 : decode cX2_greatestPaidRate 60 = .ok (.lload_n 1, 1) := by decide +kernel
theorem dX2_greatestPaidRate_61 : decode cX2_greatestPaidRate 61 = .ok (.l2i, 1) := by decide +kernel
theorem dX2_greatestPaidRate_62 : decode cX2_greatestPaidRate 62 = .ok (.ireturn, 1) := by decide +kernel
set_option maxRecDepth 20000 in
theorem ggX2_greatestCommonRate_X2_fillSlack : GoodIn wsX2_greatestCommonRate wsX2_fillSlack := goodIn_ca (goodIn_r _ [5, 6, 7, 8, 9, 10, 11, 12, 13, 14, 15, 16, 17, 18, 33, 34, 35, 36, 37, 38, 39, 40, 41, 42, 43, 44, 45, 46, 47, 48, 49, 50] (by decide +kernel) (by decide +kernel)) (goodIn_sub (fun _ h => List.mem_cons_of_mem _ (List.mem_append_left _ (List.mem_append_right _ h))) (by decide +kernel))
set_option maxRecDepth 20000 in
theorem gX2_greatestCommonRate_X2_fillSlack : GoodIn wsX2_greatestCommonRate (wsV RX2 241 RX2 yX2_fillSlack wsX2_fillSlack) := goodIn_app (goodIn_of _ (by decide +kernel)) ggX2_greatestCommonRate_X2_fillSlack
set_option maxRecDepth 20000 in
theorem ggX2_greatestCommonRate_X2_fillCost : GoodIn wsX2_greatestCommonRate wsX2_fillCost := goodIn_ca (goodIn_r _ [22, 6, 23, 13, 14, 15, 16, 17, 18, 33, 34, 35, 36, 37, 38, 39, 40, 41, 42, 43] (by decide +kernel) (by decide +kernel)) (goodIn_sub (fun _ h => List.mem_cons_of_mem _ (List.mem_append_left _ (List.mem_append_right _ h))) (by decide +kernel))
set_option maxRecDepth 20000 in
theorem gX2_greatestCommonRate_X2_fillCost : GoodIn wsX2_greatestCommonRate (wsV RX2 244 RX2 yX2_fillCost wsX2_fillCost) := goodIn_app (goodIn_of _ (by decide +kernel)) ggX2_greatestCommonRate_X2_fillCost
set_option maxRecDepth 20000 in
theorem ggX2_greatestCommonRate_X2_greatestPaidRate : GoodIn wsX2_greatestCommonRate wsX2_greatestPaidRate := goodIn_ca (goodIn_ca (goodIn_r _ [27, 28, 12, 23, 29, 30, 31, 32, 33, 34, 35, 36, 37, 38, 39] (by decide +kernel) (by decide +kernel)) (goodIn_sub (fun _ h => List.mem_cons_of_mem _ (List.mem_append_left _ (List.mem_append_right _ h))) (by decide +kernel))) (goodIn_sub (fun _ h => List.mem_cons_of_mem _ (List.mem_append_right _ h)) (by decide +kernel))
set_option maxRecDepth 20000 in
theorem gX2_greatestCommonRate_X2_greatestPaidRate : GoodIn wsX2_greatestCommonRate (wsV RX2 247 RX2 yX2_greatestPaidRate wsX2_greatestPaidRate) := goodIn_app (goodIn_of _ (by decide +kernel)) ggX2_greatestCommonRate_X2_greatestPaidRate
theorem dX2_greatestCommonRate_0 : decode cX2_greatestCommonRate 0 = .ok (.aload_n 0, 1) := by decide +kernel
theorem dX2_greatestCommonRate_1 : decode cX2_greatestCommonRate 1 = .ok (.iload_n 1, 1) := by decide +kernel
theorem dX2_greatestCommonRate_2 : decode cX2_greatestCommonRate 2 = .ok (.invokevirtual 241, 3) := by decide +kernel
theorem dX2_greatestCommonRate_5 : decode cX2_greatestCommonRate 5 = .ok (.aload_n 0, 1) := by decide +kernel
theorem dX2_greatestCommonRate_6 : decode cX2_greatestCommonRate 6 = .ok (.iload_n 1, 1) := by decide +kernel
theorem dX2_greatestCommonRate_7 : decode cX2_greatestCommonRate 7 = .ok (.invokevirtual 244, 3) := by decide +kernel
theorem dX2_greatestCommonRate_10 : decode cX2_greatestCommonRate 10 = .ok (.aload_n 0, 1) := by decide +kernel
theorem dX2_greatestCommonRate_11 : decode cX2_greatestCommonRate 11 = .ok (.invokevirtual 247, 3) := by decide +kernel
theorem dX2_greatestCommonRate_14 : decode cX2_greatestCommonRate 14 = .ok (.ireturn, 1) := by decide +kernel
set_option maxRecDepth 20000 in
theorem ggX2_bestRates_X2_fillSlack : GoodIn wsX2_bestRates wsX2_fillSlack := goodIn_ca (goodIn_r _ [5, 6, 7, 8, 9, 10, 11, 12, 13, 14, 15, 16, 17, 18, 37, 38, 39, 40, 41, 42, 43, 44, 45, 46, 47, 48, 49, 50, 51, 52, 53, 54] (by decide +kernel) (by decide +kernel)) (goodIn_sub (fun _ h => List.mem_cons_of_mem _ (List.mem_append_left _ (List.mem_append_right _ h))) (by decide +kernel))
set_option maxRecDepth 20000 in
theorem gX2_bestRates_X2_fillSlack : GoodIn wsX2_bestRates (wsV RX2 241 RX2 yX2_fillSlack wsX2_fillSlack) := goodIn_app (goodIn_of _ (by decide +kernel)) ggX2_bestRates_X2_fillSlack
set_option maxRecDepth 20000 in
theorem ggX2_bestRates_X2_fillCost : GoodIn wsX2_bestRates wsX2_fillCost := goodIn_ca (goodIn_r _ [22, 6, 23, 13, 14, 15, 16, 17, 18, 37, 38, 39, 40, 41, 42, 43, 44, 45, 46, 47] (by decide +kernel) (by decide +kernel)) (goodIn_sub (fun _ h => List.mem_cons_of_mem _ (List.mem_append_left _ (List.mem_append_right _ h))) (by decide +kernel))
set_option maxRecDepth 20000 in
theorem gX2_bestRates_X2_fillCost : GoodIn wsX2_bestRates (wsV RX2 244 RX2 yX2_fillCost wsX2_fillCost) := goodIn_app (goodIn_of _ (by decide +kernel)) ggX2_bestRates_X2_fillCost
set_option maxRecDepth 20000 in
theorem ggX2_bestRates_X2_greatestPaidRate : GoodIn wsX2_bestRates wsX2_greatestPaidRate := goodIn_ca (goodIn_ca (goodIn_r _ [27, 28, 12, 23, 29, 30, 31, 32, 37, 38, 39, 40, 41, 42, 43] (by decide +kernel) (by decide +kernel)) (goodIn_sub (fun _ h => List.mem_cons_of_mem _ (List.mem_append_left _ (List.mem_append_right _ h))) (by decide +kernel))) (goodIn_sub (fun _ h => List.mem_cons_of_mem _ (List.mem_append_right _ h)) (by decide +kernel))
set_option maxRecDepth 20000 in
theorem gX2_bestRates_X2_greatestPaidRate : GoodIn wsX2_bestRates (wsV RX2 247 RX2 yX2_greatestPaidRate wsX2_greatestPaidRate) := goodIn_app (goodIn_of _ (by decide +kernel)) ggX2_bestRates_X2_greatestPaidRate
set_option maxRecDepth 20000 in
theorem ggX2_bestRates_X2_payForOne : GoodIn wsX2_bestRates wsX2_payForOne := goodIn_ca (goodIn_r _ [36, 12, 6, 13, 14, 15, 16, 17, 18, 37, 38, 39, 40, 41, 42, 43, 44, 45, 46, 47] (by decide +kernel) (by decide +kernel)) (goodIn_sub (fun _ h => List.mem_cons_of_mem _ (List.mem_append_left _ (List.mem_append_right _ h))) (by decide +kernel))
set_option maxRecDepth 20000 in
theorem gX2_bestRates_X2_payForOne : GoodIn wsX2_bestRates (wsV RX2 251 RX2 yX2_payForOne wsX2_payForOne) := goodIn_app (goodIn_of _ (by decide +kernel)) ggX2_bestRates_X2_payForOne
theorem dX2_bestRates_0 : decode cX2_bestRates 0 = .ok (.aload_n 0, 1) := by decide +kernel
theorem dX2_bestRates_1 : decode cX2_bestRates 1 = .ok (.iconst 1, 1) := by decide +kernel
theorem dX2_bestRates_2 : decode cX2_bestRates 2 = .ok (.iload_n 1, 1) := by decide +kernel
theorem dX2_bestRates_3 : decode cX2_bestRates 3 = .ok (.ishl, 1) := by decide +kernel
theorem dX2_bestRates_4 : decode cX2_bestRates 4 = .ok (.iconst 1, 1) := by decide +kernel
theorem dX2_bestRates_5 : decode cX2_bestRates 5 = .ok (.iload_n 2, 1) := by decide +kernel
theorem dX2_bestRates_6 : decode cX2_bestRates 6 = .ok (.ishl, 1) := by decide +kernel
theorem dX2_bestRates_7 : decode cX2_bestRates 7 = .ok (.ior, 1) := by decide +kernel
theorem dX2_bestRates_8 : decode cX2_bestRates 8 = .ok (.invokevirtual 241, 3) := by decide +kernel
theorem dX2_bestRates_11 : decode cX2_bestRates 11 = .ok (.aload_n 0, 1) := by decide +kernel
theorem dX2_bestRates_12 : decode cX2_bestRates 12 = .ok (.iconst 1, 1) := by decide +kernel
theorem dX2_bestRates_13 : decode cX2_bestRates 13 = .ok (.iload_n 2, 1) := by decide +kernel
theorem dX2_bestRates_14 : decode cX2_bestRates 14 = .ok (.ishl, 1) := by decide +kernel
theorem dX2_bestRates_15 : decode cX2_bestRates 15 = .ok (.invokevirtual 244, 3) := by decide +kernel
theorem dX2_bestRates_18 : decode cX2_bestRates 18 = .ok (.iconst (-1), 1) := by decide +kernel
theorem dX2_bestRates_19 : decode cX2_bestRates 19 = .ok (.istore_n 3, 1) := by decide +kernel
theorem dX2_bestRates_20 : decode cX2_bestRates 20 = .ok (.iconst (-1), 1) := by decide +kernel
theorem dX2_bestRates_21 : decode cX2_bestRates 21 = .ok (.istore 4, 2) := by decide +kernel
theorem dX2_bestRates_23 : decode cX2_bestRates 23 = .ok (.iconst 0, 1) := by decide +kernel
theorem dX2_bestRates_24 : decode cX2_bestRates 24 = .ok (.istore 5, 2) := by decide +kernel
theorem dX2_bestRates_26 : decode cX2_bestRates 26 = .ok (.iload 5, 2) := by decide +kernel
theorem dX2_bestRates_28 : decode cX2_bestRates 28 = .ok (.sipush 1000, 3) := by decide +kernel
theorem dX2_bestRates_31 : decode cX2_bestRates 31 = .ok (.if_icmp .gt 56, 3) := by decide +kernel
theorem dX2_bestRates_34 : decode cX2_bestRates 34 = .ok (.aload_n 0, 1) := by decide +kernel
theorem dX2_bestRates_35 : decode cX2_bestRates 35 = .ok (.invokevirtual 247, 3) := by decide +kernel
theorem dX2_bestRates_38 : decode cX2_bestRates 38 = .ok (.istore 6, 2) := by decide +kernel
theorem dX2_bestRates_40 : decode cX2_bestRates 40 = .ok (.iload 6, 2) := by decide +kernel
theorem dX2_bestRates_42 : decode cX2_bestRates 42 = .ok (.iconst (-1), 1) := by decide +kernel
theorem dX2_bestRates_43 : decode cX2_bestRates 43 = .ok (.if_icmp .ne 6, 3) := by decide +kernel
theorem dX2_bestRates_46 : decode cX2_bestRates 46 = .ok (.goto 41, 3) := by decide +kernel
theorem dX2_bestRates_49 : decode cX2_bestRates 49 = .ok (.iload 5, 2) := by decide +kernel
theorem dX2_bestRates_51 : decode cX2_bestRates 51 = .ok (.iload 6, 2) := by decide +kernel
theorem dX2_bestRates_53 : decode cX2_bestRates 53 = .ok (.iadd, 1) := by decide +kernel
theorem dX2_bestRates_54 : decode cX2_bestRates 54 = .ok (.iload 4, 2) := by decide +kernel
theorem dX2_bestRates_56 : decode cX2_bestRates 56 = .ok (.if_icmp .le 20, 3) := by decide +kernel
theorem dX2_bestRates_59 : decode cX2_bestRates 59 = .ok (.iload 5, 2) := by decide +kernel
theorem dX2_bestRates_61 : decode cX2_bestRates 61 = .ok (.iload 6, 2) := by decide +kernel
theorem dX2_bestRates_63 : decode cX2_bestRates 63 = .ok (.iadd, 1) := by decide +kernel
theorem dX2_bestRates_64 : decode cX2_bestRates 64 = .ok (.istore 4, 2) := by decide +kernel
theorem dX2_bestRates_66 : decode cX2_bestRates 66 = .ok (.sipush 10000, 3) := by decide +kernel
theorem dX2_bestRates_69 : decode cX2_bestRates 69 = .ok (.iload 5, 2) := by decide +kernel
theorem dX2_bestRates_71 : decode cX2_bestRates 71 = .ok (.imul, 1) := by decide +kernel
theorem dX2_bestRates_72 : decode cX2_bestRates 72 = .ok (.iload 6, 2) := by decide +kernel
theorem dX2_bestRates_74 : decode cX2_bestRates 74 = .ok (.iadd, 1) := by decide +kernel
theorem dX2_bestRates_75 : decode cX2_bestRates 75 = .ok (.istore_n 3, 1) := by decide +kernel
theorem dX2_bestRates_76 : decode cX2_bestRates 76 = .ok (.aload_n 0, 1) := by decide +kernel
theorem dX2_bestRates_77 : decode cX2_bestRates 77 = .ok (.iload_n 1, 1) := by decide +kernel
theorem dX2_bestRates_78 : decode cX2_bestRates 78 = .ok (.invokevirtual 251, 3) := by decide +kernel
theorem dX2_bestRates_81 : decode cX2_bestRates 81 = .ok (.iinc 5 1, 3) := by decide +kernel
theorem dX2_bestRates_84 : decode cX2_bestRates 84 = .ok (.goto (-58), 3) := by decide +kernel
theorem dX2_bestRates_87 : decode cX2_bestRates 87 = .ok (.iload_n 3, 1) := by decide +kernel
theorem dX2_bestRates_88 : decode cX2_bestRates 88 = .ok (.ireturn, 1) := by decide +kernel
set_option maxRecDepth 20000 in
theorem ggX2_payForOne_X0_scaledInfluence : GoodIn wsX2_payForOne wsX0_scaledInfluence := goodIn_ca (goodIn_r _ [7, 8, 16, 17, 18, 19] (by decide +kernel) (by decide +kernel)) (goodIn_sub (fun _ h => List.mem_cons_of_mem _ (List.mem_append_right _ h)) (by decide +kernel))
set_option maxRecDepth 20000 in
theorem gX2_payForOne_X0_scaledInfluence : GoodIn wsX2_payForOne (wsV RX2 109 RX0 yX0_scaledInfluence wsX0_scaledInfluence) := goodIn_app (goodIn_of _ (by decide +kernel)) ggX2_payForOne_X0_scaledInfluence
theorem dX2_payForOne_0 : decode cX2_payForOne 0 = .ok (.iconst 0, 1) := by decide +kernel
theorem dX2_payForOne_1 : decode cX2_payForOne 1 = .ok (.istore_n 2, 1) := by decide +kernel
theorem dX2_payForOne_2 : decode cX2_payForOne 2 = .ok (.iload_n 2, 1) := by decide +kernel
theorem dX2_payForOne_3 : decode cX2_payForOne 3 = .ok (.bipush 9, 2) := by decide +kernel
theorem dX2_payForOne_5 : decode cX2_payForOne 5 = .ok (.if_icmp .ge 27, 3) := by decide +kernel
theorem dX2_payForOne_8 : decode cX2_payForOne 8 = .ok (.aload_n 0, 1) := by decide +kernel
theorem dX2_payForOne_9 : decode cX2_payForOne 9 = .ok (.getfield 35, 3) := by decide +kernel
theorem dX2_payForOne_12 : decode cX2_payForOne 12 = .ok (.iload_n 2, 1) := by decide +kernel
theorem dX2_payForOne_13 : decode cX2_payForOne 13 = .ok (.dup2, 1) := by decide +kernel
theorem dX2_payForOne_14 : decode cX2_payForOne 14 = .ok (.laload, 1) := by decide +kernel
theorem dX2_payForOne_15 : decode cX2_payForOne 15 = .ok (.aload_n 0, 1) := by decide +kernel
theorem dX2_payForOne_16 : decode cX2_payForOne 16 = .ok (.getfield 27, 3) := by decide +kernel
theorem dX2_payForOne_19 : decode cX2_payForOne 19 = .ok (.iload_n 2, 1) := by decide +kernel
theorem dX2_payForOne_20 : decode cX2_payForOne 20 = .ok (.iload_n 1, 1) := by decide +kernel
theorem dX2_payForOne_21 : decode cX2_payForOne 21 = .ok (.invokevirtual 109, 3) := by decide +kernel
theorem dX2_payForOne_24 : decode cX2_payForOne 24 = .ok (.lsub, 1) := by decide +kernel
theorem dX2_payForOne_25 : decode cX2_payForOne 25 = .ok (.lastore, 1) := by decide +kernel
theorem dX2_payForOne_26 : decode cX2_payForOne 26 = .ok (.iinc 2 1, 3) := by decide +kernel
theorem dX2_payForOne_29 : decode cX2_payForOne 29 = .ok (.goto (-27), 3) := by decide +kernel
theorem dX2_payForOne_32 : decode cX2_payForOne 32 = .ok (.return_, 1) := by decide +kernel
set_option maxRecDepth 20000 in
theorem ggX2_sweepOnce_X2_sweptHead : GoodIn wsX2_sweepOnce wsX2_sweptHead := goodIn_ca (goodIn_r _ [7, 1, 8, 2, 9, 10, 11, 12, 6, 13, 14, 15, 16, 17, 18, 19, 20, 21, 22, 23, 27, 28, 29, 30, 31, 32, 33, 34, 35, 36, 37, 38, 39, 40] (by decide +kernel) (by decide +kernel)) (goodIn_sub (fun _ h => List.mem_cons_of_mem _ (List.mem_append_right _ h)) (by decide +kernel))
set_option maxRecDepth 20000 in
theorem gX2_sweepOnce_X2_sweptHead : GoodIn wsX2_sweepOnce (wsV RX2 254 RX2 yX2_sweptHead wsX2_sweptHead) := goodIn_app (goodIn_of _ (by decide +kernel)) ggX2_sweepOnce_X2_sweptHead
set_option maxRecDepth 20000 in
theorem ggX2_sweepOnce_X2_distance : GoodIn wsX2_sweepOnce wsX2_distance := goodIn_r _ [26] (by decide +kernel) (by decide +kernel)
set_option maxRecDepth 20000 in
theorem gX2_sweepOnce_X2_distance : GoodIn wsX2_sweepOnce (va_wsS RX2 143 yX2_distance wsX2_distance) := goodIn_app (goodIn_of _ (by decide +kernel)) ggX2_sweepOnce_X2_distance
theorem dX2_sweepOnce_0 : decode cX2_sweepOnce 0 = .ok (.dconst 0, 1) := by decide +kernel
theorem dX2_sweepOnce_1 : decode cX2_sweepOnce 1 = .ok (.dstore_n 1, 1) := by decide +kernel
theorem dX2_sweepOnce_2 : decode cX2_sweepOnce 2 = .ok (.iconst 0, 1) := by decide +kernel
theorem dX2_sweepOnce_3 : decode cX2_sweepOnce 3 = .ok (.istore_n 3, 1) := by decide +kernel
theorem dX2_sweepOnce_4 : decode cX2_sweepOnce 4 = .ok (.iload_n 3, 1) := by decide +kernel
theorem dX2_sweepOnce_5 : decode cX2_sweepOnce 5 = .ok (.bipush 9, 2) := by decide +kernel
theorem dX2_sweepOnce_7 : decode cX2_sweepOnce 7 = .ok (.if_icmp .ge 61, 3) := by decide +kernel
theorem dX2_sweepOnce_10 : decode cX2_sweepOnce 10 = .ok (.aload_n 0, 1) := by decide +kernel
theorem dX2_sweepOnce_11 : decode cX2_sweepOnce 11 = .ok (.getfield 10, 3) := by decide +kernel
theorem dX2_sweepOnce_14 : decode cX2_sweepOnce 14 = .ok (.getfield 135, 3) := by decide +kernel
theorem dX2_sweepOnce_17 : decode cX2_sweepOnce 17 = .ok (.iload_n 3, 1) := by decide +kernel
theorem dX2_sweepOnce_18 : decode cX2_sweepOnce 18 = .ok (.daload, 1) := by decide +kernel
theorem dX2_sweepOnce_19 : decode cX2_sweepOnce 19 = .ok (.dstore 4, 2) := by decide +kernel
theorem dX2_sweepOnce_21 : decode cX2_sweepOnce 21 = .ok (.aload_n 0, 1) := by decide +kernel
theorem dX2_sweepOnce_22 : decode cX2_sweepOnce 22 = .ok (.iload_n 3, 1) := by decide +kernel
theorem dX2_sweepOnce_23 : decode cX2_sweepOnce 23 = .ok (.invokevirtual 254, 3) := by decide +kernel
theorem dX2_sweepOnce_26 : decode cX2_sweepOnce 26 = .ok (.dstore 6, 2) := by decide +kernel
theorem dX2_sweepOnce_28 : decode cX2_sweepOnce 28 = .ok (.aload_n 0, 1) := by decide +kernel
theorem dX2_sweepOnce_29 : decode cX2_sweepOnce 29 = .ok (.getfield 10, 3) := by decide +kernel
theorem dX2_sweepOnce_32 : decode cX2_sweepOnce 32 = .ok (.getfield 135, 3) := by decide +kernel
theorem dX2_sweepOnce_35 : decode cX2_sweepOnce 35 = .ok (.iload_n 3, 1) := by decide +kernel
theorem dX2_sweepOnce_36 : decode cX2_sweepOnce 36 = .ok (.dload 6, 2) := by decide +kernel
theorem dX2_sweepOnce_38 : decode cX2_sweepOnce 38 = .ok (.dastore, 1) := by decide +kernel
theorem dX2_sweepOnce_39 : decode cX2_sweepOnce 39 = .ok (.dload 6, 2) := by decide +kernel
theorem dX2_sweepOnce_41 : decode cX2_sweepOnce 41 = .ok (.dload 4, 2) := by decide +kernel
theorem dX2_sweepOnce_43 : decode cX2_sweepOnce 43 = .ok (.invokestatic 143, 3) := by decide +kernel
theorem dX2_sweepOnce_46 : decode cX2_sweepOnce 46 = .ok (.dstore 8, 2) := by decide +kernel
theorem dX2_sweepOnce_48 : decode cX2_sweepOnce 48 = .ok (.dload 8, 2) := by decide +kernel
theorem dX2_sweepOnce_50 : decode cX2_sweepOnce 50 = .ok (.dload_n 1, 1) := by decide +kernel
theorem dX2_sweepOnce_51 : decode cX2_sweepOnce 51 = .ok (.dcmp .l, 1) := by decide +kernel
theorem dX2_sweepOnce_52 : decode cX2_sweepOnce 52 = .ok (.ifCond .le 8, 3) := by decide +kernel
theorem dX2_sweepOnce_55 : decode cX2_sweepOnce 55 = .ok (.dload 8, 2) := by decide +kernel
theorem dX2_sweepOnce_57 : decode cX2_sweepOnce 57 = .ok (.goto 4, 3) := by decide +kernel
theorem dX2_sweepOnce_60 : decode cX2_sweepOnce 60 = .ok (.dload_n 1, 1) := by decide +kernel
theorem dX2_sweepOnce_61 : decode cX2_sweepOnce 61 = .ok (.dstore_n 1, 1) := by decide +kernel
theorem dX2_sweepOnce_62 : decode cX2_sweepOnce 62 = .ok (.iinc 3 1, 3) := by decide +kernel
theorem dX2_sweepOnce_65 : decode cX2_sweepOnce 65 = .ok (.goto (-61), 3) := by decide +kernel
theorem dX2_sweepOnce_68 : decode cX2_sweepOnce 68 = .ok (.dload_n 1, 1) := by decide +kernel
theorem dX2_sweepOnce_69 : decode cX2_sweepOnce 69 = .ok (.dreturn, 1) := by decide +kernel
set_option maxRecDepth 20000 in
theorem ggX2_sweptHead_X2_linkOf : GoodIn wsX2_sweptHead wsX2_linkOf := goodIn_r _ [9] (by decide +kernel) (by decide +kernel)
set_option maxRecDepth 20000 in
theorem gX2_sweptHead_X2_linkOf : GoodIn wsX2_sweptHead (va_wsS RX2 257 yX2_linkOf wsX2_linkOf) := goodIn_app (goodIn_of _ (by decide +kernel)) ggX2_sweptHead_X2_linkOf
set_option maxRecDepth 20000 in
theorem ggX2_sweptHead_X2_otherEnd : GoodIn wsX2_sweptHead wsX2_otherEnd := goodIn_ca (goodIn_r _ [12, 13, 14] (by decide +kernel) (by decide +kernel)) (goodIn_sub (fun _ h => List.mem_cons_of_mem _ (List.mem_append_right _ h)) (by decide +kernel))
set_option maxRecDepth 20000 in
theorem gX2_sweptHead_X2_otherEnd : GoodIn wsX2_sweptHead (va_wsS RX2 260 yX2_otherEnd wsX2_otherEnd) := goodIn_app (goodIn_of _ (by decide +kernel)) ggX2_sweptHead_X2_otherEnd
set_option maxRecDepth 20000 in
theorem ggX2_sweptHead_X2_relaxedHeadOfEnd : GoodIn wsX2_sweptHead wsX2_relaxedHeadOfEnd := goodIn_ca (goodIn_r _ [18, 1, 3, 19, 20, 21, 22, 23, 24, 25, 26, 27, 28, 29, 30, 31, 32, 33] (by decide +kernel) (by decide +kernel)) (goodIn_sub (fun _ h => List.mem_cons_of_mem _ (List.mem_append_right _ h)) (by decide +kernel))
set_option maxRecDepth 20000 in
theorem gX2_sweptHead_X2_relaxedHeadOfEnd : GoodIn wsX2_sweptHead (wsV RX2 263 RX2 yX2_relaxedHeadOfEnd wsX2_relaxedHeadOfEnd) := goodIn_app (goodIn_of _ (by decide +kernel)) ggX2_sweptHead_X2_relaxedHeadOfEnd
theorem dX2_sweptHead_0 : decode cX2_sweptHead 0 = .ok (.dconst 0, 1) := by decide +kernel
theorem dX2_sweptHead_1 : decode cX2_sweptHead 1 = .ok (.dstore_n 2, 1) := by decide +kernel
theorem dX2_sweptHead_2 : decode cX2_sweptHead 2 = .ok (.iconst 0, 1) := by decide +kernel
theorem dX2_sweptHead_3 : decode cX2_sweptHead 3 = .ok (.istore 4, 2) := by decide +kernel
theorem dX2_sweptHead_5 : decode cX2_sweptHead 5 = .ok (.iconst 0, 1) := by decide +kernel
theorem dX2_sweptHead_6 : decode cX2_sweptHead 6 = .ok (.istore 5, 2) := by decide +kernel
theorem dX2_sweptHead_8 : decode cX2_sweptHead 8 = .ok (.iload 5, 2) := by decide +kernel
theorem dX2_sweptHead_10 : decode cX2_sweptHead 10 = .ok (.iconst 4, 1) := by decide +kernel
theorem dX2_sweptHead_11 : decode cX2_sweptHead 11 = .ok (.if_icmp .ge 53, 3) := by decide +kernel
theorem dX2_sweptHead_14 : decode cX2_sweptHead 14 = .ok (.iload_n 1, 1) := by decide +kernel
theorem dX2_sweptHead_15 : decode cX2_sweptHead 15 = .ok (.iload 5, 2) := by decide +kernel
theorem dX2_sweptHead_17 : decode cX2_sweptHead 17 = .ok (.invokestatic 257, 3) := by decide +kernel
theorem dX2_sweptHead_20 : decode cX2_sweptHead 20 = .ok (.istore 6, 2) := by decide +kernel
theorem dX2_sweptHead_22 : decode cX2_sweptHead 22 = .ok (.aload_n 0, 1) := by decide +kernel
theorem dX2_sweptHead_23 : decode cX2_sweptHead 23 = .ok (.getfield 10, 3) := by decide +kernel
theorem dX2_sweptHead_26 : decode cX2_sweptHead 26 = .ok (.getfield 53, 3) := by decide +kernel
theorem dX2_sweptHead_29 : decode cX2_sweptHead 29 = .ok (.iload 6, 2) := by decide +kernel
theorem dX2_sweptHead_31 : decode cX2_sweptHead 31 = .ok (.iaload, 1) := by decide +kernel
theorem dX2_sweptHead_32 : decode cX2_sweptHead 32 = .ok (.istore 7, 2) := by decide +kernel
theorem dX2_sweptHead_34 : decode cX2_sweptHead 34 = .ok (.dload_n 2, 1) := by decide +kernel
theorem dX2_sweptHead_35 : decode cX2_sweptHead 35 = .ok (.iload 7, 2) := by decide +kernel
theorem dX2_sweptHead_37 : decode cX2_sweptHead 37 = .ok (.i2d, 1) := by decide +kernel
theorem dX2_sweptHead_38 : decode cX2_sweptHead 38 = .ok (.aload_n 0, 1) := by decide +kernel
theorem dX2_sweptHead_39 : decode cX2_sweptHead 39 = .ok (.iload 6, 2) := by decide +kernel
theorem dX2_sweptHead_41 : decode cX2_sweptHead 41 = .ok (.iload_n 1, 1) := by decide +kernel
theorem dX2_sweptHead_42 : decode cX2_sweptHead 42 = .ok (.invokestatic 260, 3) := by decide +kernel
theorem dX2_sweptHead_45 : decode cX2_sweptHead 45 = .ok (.invokevirtual 263, 3) := by decide +kernel
theorem dX2_sweptHead_48 : decode cX2_sweptHead 48 = .ok (.dmul, 1) := by decide +kernel
theorem dX2_sweptHead_49 : decode cX2_sweptHead 49 = .ok (.dadd, 1) := by decide +kernel
theorem dX2_sweptHead_50 : decode cX2_sweptHead 50 = .ok (.dstore_n 2, 1) := by decide +kernel
theorem dX2_sweptHead_51 : decode cX2_sweptHead 51 = .ok (.iload 4, 2) := by decide +kernel
theorem dX2_sweptHead_53 : decode cX2_sweptHead 53 = .ok (.iload 7, 2) := by decide +kernel
theorem dX2_sweptHead_55 : decode cX2_sweptHead 55 = .ok (.iadd, 1) := by decide +kernel
theorem dX2_sweptHead_56 : decode cX2_sweptHead 56 = .ok (.istore 4, 2) := by decide +kernel
theorem dX2_sweptHead_58 : decode cX2_sweptHead 58 = .ok (.iinc 5 1, 3) := by decide +kernel
theorem dX2_sweptHead_61 : decode cX2_sweptHead 61 = .ok (.goto (-53), 3) := by decide +kernel
theorem dX2_sweptHead_64 : decode cX2_sweptHead 64 = .ok (.iload 4, 2) := by decide +kernel
theorem dX2_sweptHead_66 : decode cX2_sweptHead 66 = .ok (.ifCond .ne 13, 3) := by decide +kernel
theorem dX2_sweptHead_69 : decode cX2_sweptHead 69 = .ok (.aload_n 0, 1) := by decide +kernel
theorem dX2_sweptHead_70 : decode cX2_sweptHead 70 = .ok (.getfield 10, 3) := by decide +kernel
theorem dX2_sweptHead_73 : decode cX2_sweptHead 73 = .ok (.getfield 135, 3) := by decide +kernel
theorem dX2_sweptHead_76 : decode cX2_sweptHead 76 = .ok (.iload_n 1, 1) := by decide +kernel
theorem dX2_sweptHead_77 : decode cX2_sweptHead 77 = .ok (.daload, 1) := by decide +kernel
theorem dX2_sweptHead_78 : decode cX2_sweptHead 78 = .ok (.dreturn, 1) := by decide +kernel
theorem dX2_sweptHead_79 : decode cX2_sweptHead 79 = .ok (.dload_n 2, 1) := by decide +kernel
theorem dX2_sweptHead_80 : decode cX2_sweptHead 80 = .ok (.aload_n 0, 1) := by decide +kernel
theorem dX2_sweptHead_81 : decode cX2_sweptHead 81 = .ok (.getfield 10, 3) := by decide +kernel
theorem dX2_sweptHead_84 : decode cX2_sweptHead 84 = .ok (.getfield 70, 3) := by decide +kernel
theorem dX2_sweptHead_87 : decode cX2_sweptHead 87 = .ok (.iload_n 1, 1) := by decide +kernel
theorem dX2_sweptHead_88 : decode cX2_sweptHead 88 = .ok (.iaload, 1) := by decide +kernel
theorem dX2_sweptHead_89 : decode cX2_sweptHead 89 = .ok (.aload_n 0, 1) := by decide +kernel
theorem dX2_sweptHead_90 : decode cX2_sweptHead 90 = .ok (.getfield 10, 3) := by decide +kernel
theorem dX2_sweptHead_93 : decode cX2_sweptHead 93 = .ok (.getfield 73, 3) := by decide +kernel
theorem dX2_sweptHead_96 : decode cX2_sweptHead 96 = .ok (.iload_n 1, 1) := by decide +kernel
theorem dX2_sweptHead_97 : decode cX2_sweptHead 97 = .ok (.iaload, 1) := by decide +kernel
theorem dX2_sweptHead_98 : decode cX2_sweptHead 98 = .ok (.isub, 1) := by decide +kernel
theorem dX2_sweptHead_99 : decode cX2_sweptHead 99 = .ok (.i2d, 1) := by decide +kernel
theorem dX2_sweptHead_100 : decode cX2_sweptHead 100 = .ok (.dadd, 1) := by decide +kernel
theorem dX2_sweptHead_101 : decode cX2_sweptHead 101 = .ok (.iload 4, 2) := by decide +kernel
theorem dX2_sweptHead_103 : decode cX2_sweptHead 103 = .ok (.i2d, 1) := by decide +kernel
theorem dX2_sweptHead_104 : decode cX2_sweptHead 104 = .ok (.ddiv, 1) := by decide +kernel
theorem dX2_sweptHead_105 : decode cX2_sweptHead 105 = .ok (.dreturn, 1) := by decide +kernel
theorem dX2_relaxedHeadOfEnd_0 : decode cX2_relaxedHeadOfEnd 0 = .ok (.iload_n 1, 1) := by decide +kernel
theorem dX2_relaxedHeadOfEnd_1 : decode cX2_relaxedHeadOfEnd 1 = .ok (.bipush 9, 2) := by decide +kernel
theorem dX2_relaxedHeadOfEnd_3 : decode cX2_relaxedHeadOfEnd 3 = .ok (.if_icmp .ge 15, 3) := by decide +kernel
theorem dX2_relaxedHeadOfEnd_6 : decode cX2_relaxedHeadOfEnd 6 = .ok (.aload_n 0, 1) := by decide +kernel
theorem dX2_relaxedHeadOfEnd_7 : decode cX2_relaxedHeadOfEnd 7 = .ok (.getfield 10, 3) := by decide +kernel
theorem dX2_relaxedHeadOfEnd_10 : decode cX2_relaxedHeadOfEnd 10 = .ok (.getfield 135, 3) := by decide +kernel
theorem dX2_relaxedHeadOfEnd_13 : decode cX2_relaxedHeadOfEnd 13 = .ok (.iload_n 1, 1) := by decide +kernel
theorem dX2_relaxedHeadOfEnd_14 : decode cX2_relaxedHeadOfEnd 14 = .ok (.daload, 1) := by decide +kernel
theorem dX2_relaxedHeadOfEnd_15 : decode cX2_relaxedHeadOfEnd 15 = .ok (.goto 16, 3) := by decide +kernel
theorem dX2_relaxedHeadOfEnd_18 : decode cX2_relaxedHeadOfEnd 18 = .ok (.aload_n 0, 1) := by decide +kernel
theorem dX2_relaxedHeadOfEnd_19 : decode cX2_relaxedHeadOfEnd 19 = .ok (.getfield 10, 3) := by decide +kernel
theorem dX2_relaxedHeadOfEnd_22 : decode cX2_relaxedHeadOfEnd 22 = .ok (.getfield 64, 3) := by decide +kernel
theorem dX2_relaxedHeadOfEnd_25 : decode cX2_relaxedHeadOfEnd 25 = .ok (.iload_n 1, 1) := by decide +kernel
theorem dX2_relaxedHeadOfEnd_26 : decode cX2_relaxedHeadOfEnd 26 = .ok (.bipush 9, 2) := by decide +kernel
theorem dX2_relaxedHeadOfEnd_28 : decode cX2_relaxedHeadOfEnd 28 = .ok (.isub, 1) := by decide +kernel
theorem dX2_relaxedHeadOfEnd_29 : decode cX2_relaxedHeadOfEnd 29 = .ok (.iaload, 1) := by decide +kernel
theorem dX2_relaxedHeadOfEnd_30 : decode cX2_relaxedHeadOfEnd 30 = .ok (.i2d, 1) := by decide +kernel
theorem dX2_relaxedHeadOfEnd_31 : decode cX2_relaxedHeadOfEnd 31 = .ok (.dreturn, 1) := by decide +kernel
set_option maxRecDepth 20000 in
theorem ggX2_exactHeadAsDouble_X2_partOf : GoodIn wsX2_exactHeadAsDouble wsX2_partOf := goodIn_ca (goodIn_r _ [7, 1, 8, 9, 10, 6, 11, 12, 13, 14, 15, 16, 17, 18, 19, 20, 21, 22, 23, 24, 25, 26, 27, 28, 29] (by decide +kernel) (by decide +kernel)) (goodIn_sub (fun _ h => List.mem_cons_of_mem _ (List.mem_append_right _ h)) (by decide +kernel))
set_option maxRecDepth 20000 in
theorem gX2_exactHeadAsDouble_X2_partOf : GoodIn wsX2_exactHeadAsDouble (wsV RX2 95 RX2 yX2_partOf wsX2_partOf) := goodIn_app (goodIn_of _ (by decide +kernel)) ggX2_exactHeadAsDouble_X2_partOf
theorem dX2_exactHeadAsDouble_0 : decode cX2_exactHeadAsDouble 0 = .ok (.aload_n 0, 1) := by decide +kernel
theorem dX2_exactHeadAsDouble_1 : decode cX2_exactHeadAsDouble 1 = .ok (.getfield 27, 3) := by decide +kernel
theorem dX2_exactHeadAsDouble_4 : decode cX2_exactHeadAsDouble 4 = .ok (.getfield 92, 3) := by decide +kernel
theorem dX2_exactHeadAsDouble_7 : decode cX2_exactHeadAsDouble 7 = .ok (.iload_n 1, 1) := by decide +kernel
theorem dX2_exactHeadAsDouble_8 : decode cX2_exactHeadAsDouble 8 = .ok (.laload, 1) := by decide +kernel
theorem dX2_exactHeadAsDouble_9 : decode cX2_exactHeadAsDouble 9 = .ok (.lstore_n 2, 1) := by decide +kernel
theorem dX2_exactHeadAsDouble_10 : decode cX2_exactHeadAsDouble 10 = .ok (.aload_n 0, 1) := by decide +kernel
theorem dX2_exactHeadAsDouble_11 : decode cX2_exactHeadAsDouble 11 = .ok (.lload_n 2, 1) := by decide +kernel
theorem dX2_exactHeadAsDouble_12 : decode cX2_exactHeadAsDouble 12 = .ok (.iconst 0, 1) := by decide +kernel
theorem dX2_exactHeadAsDouble_13 : decode cX2_exactHeadAsDouble 13 = .ok (.invokevirtual 95, 3) := by decide +kernel
theorem dX2_exactHeadAsDouble_16 : decode cX2_exactHeadAsDouble 16 = .ok (.l2d, 1) := by decide +kernel
theorem dX2_exactHeadAsDouble_17 : decode cX2_exactHeadAsDouble 17 = .ok (.aload_n 0, 1) := by decide +kernel
theorem dX2_exactHeadAsDouble_18 : decode cX2_exactHeadAsDouble 18 = .ok (.lload_n 2, 1) := by decide +kernel
theorem dX2_exactHeadAsDouble_19 : decode cX2_exactHeadAsDouble 19 = .ok (.iconst 1, 1) := by decide +kernel
theorem dX2_exactHeadAsDouble_20 : decode cX2_exactHeadAsDouble 20 = .ok (.invokevirtual 95, 3) := by decide +kernel
theorem dX2_exactHeadAsDouble_23 : decode cX2_exactHeadAsDouble 23 = .ok (.l2d, 1) := by decide +kernel
theorem dX2_exactHeadAsDouble_24 : decode cX2_exactHeadAsDouble 24 = .ok (.ddiv, 1) := by decide +kernel
theorem dX2_exactHeadAsDouble_25 : decode cX2_exactHeadAsDouble 25 = .ok (.dreturn, 1) := by decide +kernel
theorem dX2_distance_0 : decode cX2_distance 0 = .ok (.dload_n 0, 1) := by decide +kernel
theorem dX2_distance_1 : decode cX2_distance 1 = .ok (.dload_n 2, 1) := by decide +kernel
theorem dX2_distance_2 : decode cX2_distance 2 = .ok (.dsub, 1) := by decide +kernel
theorem dX2_distance_3 : decode cX2_distance 3 = .ok (.dstore 4, 2) := by decide +kernel
theorem dX2_distance_5 : decode cX2_distance 5 = .ok (.dload 4, 2) := by decide +kernel
theorem dX2_distance_7 : decode cX2_distance 7 = .ok (.dconst 0, 1) := by decide +kernel
theorem dX2_distance_8 : decode cX2_distance 8 = .ok (.dcmp .g, 1) := by decide +kernel
theorem dX2_distance_9 : decode cX2_distance 9 = .ok (.ifCond .ge 9, 3) := by decide +kernel
theorem dX2_distance_12 : decode cX2_distance 12 = .ok (.dload 4, 2) := by decide +kernel
theorem dX2_distance_14 : decode cX2_distance 14 = .ok (.dneg, 1) := by decide +kernel
theorem dX2_distance_15 : decode cX2_distance 15 = .ok (.goto 5, 3) := by decide +kernel
theorem dX2_distance_18 : decode cX2_distance 18 = .ok (.dload 4, 2) := by decide +kernel
theorem dX2_distance_20 : decode cX2_distance 20 = .ok (.dreturn, 1) := by decide +kernel
theorem dX2_linkOf_0 : decode cX2_linkOf 0 = .ok (.iload_n 0, 1) := by decide +kernel
theorem dX2_linkOf_1 : decode cX2_linkOf 1 = .ok (.iconst 3, 1) := by decide +kernel
theorem dX2_linkOf_2 : decode cX2_linkOf 2 = .ok (.idiv, 1) := by decide +kernel
theorem dX2_linkOf_3 : decode cX2_linkOf 3 = .ok (.istore_n 2, 1) := by decide +kernel
theorem dX2_linkOf_4 : decode cX2_linkOf 4 = .ok (.iload_n 0, 1) := by decide +kernel
theorem dX2_linkOf_5 : decode cX2_linkOf 5 = .ok (.iconst 3, 1) := by decide +kernel
theorem dX2_linkOf_6 : decode cX2_linkOf 6 = .ok (.irem, 1) := by decide +kernel
theorem dX2_linkOf_7 : decode cX2_linkOf 7 = .ok (.istore_n 3, 1) := by decide +kernel
theorem dX2_linkOf_8 : decode cX2_linkOf 8 = .ok (.iload_n 1, 1) := by decide +kernel
theorem dX2_linkOf_9 : decode cX2_linkOf 9 = .ok (.tableswitch 55 0 2 #[27, 36, 44], 27) := by decide +kernel
theorem dX2_linkOf_36 : decode cX2_linkOf 36 = .ok (.bipush 12, 2) := by decide +kernel
theorem dX2_linkOf_38 : decode cX2_linkOf 38 = .ok (.iconst 4, 1) := by decide +kernel
theorem dX2_linkOf_39 : decode cX2_linkOf 39 = .ok (.iload_n 3, 1) := by decide +kernel
theorem dX2_linkOf_40 : decode cX2_linkOf 40 = .ok (.imul, 1) := by decide +kernel
theorem dX2_linkOf_41 : decode cX2_linkOf 41 = .ok (.iadd, 1) := by decide +kernel
theorem dX2_linkOf_42 : decode cX2_linkOf 42 = .ok (.iload_n 2, 1) := by decide +kernel
theorem dX2_linkOf_43 : decode cX2_linkOf 43 = .ok (.iadd, 1) := by decide +kernel
theorem dX2_linkOf_44 : decode cX2_linkOf 44 = .ok (.ireturn, 1) := by decide +kernel
theorem dX2_linkOf_45 : decode cX2_linkOf 45 = .ok (.iconst 4, 1) := by decide +kernel
theorem dX2_linkOf_46 : decode cX2_linkOf 46 = .ok (.iload_n 2, 1) := by decide +kernel
theorem dX2_linkOf_47 : decode cX2_linkOf 47 = .ok (.imul, 1) := by decide +kernel
theorem dX2_linkOf_48 : decode cX2_linkOf 48 = .ok (.iload_n 3, 1) := by decide +kernel
theorem dX2_linkOf_49 : decode cX2_linkOf 49 = .ok (.iadd, 1) := by decide +kernel
theorem dX2_linkOf_50 : decode cX2_linkOf 50 = .ok (.iconst 1, 1) := by decide +kernel
theorem dX2_linkOf_51 : decode cX2_linkOf 51 = .ok (.iadd, 1) := by decide +kernel
theorem dX2_linkOf_52 : decode cX2_linkOf 52 = .ok (.ireturn, 1) := by decide +kernel
theorem dX2_linkOf_53 : decode cX2_linkOf 53 = .ok (.bipush 12, 2) := by decide +kernel
theorem dX2_linkOf_55 : decode cX2_linkOf 55 = .ok (.iconst 4, 1) := by decide +kernel
theorem dX2_linkOf_56 : decode cX2_linkOf 56 = .ok (.iload_n 3, 1) := by decide +kernel
theorem dX2_linkOf_57 : decode cX2_linkOf 57 = .ok (.imul, 1) := by decide +kernel
theorem dX2_linkOf_58 : decode cX2_linkOf 58 = .ok (.iadd, 1) := by decide +kernel
theorem dX2_linkOf_59 : decode cX2_linkOf 59 = .ok (.iload_n 2, 1) := by decide +kernel
theorem dX2_linkOf_60 : decode cX2_linkOf 60 = .ok (.iadd, 1) := by decide +kernel
theorem dX2_linkOf_61 : decode cX2_linkOf 61 = .ok (.iconst 1, 1) := by decide +kernel
theorem dX2_linkOf_62 : decode cX2_linkOf 62 = .ok (.iadd, 1) := by decide +kernel
theorem dX2_linkOf_63 : decode cX2_linkOf 63 = .ok (.ireturn, 1) := by decide +kernel
theorem dX2_linkOf_64 : decode cX2_linkOf 64 = .ok (.iconst 4, 1) := by decide +kernel
theorem dX2_linkOf_65 : decode cX2_linkOf 65 = .ok (.iload_n 2, 1) := by decide +kernel
theorem dX2_linkOf_66 : decode cX2_linkOf 66 = .ok (.imul, 1) := by decide +kernel
theorem dX2_linkOf_67 : decode cX2_linkOf 67 = .ok (.iload_n 3, 1) := by decide +kernel
theorem dX2_linkOf_68 : decode cX2_linkOf 68 = .ok (.iadd, 1) := by decide +kernel
theorem dX2_linkOf_69 : decode cX2_linkOf 69 = .ok (.ireturn, 1) := by decide +kernel
theorem dX2_otherEnd_0 : decode cX2_otherEnd 0 = .ok (.getstatic 216, 3) := by decide +kernel
theorem dX2_otherEnd_3 : decode cX2_otherEnd 3 = .ok (.iload_n 0, 1) := by decide +kernel
theorem dX2_otherEnd_4 : decode cX2_otherEnd 4 = .ok (.iaload, 1) := by decide +kernel
theorem dX2_otherEnd_5 : decode cX2_otherEnd 5 = .ok (.iload_n 1, 1) := by decide +kernel
theorem dX2_otherEnd_6 : decode cX2_otherEnd 6 = .ok (.if_icmp .ne 11, 3) := by decide +kernel
theorem dX2_otherEnd_9 : decode cX2_otherEnd 9 = .ok (.getstatic 222, 3) := by decide +kernel
theorem dX2_otherEnd_12 : decode cX2_otherEnd 12 = .ok (.iload_n 0, 1) := by decide +kernel
theorem dX2_otherEnd_13 : decode cX2_otherEnd 13 = .ok (.iaload, 1) := by decide +kernel
theorem dX2_otherEnd_14 : decode cX2_otherEnd 14 = .ok (.goto 8, 3) := by decide +kernel
theorem dX2_otherEnd_17 : decode cX2_otherEnd 17 = .ok (.getstatic 216, 3) := by decide +kernel
theorem dX2_otherEnd_20 : decode cX2_otherEnd 20 = .ok (.iload_n 0, 1) := by decide +kernel
theorem dX2_otherEnd_21 : decode cX2_otherEnd 21 = .ok (.iaload, 1) := by decide +kernel
theorem dX2_otherEnd_22 : decode cX2_otherEnd 22 = .ok (.ireturn, 1) := by decide +kernel
theorem dX2_mix_0 : decode cX2_mix 0 = .ok (.ldc2_w 266, 3) := by decide +kernel
theorem dX2_mix_3 : decode cX2_mix 3 = .ok (.lload_n 0, 1) := by decide +kernel
theorem dX2_mix_4 : decode cX2_mix 4 = .ok (.lmul, 1) := by decide +kernel
theorem dX2_mix_5 : decode cX2_mix 5 = .ok (.lload_n 2, 1) := by decide +kernel
theorem dX2_mix_6 : decode cX2_mix 6 = .ok (.ladd, 1) := by decide +kernel
theorem dX2_mix_7 : decode cX2_mix 7 = .ok (.lreturn, 1) := by decide +kernel
set_option maxRecDepth 20000 in
theorem ggX2_mixAll_X2_mix : GoodIn wsX2_mixAll wsX2_mix := goodIn_r _ [4, 5] (by decide +kernel) (by decide +kernel)
set_option maxRecDepth 20000 in
theorem gX2_mixAll_X2_mix : GoodIn wsX2_mixAll (va_wsS RX2 160 yX2_mix wsX2_mix) := goodIn_app (goodIn_of _ (by decide +kernel)) ggX2_mixAll_X2_mix
theorem dX2_mixAll_0 : decode cX2_mixAll 0 = .ok (.lload_n 0, 1) := by decide +kernel
theorem dX2_mixAll_1 : decode cX2_mixAll 1 = .ok (.lstore_n 3, 1) := by decide +kernel
theorem dX2_mixAll_2 : decode cX2_mixAll 2 = .ok (.aload_n 2, 1) := by decide +kernel
theorem dX2_mixAll_3 : decode cX2_mixAll 3 = .ok (.astore 5, 2) := by decide +kernel
theorem dX2_mixAll_5 : decode cX2_mixAll 5 = .ok (.aload 5, 2) := by decide +kernel
theorem dX2_mixAll_7 : decode cX2_mixAll 7 = .ok (.arraylength, 1) := by decide +kernel
theorem dX2_mixAll_8 : decode cX2_mixAll 8 = .ok (.istore 6, 2) := by decide +kernel
theorem dX2_mixAll_10 : decode cX2_mixAll 10 = .ok (.iconst 0, 1) := by decide +kernel
theorem dX2_mixAll_11 : decode cX2_mixAll 11 = .ok (.istore 7, 2) := by decide +kernel
theorem dX2_mixAll_13 : decode cX2_mixAll 13 = .ok (.iload 7, 2) := by decide +kernel
theorem dX2_mixAll_15 : decode cX2_mixAll 15 = .ok (.iload 6, 2) := by decide +kernel
theorem dX2_mixAll_17 : decode cX2_mixAll 17 = .ok (.if_icmp .ge 24, 3) := by decide +kernel
theorem dX2_mixAll_20 : decode cX2_mixAll 20 = .ok (.aload 5, 2) := by decide +kernel
theorem dX2_mixAll_22 : decode cX2_mixAll 22 = .ok (.iload 7, 2) := by decide +kernel
theorem dX2_mixAll_24 : decode cX2_mixAll 24 = .ok (.iaload, 1) := by decide +kernel
theorem dX2_mixAll_25 : decode cX2_mixAll 25 = .ok (.istore 8, 2) := by decide +kernel
theorem dX2_mixAll_27 : decode cX2_mixAll 27 = .ok (.lload_n 3, 1) := by decide +kernel
theorem dX2_mixAll_28 : decode cX2_mixAll 28 = .ok (.iload 8, 2) := by decide +kernel
theorem dX2_mixAll_30 : decode cX2_mixAll 30 = .ok (.i2l, 1) := by decide +kernel
theorem dX2_mixAll_31 : decode cX2_mixAll 31 = .ok (.invokestatic 160, 3) := by decide +kernel
theorem dX2_mixAll_34 : decode cX2_mixAll 34 = .ok (.lstore_n 3, 1) := by decide +kernel
theorem dX2_mixAll_35 : decode cX2_mixAll 35 = .ok (.iinc 7 1, 3) := by decide +kernel
theorem dX2_mixAll_38 : decode cX2_mixAll 38 = .ok (.goto (-25), 3) := by decide +kernel
theorem dX2_mixAll_41 : decode cX2_mixAll 41 = .ok (.lload_n 3, 1) := by decide +kernel
theorem dX2_mixAll_42 : decode cX2_mixAll 42 = .ok (.lreturn, 1) := by decide +kernel
set_option maxRecDepth 20000 in
theorem ggX2_mixHeads_X2_partOf : GoodIn wsX2_mixHeads wsX2_partOf := goodIn_ca (goodIn_r _ [7, 1, 8, 9, 10, 6, 11, 12, 13, 14, 15, 16, 17, 18, 23, 24, 25, 26, 27, 28, 29, 30, 31, 32, 33] (by decide +kernel) (by decide +kernel)) (goodIn_sub (fun _ h => List.mem_cons_of_mem _ (List.mem_append_right _ h)) (by decide +kernel))
set_option maxRecDepth 20000 in
theorem gX2_mixHeads_X2_partOf : GoodIn wsX2_mixHeads (wsV RX2 95 RX2 yX2_partOf wsX2_partOf) := goodIn_app (goodIn_of _ (by decide +kernel)) ggX2_mixHeads_X2_partOf
set_option maxRecDepth 20000 in
theorem ggX2_mixHeads_X2_mix : GoodIn wsX2_mixHeads wsX2_mix := goodIn_r _ [21, 22] (by decide +kernel) (by decide +kernel)
set_option maxRecDepth 20000 in
theorem gX2_mixHeads_X2_mix : GoodIn wsX2_mixHeads (va_wsS RX2 160 yX2_mix wsX2_mix) := goodIn_app (goodIn_of _ (by decide +kernel)) ggX2_mixHeads_X2_mix
theorem dX2_mixHeads_0 : decode cX2_mixHeads 0 = .ok (.lload_n 1, 1) := by decide +kernel
theorem dX2_mixHeads_1 : decode cX2_mixHeads 1 = .ok (.lstore_n 3, 1) := by decide +kernel
theorem dX2_mixHeads_2 : decode cX2_mixHeads 2 = .ok (.iconst 0, 1) := by decide +kernel
theorem dX2_mixHeads_3 : decode cX2_mixHeads 3 = .ok (.istore 5, 2) := by decide +kernel
theorem dX2_mixHeads_5 : decode cX2_mixHeads 5 = .ok (.iload 5, 2) := by decide +kernel
theorem dX2_mixHeads_7 : decode cX2_mixHeads 7 = .ok (.bipush 9, 2) := by decide +kernel
theorem dX2_mixHeads_9 : decode cX2_mixHeads 9 = .ok (.if_icmp .ge 45, 3) := by decide +kernel
theorem dX2_mixHeads_12 : decode cX2_mixHeads 12 = .ok (.aload_n 0, 1) := by decide +kernel
theorem dX2_mixHeads_13 : decode cX2_mixHeads 13 = .ok (.getfield 27, 3) := by decide +kernel
theorem dX2_mixHeads_16 : decode cX2_mixHeads 16 = .ok (.getfield 92, 3) := by decide +kernel
theorem dX2_mixHeads_19 : decode cX2_mixHeads 19 = .ok (.iload 5, 2) := by decide +kernel
theorem dX2_mixHeads_21 : decode cX2_mixHeads 21 = .ok (.laload, 1) := by decide +kernel
theorem dX2_mixHeads_22 : decode cX2_mixHeads 22 = .ok (.lstore 6, 2) := by decide +kernel
theorem dX2_mixHeads_24 : decode cX2_mixHeads 24 = .ok (.lload_n 3, 1) := by decide +kernel
theorem dX2_mixHeads_25 : decode cX2_mixHeads 25 = .ok (.aload_n 0, 1) := by decide +kernel
theorem dX2_mixHeads_26 : decode cX2_mixHeads 26 = .ok (.lload 6, 2) := by decide +kernel
theorem dX2_mixHeads_28 : decode cX2_mixHeads 28 = .ok (.iconst 0, 1) := by decide +kernel
theorem dX2_mixHeads_29 : decode cX2_mixHeads 29 = .ok (.invokevirtual 95, 3) := by decide +kernel
theorem dX2_mixHeads_32 : decode cX2_mixHeads 32 = .ok (.invokestatic 160, 3) := by decide +kernel
theorem dX2_mixHeads_35 : decode cX2_mixHeads 35 = .ok (.lstore_n 3, 1) := by decide +kernel
theorem dX2_mixHeads_36 : decode cX2_mixHeads 36 = .ok (.lload_n 3, 1) := by decide +kernel
theorem dX2_mixHeads_37 : decode cX2_mixHeads 37 = .ok (.aload_n 0, 1) := by decide +kernel
theorem dX2_mixHeads_38 : decode cX2_mixHeads 38 = .ok (.lload 6, 2) := by decide +kernel
theorem dX2_mixHeads_40 : decode cX2_mixHeads 40 = .ok (.iconst 1, 1) := by decide +kernel
theorem dX2_mixHeads_41 : decode cX2_mixHeads 41 = .ok (.invokevirtual 95, 3) := by decide +kernel
theorem dX2_mixHeads_44 : decode cX2_mixHeads 44 = .ok (.invokestatic 160, 3) := by decide +kernel
theorem dX2_mixHeads_47 : decode cX2_mixHeads 47 = .ok (.lstore_n 3, 1) := by decide +kernel
theorem dX2_mixHeads_48 : decode cX2_mixHeads 48 = .ok (.iinc 5 1, 3) := by decide +kernel
theorem dX2_mixHeads_51 : decode cX2_mixHeads 51 = .ok (.goto (-46), 3) := by decide +kernel
theorem dX2_mixHeads_54 : decode cX2_mixHeads 54 = .ok (.lload_n 3, 1) := by decide +kernel
theorem dX2_mixHeads_55 : decode cX2_mixHeads 55 = .ok (.lreturn, 1) := by decide +kernel
theorem dX2_bitsOf_0 : decode cX2_bitsOf 0 = .ok (.dload_n 0, 1) := by decide +kernel
theorem dX2_bitsOf_1 : decode cX2_bitsOf 1 = .ok (.dconst 0, 1) := by decide +kernel
theorem dX2_bitsOf_2 : decode cX2_bitsOf 2 = .ok (.dcmp .l, 1) := by decide +kernel
theorem dX2_bitsOf_3 : decode cX2_bitsOf 3 = .ok (.ifCond .ne 19, 3) := by decide +kernel
theorem dX2_bitsOf_6 : decode cX2_bitsOf 6 = .ok (.dconst 1, 1) := by decide +kernel
theorem dX2_bitsOf_7 : decode cX2_bitsOf 7 = .ok (.dload_n 0, 1) := by decide +kernel
theorem dX2_bitsOf_8 : decode cX2_bitsOf 8 = .ok (.ddiv, 1) := by decide +kernel
theorem dX2_bitsOf_9 : decode cX2_bitsOf 9 = .ok (.dconst 0, 1) := by decide +kernel
theorem dX2_bitsOf_10 : decode cX2_bitsOf 10 = .ok (.dcmp .g, 1) := by decide +kernel
theorem dX2_bitsOf_11 : decode cX2_bitsOf 11 = .ok (.ifCond .ge 9, 3) := by decide +kernel
theorem dX2_bitsOf_14 : decode cX2_bitsOf 14 = .ok (.ldc2_w 268, 3) := by decide +kernel
theorem dX2_bitsOf_17 : decode cX2_bitsOf 17 = .ok (.goto 4, 3) := by decide +kernel
theorem dX2_bitsOf_20 : decode cX2_bitsOf 20 = .ok (.lconst 0, 1) := by decide +kernel
theorem dX2_bitsOf_21 : decode cX2_bitsOf 21 = .ok (.lreturn, 1) := by decide +kernel
theorem dX2_bitsOf_22 : decode cX2_bitsOf 22 = .ok (.dload_n 0, 1) := by decide +kernel
theorem dX2_bitsOf_23 : decode cX2_bitsOf 23 = .ok (.dconst 0, 1) := by decide +kernel
theorem dX2_bitsOf_24 : decode cX2_bitsOf 24 = .ok (.dcmp .g, 1) := by decide +kernel
theorem dX2_bitsOf_25 : decode cX2_bitsOf 25 = .ok (.ifCond .ge 9, 3) := by decide +kernel
theorem dX2_bitsOf_28 : decode cX2_bitsOf 28 = .ok (.ldc2_w 268, 3) := by decide +kernel
theorem dX2_bitsOf_31 : decode cX2_bitsOf 31 = .ok (.goto 4, 3) := by decide +kernel
theorem dX2_bitsOf_34 : decode cX2_bitsOf 34 = .ok (.lconst 0, 1) := by decide +kernel
theorem dX2_bitsOf_35 : decode cX2_bitsOf 35 = .ok (.lstore_n 2, 1) := by decide +kernel
theorem dX2_bitsOf_36 : decode cX2_bitsOf 36 = .ok (.dload_n 0, 1) := by decide +kernel
theorem dX2_bitsOf_37 : decode cX2_bitsOf 37 = .ok (.dconst 0, 1) := by decide +kernel
theorem dX2_bitsOf_38 : decode cX2_bitsOf 38 = .ok (.dcmp .g, 1) := by decide +kernel
theorem dX2_bitsOf_39 : decode cX2_bitsOf 39 = .ok (.ifCond .ge 8, 3) := by decide +kernel
theorem dX2_bitsOf_42 : decode cX2_bitsOf 42 = .ok (.dload_n 0, 1) := by decide +kernel
theorem dX2_bitsOf_43 : decode cX2_bitsOf 43 = .ok (.dneg, 1) := by decide +kernel
theorem dX2_bitsOf_44 : decode cX2_bitsOf 44 = .ok (.goto 4, 3) := by decide +kernel
theorem dX2_bitsOf_47 : decode cX2_bitsOf 47 = .ok (.dload_n 0, 1) := by decide +kernel
theorem dX2_bitsOf_48 : decode cX2_bitsOf 48 = .ok (.dstore 4, 2) := by decide +kernel
theorem dX2_bitsOf_50 : decode cX2_bitsOf 50 = .ok (.iconst 0, 1) := by decide +kernel
theorem dX2_bitsOf_51 : decode cX2_bitsOf 51 = .ok (.istore 6, 2) := by decide +kernel
theorem dX2_bitsOf_53 : decode cX2_bitsOf 53 = .ok (.dload 4, 2) := by decide +kernel
theorem dX2_bitsOf_55 : decode cX2_bitsOf 55 = .ok (.ldc2_w 270, 3) := by decide +kernel
theorem dX2_bitsOf_58 : decode cX2_bitsOf 58 = .ok (.dcmp .l, 1) := by decide +kernel
theorem dX2_bitsOf_59 : decode cX2_bitsOf 59 = .ok (.ifCond .lt 25, 3) := by decide +kernel
theorem dX2_bitsOf_62 : decode cX2_bitsOf 62 = .ok (.iload 6, 2) := by decide +kernel
theorem dX2_bitsOf_64 : decode cX2_bitsOf 64 = .ok (.sipush 1023, 3) := by decide +kernel
theorem dX2_bitsOf_67 : decode cX2_bitsOf 67 = .ok (.if_icmp .ge 17, 3) := by decide +kernel
theorem dX2_bitsOf_70 : decode cX2_bitsOf 70 = .ok (.dload 4, 2) := by decide +kernel
theorem dX2_bitsOf_72 : decode cX2_bitsOf 72 = .ok (.ldc2_w 270, 3) := by decide +kernel
theorem dX2_bitsOf_75 : decode cX2_bitsOf 75 = .ok (.ddiv, 1) := by decide +kernel
theorem dX2_bitsOf_76 : decode cX2_bitsOf 76 = .ok (.dstore 4, 2) := by decide +kernel
theorem dX2_bitsOf_78 : decode cX2_bitsOf 78 = .ok (.iinc 6 1, 3) := by decide +kernel
theorem dX2_bitsOf_81 : decode cX2_bitsOf 81 = .ok (.goto (-28), 3) := by decide +kernel
theorem dX2_bitsOf_84 : decode cX2_bitsOf 84 = .ok (.dload 4, 2) := by decide +kernel
theorem dX2_bitsOf_86 : decode cX2_bitsOf 86 = .ok (.dconst 1, 1) := by decide +kernel
theorem dX2_bitsOf_87 : decode cX2_bitsOf 87 = .ok (.dcmp .g, 1) := by decide +kernel
theorem dX2_bitsOf_88 : decode cX2_bitsOf 88 = .ok (.ifCond .ge 25, 3) := by decide +kernel
theorem dX2_bitsOf_91 : decode cX2_bitsOf 91 = .ok (.iload 6, 2) := by decide +kernel
theorem dX2_bitsOf_93 : decode cX2_bitsOf 93 = .ok (.sipush (-1022), 3) := by decide +kernel
theorem dX2_bitsOf_96 : decode cX2_bitsOf 96 = .ok (.if_icmp .le 17, 3) := by decide +kernel
theorem dX2_bitsOf_99 : decode cX2_bitsOf 99 = .ok (.dload 4, 2) := by decide +kernel
theorem dX2_bitsOf_101 : decode cX2_bitsOf 101 = .ok (.ldc2_w 270, 3) := by decide +kernel
theorem dX2_bitsOf_104 : decode cX2_bitsOf 104 = .ok (.dmul, 1) := by decide +kernel
theorem dX2_bitsOf_105 : decode cX2_bitsOf 105 = .ok (.dstore 4, 2) := by decide +kernel
theorem dX2_bitsOf_107 : decode cX2_bitsOf 107 = .ok (.iinc 6 (-1), 3) := by decide +kernel
theorem dX2_bitsOf_110 : decode cX2_bitsOf 110 = .ok (.goto (-26), 3) := by decide +kernel
theorem dX2_bitsOf_113 : decode cX2_bitsOf 113 = .ok (.ldc2_w 272, 3) := by decide +kernel
theorem dX2_bitsOf_116 : decode cX2_bitsOf 116 = .ok (.lstore 7, 2) := by decide +kernel
theorem dX2_bitsOf_118 : decode cX2_bitsOf 118 = .ok (.dload 4, 2) := by decide +kernel
theorem dX2_bitsOf_120 : decode cX2_bitsOf 120 = .ok (.lload 7, 2) := by decide +kernel
theorem dX2_bitsOf_122 : decode cX2_bitsOf 122 = .ok (.l2d, 1) := by decide +kernel
theorem dX2_bitsOf_123 : decode cX2_bitsOf 123 = .ok (.dmul, 1) := by decide +kernel
theorem dX2_bitsOf_124 : decode cX2_bitsOf 124 = .ok (.d2l, 1) := by decide +kernel
theorem dX2_bitsOf_125 : decode cX2_bitsOf 125 = .ok (.lstore 9, 2) := by decide +kernel
theorem dX2_bitsOf_127 : decode cX2_bitsOf 127 = .ok (.lload 9, 2) := by decide +kernel
theorem dX2_bitsOf_129 : decode cX2_bitsOf 129 = .ok (.lload 7, 2) := by decide +kernel
theorem dX2_bitsOf_131 : decode cX2_bitsOf 131 = .ok (.lcmp, 1) := by decide +kernel
theorem dX2_bitsOf_132 : decode cX2_bitsOf 132 = .ok (.ifCond .ge 8, 3) := by decide +kernel
theorem dX2_bitsOf_135 : decode cX2_bitsOf 135 = .ok (.lload_n 2, 1) := by decide +kernel
theorem dX2_bitsOf_136 : decode cX2_bitsOf 136 = .ok (.lload 9, 2) := by decide +kernel
theorem dX2_bitsOf_138 : decode cX2_bitsOf 138 = .ok (.lor, 1) := by decide +kernel
theorem dX2_bitsOf_139 : decode cX2_bitsOf 139 = .ok (.lreturn, 1) := by decide +kernel
theorem dX2_bitsOf_140 : decode cX2_bitsOf 140 = .ok (.lload_n 2, 1) := by decide +kernel
theorem dX2_bitsOf_141 : decode cX2_bitsOf 141 = .ok (.iload 6, 2) := by decide +kernel
theorem dX2_bitsOf_143 : decode cX2_bitsOf 143 = .ok (.sipush 1023, 3) := by decide +kernel
theorem dX2_bitsOf_146 : decode cX2_bitsOf 146 = .ok (.iadd, 1) := by decide +kernel
theorem dX2_bitsOf_147 : decode cX2_bitsOf 147 = .ok (.i2l, 1) := by decide +kernel
theorem dX2_bitsOf_148 : decode cX2_bitsOf 148 = .ok (.bipush 52, 2) := by decide +kernel
theorem dX2_bitsOf_150 : decode cX2_bitsOf 150 = .ok (.lshl, 1) := by decide +kernel
theorem dX2_bitsOf_151 : decode cX2_bitsOf 151 = .ok (.lor, 1) := by decide +kernel
theorem dX2_bitsOf_152 : decode cX2_bitsOf 152 = .ok (.lload 9, 2) := by decide +kernel
theorem dX2_bitsOf_154 : decode cX2_bitsOf 154 = .ok (.lload 7, 2) := by decide +kernel
theorem dX2_bitsOf_156 : decode cX2_bitsOf 156 = .ok (.lsub, 1) := by decide +kernel
theorem dX2_bitsOf_157 : decode cX2_bitsOf 157 = .ok (.lor, 1) := by decide +kernel
theorem dX2_bitsOf_158 : decode cX2_bitsOf 158 = .ok (.lreturn, 1) := by decide +kernel
theorem dX3_init_0 : decode cX3_init 0 = .ok (.aload_n 0, 1) := by decide +kernel
theorem dX3_init_1 : decode cX3_init 1 = .ok (.invokespecial 1, 3) := by decide +kernel
theorem dX3_init_4 : decode cX3_init 4 = .ok (.aload_n 0, 1) := by decide +kernel
theorem dX3_init_5 : decode cX3_init 5 = .ok (.bipush 72, 2) := by decide +kernel
theorem dX3_init_7 : decode cX3_init 7 = .ok (.newarray .int, 2) := by decide +kernel
theorem dX3_init_9 : decode cX3_init 9 = .ok (.putfield 7, 3) := by decide +kernel
theorem dX3_init_12 : decode cX3_init 12 = .ok (.aload_n 0, 1) := by decide +kernel
theorem dX3_init_13 : decode cX3_init 13 = .ok (.bipush 9, 2) := by decide +kernel
theorem dX3_init_15 : decode cX3_init 15 = .ok (.newarray .double, 2) := by decide +kernel
theorem dX3_init_17 : decode cX3_init 17 = .ok (.putfield 13, 3) := by decide +kernel
theorem dX3_init_20 : decode cX3_init 20 = .ok (.aload_n 0, 1) := by decide +kernel
theorem dX3_init_21 : decode cX3_init 21 = .ok (.sipush 288, 3) := by decide +kernel
theorem dX3_init_24 : decode cX3_init 24 = .ok (.newarray .int, 2) := by decide +kernel
theorem dX3_init_26 : decode cX3_init 26 = .ok (.putfield 17, 3) := by decide +kernel
theorem dX3_init_29 : decode cX3_init 29 = .ok (.aload_n 0, 1) := by decide +kernel
theorem dX3_init_30 : decode cX3_init 30 = .ok (.bipush 36, 2) := by decide +kernel
theorem dX3_init_32 : decode cX3_init 32 = .ok (.newarray .double, 2) := by decide +kernel
theorem dX3_init_34 : decode cX3_init 34 = .ok (.putfield 20, 3) := by decide +kernel
theorem dX3_init_37 : decode cX3_init 37 = .ok (.aload_n 0, 1) := by decide +kernel
theorem dX3_init_38 : decode cX3_init 38 = .ok (.bipush 81, 2) := by decide +kernel
theorem dX3_init_40 : decode cX3_init 40 = .ok (.newarray .long, 2) := by decide +kernel
theorem dX3_init_42 : decode cX3_init 42 = .ok (.putfield 23, 3) := by decide +kernel
theorem dX3_init_45 : decode cX3_init 45 = .ok (.aload_n 0, 1) := by decide +kernel
theorem dX3_init_46 : decode cX3_init 46 = .ok (.bipush 9, 2) := by decide +kernel
theorem dX3_init_48 : decode cX3_init 48 = .ok (.newarray .long, 2) := by decide +kernel
theorem dX3_init_50 : decode cX3_init 50 = .ok (.putfield 27, 3) := by decide +kernel
theorem dX3_init_53 : decode cX3_init 53 = .ok (.aload_n 0, 1) := by decide +kernel
theorem dX3_init_54 : decode cX3_init 54 = .ok (.sipush 512, 3) := by decide +kernel
theorem dX3_init_57 : decode cX3_init 57 = .ok (.newarray .long, 2) := by decide +kernel
theorem dX3_init_59 : decode cX3_init 59 = .ok (.putfield 30, 3) := by decide +kernel
theorem dX3_init_62 : decode cX3_init 62 = .ok (.aload_n 0, 1) := by decide +kernel
theorem dX3_init_63 : decode cX3_init 63 = .ok (.bipush 81, 2) := by decide +kernel
theorem dX3_init_65 : decode cX3_init 65 = .ok (.newarray .long, 2) := by decide +kernel
theorem dX3_init_67 : decode cX3_init 67 = .ok (.putfield 33, 3) := by decide +kernel
theorem dX3_init_70 : decode cX3_init 70 = .ok (.aload_n 0, 1) := by decide +kernel
theorem dX3_init_71 : decode cX3_init 71 = .ok (.bipush 9, 2) := by decide +kernel
theorem dX3_init_73 : decode cX3_init 73 = .ok (.newarray .long, 2) := by decide +kernel
theorem dX3_init_75 : decode cX3_init 75 = .ok (.putfield 36, 3) := by decide +kernel
theorem dX3_init_78 : decode cX3_init 78 = .ok (.aload_n 0, 1) := by decide +kernel
theorem dX3_init_79 : decode cX3_init 79 = .ok (.bipush 9, 2) := by decide +kernel
theorem dX3_init_81 : decode cX3_init 81 = .ok (.newarray .long, 2) := by decide +kernel
theorem dX3_init_83 : decode cX3_init 83 = .ok (.putfield 39, 3) := by decide +kernel
theorem dX3_init_86 : decode cX3_init 86 = .ok (.aload_n 0, 1) := by decide +kernel
theorem dX3_init_87 : decode cX3_init 87 = .ok (.bipush 9, 2) := by decide +kernel
theorem dX3_init_89 : decode cX3_init 89 = .ok (.newarray .long, 2) := by decide +kernel
theorem dX3_init_91 : decode cX3_init 91 = .ok (.putfield 42, 3) := by decide +kernel
theorem dX3_init_94 : decode cX3_init 94 = .ok (.iconst 0, 1) := by decide +kernel
theorem dX3_init_95 : decode cX3_init 95 = .ok (.istore_n 1, 1) := by decide +kernel
theorem dX3_init_96 : decode cX3_init 96 = .ok (.iload_n 1, 1) := by decide +kernel
theorem dX3_init_97 : decode cX3_init 97 = .ok (.bipush 24, 2) := by decide +kernel
theorem dX3_init_99 : decode cX3_init 99 = .ok (.if_icmp .ge 18, 3) := by decide +kernel
theorem dX3_init_102 : decode cX3_init 102 = .ok (.aload_n 0, 1) := by decide +kernel
theorem dX3_init_103 : decode cX3_init 103 = .ok (.getfield 7, 3) := by decide +kernel
theorem dX3_init_106 : decode cX3_init 106 = .ok (.iconst 0, 1) := by decide +kernel
theorem dX3_init_107 : decode cX3_init 107 = .ok (.iload_n 1, 1) := by decide +kernel
theorem dX3_init_108 : decode cX3_init 108 = .ok (.iadd, 1) := by decide +kernel
theorem dX3_init_109 : decode cX3_init 109 = .ok (.iconst 1, 1) := by decide +kernel
theorem dX3_init_110 : decode cX3_init 110 = .ok (.iastore, 1) := by decide +kernel
theorem dX3_init_111 : decode cX3_init 111 = .ok (.iinc 1 1, 3) := by decide +kernel
theorem dX3_init_114 : decode cX3_init 114 = .ok (.goto (-18), 3) := by decide +kernel
theorem dX3_init_117 : decode cX3_init 117 = .ok (.bipush 24, 2) := by decide +kernel
theorem dX3_init_119 : decode cX3_init 119 = .ok (.istore_n 1, 1) := by decide +kernel
theorem dX3_init_120 : decode cX3_init 120 = .ok (.iload_n 1, 1) := by decide +kernel
theorem dX3_init_121 : decode cX3_init 121 = .ok (.bipush 36, 2) := by decide +kernel
theorem dX3_init_123 : decode cX3_init 123 = .ok (.if_icmp .ge 17, 3) := by decide +kernel
theorem dX3_init_126 : decode cX3_init 126 = .ok (.aload_n 0, 1) := by decide +kernel
theorem dX3_init_127 : decode cX3_init 127 = .ok (.getfield 7, 3) := by decide +kernel
theorem dX3_init_130 : decode cX3_init 130 = .ok (.iload_n 1, 1) := by decide +kernel
theorem dX3_init_131 : decode cX3_init 131 = .ok (.bipush 100, 2) := by decide +kernel
theorem dX3_init_133 : decode cX3_init 133 = .ok (.iastore, 1) := by decide +kernel
theorem dX3_init_134 : decode cX3_init 134 = .ok (.iinc 1 1, 3) := by decide +kernel
theorem dX3_init_137 : decode cX3_init 137 = .ok (.goto (-17), 3) := by decide +kernel
theorem dX3_init_140 : decode cX3_init 140 = .ok (.return_, 1) := by decide +kernel
theorem dX3_thrown_0 : decode cX3_thrown 0 = .ok (.aload_n 0, 1) := by decide +kernel
theorem dX3_thrown_1 : decode cX3_thrown 1 = .ok (.getfield 45, 3) := by decide +kernel
theorem dX3_thrown_4 : decode cX3_thrown 4 = .ok (.ireturn, 1) := by decide +kernel
theorem dX3_in_0 : decode cX3_in 0 = .ok (.iload_n 0, 1) := by decide +kernel
theorem dX3_in_1 : decode cX3_in 1 = .ok (.iload_n 1, 1) := by decide +kernel
theorem dX3_in_2 : decode cX3_in 2 = .ok (.if_icmp .lt 12, 3) := by decide +kernel
theorem dX3_in_5 : decode cX3_in 5 = .ok (.iload_n 0, 1) := by decide +kernel
theorem dX3_in_6 : decode cX3_in 6 = .ok (.iload_n 2, 1) := by decide +kernel
theorem dX3_in_7 : decode cX3_in 7 = .ok (.if_icmp .gt 7, 3) := by decide +kernel
theorem dX3_in_10 : decode cX3_in 10 = .ok (.iconst 1, 1) := by decide +kernel
theorem dX3_in_11 : decode cX3_in 11 = .ok (.goto 4, 3) := by decide +kernel
theorem dX3_in_14 : decode cX3_in 14 = .ok (.iconst 0, 1) := by decide +kernel
theorem dX3_in_15 : decode cX3_in 15 = .ok (.ireturn, 1) := by decide +kernel
set_option maxRecDepth 20000 in
theorem ggX3_isCell_X3_in : GoodIn wsX3_isCell wsX3_in := goodIn_r _ [4] (by decide +kernel) (by decide +kernel)
set_option maxRecDepth 20000 in
theorem gX3_isCell_X3_in : GoodIn wsX3_isCell (va_wsS RX3 49 yX3_in wsX3_in) := goodIn_app (goodIn_of _ (by decide +kernel)) ggX3_isCell_X3_in
theorem dX3_isCell_0 : decode cX3_isCell 0 = .ok (.iload_n 0, 1) := by decide +kernel
theorem dX3_isCell_1 : decode cX3_isCell 1 = .ok (.iconst 0, 1) := by decide +kernel
theorem dX3_isCell_2 : decode cX3_isCell 2 = .ok (.bipush 8, 2) := by decide +kernel
theorem dX3_isCell_4 : decode cX3_isCell 4 = .ok (.invokestatic 49, 3) := by decide +kernel
theorem dX3_isCell_7 : decode cX3_isCell 7 = .ok (.ireturn, 1) := by decide +kernel
theorem dX3_keep_0 : decode cX3_keep 0 = .ok (.aload_n 0, 1) := by decide +kernel
theorem dX3_keep_1 : decode cX3_keep 1 = .ok (.getfield 53, 3) := by decide +kernel
theorem dX3_keep_4 : decode cX3_keep 4 = .ok (.iconst 4, 1) := by decide +kernel
theorem dX3_keep_5 : decode cX3_keep 5 = .ok (.if_icmp .ne 72, 3) := by decide +kernel
theorem dX3_keep_8 : decode cX3_keep 8 = .ok (.iconst 0, 1) := by decide +kernel
theorem dX3_keep_9 : decode cX3_keep 9 = .ok (.istore_n 1, 1) := by decide +kernel
theorem dX3_keep_10 : decode cX3_keep 10 = .ok (.iload_n 1, 1) := by decide +kernel
theorem dX3_keep_11 : decode cX3_keep 11 = .ok (.sipush 216, 3) := by decide +kernel
theorem dX3_keep_14 : decode cX3_keep 14 = .ok (.if_icmp .ge 24, 3) := by decide +kernel
theorem dX3_keep_17 : decode cX3_keep 17 = .ok (.aload_n 0, 1) := by decide +kernel
theorem dX3_keep_18 : decode cX3_keep 18 = .ok (.getfield 17, 3) := by decide +kernel
theorem dX3_keep_21 : decode cX3_keep 21 = .ok (.iload_n 1, 1) := by decide +kernel
theorem dX3_keep_22 : decode cX3_keep 22 = .ok (.aload_n 0, 1) := by decide +kernel
theorem dX3_keep_23 : decode cX3_keep 23 = .ok (.getfield 17, 3) := by decide +kernel
theorem dX3_keep_26 : decode cX3_keep 26 = .ok (.iload_n 1, 1) := by decide +kernel
theorem dX3_keep_27 : decode cX3_keep 27 = .ok (.bipush 72, 2) := by decide +kernel
theorem dX3_keep_29 : decode cX3_keep 29 = .ok (.iadd, 1) := by decide +kernel
theorem dX3_keep_30 : decode cX3_keep 30 = .ok (.iaload, 1) := by decide +kernel
theorem dX3_keep_31 : decode cX3_keep 31 = .ok (.iastore, 1) := by decide +kernel
theorem dX3_keep_32 : decode cX3_keep 32 = .ok (.iinc 1 1, 3) := by decide +kernel
theorem dX3_keep_35 : decode cX3_keep 35 = .ok (.goto (-25), 3) := by decide +kernel
theorem dX3_keep_38 : decode cX3_keep 38 = .ok (.iconst 0, 1) := by decide +kernel
theorem dX3_keep_39 : decode cX3_keep 39 = .ok (.istore_n 1, 1) := by decide +kernel
theorem dX3_keep_40 : decode cX3_keep 40 = .ok (.iload_n 1, 1) := by decide +kernel
theorem dX3_keep_41 : decode cX3_keep 41 = .ok (.bipush 27, 2) := by decide +kernel
theorem dX3_keep_43 : decode cX3_keep 43 = .ok (.if_icmp .ge 24, 3) := by decide +kernel
theorem dX3_keep_46 : decode cX3_keep 46 = .ok (.aload_n 0, 1) := by decide +kernel
theorem dX3_keep_47 : decode cX3_keep 47 = .ok (.getfield 20, 3) := by decide +kernel
theorem dX3_keep_50 : decode cX3_keep 50 = .ok (.iload_n 1, 1) := by decide +kernel
theorem dX3_keep_51 : decode cX3_keep 51 = .ok (.aload_n 0, 1) := by decide +kernel
theorem dX3_keep_52 : decode cX3_keep 52 = .ok (.getfield 20, 3) := by decide +kernel
theorem dX3_keep_55 : decode cX3_keep 55 = .ok (.iload_n 1, 1) := by decide +kernel
theorem dX3_keep_56 : decode cX3_keep 56 = .ok (.bipush 9, 2) := by decide +kernel
theorem dX3_keep_58 : decode cX3_keep 58 = .ok (.iadd, 1) := by decide +kernel
theorem dX3_keep_59 : decode cX3_keep 59 = .ok (.daload, 1) := by decide +kernel
theorem dX3_keep_60 : decode cX3_keep 60 = .ok (.dastore, 1) := by decide +kernel
theorem dX3_keep_61 : decode cX3_keep 61 = .ok (.iinc 1 1, 3) := by decide +kernel
theorem dX3_keep_64 : decode cX3_keep 64 = .ok (.goto (-24), 3) := by decide +kernel
theorem dX3_keep_67 : decode cX3_keep 67 = .ok (.aload_n 0, 1) := by decide +kernel
theorem dX3_keep_68 : decode cX3_keep 68 = .ok (.dup, 1) := by decide +kernel
theorem dX3_keep_69 : decode cX3_keep 69 = .ok (.getfield 53, 3) := by decide +kernel
theorem dX3_keep_72 : decode cX3_keep 72 = .ok (.iconst 1, 1) := by decide +kernel
theorem dX3_keep_73 : decode cX3_keep 73 = .ok (.isub, 1) := by decide +kernel
theorem dX3_keep_74 : decode cX3_keep 74 = .ok (.putfield 53, 3) := by decide +kernel
theorem dX3_keep_77 : decode cX3_keep 77 = .ok (.iconst 0, 1) := by decide +kernel
theorem dX3_keep_78 : decode cX3_keep 78 = .ok (.istore_n 1, 1) := by decide +kernel
theorem dX3_keep_79 : decode cX3_keep 79 = .ok (.iload_n 1, 1) := by decide +kernel
theorem dX3_keep_80 : decode cX3_keep 80 = .ok (.bipush 72, 2) := by decide +kernel
theorem dX3_keep_82 : decode cX3_keep 82 = .ok (.if_icmp .ge 29, 3) := by decide +kernel
theorem dX3_keep_85 : decode cX3_keep 85 = .ok (.aload_n 0, 1) := by decide +kernel
theorem dX3_keep_86 : decode cX3_keep 86 = .ok (.getfield 17, 3) := by decide +kernel
theorem dX3_keep_89 : decode cX3_keep 89 = .ok (.bipush 72, 2) := by decide +kernel
theorem dX3_keep_91 : decode cX3_keep 91 = .ok (.aload_n 0, 1) := by decide +kernel
theorem dX3_keep_92 : decode cX3_keep 92 = .ok (.getfield 53, 3) := by decide +kernel
theorem dX3_keep_95 : decode cX3_keep 95 = .ok (.imul, 1) := by decide +kernel
theorem dX3_keep_96 : decode cX3_keep 96 = .ok (.iload_n 1, 1) := by decide +kernel
theorem dX3_keep_97 : decode cX3_keep 97 = .ok (.iadd, 1) := by decide +kernel
theorem dX3_keep_98 : decode cX3_keep 98 = .ok (.aload_n 0, 1) := by decide +kernel
theorem dX3_keep_99 : decode cX3_keep 99 = .ok (.getfield 7, 3) := by decide +kernel
theorem dX3_keep_102 : decode cX3_keep 102 = .ok (.iload_n 1, 1) := by decide +kernel
theorem dX3_keep_103 : decode cX3_keep 103 = .ok (.iaload, 1) := by decide +kernel
theorem dX3_keep_104 : decode cX3_keep 104 = .ok (.iastore, 1) := by decide +kernel
theorem dX3_keep_105 : decode cX3_keep 105 = .ok (.iinc 1 1, 3) := by decide +kernel
theorem dX3_keep_108 : decode cX3_keep 108 = .ok (.goto (-29), 3) := by decide +kernel
theorem dX3_keep_111 : decode cX3_keep 111 = .ok (.iconst 0, 1) := by decide +kernel
theorem dX3_keep_112 : decode cX3_keep 112 = .ok (.istore_n 1, 1) := by decide +kernel
theorem dX3_keep_113 : decode cX3_keep 113 = .ok (.iload_n 1, 1) := by decide +kernel
theorem dX3_keep_114 : decode cX3_keep 114 = .ok (.bipush 9, 2) := by decide +kernel
theorem dX3_keep_116 : decode cX3_keep 116 = .ok (.if_icmp .ge 29, 3) := by decide +kernel
theorem dX3_keep_119 : decode cX3_keep 119 = .ok (.aload_n 0, 1) := by decide +kernel
theorem dX3_keep_120 : decode cX3_keep 120 = .ok (.getfield 20, 3) := by decide +kernel
theorem dX3_keep_123 : decode cX3_keep 123 = .ok (.bipush 9, 2) := by decide +kernel
theorem dX3_keep_125 : decode cX3_keep 125 = .ok (.aload_n 0, 1) := by decide +kernel
theorem dX3_keep_126 : decode cX3_keep 126 = .ok (.getfield 53, 3) := by decide +kernel
theorem dX3_keep_129 : decode cX3_keep 129 = .ok (.imul, 1) := by decide +kernel
theorem dX3_keep_130 : decode cX3_keep 130 = .ok (.iload_n 1, 1) := by decide +kernel
theorem dX3_keep_131 : decode cX3_keep 131 = .ok (.iadd, 1) := by decide +kernel
theorem dX3_keep_132 : decode cX3_keep 132 = .ok (.aload_n 0, 1) := by decide +kernel
theorem dX3_keep_133 : decode cX3_keep 133 = .ok (.getfield 13, 3) := by decide +kernel
theorem dX3_keep_136 : decode cX3_keep 136 = .ok (.iload_n 1, 1) := by decide +kernel
theorem dX3_keep_137 : decode cX3_keep 137 = .ok (.daload, 1) := by decide +kernel
theorem dX3_keep_138 : decode cX3_keep 138 = .ok (.dastore, 1) := by decide +kernel
theorem dX3_keep_139 : decode cX3_keep 139 = .ok (.iinc 1 1, 3) := by decide +kernel
theorem dX3_keep_142 : decode cX3_keep 142 = .ok (.goto (-29), 3) := by decide +kernel
theorem dX3_keep_145 : decode cX3_keep 145 = .ok (.aload_n 0, 1) := by decide +kernel
theorem dX3_keep_146 : decode cX3_keep 146 = .ok (.dup, 1) := by decide +kernel
theorem dX3_keep_147 : decode cX3_keep 147 = .ok (.getfield 53, 3) := by decide +kernel
theorem dX3_keep_150 : decode cX3_keep 150 = .ok (.iconst 1, 1) := by decide +kernel
theorem dX3_keep_151 : decode cX3_keep 151 = .ok (.iadd, 1) := by decide +kernel
theorem dX3_keep_152 : decode cX3_keep 152 = .ok (.putfield 53, 3) := by decide +kernel
theorem dX3_keep_155 : decode cX3_keep 155 = .ok (.return_, 1) := by decide +kernel
set_option maxRecDepth 20000 in
theorem ggX3_becomes_X3_keep : GoodIn wsX3_becomes wsX3_keep := goodIn_ca (goodIn_r _ [6, 7, 8, 9, 1, 10, 11, 12, 13, 14, 15, 16, 17, 18, 19, 20, 21, 22, 23, 24, 25] (by decide +kernel) (by decide +kernel)) (goodIn_sub (fun _ h => List.mem_cons_of_mem _ (List.mem_append_right _ h)) (by decide +kernel))
set_option maxRecDepth 20000 in
theorem gX3_becomes_X3_keep : GoodIn wsX3_becomes (wsV RX3 56 RX3 yX3_keep wsX3_keep) := goodIn_app (goodIn_of _ (by decide +kernel)) ggX3_becomes_X3_keep
theorem dX3_becomes_0 : decode cX3_becomes 0 = .ok (.aload_n 0, 1) := by decide +kernel
theorem dX3_becomes_1 : decode cX3_becomes 1 = .ok (.invokevirtual 56, 3) := by decide +kernel
theorem dX3_becomes_4 : decode cX3_becomes 4 = .ok (.aload_n 0, 1) := by decide +kernel
theorem dX3_becomes_5 : decode cX3_becomes 5 = .ok (.getfield 7, 3) := by decide +kernel
theorem dX3_becomes_8 : decode cX3_becomes 8 = .ok (.iload_n 1, 1) := by decide +kernel
theorem dX3_becomes_9 : decode cX3_becomes 9 = .ok (.iaload, 1) := by decide +kernel
theorem dX3_becomes_10 : decode cX3_becomes 10 = .ok (.istore_n 3, 1) := by decide +kernel
theorem dX3_becomes_11 : decode cX3_becomes 11 = .ok (.aload_n 0, 1) := by decide +kernel
theorem dX3_becomes_12 : decode cX3_becomes 12 = .ok (.getfield 7, 3) := by decide +kernel
theorem dX3_becomes_15 : decode cX3_becomes 15 = .ok (.iload_n 1, 1) := by decide +kernel
theorem dX3_becomes_16 : decode cX3_becomes 16 = .ok (.iload_n 2, 1) := by decide +kernel
theorem dX3_becomes_17 : decode cX3_becomes 17 = .ok (.iastore, 1) := by decide +kernel
theorem dX3_becomes_18 : decode cX3_becomes 18 = .ok (.iload_n 3, 1) := by decide +kernel
theorem dX3_becomes_19 : decode cX3_becomes 19 = .ok (.ireturn, 1) := by decide +kernel
set_option maxRecDepth 20000 in
theorem ggX3_setLink_X3_in : GoodIn wsX3_setLink wsX3_in := goodIn_r _ [5] (by decide +kernel) (by decide +kernel)
set_option maxRecDepth 20000 in
theorem gX3_setLink_X3_in : GoodIn wsX3_setLink (va_wsS RX3 49 yX3_in wsX3_in) := goodIn_app (goodIn_of _ (by decide +kernel)) ggX3_setLink_X3_in
set_option maxRecDepth 20000 in
theorem ggX3_setLink_X3_becomes : GoodIn wsX3_setLink wsX3_becomes := goodIn_ca (goodIn_r _ [9, 10, 11, 12, 13, 4, 14, 15, 16, 17, 18, 19, 20, 21, 22, 23, 24, 25, 26, 27, 28, 29, 30, 31, 32, 33] (by decide +kernel) (by decide +kernel)) (goodIn_sub (fun _ h => List.mem_cons_of_mem _ (List.mem_append_right _ h)) (by decide +kernel))
set_option maxRecDepth 20000 in
theorem gX3_setLink_X3_becomes : GoodIn wsX3_setLink (wsV RX3 59 RX3 yX3_becomes wsX3_becomes) := goodIn_app (goodIn_of _ (by decide +kernel)) ggX3_setLink_X3_becomes
theorem dX3_setLink_0 : decode cX3_setLink 0 = .ok (.aload_n 0, 1) := by decide +kernel
theorem dX3_setLink_1 : decode cX3_setLink 1 = .ok (.iload_n 1, 1) := by decide +kernel
theorem dX3_setLink_2 : decode cX3_setLink 2 = .ok (.iconst 0, 1) := by decide +kernel
theorem dX3_setLink_3 : decode cX3_setLink 3 = .ok (.bipush 23, 2) := by decide +kernel
theorem dX3_setLink_5 : decode cX3_setLink 5 = .ok (.invokestatic 49, 3) := by decide +kernel
theorem dX3_setLink_8 : decode cX3_setLink 8 = .ok (.ifCond .ne 7, 3) := by decide +kernel
theorem dX3_setLink_11 : decode cX3_setLink 11 = .ok (.iconst 1, 1) := by decide +kernel
theorem dX3_setLink_12 : decode cX3_setLink 12 = .ok (.goto 17, 3) := by decide +kernel
theorem dX3_setLink_15 : decode cX3_setLink 15 = .ok (.iload_n 2, 1) := by decide +kernel
theorem dX3_setLink_16 : decode cX3_setLink 16 = .ok (.iconst 0, 1) := by decide +kernel
theorem dX3_setLink_17 : decode cX3_setLink 17 = .ok (.iconst 2, 1) := by decide +kernel
theorem dX3_setLink_18 : decode cX3_setLink 18 = .ok (.invokestatic 49, 3) := by decide +kernel
theorem dX3_setLink_21 : decode cX3_setLink 21 = .ok (.ifCond .ne 7, 3) := by decide +kernel
theorem dX3_setLink_24 : decode cX3_setLink 24 = .ok (.iconst 2, 1) := by decide +kernel
theorem dX3_setLink_25 : decode cX3_setLink 25 = .ok (.goto 4, 3) := by decide +kernel
theorem dX3_setLink_28 : decode cX3_setLink 28 = .ok (.iconst 0, 1) := by decide +kernel
theorem dX3_setLink_29 : decode cX3_setLink 29 = .ok (.putfield 45, 3) := by decide +kernel
theorem dX3_setLink_32 : decode cX3_setLink 32 = .ok (.aload_n 0, 1) := by decide +kernel
theorem dX3_setLink_33 : decode cX3_setLink 33 = .ok (.getfield 45, 3) := by decide +kernel
theorem dX3_setLink_36 : decode cX3_setLink 36 = .ok (.ifCond .eq 7, 3) := by decide +kernel
theorem dX3_setLink_39 : decode cX3_setLink 39 = .ok (.iconst 0, 1) := by decide +kernel
theorem dX3_setLink_40 : decode cX3_setLink 40 = .ok (.goto 11, 3) := by decide +kernel
theorem dX3_setLink_43 : decode cX3_setLink 43 = .ok (.aload_n 0, 1) := by decide +kernel
theorem dX3_setLink_44 : decode cX3_setLink 44 = .ok (.iconst 0, 1) := by decide +kernel
theorem dX3_setLink_45 : decode cX3_setLink 45 = .ok (.iload_n 1, 1) := by decide +kernel
theorem dX3_setLink_46 : decode cX3_setLink 46 = .ok (.iadd, 1) := by decide +kernel
theorem dX3_setLink_47 : decode cX3_setLink 47 = .ok (.iload_n 2, 1) := by decide +kernel
theorem dX3_setLink_48 : decode cX3_setLink 48 = .ok (.invokevirtual 59, 3) := by decide +kernel
theorem dX3_setLink_51 : decode cX3_setLink 51 = .ok (.ireturn, 1) := by decide +kernel
set_option maxRecDepth 20000 in
theorem ggX3_setEdge_X3_in : GoodIn wsX3_setEdge wsX3_in := goodIn_r _ [5] (by decide +kernel) (by decide +kernel)
set_option maxRecDepth 20000 in
theorem gX3_setEdge_X3_in : GoodIn wsX3_setEdge (va_wsS RX3 49 yX3_in wsX3_in) := goodIn_app (goodIn_of _ (by decide +kernel)) ggX3_setEdge_X3_in
set_option maxRecDepth 20000 in
theorem ggX3_setEdge_X3_becomes : GoodIn wsX3_setEdge wsX3_becomes := goodIn_ca (goodIn_r _ [9, 10, 11, 12, 13, 4, 14, 15, 16, 17, 18, 19, 20, 21, 22, 23, 24, 25, 26, 27, 28, 29, 30, 31, 32, 33] (by decide +kernel) (by decide +kernel)) (goodIn_sub (fun _ h => List.mem_cons_of_mem _ (List.mem_append_right _ h)) (by decide +kernel))
set_option maxRecDepth 20000 in
theorem gX3_setEdge_X3_becomes : GoodIn wsX3_setEdge (wsV RX3 59 RX3 yX3_becomes wsX3_becomes) := goodIn_app (goodIn_of _ (by decide +kernel)) ggX3_setEdge_X3_becomes
theorem dX3_setEdge_0 : decode cX3_setEdge 0 = .ok (.aload_n 0, 1) := by decide +kernel
theorem dX3_setEdge_1 : decode cX3_setEdge 1 = .ok (.iload_n 1, 1) := by decide +kernel
theorem dX3_setEdge_2 : decode cX3_setEdge 2 = .ok (.iconst 0, 1) := by decide +kernel
theorem dX3_setEdge_3 : decode cX3_setEdge 3 = .ok (.bipush 11, 2) := by decide +kernel
theorem dX3_setEdge_5 : decode cX3_setEdge 5 = .ok (.invokestatic 49, 3) := by decide +kernel
theorem dX3_setEdge_8 : decode cX3_setEdge 8 = .ok (.ifCond .ne 7, 3) := by decide +kernel
theorem dX3_setEdge_11 : decode cX3_setEdge 11 = .ok (.iconst 1, 1) := by decide +kernel
theorem dX3_setEdge_12 : decode cX3_setEdge 12 = .ok (.goto 19, 3) := by decide +kernel
theorem dX3_setEdge_15 : decode cX3_setEdge 15 = .ok (.iload_n 2, 1) := by decide +kernel
theorem dX3_setEdge_16 : decode cX3_setEdge 16 = .ok (.iconst 0, 1) := by decide +kernel
theorem dX3_setEdge_17 : decode cX3_setEdge 17 = .ok (.sipush 1000, 3) := by decide +kernel
theorem dX3_setEdge_20 : decode cX3_setEdge 20 = .ok (.invokestatic 49, 3) := by decide +kernel
theorem dX3_setEdge_23 : decode cX3_setEdge 23 = .ok (.ifCond .ne 7, 3) := by decide +kernel
theorem dX3_setEdge_26 : decode cX3_setEdge 26 = .ok (.iconst 2, 1) := by decide +kernel
theorem dX3_setEdge_27 : decode cX3_setEdge 27 = .ok (.goto 4, 3) := by decide +kernel
theorem dX3_setEdge_30 : decode cX3_setEdge 30 = .ok (.iconst 0, 1) := by decide +kernel
theorem dX3_setEdge_31 : decode cX3_setEdge 31 = .ok (.putfield 45, 3) := by decide +kernel
theorem dX3_setEdge_34 : decode cX3_setEdge 34 = .ok (.aload_n 0, 1) := by decide +kernel
theorem dX3_setEdge_35 : decode cX3_setEdge 35 = .ok (.getfield 45, 3) := by decide +kernel
theorem dX3_setEdge_38 : decode cX3_setEdge 38 = .ok (.ifCond .eq 7, 3) := by decide +kernel
theorem dX3_setEdge_41 : decode cX3_setEdge 41 = .ok (.iconst 0, 1) := by decide +kernel
theorem dX3_setEdge_42 : decode cX3_setEdge 42 = .ok (.goto 12, 3) := by decide +kernel
theorem dX3_setEdge_45 : decode cX3_setEdge 45 = .ok (.aload_n 0, 1) := by decide +kernel
theorem dX3_setEdge_46 : decode cX3_setEdge 46 = .ok (.bipush 24, 2) := by decide +kernel
theorem dX3_setEdge_48 : decode cX3_setEdge 48 = .ok (.iload_n 1, 1) := by decide +kernel
theorem dX3_setEdge_49 : decode cX3_setEdge 49 = .ok (.iadd, 1) := by decide +kernel
theorem dX3_setEdge_50 : decode cX3_setEdge 50 = .ok (.iload_n 2, 1) := by decide +kernel
theorem dX3_setEdge_51 : decode cX3_setEdge 51 = .ok (.invokevirtual 59, 3) := by decide +kernel
theorem dX3_setEdge_54 : decode cX3_setEdge 54 = .ok (.ireturn, 1) := by decide +kernel
set_option maxRecDepth 20000 in
theorem ggX3_setRecharge_X3_isCell : GoodIn wsX3_setRecharge wsX3_isCell := goodIn_r _ [5, 6, 7, 4, 8] (by decide +kernel) (by decide +kernel)
set_option maxRecDepth 20000 in
theorem gX3_setRecharge_X3_isCell : GoodIn wsX3_setRecharge (va_wsS RX3 63 yX3_isCell wsX3_isCell) := goodIn_app (goodIn_of _ (by decide +kernel)) ggX3_setRecharge_X3_isCell
set_option maxRecDepth 20000 in
theorem ggX3_setRecharge_X3_in : GoodIn wsX3_setRecharge wsX3_in := goodIn_r _ [8] (by decide +kernel) (by decide +kernel)
set_option maxRecDepth 20000 in
theorem gX3_setRecharge_X3_in : GoodIn wsX3_setRecharge (va_wsS RX3 49 yX3_in wsX3_in) := goodIn_app (goodIn_of _ (by decide +kernel)) ggX3_setRecharge_X3_in
set_option maxRecDepth 20000 in
theorem ggX3_setRecharge_X3_becomes : GoodIn wsX3_setRecharge wsX3_becomes := goodIn_ca (goodIn_r _ [12, 13, 14, 15, 16, 4, 17, 18, 19, 20, 21, 22, 23, 24, 25, 26, 27, 28, 29, 30, 31, 32, 33, 34, 35, 36] (by decide +kernel) (by decide +kernel)) (goodIn_sub (fun _ h => List.mem_cons_of_mem _ (List.mem_append_right _ h)) (by decide +kernel))
set_option maxRecDepth 20000 in
theorem gX3_setRecharge_X3_becomes : GoodIn wsX3_setRecharge (wsV RX3 59 RX3 yX3_becomes wsX3_becomes) := goodIn_app (goodIn_of _ (by decide +kernel)) ggX3_setRecharge_X3_becomes
theorem dX3_setRecharge_0 : decode cX3_setRecharge 0 = .ok (.aload_n 0, 1) := by decide +kernel
theorem dX3_setRecharge_1 : decode cX3_setRecharge 1 = .ok (.iload_n 1, 1) := by decide +kernel
theorem dX3_setRecharge_2 : decode cX3_setRecharge 2 = .ok (.invokestatic 63, 3) := by decide +kernel
theorem dX3_setRecharge_5 : decode cX3_setRecharge 5 = .ok (.ifCond .ne 7, 3) := by decide +kernel
theorem dX3_setRecharge_8 : decode cX3_setRecharge 8 = .ok (.iconst 1, 1) := by decide +kernel
theorem dX3_setRecharge_9 : decode cX3_setRecharge 9 = .ok (.goto 19, 3) := by decide +kernel
theorem dX3_setRecharge_12 : decode cX3_setRecharge 12 = .ok (.iload_n 2, 1) := by decide +kernel
theorem dX3_setRecharge_13 : decode cX3_setRecharge 13 = .ok (.iconst 0, 1) := by decide +kernel
theorem dX3_setRecharge_14 : decode cX3_setRecharge 14 = .ok (.sipush 1000, 3) := by decide +kernel
theorem dX3_setRecharge_17 : decode cX3_setRecharge 17 = .ok (.invokestatic 49, 3) := by decide +kernel
theorem dX3_setRecharge_20 : decode cX3_setRecharge 20 = .ok (.ifCond .ne 7, 3) := by decide +kernel
theorem dX3_setRecharge_23 : decode cX3_setRecharge 23 = .ok (.iconst 2, 1) := by decide +kernel
theorem dX3_setRecharge_24 : decode cX3_setRecharge 24 = .ok (.goto 4, 3) := by decide +kernel
theorem dX3_setRecharge_27 : decode cX3_setRecharge 27 = .ok (.iconst 0, 1) := by decide +kernel
theorem dX3_setRecharge_28 : decode cX3_setRecharge 28 = .ok (.putfield 45, 3) := by decide +kernel
theorem dX3_setRecharge_31 : decode cX3_setRecharge 31 = .ok (.aload_n 0, 1) := by decide +kernel
theorem dX3_setRecharge_32 : decode cX3_setRecharge 32 = .ok (.getfield 45, 3) := by decide +kernel
theorem dX3_setRecharge_35 : decode cX3_setRecharge 35 = .ok (.ifCond .eq 7, 3) := by decide +kernel
theorem dX3_setRecharge_38 : decode cX3_setRecharge 38 = .ok (.iconst 0, 1) := by decide +kernel
theorem dX3_setRecharge_39 : decode cX3_setRecharge 39 = .ok (.goto 12, 3) := by decide +kernel
theorem dX3_setRecharge_42 : decode cX3_setRecharge 42 = .ok (.aload_n 0, 1) := by decide +kernel
theorem dX3_setRecharge_43 : decode cX3_setRecharge 43 = .ok (.bipush 36, 2) := by decide +kernel
theorem dX3_setRecharge_45 : decode cX3_setRecharge 45 = .ok (.iload_n 1, 1) := by decide +kernel
theorem dX3_setRecharge_46 : decode cX3_setRecharge 46 = .ok (.iadd, 1) := by decide +kernel
theorem dX3_setRecharge_47 : decode cX3_setRecharge 47 = .ok (.iload_n 2, 1) := by decide +kernel
theorem dX3_setRecharge_48 : decode cX3_setRecharge 48 = .ok (.invokevirtual 59, 3) := by decide +kernel
theorem dX3_setRecharge_51 : decode cX3_setRecharge 51 = .ok (.ireturn, 1) := by decide +kernel
set_option maxRecDepth 20000 in
theorem ggX3_setRate_X3_isCell : GoodIn wsX3_setRate wsX3_isCell := goodIn_r _ [5, 6, 7, 4, 8] (by decide +kernel) (by decide +kernel)
set_option maxRecDepth 20000 in
theorem gX3_setRate_X3_isCell : GoodIn wsX3_setRate (va_wsS RX3 63 yX3_isCell wsX3_isCell) := goodIn_app (goodIn_of _ (by decide +kernel)) ggX3_setRate_X3_isCell
set_option maxRecDepth 20000 in
theorem ggX3_setRate_X3_in : GoodIn wsX3_setRate wsX3_in := goodIn_r _ [8] (by decide +kernel) (by decide +kernel)
set_option maxRecDepth 20000 in
theorem gX3_setRate_X3_in : GoodIn wsX3_setRate (va_wsS RX3 49 yX3_in wsX3_in) := goodIn_app (goodIn_of _ (by decide +kernel)) ggX3_setRate_X3_in
set_option maxRecDepth 20000 in
theorem ggX3_setRate_X3_becomes : GoodIn wsX3_setRate wsX3_becomes := goodIn_ca (goodIn_r _ [12, 13, 14, 15, 16, 4, 17, 18, 19, 20, 21, 22, 23, 24, 25, 26, 27, 28, 29, 30, 31, 32, 33, 34, 35, 36] (by decide +kernel) (by decide +kernel)) (goodIn_sub (fun _ h => List.mem_cons_of_mem _ (List.mem_append_right _ h)) (by decide +kernel))
set_option maxRecDepth 20000 in
theorem gX3_setRate_X3_becomes : GoodIn wsX3_setRate (wsV RX3 59 RX3 yX3_becomes wsX3_becomes) := goodIn_app (goodIn_of _ (by decide +kernel)) ggX3_setRate_X3_becomes
theorem dX3_setRate_0 : decode cX3_setRate 0 = .ok (.aload_n 0, 1) := by decide +kernel
theorem dX3_setRate_1 : decode cX3_setRate 1 = .ok (.iload_n 1, 1) := by decide +kernel
theorem dX3_setRate_2 : decode cX3_setRate 2 = .ok (.invokestatic 63, 3) := by decide +kernel
theorem dX3_setRate_5 : decode cX3_setRate 5 = .ok (.ifCond .ne 7, 3) := by decide +kernel
theorem dX3_setRate_8 : decode cX3_setRate 8 = .ok (.iconst 1, 1) := by decide +kernel
theorem dX3_setRate_9 : decode cX3_setRate 9 = .ok (.goto 19, 3) := by decide +kernel
theorem dX3_setRate_12 : decode cX3_setRate 12 = .ok (.iload_n 2, 1) := by decide +kernel
theorem dX3_setRate_13 : decode cX3_setRate 13 = .ok (.iconst 0, 1) := by decide +kernel
theorem dX3_setRate_14 : decode cX3_setRate 14 = .ok (.sipush 1000, 3) := by decide +kernel
theorem dX3_setRate_17 : decode cX3_setRate 17 = .ok (.invokestatic 49, 3) := by decide +kernel
theorem dX3_setRate_20 : decode cX3_setRate 20 = .ok (.ifCond .ne 7, 3) := by decide +kernel
theorem dX3_setRate_23 : decode cX3_setRate 23 = .ok (.iconst 2, 1) := by decide +kernel
theorem dX3_setRate_24 : decode cX3_setRate 24 = .ok (.goto 4, 3) := by decide +kernel
theorem dX3_setRate_27 : decode cX3_setRate 27 = .ok (.iconst 0, 1) := by decide +kernel
theorem dX3_setRate_28 : decode cX3_setRate 28 = .ok (.putfield 45, 3) := by decide +kernel
theorem dX3_setRate_31 : decode cX3_setRate 31 = .ok (.aload_n 0, 1) := by decide +kernel
theorem dX3_setRate_32 : decode cX3_setRate 32 = .ok (.getfield 45, 3) := by decide +kernel
theorem dX3_setRate_35 : decode cX3_setRate 35 = .ok (.ifCond .eq 7, 3) := by decide +kernel
theorem dX3_setRate_38 : decode cX3_setRate 38 = .ok (.iconst 0, 1) := by decide +kernel
theorem dX3_setRate_39 : decode cX3_setRate 39 = .ok (.goto 12, 3) := by decide +kernel
theorem dX3_setRate_42 : decode cX3_setRate 42 = .ok (.aload_n 0, 1) := by decide +kernel
theorem dX3_setRate_43 : decode cX3_setRate 43 = .ok (.bipush 45, 2) := by decide +kernel
theorem dX3_setRate_45 : decode cX3_setRate 45 = .ok (.iload_n 1, 1) := by decide +kernel
theorem dX3_setRate_46 : decode cX3_setRate 46 = .ok (.iadd, 1) := by decide +kernel
theorem dX3_setRate_47 : decode cX3_setRate 47 = .ok (.iload_n 2, 1) := by decide +kernel
theorem dX3_setRate_48 : decode cX3_setRate 48 = .ok (.invokevirtual 59, 3) := by decide +kernel
theorem dX3_setRate_51 : decode cX3_setRate 51 = .ok (.ireturn, 1) := by decide +kernel
set_option maxRecDepth 20000 in
theorem ggX3_setLevels_X3_isCell : GoodIn wsX3_setLevels wsX3_isCell := goodIn_r _ [6, 7, 8, 5, 9] (by decide +kernel) (by decide +kernel)
set_option maxRecDepth 20000 in
theorem gX3_setLevels_X3_isCell : GoodIn wsX3_setLevels (va_wsS RX3 63 yX3_isCell wsX3_isCell) := goodIn_app (goodIn_of _ (by decide +kernel)) ggX3_setLevels_X3_isCell
set_option maxRecDepth 20000 in
theorem ggX3_setLevels_X3_in : GoodIn wsX3_setLevels wsX3_in := goodIn_r _ [9] (by decide +kernel) (by decide +kernel)
set_option maxRecDepth 20000 in
theorem gX3_setLevels_X3_in : GoodIn wsX3_setLevels (va_wsS RX3 49 yX3_in wsX3_in) := goodIn_app (goodIn_of _ (by decide +kernel)) ggX3_setLevels_X3_in
set_option maxRecDepth 20000 in
theorem ggX3_setLevels_X3_becomes : GoodIn wsX3_setLevels wsX3_becomes := goodIn_ca (goodIn_r _ [13, 2, 14, 15, 16, 5, 17, 18, 19, 20, 21, 22, 23, 24, 25, 26, 27, 28, 29, 30, 31, 32, 33, 34, 35, 36] (by decide +kernel) (by decide +kernel)) (goodIn_sub (fun _ h => List.mem_cons_of_mem _ (List.mem_append_right _ h)) (by decide +kernel))
set_option maxRecDepth 20000 in
theorem gX3_setLevels_X3_becomes : GoodIn wsX3_setLevels (wsV RX3 59 RX3 yX3_becomes wsX3_becomes) := goodIn_app (goodIn_of _ (by decide +kernel)) ggX3_setLevels_X3_becomes
theorem dX3_setLevels_0 : decode cX3_setLevels 0 = .ok (.aload_n 0, 1) := by decide +kernel
theorem dX3_setLevels_1 : decode cX3_setLevels 1 = .ok (.iload_n 1, 1) := by decide +kernel
theorem dX3_setLevels_2 : decode cX3_setLevels 2 = .ok (.invokestatic 63, 3) := by decide +kernel
theorem dX3_setLevels_5 : decode cX3_setLevels 5 = .ok (.ifCond .ne 7, 3) := by decide +kernel
theorem dX3_setLevels_8 : decode cX3_setLevels 8 = .ok (.iconst 1, 1) := by decide +kernel
theorem dX3_setLevels_9 : decode cX3_setLevels 9 = .ok (.goto 30, 3) := by decide +kernel
theorem dX3_setLevels_12 : decode cX3_setLevels 12 = .ok (.iload_n 2, 1) := by decide +kernel
theorem dX3_setLevels_13 : decode cX3_setLevels 13 = .ok (.iconst 0, 1) := by decide +kernel
theorem dX3_setLevels_14 : decode cX3_setLevels 14 = .ok (.sipush 1000, 3) := by decide +kernel
theorem dX3_setLevels_17 : decode cX3_setLevels 17 = .ok (.invokestatic 49, 3) := by decide +kernel
theorem dX3_setLevels_20 : decode cX3_setLevels 20 = .ok (.ifCond .eq 14, 3) := by decide +kernel
theorem dX3_setLevels_23 : decode cX3_setLevels 23 = .ok (.iload_n 3, 1) := by decide +kernel
theorem dX3_setLevels_24 : decode cX3_setLevels 24 = .ok (.iconst 0, 1) := by decide +kernel
theorem dX3_setLevels_25 : decode cX3_setLevels 25 = .ok (.sipush 1000, 3) := by decide +kernel
theorem dX3_setLevels_28 : decode cX3_setLevels 28 = .ok (.invokestatic 49, 3) := by decide +kernel
theorem dX3_setLevels_31 : decode cX3_setLevels 31 = .ok (.ifCond .ne 7, 3) := by decide +kernel
theorem dX3_setLevels_34 : decode cX3_setLevels 34 = .ok (.iconst 2, 1) := by decide +kernel
theorem dX3_setLevels_35 : decode cX3_setLevels 35 = .ok (.goto 4, 3) := by decide +kernel
theorem dX3_setLevels_38 : decode cX3_setLevels 38 = .ok (.iconst 0, 1) := by decide +kernel
theorem dX3_setLevels_39 : decode cX3_setLevels 39 = .ok (.putfield 45, 3) := by decide +kernel
theorem dX3_setLevels_42 : decode cX3_setLevels 42 = .ok (.aload_n 0, 1) := by decide +kernel
theorem dX3_setLevels_43 : decode cX3_setLevels 43 = .ok (.getfield 45, 3) := by decide +kernel
theorem dX3_setLevels_46 : decode cX3_setLevels 46 = .ok (.ifCond .eq 5, 3) := by decide +kernel
theorem dX3_setLevels_49 : decode cX3_setLevels 49 = .ok (.iconst 0, 1) := by decide +kernel
theorem dX3_setLevels_50 : decode cX3_setLevels 50 = .ok (.ireturn, 1) := by decide +kernel
theorem dX3_setLevels_51 : decode cX3_setLevels 51 = .ok (.aload_n 0, 1) := by decide +kernel
theorem dX3_setLevels_52 : decode cX3_setLevels 52 = .ok (.bipush 63, 2) := by decide +kernel
theorem dX3_setLevels_54 : decode cX3_setLevels 54 = .ok (.iload_n 1, 1) := by decide +kernel
theorem dX3_setLevels_55 : decode cX3_setLevels 55 = .ok (.iadd, 1) := by decide +kernel
theorem dX3_setLevels_56 : decode cX3_setLevels 56 = .ok (.iload_n 3, 1) := by decide +kernel
theorem dX3_setLevels_57 : decode cX3_setLevels 57 = .ok (.invokevirtual 59, 3) := by decide +kernel
theorem dX3_setLevels_60 : decode cX3_setLevels 60 = .ok (.istore 4, 2) := by decide +kernel
theorem dX3_setLevels_62 : decode cX3_setLevels 62 = .ok (.aload_n 0, 1) := by decide +kernel
theorem dX3_setLevels_63 : decode cX3_setLevels 63 = .ok (.getfield 7, 3) := by decide +kernel
theorem dX3_setLevels_66 : decode cX3_setLevels 66 = .ok (.bipush 54, 2) := by decide +kernel
theorem dX3_setLevels_68 : decode cX3_setLevels 68 = .ok (.iload_n 1, 1) := by decide +kernel
theorem dX3_setLevels_69 : decode cX3_setLevels 69 = .ok (.iadd, 1) := by decide +kernel
theorem dX3_setLevels_70 : decode cX3_setLevels 70 = .ok (.iload_n 2, 1) := by decide +kernel
theorem dX3_setLevels_71 : decode cX3_setLevels 71 = .ok (.iastore, 1) := by decide +kernel
theorem dX3_setLevels_72 : decode cX3_setLevels 72 = .ok (.iload 4, 2) := by decide +kernel
theorem dX3_setLevels_74 : decode cX3_setLevels 74 = .ok (.ireturn, 1) := by decide +kernel
theorem dX3_linkOf_0 : decode cX3_linkOf 0 = .ok (.iload_n 0, 1) := by decide +kernel
theorem dX3_linkOf_1 : decode cX3_linkOf 1 = .ok (.iconst 3, 1) := by decide +kernel
theorem dX3_linkOf_2 : decode cX3_linkOf 2 = .ok (.idiv, 1) := by decide +kernel
theorem dX3_linkOf_3 : decode cX3_linkOf 3 = .ok (.istore_n 2, 1) := by decide +kernel
theorem dX3_linkOf_4 : decode cX3_linkOf 4 = .ok (.iload_n 0, 1) := by decide +kernel
theorem dX3_linkOf_5 : decode cX3_linkOf 5 = .ok (.iconst 3, 1) := by decide +kernel
theorem dX3_linkOf_6 : decode cX3_linkOf 6 = .ok (.irem, 1) := by decide +kernel
theorem dX3_linkOf_7 : decode cX3_linkOf 7 = .ok (.istore_n 3, 1) := by decide +kernel
theorem dX3_linkOf_8 : decode cX3_linkOf 8 = .ok (.iload_n 1, 1) := by decide +kernel
theorem dX3_linkOf_9 : decode cX3_linkOf 9 = .ok (.iconst 2, 1) := by decide +kernel
theorem dX3_linkOf_10 : decode cX3_linkOf 10 = .ok (.irem, 1) := by decide +kernel
theorem dX3_linkOf_11 : decode cX3_linkOf 11 = .ok (.ifCond .ne 18, 3) := by decide +kernel
theorem dX3_linkOf_14 : decode cX3_linkOf 14 = .ok (.bipush 12, 2) := by decide +kernel
theorem dX3_linkOf_16 : decode cX3_linkOf 16 = .ok (.iconst 4, 1) := by decide +kernel
theorem dX3_linkOf_17 : decode cX3_linkOf 17 = .ok (.iload_n 3, 1) := by decide +kernel
theorem dX3_linkOf_18 : decode cX3_linkOf 18 = .ok (.imul, 1) := by decide +kernel
theorem dX3_linkOf_19 : decode cX3_linkOf 19 = .ok (.iadd, 1) := by decide +kernel
theorem dX3_linkOf_20 : decode cX3_linkOf 20 = .ok (.iload_n 2, 1) := by decide +kernel
theorem dX3_linkOf_21 : decode cX3_linkOf 21 = .ok (.iadd, 1) := by decide +kernel
theorem dX3_linkOf_22 : decode cX3_linkOf 22 = .ok (.iload_n 1, 1) := by decide +kernel
theorem dX3_linkOf_23 : decode cX3_linkOf 23 = .ok (.iconst 2, 1) := by decide +kernel
theorem dX3_linkOf_24 : decode cX3_linkOf 24 = .ok (.idiv, 1) := by decide +kernel
theorem dX3_linkOf_25 : decode cX3_linkOf 25 = .ok (.iadd, 1) := by decide +kernel
theorem dX3_linkOf_26 : decode cX3_linkOf 26 = .ok (.goto 19, 3) := by decide +kernel
theorem dX3_linkOf_29 : decode cX3_linkOf 29 = .ok (.iconst 4, 1) := by decide +kernel
theorem dX3_linkOf_30 : decode cX3_linkOf 30 = .ok (.iload_n 2, 1) := by decide +kernel
theorem dX3_linkOf_31 : decode cX3_linkOf 31 = .ok (.imul, 1) := by decide +kernel
theorem dX3_linkOf_32 : decode cX3_linkOf 32 = .ok (.iload_n 3, 1) := by decide +kernel
theorem dX3_linkOf_33 : decode cX3_linkOf 33 = .ok (.iadd, 1) := by decide +kernel
theorem dX3_linkOf_34 : decode cX3_linkOf 34 = .ok (.iload_n 1, 1) := by decide +kernel
theorem dX3_linkOf_35 : decode cX3_linkOf 35 = .ok (.iconst 1, 1) := by decide +kernel
theorem dX3_linkOf_36 : decode cX3_linkOf 36 = .ok (.if_icmp .ne 7, 3) := by decide +kernel
theorem dX3_linkOf_39 : decode cX3_linkOf 39 = .ok (.iconst 1, 1) := by decide +kernel
theorem dX3_linkOf_40 : decode cX3_linkOf 40 = .ok (.goto 4, 3) := by decide +kernel
theorem dX3_linkOf_43 : decode cX3_linkOf 43 = .ok (.iconst 0, 1) := by decide +kernel
theorem dX3_linkOf_44 : decode cX3_linkOf 44 = .ok (.iadd, 1) := by decide +kernel
theorem dX3_linkOf_45 : decode cX3_linkOf 45 = .ok (.ireturn, 1) := by decide +kernel
theorem dX3_otherOf_0 : decode cX3_otherOf 0 = .ok (.iload_n 0, 1) := by decide +kernel
theorem dX3_otherOf_1 : decode cX3_otherOf 1 = .ok (.iconst 3, 1) := by decide +kernel
theorem dX3_otherOf_2 : decode cX3_otherOf 2 = .ok (.idiv, 1) := by decide +kernel
theorem dX3_otherOf_3 : decode cX3_otherOf 3 = .ok (.istore_n 2, 1) := by decide +kernel
theorem dX3_otherOf_4 : decode cX3_otherOf 4 = .ok (.iload_n 0, 1) := by decide +kernel
theorem dX3_otherOf_5 : decode cX3_otherOf 5 = .ok (.iconst 3, 1) := by decide +kernel
theorem dX3_otherOf_6 : decode cX3_otherOf 6 = .ok (.irem, 1) := by decide +kernel
theorem dX3_otherOf_7 : decode cX3_otherOf 7 = .ok (.istore_n 3, 1) := by decide +kernel
theorem dX3_otherOf_8 : decode cX3_otherOf 8 = .ok (.iload_n 1, 1) := by decide +kernel
theorem dX3_otherOf_9 : decode cX3_otherOf 9 = .ok (.tableswitch 74 0 2 #[27, 42, 58], 27) := by decide +kernel
theorem dX3_otherOf_36 : decode cX3_otherOf 36 = .ok (.iload_n 2, 1) := by decide +kernel
theorem dX3_otherOf_37 : decode cX3_otherOf 37 = .ok (.ifCond .ne 10, 3) := by decide +kernel
theorem dX3_otherOf_40 : decode cX3_otherOf 40 = .ok (.bipush 9, 2) := by decide +kernel
theorem dX3_otherOf_42 : decode cX3_otherOf 42 = .ok (.iload_n 3, 1) := by decide +kernel
theorem dX3_otherOf_43 : decode cX3_otherOf 43 = .ok (.iadd, 1) := by decide +kernel
theorem dX3_otherOf_44 : decode cX3_otherOf 44 = .ok (.goto 6, 3) := by decide +kernel
theorem dX3_otherOf_47 : decode cX3_otherOf 47 = .ok (.iload_n 0, 1) := by decide +kernel
theorem dX3_otherOf_48 : decode cX3_otherOf 48 = .ok (.iconst 3, 1) := by decide +kernel
theorem dX3_otherOf_49 : decode cX3_otherOf 49 = .ok (.isub, 1) := by decide +kernel
theorem dX3_otherOf_50 : decode cX3_otherOf 50 = .ok (.ireturn, 1) := by decide +kernel
theorem dX3_otherOf_51 : decode cX3_otherOf 51 = .ok (.iload_n 3, 1) := by decide +kernel
theorem dX3_otherOf_52 : decode cX3_otherOf 52 = .ok (.iconst 2, 1) := by decide +kernel
theorem dX3_otherOf_53 : decode cX3_otherOf 53 = .ok (.if_icmp .ne 10, 3) := by decide +kernel
theorem dX3_otherOf_56 : decode cX3_otherOf 56 = .ok (.bipush 12, 2) := by decide +kernel
theorem dX3_otherOf_58 : decode cX3_otherOf 58 = .ok (.iload_n 2, 1) := by decide +kernel
theorem dX3_otherOf_59 : decode cX3_otherOf 59 = .ok (.iadd, 1) := by decide +kernel
theorem dX3_otherOf_60 : decode cX3_otherOf 60 = .ok (.goto 6, 3) := by decide +kernel
theorem dX3_otherOf_63 : decode cX3_otherOf 63 = .ok (.iload_n 0, 1) := by decide +kernel
theorem dX3_otherOf_64 : decode cX3_otherOf 64 = .ok (.iconst 1, 1) := by decide +kernel
theorem dX3_otherOf_65 : decode cX3_otherOf 65 = .ok (.iadd, 1) := by decide +kernel
theorem dX3_otherOf_66 : decode cX3_otherOf 66 = .ok (.ireturn, 1) := by decide +kernel
theorem dX3_otherOf_67 : decode cX3_otherOf 67 = .ok (.iload_n 2, 1) := by decide +kernel
theorem dX3_otherOf_68 : decode cX3_otherOf 68 = .ok (.iconst 2, 1) := by decide +kernel
theorem dX3_otherOf_69 : decode cX3_otherOf 69 = .ok (.if_icmp .ne 10, 3) := by decide +kernel
theorem dX3_otherOf_72 : decode cX3_otherOf 72 = .ok (.bipush 15, 2) := by decide +kernel
theorem dX3_otherOf_74 : decode cX3_otherOf 74 = .ok (.iload_n 3, 1) := by decide +kernel
theorem dX3_otherOf_75 : decode cX3_otherOf 75 = .ok (.iadd, 1) := by decide +kernel
theorem dX3_otherOf_76 : decode cX3_otherOf 76 = .ok (.goto 6, 3) := by decide +kernel
theorem dX3_otherOf_79 : decode cX3_otherOf 79 = .ok (.iload_n 0, 1) := by decide +kernel
theorem dX3_otherOf_80 : decode cX3_otherOf 80 = .ok (.iconst 3, 1) := by decide +kernel
theorem dX3_otherOf_81 : decode cX3_otherOf 81 = .ok (.iadd, 1) := by decide +kernel
theorem dX3_otherOf_82 : decode cX3_otherOf 82 = .ok (.ireturn, 1) := by decide +kernel
theorem dX3_otherOf_83 : decode cX3_otherOf 83 = .ok (.iload_n 3, 1) := by decide +kernel
theorem dX3_otherOf_84 : decode cX3_otherOf 84 = .ok (.ifCond .ne 10, 3) := by decide +kernel
theorem dX3_otherOf_87 : decode cX3_otherOf 87 = .ok (.bipush 18, 2) := by decide +kernel
theorem dX3_otherOf_89 : decode cX3_otherOf 89 = .ok (.iload_n 2, 1) := by decide +kernel
theorem dX3_otherOf_90 : decode cX3_otherOf 90 = .ok (.iadd, 1) := by decide +kernel
theorem dX3_otherOf_91 : decode cX3_otherOf 91 = .ok (.goto 6, 3) := by decide +kernel
theorem dX3_otherOf_94 : decode cX3_otherOf 94 = .ok (.iload_n 0, 1) := by decide +kernel
theorem dX3_otherOf_95 : decode cX3_otherOf 95 = .ok (.iconst 1, 1) := by decide +kernel
theorem dX3_otherOf_96 : decode cX3_otherOf 96 = .ok (.isub, 1) := by decide +kernel
theorem dX3_otherOf_97 : decode cX3_otherOf 97 = .ok (.ireturn, 1) := by decide +kernel
set_option maxRecDepth 20000 in
theorem ggX3_conductanceOf_X3_linkOf : GoodIn wsX3_conductanceOf wsX3_linkOf := goodIn_r _ [5] (by decide +kernel) (by decide +kernel)
set_option maxRecDepth 20000 in
theorem gX3_conductanceOf_X3_linkOf : GoodIn wsX3_conductanceOf (va_wsS RX3 67 yX3_linkOf wsX3_linkOf) := goodIn_app (goodIn_of _ (by decide +kernel)) ggX3_conductanceOf_X3_linkOf
theorem dX3_conductanceOf_0 : decode cX3_conductanceOf 0 = .ok (.aload_n 0, 1) := by decide +kernel
theorem dX3_conductanceOf_1 : decode cX3_conductanceOf 1 = .ok (.getfield 7, 3) := by decide +kernel
theorem dX3_conductanceOf_4 : decode cX3_conductanceOf 4 = .ok (.iconst 0, 1) := by decide +kernel
theorem dX3_conductanceOf_5 : decode cX3_conductanceOf 5 = .ok (.iload_n 1, 1) := by decide +kernel
theorem dX3_conductanceOf_6 : decode cX3_conductanceOf 6 = .ok (.iload_n 2, 1) := by decide +kernel
theorem dX3_conductanceOf_7 : decode cX3_conductanceOf 7 = .ok (.invokestatic 67, 3) := by decide +kernel
theorem dX3_conductanceOf_10 : decode cX3_conductanceOf 10 = .ok (.iadd, 1) := by decide +kernel
theorem dX3_conductanceOf_11 : decode cX3_conductanceOf 11 = .ok (.iaload, 1) := by decide +kernel
theorem dX3_conductanceOf_12 : decode cX3_conductanceOf 12 = .ok (.ireturn, 1) := by decide +kernel
set_option maxRecDepth 20000 in
theorem ggX3_isLooseNow_X3_otherOf : GoodIn wsX3_isLooseNow wsX3_otherOf := goodIn_r _ [4] (by decide +kernel) (by decide +kernel)
set_option maxRecDepth 20000 in
theorem gX3_isLooseNow_X3_otherOf : GoodIn wsX3_isLooseNow (va_wsS RX3 70 yX3_otherOf wsX3_otherOf) := goodIn_app (goodIn_of _ (by decide +kernel)) ggX3_isLooseNow_X3_otherOf
set_option maxRecDepth 20000 in
theorem ggX3_isLooseNow_X3_conductanceOf : GoodIn wsX3_isLooseNow wsX3_conductanceOf := goodIn_ca (goodIn_r _ [8, 9, 10, 11, 3, 12, 13, 14, 15, 16, 17, 18, 19, 20, 21, 22, 23, 24, 25, 26, 27] (by decide +kernel) (by decide +kernel)) (goodIn_sub (fun _ h => List.mem_cons_of_mem _ (List.mem_append_right _ h)) (by decide +kernel))
set_option maxRecDepth 20000 in
theorem gX3_isLooseNow_X3_conductanceOf : GoodIn wsX3_isLooseNow (wsV RX3 73 RX3 yX3_conductanceOf wsX3_conductanceOf) := goodIn_app (goodIn_of _ (by decide +kernel)) ggX3_isLooseNow_X3_conductanceOf
theorem dX3_isLooseNow_0 : decode cX3_isLooseNow 0 = .ok (.iconst 0, 1) := by decide +kernel
theorem dX3_isLooseNow_1 : decode cX3_isLooseNow 1 = .ok (.istore_n 1, 1) := by decide +kernel
theorem dX3_isLooseNow_2 : decode cX3_isLooseNow 2 = .ok (.iconst 0, 1) := by decide +kernel
theorem dX3_isLooseNow_3 : decode cX3_isLooseNow 3 = .ok (.istore_n 2, 1) := by decide +kernel
theorem dX3_isLooseNow_4 : decode cX3_isLooseNow 4 = .ok (.iload_n 2, 1) := by decide +kernel
theorem dX3_isLooseNow_5 : decode cX3_isLooseNow 5 = .ok (.bipush 9, 2) := by decide +kernel
theorem dX3_isLooseNow_7 : decode cX3_isLooseNow 7 = .ok (.if_icmp .ge 88, 3) := by decide +kernel
theorem dX3_isLooseNow_10 : decode cX3_isLooseNow 10 = .ok (.iconst 0, 1) := by decide +kernel
theorem dX3_isLooseNow_11 : decode cX3_isLooseNow 11 = .ok (.istore_n 3, 1) := by decide +kernel
theorem dX3_isLooseNow_12 : decode cX3_isLooseNow 12 = .ok (.iload_n 3, 1) := by decide +kernel
theorem dX3_isLooseNow_13 : decode cX3_isLooseNow 13 = .ok (.bipush 36, 2) := by decide +kernel
theorem dX3_isLooseNow_15 : decode cX3_isLooseNow 15 = .ok (.if_icmp .ge 74, 3) := by decide +kernel
theorem dX3_isLooseNow_18 : decode cX3_isLooseNow 18 = .ok (.iload_n 3, 1) := by decide +kernel
theorem dX3_isLooseNow_19 : decode cX3_isLooseNow 19 = .ok (.iconst 4, 1) := by decide +kernel
theorem dX3_isLooseNow_20 : decode cX3_isLooseNow 20 = .ok (.idiv, 1) := by decide +kernel
theorem dX3_isLooseNow_21 : decode cX3_isLooseNow 21 = .ok (.iload_n 3, 1) := by decide +kernel
theorem dX3_isLooseNow_22 : decode cX3_isLooseNow 22 = .ok (.iconst 4, 1) := by decide +kernel
theorem dX3_isLooseNow_23 : decode cX3_isLooseNow 23 = .ok (.irem, 1) := by decide +kernel
theorem dX3_isLooseNow_24 : decode cX3_isLooseNow 24 = .ok (.invokestatic 70, 3) := by decide +kernel
theorem dX3_isLooseNow_27 : decode cX3_isLooseNow 27 = .ok (.istore 4, 2) := by decide +kernel
theorem dX3_isLooseNow_29 : decode cX3_isLooseNow 29 = .ok (.iload 4, 2) := by decide +kernel
theorem dX3_isLooseNow_31 : decode cX3_isLooseNow 31 = .ok (.bipush 9, 2) := by decide +kernel
theorem dX3_isLooseNow_33 : decode cX3_isLooseNow 33 = .ok (.if_icmp .ge 13, 3) := by decide +kernel
theorem dX3_isLooseNow_36 : decode cX3_isLooseNow 36 = .ok (.iload_n 1, 1) := by decide +kernel
theorem dX3_isLooseNow_37 : decode cX3_isLooseNow 37 = .ok (.iload 4, 2) := by decide +kernel
theorem dX3_isLooseNow_39 : decode cX3_isLooseNow 39 = .ok (.ishr, 1) := by decide +kernel
theorem dX3_isLooseNow_40 : decode cX3_isLooseNow 40 = .ok (.iconst 1, 1) := by decide +kernel
theorem dX3_isLooseNow_41 : decode cX3_isLooseNow 41 = .ok (.iand, 1) := by decide +kernel
theorem dX3_isLooseNow_42 : decode cX3_isLooseNow 42 = .ok (.iconst 1, 1) := by decide +kernel
theorem dX3_isLooseNow_43 : decode cX3_isLooseNow 43 = .ok (.if_icmp .ne 7, 3) := by decide +kernel
theorem dX3_isLooseNow_46 : decode cX3_isLooseNow 46 = .ok (.iconst 1, 1) := by decide +kernel
theorem dX3_isLooseNow_47 : decode cX3_isLooseNow 47 = .ok (.goto 4, 3) := by decide +kernel
theorem dX3_isLooseNow_50 : decode cX3_isLooseNow 50 = .ok (.iconst 0, 1) := by decide +kernel
theorem dX3_isLooseNow_51 : decode cX3_isLooseNow 51 = .ok (.istore 5, 2) := by decide +kernel
theorem dX3_isLooseNow_53 : decode cX3_isLooseNow 53 = .ok (.iload_n 1, 1) := by decide +kernel
theorem dX3_isLooseNow_54 : decode cX3_isLooseNow 54 = .ok (.iload 5, 2) := by decide +kernel
theorem dX3_isLooseNow_56 : decode cX3_isLooseNow 56 = .ok (.ifCond .eq 24, 3) := by decide +kernel
theorem dX3_isLooseNow_59 : decode cX3_isLooseNow 59 = .ok (.aload_n 0, 1) := by decide +kernel
theorem dX3_isLooseNow_60 : decode cX3_isLooseNow 60 = .ok (.iload_n 3, 1) := by decide +kernel
theorem dX3_isLooseNow_61 : decode cX3_isLooseNow 61 = .ok (.iconst 4, 1) := by decide +kernel
theorem dX3_isLooseNow_62 : decode cX3_isLooseNow 62 = .ok (.idiv, 1) := by decide +kernel
theorem dX3_isLooseNow_63 : decode cX3_isLooseNow 63 = .ok (.iload_n 3, 1) := by decide +kernel
theorem dX3_isLooseNow_64 : decode cX3_isLooseNow 64 = .ok (.iconst 4, 1) := by decide +kernel
theorem dX3_isLooseNow_65 : decode cX3_isLooseNow 65 = .ok (.irem, 1) := by decide +kernel
theorem dX3_isLooseNow_66 : decode cX3_isLooseNow 66 = .ok (.invokevirtual 73, 3) := by decide +kernel
theorem dX3_isLooseNow_69 : decode cX3_isLooseNow 69 = .ok (.ifCond .le 11, 3) := by decide +kernel
theorem dX3_isLooseNow_72 : decode cX3_isLooseNow 72 = .ok (.iconst 1, 1) := by decide +kernel
theorem dX3_isLooseNow_73 : decode cX3_isLooseNow 73 = .ok (.iload_n 3, 1) := by decide +kernel
theorem dX3_isLooseNow_74 : decode cX3_isLooseNow 74 = .ok (.iconst 4, 1) := by decide +kernel
theorem dX3_isLooseNow_75 : decode cX3_isLooseNow 75 = .ok (.idiv, 1) := by decide +kernel
theorem dX3_isLooseNow_76 : decode cX3_isLooseNow 76 = .ok (.ishl, 1) := by decide +kernel
theorem dX3_isLooseNow_77 : decode cX3_isLooseNow 77 = .ok (.goto 4, 3) := by decide +kernel
theorem dX3_isLooseNow_80 : decode cX3_isLooseNow 80 = .ok (.iconst 0, 1) := by decide +kernel
theorem dX3_isLooseNow_81 : decode cX3_isLooseNow 81 = .ok (.ior, 1) := by decide +kernel
theorem dX3_isLooseNow_82 : decode cX3_isLooseNow 82 = .ok (.istore_n 1, 1) := by decide +kernel
theorem dX3_isLooseNow_83 : decode cX3_isLooseNow 83 = .ok (.iinc 3 1, 3) := by decide +kernel
theorem dX3_isLooseNow_86 : decode cX3_isLooseNow 86 = .ok (.goto (-74), 3) := by decide +kernel
theorem dX3_isLooseNow_89 : decode cX3_isLooseNow 89 = .ok (.iinc 2 1, 3) := by decide +kernel
theorem dX3_isLooseNow_92 : decode cX3_isLooseNow 92 = .ok (.goto (-88), 3) := by decide +kernel
theorem dX3_isLooseNow_95 : decode cX3_isLooseNow 95 = .ok (.iload_n 1, 1) := by decide +kernel
theorem dX3_isLooseNow_96 : decode cX3_isLooseNow 96 = .ok (.sipush 511, 3) := by decide +kernel
theorem dX3_isLooseNow_99 : decode cX3_isLooseNow 99 = .ok (.if_icmp .eq 7, 3) := by decide +kernel
theorem dX3_isLooseNow_102 : decode cX3_isLooseNow 102 = .ok (.iconst 1, 1) := by decide +kernel
theorem dX3_isLooseNow_103 : decode cX3_isLooseNow 103 = .ok (.goto 4, 3) := by decide +kernel
theorem dX3_isLooseNow_106 : decode cX3_isLooseNow 106 = .ok (.iconst 0, 1) := by decide +kernel
theorem dX3_isLooseNow_107 : decode cX3_isLooseNow 107 = .ok (.ireturn, 1) := by decide +kernel
set_option maxRecDepth 20000 in
theorem ggX3_isLoose_X3_isLooseNow : GoodIn wsX3_isLoose wsX3_isLooseNow := goodIn_ca (goodIn_r _ [6, 7, 8, 5, 9, 10, 11, 12, 13, 14, 15, 16, 17, 18, 19, 20, 21, 22, 23, 24, 25, 26, 27, 28, 29, 30, 31, 32] (by decide +kernel) (by decide +kernel)) (goodIn_sub (fun _ h => List.mem_cons_of_mem _ (List.mem_append_right _ h)) (by decide +kernel))
set_option maxRecDepth 20000 in
theorem gX3_isLoose_X3_isLooseNow : GoodIn wsX3_isLoose (wsV RX3 76 RX3 yX3_isLooseNow wsX3_isLooseNow) := goodIn_app (goodIn_of _ (by decide +kernel)) ggX3_isLoose_X3_isLooseNow
theorem dX3_isLoose_0 : decode cX3_isLoose 0 = .ok (.aload_n 0, 1) := by decide +kernel
theorem dX3_isLoose_1 : decode cX3_isLoose 1 = .ok (.iconst 0, 1) := by decide +kernel
theorem dX3_isLoose_2 : decode cX3_isLoose 2 = .ok (.putfield 45, 3) := by decide +kernel
theorem dX3_isLoose_5 : decode cX3_isLoose 5 = .ok (.aload_n 0, 1) := by decide +kernel
theorem dX3_isLoose_6 : decode cX3_isLoose 6 = .ok (.invokevirtual 76, 3) := by decide +kernel
theorem dX3_isLoose_9 : decode cX3_isLoose 9 = .ok (.ireturn, 1) := by decide +kernel
set_option maxRecDepth 20000 in
theorem ggX3_layMatrix_X3_conductanceOf : GoodIn wsX3_layMatrix wsX3_conductanceOf := goodIn_ca (goodIn_r _ [8, 3, 9, 10, 7, 11, 15, 16, 17, 18, 19, 20, 21, 22, 23, 24, 25, 26, 27, 28, 29] (by decide +kernel) (by decide +kernel)) (goodIn_sub (fun _ h => List.mem_cons_of_mem _ (List.mem_append_right _ h)) (by decide +kernel))
set_option maxRecDepth 20000 in
theorem gX3_layMatrix_X3_conductanceOf : GoodIn wsX3_layMatrix (wsV RX3 73 RX3 yX3_conductanceOf wsX3_conductanceOf) := goodIn_app (goodIn_of _ (by decide +kernel)) ggX3_layMatrix_X3_conductanceOf
set_option maxRecDepth 20000 in
theorem ggX3_layMatrix_X3_otherOf : GoodIn wsX3_layMatrix wsX3_otherOf := goodIn_r _ [14] (by decide +kernel) (by decide +kernel)
set_option maxRecDepth 20000 in
theorem gX3_layMatrix_X3_otherOf : GoodIn wsX3_layMatrix (va_wsS RX3 70 yX3_otherOf wsX3_otherOf) := goodIn_app (goodIn_of _ (by decide +kernel)) ggX3_layMatrix_X3_otherOf
theorem dX3_layMatrix_0 : decode cX3_layMatrix 0 = .ok (.iconst 0, 1) := by decide +kernel
theorem dX3_layMatrix_1 : decode cX3_layMatrix 1 = .ok (.istore_n 1, 1) := by decide +kernel
theorem dX3_layMatrix_2 : decode cX3_layMatrix 2 = .ok (.iload_n 1, 1) := by decide +kernel
theorem dX3_layMatrix_3 : decode cX3_layMatrix 3 = .ok (.bipush 81, 2) := by decide +kernel
theorem dX3_layMatrix_5 : decode cX3_layMatrix 5 = .ok (.if_icmp .ge 16, 3) := by decide +kernel
theorem dX3_layMatrix_8 : decode cX3_layMatrix 8 = .ok (.aload_n 0, 1) := by decide +kernel
theorem dX3_layMatrix_9 : decode cX3_layMatrix 9 = .ok (.getfield 23, 3) := by decide +kernel
theorem dX3_layMatrix_12 : decode cX3_layMatrix 12 = .ok (.iload_n 1, 1) := by decide +kernel
theorem dX3_layMatrix_13 : decode cX3_layMatrix 13 = .ok (.lconst 0, 1) := by decide +kernel
theorem dX3_layMatrix_14 : decode cX3_layMatrix 14 = .ok (.lastore, 1) := by decide +kernel
theorem dX3_layMatrix_15 : decode cX3_layMatrix 15 = .ok (.iinc 1 1, 3) := by decide +kernel
theorem dX3_layMatrix_18 : decode cX3_layMatrix 18 = .ok (.goto (-16), 3) := by decide +kernel
theorem dX3_layMatrix_21 : decode cX3_layMatrix 21 = .ok (.iconst 0, 1) := by decide +kernel
theorem dX3_layMatrix_22 : decode cX3_layMatrix 22 = .ok (.istore_n 1, 1) := by decide +kernel
theorem dX3_layMatrix_23 : decode cX3_layMatrix 23 = .ok (.iload_n 1, 1) := by decide +kernel
theorem dX3_layMatrix_24 : decode cX3_layMatrix 24 = .ok (.bipush 9, 2) := by decide +kernel
theorem dX3_layMatrix_26 : decode cX3_layMatrix 26 = .ok (.if_icmp .ge 130, 3) := by decide +kernel
theorem dX3_layMatrix_29 : decode cX3_layMatrix 29 = .ok (.aload_n 0, 1) := by decide +kernel
theorem dX3_layMatrix_30 : decode cX3_layMatrix 30 = .ok (.getfield 27, 3) := by decide +kernel
theorem dX3_layMatrix_33 : decode cX3_layMatrix 33 = .ok (.iload_n 1, 1) := by decide +kernel
theorem dX3_layMatrix_34 : decode cX3_layMatrix 34 = .ok (.aload_n 0, 1) := by decide +kernel
theorem dX3_layMatrix_35 : decode cX3_layMatrix 35 = .ok (.getfield 7, 3) := by decide +kernel
theorem dX3_layMatrix_38 : decode cX3_layMatrix 38 = .ok (.bipush 36, 2) := by decide +kernel
theorem dX3_layMatrix_40 : decode cX3_layMatrix 40 = .ok (.iload_n 1, 1) := by decide +kernel
theorem dX3_layMatrix_41 : decode cX3_layMatrix 41 = .ok (.iadd, 1) := by decide +kernel
theorem dX3_layMatrix_42 : decode cX3_layMatrix 42 = .ok (.iaload, 1) := by decide +kernel
theorem dX3_layMatrix_43 : decode cX3_layMatrix 43 = .ok (.aload_n 0, 1) := by decide +kernel
theorem dX3_layMatrix_44 : decode cX3_layMatrix 44 = .ok (.getfield 7, 3) := by decide +kernel
theorem dX3_layMatrix_47 : decode cX3_layMatrix 47 = .ok (.bipush 45, 2) := by decide +kernel
theorem dX3_layMatrix_49 : decode cX3_layMatrix 49 = .ok (.iload_n 1, 1) := by decide +kernel
theorem dX3_layMatrix_50 : decode cX3_layMatrix 50 = .ok (.iadd, 1) := by decide +kernel
theorem dX3_layMatrix_51 : decode cX3_layMatrix 51 = .ok (.iaload, 1) := by decide +kernel
theorem dX3_layMatrix_52 : decode cX3_layMatrix 52 = .ok (.isub, 1) := by decide +kernel
theorem dX3_layMatrix_53 : decode cX3_layMatrix 53 = .ok (.i2l, 1) := by decide +kernel
theorem dX3_layMatrix_54 : decode cX3_layMatrix 54 = .ok (.lastore, 1) := by decide +kernel
theorem dX3_layMatrix_55 : decode cX3_layMatrix 55 = .ok (.iconst 0, 1) := by decide +kernel
theorem dX3_layMatrix_56 : decode cX3_layMatrix 56 = .ok (.istore_n 2, 1) := by decide +kernel
theorem dX3_layMatrix_57 : decode cX3_layMatrix 57 = .ok (.iload_n 2, 1) := by decide +kernel
theorem dX3_layMatrix_58 : decode cX3_layMatrix 58 = .ok (.iconst 4, 1) := by decide +kernel
theorem dX3_layMatrix_59 : decode cX3_layMatrix 59 = .ok (.if_icmp .ge 91, 3) := by decide +kernel
theorem dX3_layMatrix_62 : decode cX3_layMatrix 62 = .ok (.aload_n 0, 1) := by decide +kernel
theorem dX3_layMatrix_63 : decode cX3_layMatrix 63 = .ok (.iload_n 1, 1) := by decide +kernel
theorem dX3_layMatrix_64 : decode cX3_layMatrix 64 = .ok (.iload_n 2, 1) := by decide +kernel
theorem dX3_layMatrix_65 : decode cX3_layMatrix 65 = .ok (.invokevirtual 73, 3) := by decide +kernel
theorem dX3_layMatrix_68 : decode cX3_layMatrix 68 = .ok (.istore_n 3, 1) := by decide +kernel
theorem dX3_layMatrix_69 : decode cX3_layMatrix 69 = .ok (.iload_n 1, 1) := by decide +kernel
theorem dX3_layMatrix_70 : decode cX3_layMatrix 70 = .ok (.iload_n 2, 1) := by decide +kernel
theorem dX3_layMatrix_71 : decode cX3_layMatrix 71 = .ok (.invokestatic 70, 3) := by decide +kernel
theorem dX3_layMatrix_74 : decode cX3_layMatrix 74 = .ok (.istore 4, 2) := by decide +kernel
theorem dX3_layMatrix_76 : decode cX3_layMatrix 76 = .ok (.aload_n 0, 1) := by decide +kernel
theorem dX3_layMatrix_77 : decode cX3_layMatrix 77 = .ok (.getfield 23, 3) := by decide +kernel
theorem dX3_layMatrix_80 : decode cX3_layMatrix 80 = .ok (.bipush 9, 2) := by decide +kernel
theorem dX3_layMatrix_82 : decode cX3_layMatrix 82 = .ok (.iload_n 1, 1) := by decide +kernel
theorem dX3_layMatrix_83 : decode cX3_layMatrix 83 = .ok (.imul, 1) := by decide +kernel
theorem dX3_layMatrix_84 : decode cX3_layMatrix 84 = .ok (.iload_n 1, 1) := by decide +kernel
theorem dX3_layMatrix_85 : decode cX3_layMatrix 85 = .ok (.iadd, 1) := by decide +kernel
theorem dX3_layMatrix_86 : decode cX3_layMatrix 86 = .ok (.dup2, 1) := by decide +kernel
theorem dX3_layMatrix_87 : decode cX3_layMatrix 87 = .ok (.laload, 1) := by decide +kernel
theorem dX3_layMatrix_88 : decode cX3_layMatrix 88 = .ok (.iload_n 3, 1) := by decide +kernel
theorem dX3_layMatrix_89 : decode cX3_layMatrix 89 = .ok (.i2l, 1) := by decide +kernel
theorem dX3_layMatrix_90 : decode cX3_layMatrix 90 = .ok (.ladd, 1) := by decide +kernel
theorem dX3_layMatrix_91 : decode cX3_layMatrix 91 = .ok (.lastore, 1) := by decide +kernel
theorem dX3_layMatrix_92 : decode cX3_layMatrix 92 = .ok (.iload 4, 2) := by decide +kernel
theorem dX3_layMatrix_94 : decode cX3_layMatrix 94 = .ok (.bipush 9, 2) := by decide +kernel
theorem dX3_layMatrix_96 : decode cX3_layMatrix 96 = .ok (.if_icmp .ge 23, 3) := by decide +kernel
theorem dX3_layMatrix_99 : decode cX3_layMatrix 99 = .ok (.aload_n 0, 1) := by decide +kernel
theorem dX3_layMatrix_100 : decode cX3_layMatrix 100 = .ok (.getfield 23, 3) := by decide +kernel
theorem dX3_layMatrix_103 : decode cX3_layMatrix 103 = .ok (.bipush 9, 2) := by decide +kernel
theorem dX3_layMatrix_105 : decode cX3_layMatrix 105 = .ok (.iload_n 1, 1) := by decide +kernel
theorem dX3_layMatrix_106 : decode cX3_layMatrix 106 = .ok (.imul, 1) := by decide +kernel
theorem dX3_layMatrix_107 : decode cX3_layMatrix 107 = .ok (.iload 4, 2) := by decide +kernel
theorem dX3_layMatrix_109 : decode cX3_layMatrix 109 = .ok (.iadd, 1) := by decide +kernel
theorem dX3_layMatrix_110 : decode cX3_layMatrix 110 = .ok (.dup2, 1) := by decide +kernel
theorem dX3_layMatrix_111 : decode cX3_layMatrix 111 = .ok (.laload, 1) := by decide +kernel
theorem dX3_layMatrix_112 : decode cX3_layMatrix 112 = .ok (.iload_n 3, 1) := by decide +kernel
theorem dX3_layMatrix_113 : decode cX3_layMatrix 113 = .ok (.i2l, 1) := by decide +kernel
theorem dX3_layMatrix_114 : decode cX3_layMatrix 114 = .ok (.lsub, 1) := by decide +kernel
theorem dX3_layMatrix_115 : decode cX3_layMatrix 115 = .ok (.lastore, 1) := by decide +kernel
theorem dX3_layMatrix_116 : decode cX3_layMatrix 116 = .ok (.goto 28, 3) := by decide +kernel
theorem dX3_layMatrix_119 : decode cX3_layMatrix 119 = .ok (.aload_n 0, 1) := by decide +kernel
theorem dX3_layMatrix_120 : decode cX3_layMatrix 120 = .ok (.getfield 27, 3) := by decide +kernel
theorem dX3_layMatrix_123 : decode cX3_layMatrix 123 = .ok (.iload_n 1, 1) := by decide +kernel
theorem dX3_layMatrix_124 : decode cX3_layMatrix 124 = .ok (.dup2, 1) := by decide +kernel
theorem dX3_layMatrix_125 : decode cX3_layMatrix 125 = .ok (.laload, 1) := by decide +kernel
theorem dX3_layMatrix_126 : decode cX3_layMatrix 126 = .ok (.iload_n 3, 1) := by decide +kernel
theorem dX3_layMatrix_127 : decode cX3_layMatrix 127 = .ok (.aload_n 0, 1) := by decide +kernel
theorem dX3_layMatrix_128 : decode cX3_layMatrix 128 = .ok (.getfield 7, 3) := by decide +kernel
theorem dX3_layMatrix_131 : decode cX3_layMatrix 131 = .ok (.bipush 24, 2) := by decide +kernel
theorem dX3_layMatrix_133 : decode cX3_layMatrix 133 = .ok (.iload 4, 2) := by decide +kernel
theorem dX3_layMatrix_135 : decode cX3_layMatrix 135 = .ok (.iadd, 1) := by decide +kernel
theorem dX3_layMatrix_136 : decode cX3_layMatrix 136 = .ok (.bipush 9, 2) := by decide +kernel
theorem dX3_layMatrix_138 : decode cX3_layMatrix 138 = .ok (.isub, 1) := by decide +kernel
theorem dX3_layMatrix_139 : decode cX3_layMatrix 139 = .ok (.iaload, 1) := by decide +kernel
theorem dX3_layMatrix_140 : decode cX3_layMatrix 140 = .ok (.imul, 1) := by decide +kernel
theorem dX3_layMatrix_141 : decode cX3_layMatrix 141 = .ok (.i2l, 1) := by decide +kernel
theorem dX3_layMatrix_142 : decode cX3_layMatrix 142 = .ok (.ladd, 1) := by decide +kernel
theorem dX3_layMatrix_143 : decode cX3_layMatrix 143 = .ok (.lastore, 1) := by decide +kernel
theorem dX3_layMatrix_144 : decode cX3_layMatrix 144 = .ok (.iinc 2 1, 3) := by decide +kernel
theorem dX3_layMatrix_147 : decode cX3_layMatrix 147 = .ok (.goto (-90), 3) := by decide +kernel
theorem dX3_layMatrix_150 : decode cX3_layMatrix 150 = .ok (.iinc 1 1, 3) := by decide +kernel
theorem dX3_layMatrix_153 : decode cX3_layMatrix 153 = .ok (.goto (-130), 3) := by decide +kernel
theorem dX3_layMatrix_156 : decode cX3_layMatrix 156 = .ok (.return_, 1) := by decide +kernel
theorem dX3_determinantWithout_0 : decode cX3_determinantWithout 0 = .ok (.iload_n 1, 1) := by decide +kernel
theorem dX3_determinantWithout_1 : decode cX3_determinantWithout 1 = .ok (.bipush 9, 2) := by decide +kernel
theorem dX3_determinantWithout_3 : decode cX3_determinantWithout 3 = .ok (.if_icmp .ne 8, 3) := by decide +kernel
theorem dX3_determinantWithout_6 : decode cX3_determinantWithout 6 = .ok (.bipush 9, 2) := by decide +kernel
theorem dX3_determinantWithout_8 : decode cX3_determinantWithout 8 = .ok (.goto 5, 3) := by decide +kernel
theorem dX3_determinantWithout_11 : decode cX3_determinantWithout 11 = .ok (.bipush 8, 2) := by decide +kernel
theorem dX3_determinantWithout_13 : decode cX3_determinantWithout 13 = .ok (.istore_n 3, 1) := by decide +kernel
theorem dX3_determinantWithout_14 : decode cX3_determinantWithout 14 = .ok (.aload_n 0, 1) := by decide +kernel
theorem dX3_determinantWithout_15 : decode cX3_determinantWithout 15 = .ok (.getfield 30, 3) := by decide +kernel
theorem dX3_determinantWithout_18 : decode cX3_determinantWithout 18 = .ok (.iconst 0, 1) := by decide +kernel
theorem dX3_determinantWithout_19 : decode cX3_determinantWithout 19 = .ok (.lconst 1, 1) := by decide +kernel
theorem dX3_determinantWithout_20 : decode cX3_determinantWithout 20 = .ok (.lastore, 1) := by decide +kernel
theorem dX3_determinantWithout_21 : decode cX3_determinantWithout 21 = .ok (.iconst 1, 1) := by decide +kernel
theorem dX3_determinantWithout_22 : decode cX3_determinantWithout 22 = .ok (.istore 4, 2) := by decide +kernel
theorem dX3_determinantWithout_24 : decode cX3_determinantWithout 24 = .ok (.iload 4, 2) := by decide +kernel
theorem dX3_determinantWithout_26 : decode cX3_determinantWithout 26 = .ok (.iconst 1, 1) := by decide +kernel
theorem dX3_determinantWithout_27 : decode cX3_determinantWithout 27 = .ok (.iload_n 3, 1) := by decide +kernel
theorem dX3_determinantWithout_28 : decode cX3_determinantWithout 28 = .ok (.ishl, 1) := by decide +kernel
theorem dX3_determinantWithout_29 : decode cX3_determinantWithout 29 = .ok (.if_icmp .ge 166, 3) := by decide +kernel
theorem dX3_determinantWithout_32 : decode cX3_determinantWithout 32 = .ok (.iconst (-1), 1) := by decide +kernel
theorem dX3_determinantWithout_33 : decode cX3_determinantWithout 33 = .ok (.istore 5, 2) := by decide +kernel
theorem dX3_determinantWithout_35 : decode cX3_determinantWithout 35 = .ok (.iconst 0, 1) := by decide +kernel
theorem dX3_determinantWithout_36 : decode cX3_determinantWithout 36 = .ok (.istore 6, 2) := by decide +kernel
theorem dX3_determinantWithout_38 : decode cX3_determinantWithout 38 = .ok (.iload 6, 2) := by decide +kernel
theorem dX3_determinantWithout_40 : decode cX3_determinantWithout 40 = .ok (.iload_n 3, 1) := by decide +kernel
theorem dX3_determinantWithout_41 : decode cX3_determinantWithout 41 = .ok (.if_icmp .ge 21, 3) := by decide +kernel
theorem dX3_determinantWithout_44 : decode cX3_determinantWithout 44 = .ok (.iload 5, 2) := by decide +kernel
theorem dX3_determinantWithout_46 : decode cX3_determinantWithout 46 = .ok (.iload 4, 2) := by decide +kernel
theorem dX3_determinantWithout_48 : decode cX3_determinantWithout 48 = .ok (.iload 6, 2) := by decide +kernel
theorem dX3_determinantWithout_50 : decode cX3_determinantWithout 50 = .ok (.ishr, 1) := by decide +kernel
theorem dX3_determinantWithout_51 : decode cX3_determinantWithout 51 = .ok (.iconst 1, 1) := by decide +kernel
theorem dX3_determinantWithout_52 : decode cX3_determinantWithout 52 = .ok (.iand, 1) := by decide +kernel
theorem dX3_determinantWithout_53 : decode cX3_determinantWithout 53 = .ok (.iadd, 1) := by decide +kernel
theorem dX3_determinantWithout_54 : decode cX3_determinantWithout 54 = .ok (.istore 5, 2) := by decide +kernel
theorem dX3_determinantWithout_56 : decode cX3_determinantWithout 56 = .ok (.iinc 6 1, 3) := by decide +kernel
theorem dX3_determinantWithout_59 : decode cX3_determinantWithout 59 = .ok (.goto (-21), 3) := by decide +kernel
theorem dX3_determinantWithout_62 : decode cX3_determinantWithout 62 = .ok (.bipush 9, 2) := by decide +kernel
theorem dX3_determinantWithout_64 : decode cX3_determinantWithout 64 = .ok (.iload 5, 2) := by decide +kernel
theorem dX3_determinantWithout_66 : decode cX3_determinantWithout 66 = .ok (.iload_n 1, 1) := by decide +kernel
theorem dX3_determinantWithout_67 : decode cX3_determinantWithout 67 = .ok (.if_icmp .ge 8, 3) := by decide +kernel
theorem dX3_determinantWithout_70 : decode cX3_determinantWithout 70 = .ok (.iload 5, 2) := by decide +kernel
theorem dX3_determinantWithout_72 : decode cX3_determinantWithout 72 = .ok (.goto 7, 3) := by decide +kernel
theorem dX3_determinantWithout_75 : decode cX3_determinantWithout 75 = .ok (.iload 5, 2) := by decide +kernel
theorem dX3_determinantWithout_77 : decode cX3_determinantWithout 77 = .ok (.iconst 1, 1) := by decide +kernel
theorem dX3_determinantWithout_78 : decode cX3_determinantWithout 78 = .ok (.iadd, 1) := by decide +kernel
theorem dX3_determinantWithout_79 : decode cX3_determinantWithout 79 = .ok (.imul, 1) := by decide +kernel
theorem dX3_determinantWithout_80 : decode cX3_determinantWithout 80 = .ok (.istore 6, 2) := by decide +kernel
theorem dX3_determinantWithout_82 : decode cX3_determinantWithout 82 = .ok (.lconst 0, 1) := by decide +kernel
theorem dX3_determinantWithout_83 : decode cX3_determinantWithout 83 = .ok (.lstore 7, 2) := by decide +kernel
theorem dX3_determinantWithout_85 : decode cX3_determinantWithout 85 = .ok (.iconst 0, 1) := by decide +kernel
theorem dX3_determinantWithout_86 : decode cX3_determinantWithout 86 = .ok (.istore 9, 2) := by decide +kernel
theorem dX3_determinantWithout_88 : decode cX3_determinantWithout 88 = .ok (.iconst 0, 1) := by decide +kernel
theorem dX3_determinantWithout_89 : decode cX3_determinantWithout 89 = .ok (.istore 10, 2) := by decide +kernel
theorem dX3_determinantWithout_91 : decode cX3_determinantWithout 91 = .ok (.iload 10, 2) := by decide +kernel
theorem dX3_determinantWithout_93 : decode cX3_determinantWithout 93 = .ok (.iload_n 3, 1) := by decide +kernel
theorem dX3_determinantWithout_94 : decode cX3_determinantWithout 94 = .ok (.if_icmp .ge 86, 3) := by decide +kernel
theorem dX3_determinantWithout_97 : decode cX3_determinantWithout 97 = .ok (.iload 4, 2) := by decide +kernel
theorem dX3_determinantWithout_99 : decode cX3_determinantWithout 99 = .ok (.iload 10, 2) := by decide +kernel
theorem dX3_determinantWithout_101 : decode cX3_determinantWithout 101 = .ok (.ishr, 1) := by decide +kernel
theorem dX3_determinantWithout_102 : decode cX3_determinantWithout 102 = .ok (.iconst 1, 1) := by decide +kernel
theorem dX3_determinantWithout_103 : decode cX3_determinantWithout 103 = .ok (.iand, 1) := by decide +kernel
theorem dX3_determinantWithout_104 : decode cX3_determinantWithout 104 = .ok (.iconst 1, 1) := by decide +kernel
theorem dX3_determinantWithout_105 : decode cX3_determinantWithout 105 = .ok (.if_icmp .ne 69, 3) := by decide +kernel
theorem dX3_determinantWithout_108 : decode cX3_determinantWithout 108 = .ok (.aload_n 0, 1) := by decide +kernel
theorem dX3_determinantWithout_109 : decode cX3_determinantWithout 109 = .ok (.getfield 23, 3) := by decide +kernel
theorem dX3_determinantWithout_112 : decode cX3_determinantWithout 112 = .ok (.iload 6, 2) := by decide +kernel
theorem dX3_determinantWithout_114 : decode cX3_determinantWithout 114 = .ok (.iload 10, 2) := by decide +kernel
theorem dX3_determinantWithout_116 : decode cX3_determinantWithout 116 = .ok (.iload_n 2, 1) := by decide +kernel
theorem dX3_determinantWithout_117 : decode cX3_determinantWithout 117 = .ok (.if_icmp .ge 8, 3) := by decide +kernel
theorem dX3_determinantWithout_120 : decode cX3_determinantWithout 120 = .ok (.iload 10, 2) := by decide +kernel
theorem dX3_determinantWithout_122 : decode cX3_determinantWithout 122 = .ok (.goto 7, 3) := by decide +kernel
theorem dX3_determinantWithout_125 : decode cX3_determinantWithout 125 = .ok (.iload 10, 2) := by decide +kernel
theorem dX3_determinantWithout_127 : decode cX3_determinantWithout 127 = .ok (.iconst 1, 1) := by decide +kernel
theorem dX3_determinantWithout_128 : decode cX3_determinantWithout 128 = .ok (.iadd, 1) := by decide +kernel
theorem dX3_determinantWithout_129 : decode cX3_determinantWithout 129 = .ok (.iadd, 1) := by decide +kernel
theorem dX3_determinantWithout_130 : decode cX3_determinantWithout 130 = .ok (.laload, 1) := by decide +kernel
theorem dX3_determinantWithout_131 : decode cX3_determinantWithout 131 = .ok (.aload_n 0, 1) := by decide +kernel
theorem dX3_determinantWithout_132 : decode cX3_determinantWithout 132 = .ok (.getfield 30, 3) := by decide +kernel
theorem dX3_determinantWithout_135 : decode cX3_determinantWithout 135 = .ok (.iload 4, 2) := by decide +kernel
theorem dX3_determinantWithout_137 : decode cX3_determinantWithout 137 = .ok (.iconst 1, 1) := by decide +kernel
theorem dX3_determinantWithout_138 : decode cX3_determinantWithout 138 = .ok (.iload 10, 2) := by decide +kernel
theorem dX3_determinantWithout_140 : decode cX3_determinantWithout 140 = .ok (.ishl, 1) := by decide +kernel
theorem dX3_determinantWithout_141 : decode cX3_determinantWithout 141 = .ok (.iconst (-1), 1) := by decide +kernel
theorem dX3_determinantWithout_142 : decode cX3_determinantWithout 142 = .ok (.ixor, 1) := by decide +kernel
theorem dX3_determinantWithout_143 : decode cX3_determinantWithout 143 = .ok (.iand, 1) := by decide +kernel
theorem dX3_determinantWithout_144 : decode cX3_determinantWithout 144 = .ok (.laload, 1) := by decide +kernel
theorem dX3_determinantWithout_145 : decode cX3_determinantWithout 145 = .ok (.lmul, 1) := by decide +kernel
theorem dX3_determinantWithout_146 : decode cX3_determinantWithout 146 = .ok (.lstore 11, 2) := by decide +kernel
theorem dX3_determinantWithout_148 : decode cX3_determinantWithout 148 = .ok (.lload 7, 2) := by decide +kernel
theorem dX3_determinantWithout_150 : decode cX3_determinantWithout 150 = .ok (.iload 5, 2) := by decide +kernel
theorem dX3_determinantWithout_152 : decode cX3_determinantWithout 152 = .ok (.iload 9, 2) := by decide +kernel
theorem dX3_determinantWithout_154 : decode cX3_determinantWithout 154 = .ok (.iadd, 1) := by decide +kernel
theorem dX3_determinantWithout_155 : decode cX3_determinantWithout 155 = .ok (.iconst 2, 1) := by decide +kernel
theorem dX3_determinantWithout_156 : decode cX3_determinantWithout 156 = .ok (.irem, 1) := by decide +kernel
theorem dX3_determinantWithout_157 : decode cX3_determinantWithout 157 = .ok (.ifCond .ne 8, 3) := by decide +kernel
theorem dX3_determinantWithout_160 : decode cX3_determinantWithout 160 = .ok (.lload 11, 2) := by decide +kernel
theorem dX3_determinantWithout_162 : decode cX3_determinantWithout 162 = .ok (.goto 6, 3) := by decide +kernel
theorem dX3_determinantWithout_165 : decode cX3_determinantWithout 165 = .ok (.lload 11, 2) := by decide +kernel
theorem dX3_determinantWithout_167 : decode cX3_determinantWithout 167 = .ok (.lneg, 1) := by decide +kernel
theorem dX3_determinantWithout_168 : decode cX3_determinantWithout 168 = .ok (.ladd, 1) := by decide +kernel
theorem dX3_determinantWithout_169 : decode cX3_determinantWithout 169 = .ok (.lstore 7, 2) := by decide +kernel
theorem dX3_determinantWithout_171 : decode cX3_determinantWithout 171 = .ok (.iinc 9 1, 3) := by decide +kernel
theorem dX3_determinantWithout_174 : decode cX3_determinantWithout 174 = .ok (.iinc 10 1, 3) := by decide +kernel
theorem dX3_determinantWithout_177 : decode cX3_determinantWithout 177 = .ok (.goto (-86), 3) := by decide +kernel
theorem dX3_determinantWithout_180 : decode cX3_determinantWithout 180 = .ok (.aload_n 0, 1) := by decide +kernel
theorem dX3_determinantWithout_181 : decode cX3_determinantWithout 181 = .ok (.getfield 30, 3) := by decide +kernel
theorem dX3_determinantWithout_184 : decode cX3_determinantWithout 184 = .ok (.iload 4, 2) := by decide +kernel
theorem dX3_determinantWithout_186 : decode cX3_determinantWithout 186 = .ok (.lload 7, 2) := by decide +kernel
theorem dX3_determinantWithout_188 : decode cX3_determinantWithout 188 = .ok (.lastore, 1) := by decide +kernel
theorem dX3_determinantWithout_189 : decode cX3_determinantWithout 189 = .ok (.iinc 4 1, 3) := by decide +kernel
theorem dX3_determinantWithout_192 : decode cX3_determinantWithout 192 = .ok (.goto (-168), 3) := by decide +kernel
theorem dX3_determinantWithout_195 : decode cX3_determinantWithout 195 = .ok (.aload_n 0, 1) := by decide +kernel
theorem dX3_determinantWithout_196 : decode cX3_determinantWithout 196 = .ok (.getfield 30, 3) := by decide +kernel
theorem dX3_determinantWithout_199 : decode cX3_determinantWithout 199 = .ok (.iconst 1, 1) := by decide +kernel
theorem dX3_determinantWithout_200 : decode cX3_determinantWithout 200 = .ok (.iload_n 3, 1) := by decide +kernel
theorem dX3_determinantWithout_201 : decode cX3_determinantWithout 201 = .ok (.ishl, 1) := by decide +kernel
theorem dX3_determinantWithout_202 : decode cX3_determinantWithout 202 = .ok (.iconst 1, 1) := by decide +kernel
theorem dX3_determinantWithout_203 : decode cX3_determinantWithout 203 = .ok (.isub, 1) := by decide +kernel
theorem dX3_determinantWithout_204 : decode cX3_determinantWithout 204 = .ok (.laload, 1) := by decide +kernel
theorem dX3_determinantWithout_205 : decode cX3_determinantWithout 205 = .ok (.lreturn, 1) := by decide +kernel
set_option maxRecDepth 20000 in
theorem ggX3_solves_X3_isLooseNow : GoodIn wsX3_solves wsX3_isLooseNow := goodIn_ca (goodIn_r _ [9, 10, 11, 8, 12, 13, 14, 15, 16, 17, 18, 19, 20, 31, 32, 33, 34, 35, 36, 37, 38, 39, 40, 41, 42, 43, 44, 45] (by decide +kernel) (by decide +kernel)) (goodIn_sub (fun _ h => List.mem_cons_of_mem _ (List.mem_append_right _ h)) (by decide +kernel))
set_option maxRecDepth 20000 in
theorem gX3_solves_X3_isLooseNow : GoodIn wsX3_solves (wsV RX3 76 RX3 yX3_isLooseNow wsX3_isLooseNow) := goodIn_app (goodIn_of _ (by decide +kernel)) ggX3_solves_X3_isLooseNow
set_option maxRecDepth 20000 in
theorem ggX3_solves_X3_layMatrix : GoodIn wsX3_solves wsX3_layMatrix := goodIn_ca (goodIn_r _ [24, 25, 4, 17, 13, 14, 15, 8, 16, 18, 19, 20, 10, 11, 12, 31, 32, 33, 34, 35, 36, 37, 38, 39, 40, 41, 42, 43, 44, 45] (by decide +kernel) (by decide +kernel)) (goodIn_sub (fun _ h => List.mem_cons_of_mem _ (List.mem_append_right _ h)) (by decide +kernel))
set_option maxRecDepth 20000 in
theorem gX3_solves_X3_layMatrix : GoodIn wsX3_solves (wsV RX3 80 RX3 yX3_layMatrix wsX3_layMatrix) := goodIn_app (goodIn_of _ (by decide +kernel)) ggX3_solves_X3_layMatrix
set_option maxRecDepth 20000 in
theorem ggX3_solves_X3_determinantWithout : GoodIn wsX3_solves wsX3_determinantWithout := goodIn_ca (goodIn_r _ [29, 30, 25, 31, 32, 33, 34, 35, 36, 37, 38, 39, 40, 41, 42, 43, 44, 45] (by decide +kernel) (by decide +kernel)) (goodIn_sub (fun _ h => List.mem_cons_of_mem _ (List.mem_append_right _ h)) (by decide +kernel))
set_option maxRecDepth 20000 in
theorem gX3_solves_X3_determinantWithout : GoodIn wsX3_solves (wsV RX3 83 RX3 yX3_determinantWithout wsX3_determinantWithout) := goodIn_app (goodIn_of _ (by decide +kernel)) ggX3_solves_X3_determinantWithout
theorem dX3_solves_0 : decode cX3_solves 0 = .ok (.aload_n 0, 1) := by decide +kernel
theorem dX3_solves_1 : decode cX3_solves 1 = .ok (.invokevirtual 76, 3) := by decide +kernel
theorem dX3_solves_4 : decode cX3_solves 4 = .ok (.ifCond .eq 5, 3) := by decide +kernel
theorem dX3_solves_7 : decode cX3_solves 7 = .ok (.iconst 0, 1) := by decide +kernel
theorem dX3_solves_8 : decode cX3_solves 8 = .ok (.ireturn, 1) := by decide +kernel
theorem dX3_solves_9 : decode cX3_solves 9 = .ok (.aload_n 0, 1) := by decide +kernel
theorem dX3_solves_10 : decode cX3_solves 10 = .ok (.invokevirtual 80, 3) := by decide +kernel
theorem dX3_solves_13 : decode cX3_solves 13 = .ok (.aload_n 0, 1) := by decide +kernel
theorem dX3_solves_14 : decode cX3_solves 14 = .ok (.aload_n 0, 1) := by decide +kernel
theorem dX3_solves_15 : decode cX3_solves 15 = .ok (.bipush 9, 2) := by decide +kernel
theorem dX3_solves_17 : decode cX3_solves 17 = .ok (.bipush 9, 2) := by decide +kernel
theorem dX3_solves_19 : decode cX3_solves 19 = .ok (.invokevirtual 83, 3) := by decide +kernel
theorem dX3_solves_22 : decode cX3_solves 22 = .ok (.putfield 87, 3) := by decide +kernel
theorem dX3_solves_25 : decode cX3_solves 25 = .ok (.iconst 0, 1) := by decide +kernel
theorem dX3_solves_26 : decode cX3_solves 26 = .ok (.istore_n 1, 1) := by decide +kernel
theorem dX3_solves_27 : decode cX3_solves 27 = .ok (.iload_n 1, 1) := by decide +kernel
theorem dX3_solves_28 : decode cX3_solves 28 = .ok (.bipush 9, 2) := by decide +kernel
theorem dX3_solves_30 : decode cX3_solves 30 = .ok (.if_icmp .ge 76, 3) := by decide +kernel
theorem dX3_solves_33 : decode cX3_solves 33 = .ok (.iconst 0, 1) := by decide +kernel
theorem dX3_solves_34 : decode cX3_solves 34 = .ok (.istore_n 2, 1) := by decide +kernel
theorem dX3_solves_35 : decode cX3_solves 35 = .ok (.iload_n 2, 1) := by decide +kernel
theorem dX3_solves_36 : decode cX3_solves 36 = .ok (.iload_n 1, 1) := by decide +kernel
theorem dX3_solves_37 : decode cX3_solves 37 = .ok (.if_icmp .gt 63, 3) := by decide +kernel
theorem dX3_solves_40 : decode cX3_solves 40 = .ok (.aload_n 0, 1) := by decide +kernel
theorem dX3_solves_41 : decode cX3_solves 41 = .ok (.iload_n 1, 1) := by decide +kernel
theorem dX3_solves_42 : decode cX3_solves 42 = .ok (.iload_n 2, 1) := by decide +kernel
theorem dX3_solves_43 : decode cX3_solves 43 = .ok (.invokevirtual 83, 3) := by decide +kernel
theorem dX3_solves_46 : decode cX3_solves 46 = .ok (.lstore_n 3, 1) := by decide +kernel
theorem dX3_solves_47 : decode cX3_solves 47 = .ok (.aload_n 0, 1) := by decide +kernel
theorem dX3_solves_48 : decode cX3_solves 48 = .ok (.getfield 33, 3) := by decide +kernel
theorem dX3_solves_51 : decode cX3_solves 51 = .ok (.bipush 9, 2) := by decide +kernel
theorem dX3_solves_53 : decode cX3_solves 53 = .ok (.iload_n 1, 1) := by decide +kernel
theorem dX3_solves_54 : decode cX3_solves 54 = .ok (.imul, 1) := by decide +kernel
theorem dX3_solves_55 : decode cX3_solves 55 = .ok (.iload_n 2, 1) := by decide +kernel
theorem dX3_solves_56 : decode cX3_solves 56 = .ok (.iadd, 1) := by decide +kernel
theorem dX3_solves_57 : decode cX3_solves 57 = .ok (.iload_n 1, 1) := by decide +kernel
theorem dX3_solves_58 : decode cX3_solves 58 = .ok (.iload_n 2, 1) := by decide +kernel
theorem dX3_solves_59 : decode cX3_solves 59 = .ok (.iadd, 1) := by decide +kernel
theorem dX3_solves_60 : decode cX3_solves 60 = .ok (.iconst 2, 1) := by decide +kernel
theorem dX3_solves_61 : decode cX3_solves 61 = .ok (.irem, 1) := by decide +kernel
theorem dX3_solves_62 : decode cX3_solves 62 = .ok (.ifCond .ne 7, 3) := by decide +kernel
theorem dX3_solves_65 : decode cX3_solves 65 = .ok (.lload_n 3, 1) := by decide +kernel
theorem dX3_solves_66 : decode cX3_solves 66 = .ok (.goto 5, 3) := by decide +kernel
theorem dX3_solves_69 : decode cX3_solves 69 = .ok (.lload_n 3, 1) := by decide +kernel
theorem dX3_solves_70 : decode cX3_solves 70 = .ok (.lneg, 1) := by decide +kernel
theorem dX3_solves_71 : decode cX3_solves 71 = .ok (.lastore, 1) := by decide +kernel
theorem dX3_solves_72 : decode cX3_solves 72 = .ok (.aload_n 0, 1) := by decide +kernel
theorem dX3_solves_73 : decode cX3_solves 73 = .ok (.getfield 33, 3) := by decide +kernel
theorem dX3_solves_76 : decode cX3_solves 76 = .ok (.bipush 9, 2) := by decide +kernel
theorem dX3_solves_78 : decode cX3_solves 78 = .ok (.iload_n 2, 1) := by decide +kernel
theorem dX3_solves_79 : decode cX3_solves 79 = .ok (.imul, 1) := by decide +kernel
theorem dX3_solves_80 : decode cX3_solves 80 = .ok (.iload_n 1, 1) := by decide +kernel
theorem dX3_solves_81 : decode cX3_solves 81 = .ok (.iadd, 1) := by decide +kernel
theorem dX3_solves_82 : decode cX3_solves 82 = .ok (.aload_n 0, 1) := by decide +kernel
theorem dX3_solves_83 : decode cX3_solves 83 = .ok (.getfield 33, 3) := by decide +kernel
theorem dX3_solves_86 : decode cX3_solves 86 = .ok (.bipush 9, 2) := by decide +kernel
theorem dX3_solves_88 : decode cX3_solves 88 = .ok (.iload_n 1, 1) := by decide +kernel
theorem dX3_solves_89 : decode cX3_solves 89 = .ok (.imul, 1) := by decide +kernel
theorem dX3_solves_90 : decode cX3_solves 90 = .ok (.iload_n 2, 1) := by decide +kernel
theorem dX3_solves_91 : decode cX3_solves 91 = .ok (.iadd, 1) := by decide +kernel
theorem dX3_solves_92 : decode cX3_solves 92 = .ok (.laload, 1) := by decide +kernel
theorem dX3_solves_93 : decode cX3_solves 93 = .ok (.lastore, 1) := by decide +kernel
theorem dX3_solves_94 : decode cX3_solves 94 = .ok (.iinc 2 1, 3) := by decide +kernel
theorem dX3_solves_97 : decode cX3_solves 97 = .ok (.goto (-62), 3) := by decide +kernel
theorem dX3_solves_100 : decode cX3_solves 100 = .ok (.iinc 1 1, 3) := by decide +kernel
theorem dX3_solves_103 : decode cX3_solves 103 = .ok (.goto (-76), 3) := by decide +kernel
theorem dX3_solves_106 : decode cX3_solves 106 = .ok (.iconst 0, 1) := by decide +kernel
theorem dX3_solves_107 : decode cX3_solves 107 = .ok (.istore_n 1, 1) := by decide +kernel
theorem dX3_solves_108 : decode cX3_solves 108 = .ok (.iload_n 1, 1) := by decide +kernel
theorem dX3_solves_109 : decode cX3_solves 109 = .ok (.bipush 9, 2) := by decide +kernel
theorem dX3_solves_111 : decode cX3_solves 111 = .ok (.if_icmp .ge 57, 3) := by decide +kernel
theorem dX3_solves_114 : decode cX3_solves 114 = .ok (.aload_n 0, 1) := by decide +kernel
theorem dX3_solves_115 : decode cX3_solves 115 = .ok (.getfield 36, 3) := by decide +kernel
theorem dX3_solves_118 : decode cX3_solves 118 = .ok (.iload_n 1, 1) := by decide +kernel
theorem dX3_solves_119 : decode cX3_solves 119 = .ok (.lconst 0, 1) := by decide +kernel
theorem dX3_solves_120 : decode cX3_solves 120 = .ok (.lastore, 1) := by decide +kernel
theorem dX3_solves_121 : decode cX3_solves 121 = .ok (.iconst 0, 1) := by decide +kernel
theorem dX3_solves_122 : decode cX3_solves 122 = .ok (.istore_n 2, 1) := by decide +kernel
theorem dX3_solves_123 : decode cX3_solves 123 = .ok (.iload_n 2, 1) := by decide +kernel
theorem dX3_solves_124 : decode cX3_solves 124 = .ok (.bipush 9, 2) := by decide +kernel
theorem dX3_solves_126 : decode cX3_solves 126 = .ok (.if_icmp .ge 36, 3) := by decide +kernel
theorem dX3_solves_129 : decode cX3_solves 129 = .ok (.aload_n 0, 1) := by decide +kernel
theorem dX3_solves_130 : decode cX3_solves 130 = .ok (.getfield 36, 3) := by decide +kernel
theorem dX3_solves_133 : decode cX3_solves 133 = .ok (.iload_n 1, 1) := by decide +kernel
theorem dX3_solves_134 : decode cX3_solves 134 = .ok (.dup2, 1) := by decide +kernel
theorem dX3_solves_135 : decode cX3_solves 135 = .ok (.laload, 1) := by decide +kernel
theorem dX3_solves_136 : decode cX3_solves 136 = .ok (.aload_n 0, 1) := by decide +kernel
theorem dX3_solves_137 : decode cX3_solves 137 = .ok (.getfield 33, 3) := by decide +kernel
theorem dX3_solves_140 : decode cX3_solves 140 = .ok (.bipush 9, 2) := by decide +kernel
theorem dX3_solves_142 : decode cX3_solves 142 = .ok (.iload_n 1, 1) := by decide +kernel
theorem dX3_solves_143 : decode cX3_solves 143 = .ok (.imul, 1) := by decide +kernel
theorem dX3_solves_144 : decode cX3_solves 144 = .ok (.iload_n 2, 1) := by decide +kernel
theorem dX3_solves_145 : decode cX3_solves 145 = .ok (.iadd, 1) := by decide +kernel
theorem dX3_solves_146 : decode cX3_solves 146 = .ok (.laload, 1) := by decide +kernel
theorem dX3_solves_147 : decode cX3_solves 147 = .ok (.aload_n 0, 1) := by decide +kernel
theorem dX3_solves_148 : decode cX3_solves 148 = .ok (.getfield 27, 3) := by decide +kernel
