theorem dX0_init_0 : decode cX0_init 0 = .ok (.aload_n 0, 1) := by decide +kernel
theorem dX0_init_1 : decode cX0_init 1 = .ok (.invokespecial 3, 3) := by decide +kernel
theorem dX0_init_4 : decode cX0_init 4 = .ok (.aload_n 0, 1) := by decide +kernel
theorem dX0_init_5 : decode cX0_init 5 = .ok (.bipush 9, 2) := by decide +kernel
theorem dX0_init_7 : decode cX0_init 7 = .ok (.bipush 18, 2) := by decide +kernel
theorem dX0_init_9 : decode cX0_init 9 = .ok (.multianewarray 9 2, 4) := by decide +kernel
theorem dX0_init_13 : decode cX0_init 13 = .ok (.putfield 11, 3) := by decide +kernel
theorem dX0_init_16 : decode cX0_init 16 = .ok (.aload_n 0, 1) := by decide +kernel
theorem dX0_init_17 : decode cX0_init 17 = .ok (.bipush 9, 2) := by decide +kernel
theorem dX0_init_19 : decode cX0_init 19 = .ok (.newarray .long, 2) := by decide +kernel
theorem dX0_init_21 : decode cX0_init 21 = .ok (.putfield 16, 3) := by decide +kernel
theorem dX0_init_24 : decode cX0_init 24 = .ok (.aload_n 0, 1) := by decide +kernel
theorem dX0_init_25 : decode cX0_init 25 = .ok (.bipush 9, 2) := by decide +kernel
theorem dX0_init_27 : decode cX0_init 27 = .ok (.newarray .long, 2) := by decide +kernel
theorem dX0_init_29 : decode cX0_init 29 = .ok (.putfield 20, 3) := by decide +kernel
theorem dX0_init_32 : decode cX0_init 32 = .ok (.aload_n 0, 1) := by decide +kernel
theorem dX0_init_33 : decode cX0_init 33 = .ok (.lconst 0, 1) := by decide +kernel
theorem dX0_init_34 : decode cX0_init 34 = .ok (.putfield 23, 3) := by decide +kernel
theorem dX0_init_37 : decode cX0_init 37 = .ok (.return_, 1) := by decide +kernel
theorem dX0_scaledInfluence_0 : decode cX0_scaledInfluence 0 = .ok (.aload_n 0, 1) := by decide +kernel
theorem dX0_scaledInfluence_1 : decode cX0_scaledInfluence 1 = .ok (.getfield 11, 3) := by decide +kernel
theorem dX0_scaledInfluence_4 : decode cX0_scaledInfluence 4 = .ok (.iload_n 1, 1) := by decide +kernel
theorem dX0_scaledInfluence_5 : decode cX0_scaledInfluence 5 = .ok (.aaload, 1) := by decide +kernel
theorem dX0_scaledInfluence_6 : decode cX0_scaledInfluence 6 = .ok (.bipush 9, 2) := by decide +kernel
theorem dX0_scaledInfluence_8 : decode cX0_scaledInfluence 8 = .ok (.iload_n 2, 1) := by decide +kernel
theorem dX0_scaledInfluence_9 : decode cX0_scaledInfluence 9 = .ok (.iadd, 1) := by decide +kernel
theorem dX0_scaledInfluence_10 : decode cX0_scaledInfluence 10 = .ok (.laload, 1) := by decide +kernel
theorem dX0_scaledInfluence_11 : decode cX0_scaledInfluence 11 = .ok (.lreturn, 1) := by decide +kernel
set_option maxRecDepth 20000 in
theorem ggX0_solve_X0_fillUnitMatrix : GoodIn wsX0_solve wsX0_fillUnitMatrix := goodIn_ca (goodIn_r _ [6, 7, 8, 9, 10, 11, 46, 47, 48, 49] (by decide +kernel) (by decide +kernel)) (goodIn_sub (fun _ h => List.mem_cons_of_mem _ (List.mem_append_left _ (List.mem_append_right _ h))) (by decide +kernel))
set_option maxRecDepth 20000 in
theorem gX0_solve_X0_fillUnitMatrix : GoodIn wsX0_solve (wsV RX0 27 RX0 yX0_fillUnitMatrix wsX0_fillUnitMatrix) := goodIn_app (goodIn_of _ (by decide +kernel)) ggX0_solve_X0_fillUnitMatrix
set_option maxRecDepth 20000 in
theorem ggX0_solve_X0_fillSupplies : GoodIn wsX0_solve wsX0_fillSupplies := goodIn_ca (goodIn_r _ [15, 16, 17, 18, 46, 47, 48, 49, 50, 51, 52, 53, 54, 55, 56] (by decide +kernel) (by decide +kernel)) (goodIn_sub (fun _ h => List.mem_cons_of_mem _ (List.mem_append_left _ (List.mem_append_right _ h))) (by decide +kernel))
set_option maxRecDepth 20000 in
theorem gX0_solve_X0_fillSupplies : GoodIn wsX0_solve (wsV RX0 30 RX0 yX0_fillSupplies wsX0_fillSupplies) := goodIn_app (goodIn_of _ (by decide +kernel)) ggX0_solve_X0_fillSupplies
set_option maxRecDepth 20000 in
theorem ggX0_solve_X0_addLink : GoodIn wsX0_solve wsX0_addLink := goodIn_ca (goodIn_r _ [22, 23, 24, 25, 5, 26, 27, 7, 16, 28, 50, 51, 52, 53, 54, 55, 56, 46, 47, 48, 49] (by decide +kernel) (by decide +kernel)) (goodIn_sub (fun _ h => List.mem_cons_of_mem _ (List.mem_append_left _ (List.mem_append_right _ h))) (by decide +kernel))
set_option maxRecDepth 20000 in
theorem gX0_solve_X0_addLink : GoodIn wsX0_solve (wsV RX0 34 RX0 yX0_addLink wsX0_addLink) := goodIn_app (goodIn_of _ (by decide +kernel)) ggX0_solve_X0_addLink
set_option maxRecDepth 20000 in
theorem ggX0_solve_X0_invert : GoodIn wsX0_solve wsX0_invert := goodIn_ca (goodIn_ca (goodIn_r _ [32, 7, 33, 34, 35, 5, 36, 46, 47, 48, 49] (by decide +kernel) (by decide +kernel)) (goodIn_sub (fun _ h => List.mem_cons_of_mem _ (List.mem_append_left _ (List.mem_append_right _ h))) (by decide +kernel))) (goodIn_sub (fun _ h => List.mem_cons_of_mem _ (List.mem_append_right _ h)) (by decide +kernel))
set_option maxRecDepth 20000 in
theorem gX0_solve_X0_invert : GoodIn wsX0_solve (wsV RX0 38 RX0 yX0_invert wsX0_invert) := goodIn_app (goodIn_of _ (by decide +kernel)) ggX0_solve_X0_invert
set_option maxRecDepth 20000 in
theorem ggX0_solve_X0_fillScaledHeads : GoodIn wsX0_solve wsX0_fillScaledHeads := goodIn_ca (goodIn_r _ [40, 16, 41, 42, 43, 44, 5, 45, 7, 46, 47, 48, 49] (by decide +kernel) (by decide +kernel)) (goodIn_sub (fun _ h => List.mem_cons_of_mem _ (List.mem_append_left _ (List.mem_append_right _ h))) (by decide +kernel))
set_option maxRecDepth 20000 in
theorem gX0_solve_X0_fillScaledHeads : GoodIn wsX0_solve (wsV RX0 42 RX0 yX0_fillScaledHeads wsX0_fillScaledHeads) := goodIn_app (goodIn_of _ (by decide +kernel)) ggX0_solve_X0_fillScaledHeads
theorem dX0_solve_0 : decode cX0_solve 0 = .ok (.aload_n 0, 1) := by decide +kernel
theorem dX0_solve_1 : decode cX0_solve 1 = .ok (.invokevirtual 27, 3) := by decide +kernel
theorem dX0_solve_4 : decode cX0_solve 4 = .ok (.aload_n 0, 1) := by decide +kernel
theorem dX0_solve_5 : decode cX0_solve 5 = .ok (.aload_n 1, 1) := by decide +kernel
theorem dX0_solve_6 : decode cX0_solve 6 = .ok (.invokevirtual 30, 3) := by decide +kernel
theorem dX0_solve_9 : decode cX0_solve 9 = .ok (.iconst 0, 1) := by decide +kernel
theorem dX0_solve_10 : decode cX0_solve 10 = .ok (.istore_n 2, 1) := by decide +kernel
theorem dX0_solve_11 : decode cX0_solve 11 = .ok (.iload_n 2, 1) := by decide +kernel
theorem dX0_solve_12 : decode cX0_solve 12 = .ok (.bipush 24, 2) := by decide +kernel
theorem dX0_solve_14 : decode cX0_solve 14 = .ok (.if_icmp .ge 15, 3) := by decide +kernel
theorem dX0_solve_17 : decode cX0_solve 17 = .ok (.aload_n 0, 1) := by decide +kernel
theorem dX0_solve_18 : decode cX0_solve 18 = .ok (.aload_n 1, 1) := by decide +kernel
theorem dX0_solve_19 : decode cX0_solve 19 = .ok (.iload_n 2, 1) := by decide +kernel
theorem dX0_solve_20 : decode cX0_solve 20 = .ok (.invokevirtual 34, 3) := by decide +kernel
theorem dX0_solve_23 : decode cX0_solve 23 = .ok (.iinc 2 1, 3) := by decide +kernel
theorem dX0_solve_26 : decode cX0_solve 26 = .ok (.goto (-15), 3) := by decide +kernel
theorem dX0_solve_29 : decode cX0_solve 29 = .ok (.aload_n 0, 1) := by decide +kernel
theorem dX0_solve_30 : decode cX0_solve 30 = .ok (.aload_n 0, 1) := by decide +kernel
theorem dX0_solve_31 : decode cX0_solve 31 = .ok (.invokevirtual 38, 3) := by decide +kernel
theorem dX0_solve_34 : decode cX0_solve 34 = .ok (.putfield 23, 3) := by decide +kernel
theorem dX0_solve_37 : decode cX0_solve 37 = .ok (.aload_n 0, 1) := by decide +kernel
theorem dX0_solve_38 : decode cX0_solve 38 = .ok (.getfield 23, 3) := by decide +kernel
theorem dX0_solve_41 : decode cX0_solve 41 = .ok (.lconst 0, 1) := by decide +kernel
theorem dX0_solve_42 : decode cX0_solve 42 = .ok (.lcmp, 1) := by decide +kernel
theorem dX0_solve_43 : decode cX0_solve 43 = .ok (.ifCond .eq 7, 3) := by decide +kernel
theorem dX0_solve_46 : decode cX0_solve 46 = .ok (.aload_n 0, 1) := by decide +kernel
theorem dX0_solve_47 : decode cX0_solve 47 = .ok (.invokevirtual 42, 3) := by decide +kernel
theorem dX0_solve_50 : decode cX0_solve 50 = .ok (.return_, 1) := by decide +kernel
set_option maxRecDepth 20000 in
theorem ggX0_fillUnitMatrix_J7_fill_d0a16 : GoodIn wsX0_fillUnitMatrix wsJ7_fill_d0a16 := goodIn_r _ [5] (by decide +kernel) (by decide +kernel)
set_option maxRecDepth 20000 in
theorem gX0_fillUnitMatrix_J7_fill_d0a16 : GoodIn wsX0_fillUnitMatrix (va_wsS RX0 45 yJ7_fill_d0a16 wsJ7_fill_d0a16) := goodIn_app (goodIn_of _ (by decide +kernel)) ggX0_fillUnitMatrix_J7_fill_d0a16
theorem dX0_fillUnitMatrix_0 : decode cX0_fillUnitMatrix 0 = .ok (.iconst 0, 1) := by decide +kernel
theorem dX0_fillUnitMatrix_1 : decode cX0_fillUnitMatrix 1 = .ok (.istore_n 1, 1) := by decide +kernel
theorem dX0_fillUnitMatrix_2 : decode cX0_fillUnitMatrix 2 = .ok (.iload_n 1, 1) := by decide +kernel
theorem dX0_fillUnitMatrix_3 : decode cX0_fillUnitMatrix 3 = .ok (.bipush 9, 2) := by decide +kernel
theorem dX0_fillUnitMatrix_5 : decode cX0_fillUnitMatrix 5 = .ok (.if_icmp .ge 31, 3) := by decide +kernel
theorem dX0_fillUnitMatrix_8 : decode cX0_fillUnitMatrix 8 = .ok (.aload_n 0, 1) := by decide +kernel
theorem dX0_fillUnitMatrix_9 : decode cX0_fillUnitMatrix 9 = .ok (.getfield 11, 3) := by decide +kernel
theorem dX0_fillUnitMatrix_12 : decode cX0_fillUnitMatrix 12 = .ok (.iload_n 1, 1) := by decide +kernel
theorem dX0_fillUnitMatrix_13 : decode cX0_fillUnitMatrix 13 = .ok (.aaload, 1) := by decide +kernel
theorem dX0_fillUnitMatrix_14 : decode cX0_fillUnitMatrix 14 = .ok (.lconst 0, 1) := by decide +kernel
theorem dX0_fillUnitMatrix_15 : decode cX0_fillUnitMatrix 15 = .ok (.invokestatic 45, 3) := by decide +kernel
theorem dX0_fillUnitMatrix_18 : decode cX0_fillUnitMatrix 18 = .ok (.aload_n 0, 1) := by decide +kernel
theorem dX0_fillUnitMatrix_19 : decode cX0_fillUnitMatrix 19 = .ok (.getfield 11, 3) := by decide +kernel
theorem dX0_fillUnitMatrix_22 : decode cX0_fillUnitMatrix 22 = .ok (.iload_n 1, 1) := by decide +kernel
theorem dX0_fillUnitMatrix_23 : decode cX0_fillUnitMatrix 23 = .ok (.aaload, 1) := by decide +kernel
theorem dX0_fillUnitMatrix_24 : decode cX0_fillUnitMatrix 24 = .ok (.bipush 9, 2) := by decide +kernel
theorem dX0_fillUnitMatrix_26 : decode cX0_fillUnitMatrix 26 = .ok (.iload_n 1, 1) := by decide +kernel
theorem dX0_fillUnitMatrix_27 : decode cX0_fillUnitMatrix 27 = .ok (.iadd, 1) := by decide +kernel
theorem dX0_fillUnitMatrix_28 : decode cX0_fillUnitMatrix 28 = .ok (.lconst 1, 1) := by decide +kernel
theorem dX0_fillUnitMatrix_29 : decode cX0_fillUnitMatrix 29 = .ok (.lastore, 1) := by decide +kernel
theorem dX0_fillUnitMatrix_30 : decode cX0_fillUnitMatrix 30 = .ok (.iinc 1 1, 3) := by decide +kernel
theorem dX0_fillUnitMatrix_33 : decode cX0_fillUnitMatrix 33 = .ok (.goto (-31), 3) := by decide +kernel
theorem dX0_fillUnitMatrix_36 : decode cX0_fillUnitMatrix 36 = .ok (.return_, 1) := by decide +kernel
theorem dX0_fillSupplies_0 : decode cX0_fillSupplies 0 = .ok (.iconst 0, 1) := by decide +kernel
theorem dX0_fillSupplies_1 : decode cX0_fillSupplies 1 = .ok (.istore_n 2, 1) := by decide +kernel
theorem dX0_fillSupplies_2 : decode cX0_fillSupplies 2 = .ok (.iload_n 2, 1) := by decide +kernel
theorem dX0_fillSupplies_3 : decode cX0_fillSupplies 3 = .ok (.bipush 9, 2) := by decide +kernel
theorem dX0_fillSupplies_5 : decode cX0_fillSupplies 5 = .ok (.if_icmp .ge 29, 3) := by decide +kernel
theorem dX0_fillSupplies_8 : decode cX0_fillSupplies 8 = .ok (.aload_n 0, 1) := by decide +kernel
theorem dX0_fillSupplies_9 : decode cX0_fillSupplies 9 = .ok (.getfield 16, 3) := by decide +kernel
theorem dX0_fillSupplies_12 : decode cX0_fillSupplies 12 = .ok (.iload_n 2, 1) := by decide +kernel
theorem dX0_fillSupplies_13 : decode cX0_fillSupplies 13 = .ok (.aload_n 1, 1) := by decide +kernel
theorem dX0_fillSupplies_14 : decode cX0_fillSupplies 14 = .ok (.getfield 51, 3) := by decide +kernel
theorem dX0_fillSupplies_17 : decode cX0_fillSupplies 17 = .ok (.iload_n 2, 1) := by decide +kernel
theorem dX0_fillSupplies_18 : decode cX0_fillSupplies 18 = .ok (.iaload, 1) := by decide +kernel
theorem dX0_fillSupplies_19 : decode cX0_fillSupplies 19 = .ok (.aload_n 1, 1) := by decide +kernel
theorem dX0_fillSupplies_20 : decode cX0_fillSupplies 20 = .ok (.getfield 57, 3) := by decide +kernel
theorem dX0_fillSupplies_23 : decode cX0_fillSupplies 23 = .ok (.iload_n 2, 1) := by decide +kernel
theorem dX0_fillSupplies_24 : decode cX0_fillSupplies 24 = .ok (.iaload, 1) := by decide +kernel
theorem dX0_fillSupplies_25 : decode cX0_fillSupplies 25 = .ok (.isub, 1) := by decide +kernel
theorem dX0_fillSupplies_26 : decode cX0_fillSupplies 26 = .ok (.i2l, 1) := by decide +kernel
theorem dX0_fillSupplies_27 : decode cX0_fillSupplies 27 = .ok (.lastore, 1) := by decide +kernel
theorem dX0_fillSupplies_28 : decode cX0_fillSupplies 28 = .ok (.iinc 2 1, 3) := by decide +kernel
theorem dX0_fillSupplies_31 : decode cX0_fillSupplies 31 = .ok (.goto (-29), 3) := by decide +kernel
theorem dX0_fillSupplies_34 : decode cX0_fillSupplies 34 = .ok (.return_, 1) := by decide +kernel
set_option maxRecDepth 20000 in
theorem ggX0_addLink_X0_addEnd : GoodIn wsX0_addLink wsX0_addEnd := goodIn_ca (goodIn_r _ [5, 6, 7, 8, 9, 10, 11, 12, 13, 14, 15, 16, 17, 18, 19, 20] (by decide +kernel) (by decide +kernel)) (goodIn_sub (fun _ h => List.mem_cons_of_mem _ (List.mem_append_right _ h)) (by decide +kernel))
set_option maxRecDepth 20000 in
theorem gX0_addLink_X0_addEnd : GoodIn wsX0_addLink (wsV RX0 66 RX0 yX0_addEnd wsX0_addEnd) := goodIn_app (goodIn_of _ (by decide +kernel)) ggX0_addLink_X0_addEnd
theorem dX0_addLink_0 : decode cX0_addLink 0 = .ok (.aload_n 0, 1) := by decide +kernel
theorem dX0_addLink_1 : decode cX0_addLink 1 = .ok (.aload_n 1, 1) := by decide +kernel
theorem dX0_addLink_2 : decode cX0_addLink 2 = .ok (.iload_n 2, 1) := by decide +kernel
theorem dX0_addLink_3 : decode cX0_addLink 3 = .ok (.getstatic 60, 3) := by decide +kernel
theorem dX0_addLink_6 : decode cX0_addLink 6 = .ok (.iload_n 2, 1) := by decide +kernel
theorem dX0_addLink_7 : decode cX0_addLink 7 = .ok (.iaload, 1) := by decide +kernel
theorem dX0_addLink_8 : decode cX0_addLink 8 = .ok (.getstatic 63, 3) := by decide +kernel
theorem dX0_addLink_11 : decode cX0_addLink 11 = .ok (.iload_n 2, 1) := by decide +kernel
theorem dX0_addLink_12 : decode cX0_addLink 12 = .ok (.iaload, 1) := by decide +kernel
theorem dX0_addLink_13 : decode cX0_addLink 13 = .ok (.invokevirtual 66, 3) := by decide +kernel
theorem dX0_addLink_16 : decode cX0_addLink 16 = .ok (.aload_n 0, 1) := by decide +kernel
theorem dX0_addLink_17 : decode cX0_addLink 17 = .ok (.aload_n 1, 1) := by decide +kernel
theorem dX0_addLink_18 : decode cX0_addLink 18 = .ok (.iload_n 2, 1) := by decide +kernel
theorem dX0_addLink_19 : decode cX0_addLink 19 = .ok (.getstatic 63, 3) := by decide +kernel
theorem dX0_addLink_22 : decode cX0_addLink 22 = .ok (.iload_n 2, 1) := by decide +kernel
theorem dX0_addLink_23 : decode cX0_addLink 23 = .ok (.iaload, 1) := by decide +kernel
theorem dX0_addLink_24 : decode cX0_addLink 24 = .ok (.getstatic 60, 3) := by decide +kernel
theorem dX0_addLink_27 : decode cX0_addLink 27 = .ok (.iload_n 2, 1) := by decide +kernel
theorem dX0_addLink_28 : decode cX0_addLink 28 = .ok (.iaload, 1) := by decide +kernel
theorem dX0_addLink_29 : decode cX0_addLink 29 = .ok (.invokevirtual 66, 3) := by decide +kernel
theorem dX0_addLink_32 : decode cX0_addLink 32 = .ok (.return_, 1) := by decide +kernel
theorem dX0_addEnd_0 : decode cX0_addEnd 0 = .ok (.iload_n 3, 1) := by decide +kernel
theorem dX0_addEnd_1 : decode cX0_addEnd 1 = .ok (.bipush 9, 2) := by decide +kernel
theorem dX0_addEnd_3 : decode cX0_addEnd 3 = .ok (.if_icmp .lt 4, 3) := by decide +kernel
theorem dX0_addEnd_6 : decode cX0_addEnd 6 = .ok (.return_, 1) := by decide +kernel
theorem dX0_addEnd_7 : decode cX0_addEnd 7 = .ok (.aload_n 1, 1) := by decide +kernel
theorem dX0_addEnd_8 : decode cX0_addEnd 8 = .ok (.getfield 70, 3) := by decide +kernel
theorem dX0_addEnd_11 : decode cX0_addEnd 11 = .ok (.iload_n 2, 1) := by decide +kernel
theorem dX0_addEnd_12 : decode cX0_addEnd 12 = .ok (.iaload, 1) := by decide +kernel
theorem dX0_addEnd_13 : decode cX0_addEnd 13 = .ok (.i2l, 1) := by decide +kernel
theorem dX0_addEnd_14 : decode cX0_addEnd 14 = .ok (.lstore 5, 2) := by decide +kernel
theorem dX0_addEnd_16 : decode cX0_addEnd 16 = .ok (.aload_n 0, 1) := by decide +kernel
theorem dX0_addEnd_17 : decode cX0_addEnd 17 = .ok (.getfield 11, 3) := by decide +kernel
theorem dX0_addEnd_20 : decode cX0_addEnd 20 = .ok (.iload_n 3, 1) := by decide +kernel
theorem dX0_addEnd_21 : decode cX0_addEnd 21 = .ok (.aaload, 1) := by decide +kernel
theorem dX0_addEnd_22 : decode cX0_addEnd 22 = .ok (.iload_n 3, 1) := by decide +kernel
theorem dX0_addEnd_23 : decode cX0_addEnd 23 = .ok (.dup2, 1) := by decide +kernel
theorem dX0_addEnd_24 : decode cX0_addEnd 24 = .ok (.laload, 1) := by decide +kernel
theorem dX0_addEnd_25 : decode cX0_addEnd 25 = .ok (.lload 5, 2) := by decide +kernel
theorem dX0_addEnd_27 : decode cX0_addEnd 27 = .ok (.ladd, 1) := by decide +kernel
theorem dX0_addEnd_28 : decode cX0_addEnd 28 = .ok (.lastore, 1) := by decide +kernel
theorem dX0_addEnd_29 : decode cX0_addEnd 29 = .ok (.iload 4, 2) := by decide +kernel
theorem dX0_addEnd_31 : decode cX0_addEnd 31 = .ok (.bipush 9, 2) := by decide +kernel
theorem dX0_addEnd_33 : decode cX0_addEnd 33 = .ok (.if_icmp .ge 20, 3) := by decide +kernel
theorem dX0_addEnd_36 : decode cX0_addEnd 36 = .ok (.aload_n 0, 1) := by decide +kernel
theorem dX0_addEnd_37 : decode cX0_addEnd 37 = .ok (.getfield 11, 3) := by decide +kernel
theorem dX0_addEnd_40 : decode cX0_addEnd 40 = .ok (.iload_n 3, 1) := by decide +kernel
theorem dX0_addEnd_41 : decode cX0_addEnd 41 = .ok (.aaload, 1) := by decide +kernel
theorem dX0_addEnd_42 : decode cX0_addEnd 42 = .ok (.iload 4, 2) := by decide +kernel
theorem dX0_addEnd_44 : decode cX0_addEnd 44 = .ok (.dup2, 1) := by decide +kernel
theorem dX0_addEnd_45 : decode cX0_addEnd 45 = .ok (.laload, 1) := by decide +kernel
theorem dX0_addEnd_46 : decode cX0_addEnd 46 = .ok (.lload 5, 2) := by decide +kernel
theorem dX0_addEnd_48 : decode cX0_addEnd 48 = .ok (.lsub, 1) := by decide +kernel
theorem dX0_addEnd_49 : decode cX0_addEnd 49 = .ok (.lastore, 1) := by decide +kernel
theorem dX0_addEnd_50 : decode cX0_addEnd 50 = .ok (.goto 26, 3) := by decide +kernel
theorem dX0_addEnd_53 : decode cX0_addEnd 53 = .ok (.aload_n 0, 1) := by decide +kernel
theorem dX0_addEnd_54 : decode cX0_addEnd 54 = .ok (.getfield 16, 3) := by decide +kernel
theorem dX0_addEnd_57 : decode cX0_addEnd 57 = .ok (.iload_n 3, 1) := by decide +kernel
theorem dX0_addEnd_58 : decode cX0_addEnd 58 = .ok (.dup2, 1) := by decide +kernel
theorem dX0_addEnd_59 : decode cX0_addEnd 59 = .ok (.laload, 1) := by decide +kernel
theorem dX0_addEnd_60 : decode cX0_addEnd 60 = .ok (.lload 5, 2) := by decide +kernel
theorem dX0_addEnd_62 : decode cX0_addEnd 62 = .ok (.aload_n 1, 1) := by decide +kernel
theorem dX0_addEnd_63 : decode cX0_addEnd 63 = .ok (.getfield 73, 3) := by decide +kernel
theorem dX0_addEnd_66 : decode cX0_addEnd 66 = .ok (.iload 4, 2) := by decide +kernel
theorem dX0_addEnd_68 : decode cX0_addEnd 68 = .ok (.bipush 9, 2) := by decide +kernel
theorem dX0_addEnd_70 : decode cX0_addEnd 70 = .ok (.isub, 1) := by decide +kernel
theorem dX0_addEnd_71 : decode cX0_addEnd 71 = .ok (.iaload, 1) := by decide +kernel
theorem dX0_addEnd_72 : decode cX0_addEnd 72 = .ok (.i2l, 1) := by decide +kernel
theorem dX0_addEnd_73 : decode cX0_addEnd 73 = .ok (.lmul, 1) := by decide +kernel
theorem dX0_addEnd_74 : decode cX0_addEnd 74 = .ok (.ladd, 1) := by decide +kernel
theorem dX0_addEnd_75 : decode cX0_addEnd 75 = .ok (.lastore, 1) := by decide +kernel
theorem dX0_addEnd_76 : decode cX0_addEnd 76 = .ok (.return_, 1) := by decide +kernel
set_option maxRecDepth 20000 in
theorem ggX0_invert_X0_eliminate : GoodIn wsX0_invert wsX0_eliminate := goodIn_ca (goodIn_ca (goodIn_r _ [6, 1, 7, 8, 9, 10] (by decide +kernel) (by decide +kernel)) (goodIn_sub (fun _ h => List.mem_cons_of_mem _ (List.mem_append_left _ (List.mem_append_right _ h))) (by decide +kernel))) (goodIn_sub (fun _ h => List.mem_cons_of_mem _ (List.mem_append_right _ h)) (by decide +kernel))
set_option maxRecDepth 20000 in
theorem gX0_invert_X0_eliminate : GoodIn wsX0_invert (wsV RX0 76 RX0 yX0_eliminate wsX0_eliminate) := goodIn_app (goodIn_of _ (by decide +kernel)) ggX0_invert_X0_eliminate
theorem dX0_invert_0 : decode cX0_invert 0 = .ok (.lconst 1, 1) := by decide +kernel
theorem dX0_invert_1 : decode cX0_invert 1 = .ok (.lstore_n 1, 1) := by decide +kernel
theorem dX0_invert_2 : decode cX0_invert 2 = .ok (.iconst 0, 1) := by decide +kernel
theorem dX0_invert_3 : decode cX0_invert 3 = .ok (.istore_n 3, 1) := by decide +kernel
theorem dX0_invert_4 : decode cX0_invert 4 = .ok (.iload_n 3, 1) := by decide +kernel
theorem dX0_invert_5 : decode cX0_invert 5 = .ok (.bipush 9, 2) := by decide +kernel
theorem dX0_invert_7 : decode cX0_invert 7 = .ok (.if_icmp .ge 63, 3) := by decide +kernel
theorem dX0_invert_10 : decode cX0_invert 10 = .ok (.aload_n 0, 1) := by decide +kernel
theorem dX0_invert_11 : decode cX0_invert 11 = .ok (.getfield 11, 3) := by decide +kernel
theorem dX0_invert_14 : decode cX0_invert 14 = .ok (.iload_n 3, 1) := by decide +kernel
theorem dX0_invert_15 : decode cX0_invert 15 = .ok (.aaload, 1) := by decide +kernel
theorem dX0_invert_16 : decode cX0_invert 16 = .ok (.iload_n 3, 1) := by decide +kernel
theorem dX0_invert_17 : decode cX0_invert 17 = .ok (.laload, 1) := by decide +kernel
theorem dX0_invert_18 : decode cX0_invert 18 = .ok (.lstore 4, 2) := by decide +kernel
theorem dX0_invert_20 : decode cX0_invert 20 = .ok (.lload 4, 2) := by decide +kernel
theorem dX0_invert_22 : decode cX0_invert 22 = .ok (.lconst 0, 1) := by decide +kernel
theorem dX0_invert_23 : decode cX0_invert 23 = .ok (.lcmp, 1) := by decide +kernel
theorem dX0_invert_24 : decode cX0_invert 24 = .ok (.ifCond .ne 5, 3) := by decide +kernel
theorem dX0_invert_27 : decode cX0_invert 27 = .ok (.lconst 0, 1) := by decide +kernel
theorem dX0_invert_28 : decode cX0_invert 28 = .ok (.lreturn, 1) := by decide +kernel
theorem dX0_invert_29 : decode cX0_invert 29 = .ok (.iconst 0, 1) := by decide +kernel
theorem dX0_invert_30 : decode cX0_invert 30 = .ok (.istore 6, 2) := by decide +kernel
theorem dX0_invert_32 : decode cX0_invert 32 = .ok (.iload 6, 2) := by decide +kernel
theorem dX0_invert_34 : decode cX0_invert 34 = .ok (.bipush 9, 2) := by decide +kernel
theorem dX0_invert_36 : decode cX0_invert 36 = .ok (.if_icmp .ge 25, 3) := by decide +kernel
theorem dX0_invert_39 : decode cX0_invert 39 = .ok (.iload 6, 2) := by decide +kernel
theorem dX0_invert_41 : decode cX0_invert 41 = .ok (.iload_n 3, 1) := by decide +kernel
theorem dX0_invert_42 : decode cX0_invert 42 = .ok (.if_icmp .eq 13, 3) := by decide +kernel
theorem dX0_invert_45 : decode cX0_invert 45 = .ok (.aload_n 0, 1) := by decide +kernel
theorem dX0_invert_46 : decode cX0_invert 46 = .ok (.iload 6, 2) := by decide +kernel
theorem dX0_invert_48 : decode cX0_invert 48 = .ok (.iload_n 3, 1) := by decide +kernel
theorem dX0_invert_49 : decode cX0_invert 49 = .ok (.lload 4, 2) := by decide +kernel
theorem dX0_invert_51 : decode cX0_invert 51 = .ok (.lload_n 1, 1) := by decide +kernel
theorem dX0_invert_52 : decode cX0_invert 52 = .ok (.invokevirtual 76, 3) := by decide +kernel
theorem dX0_invert_55 : decode cX0_invert 55 = .ok (.iinc 6 1, 3) := by decide +kernel
theorem dX0_invert_58 : decode cX0_invert 58 = .ok (.goto (-26), 3) := by decide +kernel
theorem dX0_invert_61 : decode cX0_invert 61 = .ok (.lload 4, 2) := by decide +kernel
theorem dX0_invert_63 : decode cX0_invert 63 = .ok (.lstore_n 1, 1) := by decide +kernel
theorem dX0_invert_64 : decode cX0_invert 64 = .ok (.iinc 3 1, 3) := by decide +kernel
theorem dX0_invert_67 : decode cX0_invert 67 = .ok (.goto (-63), 3) := by decide +kernel
theorem dX0_invert_70 : decode cX0_invert 70 = .ok (.lload_n 1, 1) := by decide +kernel
theorem dX0_invert_71 : decode cX0_invert 71 = .ok (.lreturn, 1) := by decide +kernel
theorem dX0_eliminate_0 : decode cX0_eliminate 0 = .ok (.aload_n 0, 1) := by decide +kernel
theorem dX0_eliminate_1 : decode cX0_eliminate 1 = .ok (.getfield 11, 3) := by decide +kernel
theorem dX0_eliminate_4 : decode cX0_eliminate 4 = .ok (.iload_n 1, 1) := by decide +kernel
theorem dX0_eliminate_5 : decode cX0_eliminate 5 = .ok (.aaload, 1) := by decide +kernel
theorem dX0_eliminate_6 : decode cX0_eliminate 6 = .ok (.iload_n 2, 1) := by decide +kernel
theorem dX0_eliminate_7 : decode cX0_eliminate 7 = .ok (.laload, 1) := by decide +kernel
theorem dX0_eliminate_8 : decode cX0_eliminate 8 = .ok (.lstore 7, 2) := by decide +kernel
theorem dX0_eliminate_10 : decode cX0_eliminate 10 = .ok (.iconst 0, 1) := by decide +kernel
theorem dX0_eliminate_11 : decode cX0_eliminate 11 = .ok (.istore 9, 2) := by decide +kernel
theorem dX0_eliminate_13 : decode cX0_eliminate 13 = .ok (.iload 9, 2) := by decide +kernel
theorem dX0_eliminate_15 : decode cX0_eliminate 15 = .ok (.bipush 18, 2) := by decide +kernel
theorem dX0_eliminate_17 : decode cX0_eliminate 17 = .ok (.if_icmp .ge 45, 3) := by decide +kernel
theorem dX0_eliminate_20 : decode cX0_eliminate 20 = .ok (.aload_n 0, 1) := by decide +kernel
theorem dX0_eliminate_21 : decode cX0_eliminate 21 = .ok (.getfield 11, 3) := by decide +kernel
theorem dX0_eliminate_24 : decode cX0_eliminate 24 = .ok (.iload_n 1, 1) := by decide +kernel
theorem dX0_eliminate_25 : decode cX0_eliminate 25 = .ok (.aaload, 1) := by decide +kernel
theorem dX0_eliminate_26 : decode cX0_eliminate 26 = .ok (.iload 9, 2) := by decide +kernel
theorem dX0_eliminate_28 : decode cX0_eliminate 28 = .ok (.lload_n 3, 1) := by decide +kernel
theorem dX0_eliminate_29 : decode cX0_eliminate 29 = .ok (.aload_n 0, 1) := by decide +kernel
theorem dX0_eliminate_30 : decode cX0_eliminate 30 = .ok (.getfield 11, 3) := by decide +kernel
theorem dX0_eliminate_33 : decode cX0_eliminate 33 = .ok (.iload_n 1, 1) := by decide +kernel
theorem dX0_eliminate_34 : decode cX0_eliminate 34 = .ok (.aaload, 1) := by decide +kernel
theorem dX0_eliminate_35 : decode cX0_eliminate 35 = .ok (.iload 9, 2) := by decide +kernel
theorem dX0_eliminate_37 : decode cX0_eliminate 37 = .ok (.laload, 1) := by decide +kernel
theorem dX0_eliminate_38 : decode cX0_eliminate 38 = .ok (.lmul, 1) := by decide +kernel
theorem dX0_eliminate_39 : decode cX0_eliminate 39 = .ok (.lload 7, 2) := by decide +kernel
theorem dX0_eliminate_41 : decode cX0_eliminate 41 = .ok (.aload_n 0, 1) := by decide +kernel
theorem dX0_eliminate_42 : decode cX0_eliminate 42 = .ok (.getfield 11, 3) := by decide +kernel
theorem dX0_eliminate_45 : decode cX0_eliminate 45 = .ok (.iload_n 2, 1) := by decide +kernel
theorem dX0_eliminate_46 : decode cX0_eliminate 46 = .ok (.aaload, 1) := by decide +kernel
theorem dX0_eliminate_47 : decode cX0_eliminate 47 = .ok (.iload 9, 2) := by decide +kernel
theorem dX0_eliminate_49 : decode cX0_eliminate 49 = .ok (.laload, 1) := by decide +kernel
theorem dX0_eliminate_50 : decode cX0_eliminate 50 = .ok (.lmul, 1) := by decide +kernel
theorem dX0_eliminate_51 : decode cX0_eliminate 51 = .ok (.lsub, 1) := by decide +kernel
theorem dX0_eliminate_52 : decode cX0_eliminate 52 = .ok (.lload 5, 2) := by decide +kernel
theorem dX0_eliminate_54 : decode cX0_eliminate 54 = .ok (.ldiv, 1) := by decide +kernel
theorem dX0_eliminate_55 : decode cX0_eliminate 55 = .ok (.lastore, 1) := by decide +kernel
theorem dX0_eliminate_56 : decode cX0_eliminate 56 = .ok (.iinc 9 1, 3) := by decide +kernel
theorem dX0_eliminate_59 : decode cX0_eliminate 59 = .ok (.goto (-46), 3) := by decide +kernel
theorem dX0_eliminate_62 : decode cX0_eliminate 62 = .ok (.return_, 1) := by decide +kernel
set_option maxRecDepth 20000 in
theorem ggX0_fillScaledHeads_X0_scaledInfluence : GoodIn wsX0_fillScaledHeads wsX0_scaledInfluence := goodIn_ca (goodIn_r _ [7, 8, 9, 10, 11, 12] (by decide +kernel) (by decide +kernel)) (goodIn_sub (fun _ h => List.mem_cons_of_mem _ (List.mem_append_right _ h)) (by decide +kernel))
set_option maxRecDepth 20000 in
theorem gX0_fillScaledHeads_X0_scaledInfluence : GoodIn wsX0_fillScaledHeads (wsV RX0 80 RX0 yX0_scaledInfluence wsX0_scaledInfluence) := goodIn_app (goodIn_of _ (by decide +kernel)) ggX0_fillScaledHeads_X0_scaledInfluence
theorem dX0_fillScaledHeads_0 : decode cX0_fillScaledHeads 0 = .ok (.iconst 0, 1) := by decide +kernel
theorem dX0_fillScaledHeads_1 : decode cX0_fillScaledHeads 1 = .ok (.istore_n 1, 1) := by decide +kernel
theorem dX0_fillScaledHeads_2 : decode cX0_fillScaledHeads 2 = .ok (.iload_n 1, 1) := by decide +kernel
theorem dX0_fillScaledHeads_3 : decode cX0_fillScaledHeads 3 = .ok (.bipush 9, 2) := by decide +kernel
theorem dX0_fillScaledHeads_5 : decode cX0_fillScaledHeads 5 = .ok (.if_icmp .ge 52, 3) := by decide +kernel
theorem dX0_fillScaledHeads_8 : decode cX0_fillScaledHeads 8 = .ok (.lconst 0, 1) := by decide +kernel
theorem dX0_fillScaledHeads_9 : decode cX0_fillScaledHeads 9 = .ok (.lstore_n 2, 1) := by decide +kernel
theorem dX0_fillScaledHeads_10 : decode cX0_fillScaledHeads 10 = .ok (.iconst 0, 1) := by decide +kernel
theorem dX0_fillScaledHeads_11 : decode cX0_fillScaledHeads 11 = .ok (.istore 4, 2) := by decide +kernel
theorem dX0_fillScaledHeads_13 : decode cX0_fillScaledHeads 13 = .ok (.iload 4, 2) := by decide +kernel
theorem dX0_fillScaledHeads_15 : decode cX0_fillScaledHeads 15 = .ok (.bipush 9, 2) := by decide +kernel
theorem dX0_fillScaledHeads_17 : decode cX0_fillScaledHeads 17 = .ok (.if_icmp .ge 27, 3) := by decide +kernel
theorem dX0_fillScaledHeads_20 : decode cX0_fillScaledHeads 20 = .ok (.lload_n 2, 1) := by decide +kernel
theorem dX0_fillScaledHeads_21 : decode cX0_fillScaledHeads 21 = .ok (.aload_n 0, 1) := by decide +kernel
theorem dX0_fillScaledHeads_22 : decode cX0_fillScaledHeads 22 = .ok (.iload_n 1, 1) := by decide +kernel
theorem dX0_fillScaledHeads_23 : decode cX0_fillScaledHeads 23 = .ok (.iload 4, 2) := by decide +kernel
theorem dX0_fillScaledHeads_25 : decode cX0_fillScaledHeads 25 = .ok (.invokevirtual 80, 3) := by decide +kernel
theorem dX0_fillScaledHeads_28 : decode cX0_fillScaledHeads 28 = .ok (.aload_n 0, 1) := by decide +kernel
theorem dX0_fillScaledHeads_29 : decode cX0_fillScaledHeads 29 = .ok (.getfield 16, 3) := by decide +kernel
theorem dX0_fillScaledHeads_32 : decode cX0_fillScaledHeads 32 = .ok (.iload 4, 2) := by decide +kernel
theorem dX0_fillScaledHeads_34 : decode cX0_fillScaledHeads 34 = .ok (.laload, 1) := by decide +kernel
theorem dX0_fillScaledHeads_35 : decode cX0_fillScaledHeads 35 = .ok (.lmul, 1) := by decide +kernel
theorem dX0_fillScaledHeads_36 : decode cX0_fillScaledHeads 36 = .ok (.ladd, 1) := by decide +kernel
theorem dX0_fillScaledHeads_37 : decode cX0_fillScaledHeads 37 = .ok (.lstore_n 2, 1) := by decide +kernel
theorem dX0_fillScaledHeads_38 : decode cX0_fillScaledHeads 38 = .ok (.iinc 4 1, 3) := by decide +kernel
theorem dX0_fillScaledHeads_41 : decode cX0_fillScaledHeads 41 = .ok (.goto (-28), 3) := by decide +kernel
theorem dX0_fillScaledHeads_44 : decode cX0_fillScaledHeads 44 = .ok (.aload_n 0, 1) := by decide +kernel
theorem dX0_fillScaledHeads_45 : decode cX0_fillScaledHeads 45 = .ok (.getfield 20, 3) := by decide +kernel
theorem dX0_fillScaledHeads_48 : decode cX0_fillScaledHeads 48 = .ok (.iload_n 1, 1) := by decide +kernel
theorem dX0_fillScaledHeads_49 : decode cX0_fillScaledHeads 49 = .ok (.lload_n 2, 1) := by decide +kernel
theorem dX0_fillScaledHeads_50 : decode cX0_fillScaledHeads 50 = .ok (.lastore, 1) := by decide +kernel
theorem dX0_fillScaledHeads_51 : decode cX0_fillScaledHeads 51 = .ok (.iinc 1 1, 3) := by decide +kernel
theorem dX0_fillScaledHeads_54 : decode cX0_fillScaledHeads 54 = .ok (.goto (-52), 3) := by decide +kernel
theorem dX0_fillScaledHeads_57 : decode cX0_fillScaledHeads 57 = .ok (.return_, 1) := by decide +kernel
set_option maxRecDepth 20000 in
theorem ggX1_init_J7_fill_53178 : GoodIn wsX1_init wsJ7_fill_53178 := goodIn_r _ [16] (by decide +kernel) (by decide +kernel)
set_option maxRecDepth 20000 in
theorem gX1_init_J7_fill_53178 : GoodIn wsX1_init (va_wsS RX1 15 yJ7_fill_53178 wsJ7_fill_53178) := goodIn_app (goodIn_of _ (by decide +kernel)) ggX1_init_J7_fill_53178
theorem dX1_init_0 : decode cX1_init 0 = .ok (.aload_n 0, 1) := by decide +kernel
theorem dX1_init_1 : decode cX1_init 1 = .ok (.invokespecial 3, 3) := by decide +kernel
theorem dX1_init_4 : decode cX1_init 4 = .ok (.aload_n 0, 1) := by decide +kernel
theorem dX1_init_5 : decode cX1_init 5 = .ok (.bipush 24, 2) := by decide +kernel
theorem dX1_init_7 : decode cX1_init 7 = .ok (.newarray .int, 2) := by decide +kernel
theorem dX1_init_9 : decode cX1_init 9 = .ok (.putfield 9, 3) := by decide +kernel
theorem dX1_init_12 : decode cX1_init 12 = .ok (.aload_n 0, 1) := by decide +kernel
theorem dX1_init_13 : decode cX1_init 13 = .ok (.getfield 9, 3) := by decide +kernel
theorem dX1_init_16 : decode cX1_init 16 = .ok (.iconst 1, 1) := by decide +kernel
theorem dX1_init_17 : decode cX1_init 17 = .ok (.invokestatic 15, 3) := by decide +kernel
theorem dX1_init_20 : decode cX1_init 20 = .ok (.aload_n 0, 1) := by decide +kernel
theorem dX1_init_21 : decode cX1_init 21 = .ok (.bipush 12, 2) := by decide +kernel
theorem dX1_init_23 : decode cX1_init 23 = .ok (.newarray .int, 2) := by decide +kernel
theorem dX1_init_25 : decode cX1_init 25 = .ok (.putfield 21, 3) := by decide +kernel
theorem dX1_init_28 : decode cX1_init 28 = .ok (.aload_n 0, 1) := by decide +kernel
theorem dX1_init_29 : decode cX1_init 29 = .ok (.getfield 21, 3) := by decide +kernel
theorem dX1_init_32 : decode cX1_init 32 = .ok (.bipush 100, 2) := by decide +kernel
theorem dX1_init_34 : decode cX1_init 34 = .ok (.invokestatic 15, 3) := by decide +kernel
theorem dX1_init_37 : decode cX1_init 37 = .ok (.aload_n 0, 1) := by decide +kernel
theorem dX1_init_38 : decode cX1_init 38 = .ok (.bipush 9, 2) := by decide +kernel
theorem dX1_init_40 : decode cX1_init 40 = .ok (.newarray .int, 2) := by decide +kernel
theorem dX1_init_42 : decode cX1_init 42 = .ok (.putfield 24, 3) := by decide +kernel
theorem dX1_init_45 : decode cX1_init 45 = .ok (.aload_n 0, 1) := by decide +kernel
theorem dX1_init_46 : decode cX1_init 46 = .ok (.bipush 9, 2) := by decide +kernel
theorem dX1_init_48 : decode cX1_init 48 = .ok (.newarray .int, 2) := by decide +kernel
theorem dX1_init_50 : decode cX1_init 50 = .ok (.putfield 27, 3) := by decide +kernel
theorem dX1_init_53 : decode cX1_init 53 = .ok (.aload_n 0, 1) := by decide +kernel
theorem dX1_init_54 : decode cX1_init 54 = .ok (.bipush 9, 2) := by decide +kernel
theorem dX1_init_56 : decode cX1_init 56 = .ok (.newarray .int, 2) := by decide +kernel
theorem dX1_init_58 : decode cX1_init 58 = .ok (.putfield 30, 3) := by decide +kernel
theorem dX1_init_61 : decode cX1_init 61 = .ok (.aload_n 0, 1) := by decide +kernel
theorem dX1_init_62 : decode cX1_init 62 = .ok (.bipush 9, 2) := by decide +kernel
theorem dX1_init_64 : decode cX1_init 64 = .ok (.newarray .int, 2) := by decide +kernel
theorem dX1_init_66 : decode cX1_init 66 = .ok (.putfield 33, 3) := by decide +kernel
theorem dX1_init_69 : decode cX1_init 69 = .ok (.aload_n 0, 1) := by decide +kernel
theorem dX1_init_70 : decode cX1_init 70 = .ok (.bipush 9, 2) := by decide +kernel
theorem dX1_init_72 : decode cX1_init 72 = .ok (.newarray .double, 2) := by decide +kernel
theorem dX1_init_74 : decode cX1_init 74 = .ok (.putfield 36, 3) := by decide +kernel
theorem dX1_init_77 : decode cX1_init 77 = .ok (.return_, 1) := by decide +kernel
theorem dX1_copyFrom_0 : decode cX1_copyFrom 0 = .ok (.aload_n 1, 1) := by decide +kernel
theorem dX1_copyFrom_1 : decode cX1_copyFrom 1 = .ok (.getfield 9, 3) := by decide +kernel
theorem dX1_copyFrom_4 : decode cX1_copyFrom 4 = .ok (.iconst 0, 1) := by decide +kernel
theorem dX1_copyFrom_5 : decode cX1_copyFrom 5 = .ok (.aload_n 0, 1) := by decide +kernel
theorem dX1_copyFrom_6 : decode cX1_copyFrom 6 = .ok (.getfield 9, 3) := by decide +kernel
theorem dX1_copyFrom_9 : decode cX1_copyFrom 9 = .ok (.iconst 0, 1) := by decide +kernel
theorem dX1_copyFrom_10 : decode cX1_copyFrom 10 = .ok (.bipush 24, 2) := by decide +kernel
theorem dX1_copyFrom_12 : decode cX1_copyFrom 12 = .ok (.invokestatic 40, 3) := by decide +kernel
theorem dX1_copyFrom_15 : decode cX1_copyFrom 15 = .ok (.aload_n 1, 1) := by decide +kernel
theorem dX1_copyFrom_16 : decode cX1_copyFrom 16 = .ok (.getfield 21, 3) := by decide +kernel
theorem dX1_copyFrom_19 : decode cX1_copyFrom 19 = .ok (.iconst 0, 1) := by decide +kernel
theorem dX1_copyFrom_20 : decode cX1_copyFrom 20 = .ok (.aload_n 0, 1) := by decide +kernel
theorem dX1_copyFrom_21 : decode cX1_copyFrom 21 = .ok (.getfield 21, 3) := by decide +kernel
theorem dX1_copyFrom_24 : decode cX1_copyFrom 24 = .ok (.iconst 0, 1) := by decide +kernel
theorem dX1_copyFrom_25 : decode cX1_copyFrom 25 = .ok (.bipush 12, 2) := by decide +kernel
theorem dX1_copyFrom_27 : decode cX1_copyFrom 27 = .ok (.invokestatic 40, 3) := by decide +kernel
theorem dX1_copyFrom_30 : decode cX1_copyFrom 30 = .ok (.aload_n 1, 1) := by decide +kernel
theorem dX1_copyFrom_31 : decode cX1_copyFrom 31 = .ok (.getfield 24, 3) := by decide +kernel
theorem dX1_copyFrom_34 : decode cX1_copyFrom 34 = .ok (.iconst 0, 1) := by decide +kernel
theorem dX1_copyFrom_35 : decode cX1_copyFrom 35 = .ok (.aload_n 0, 1) := by decide +kernel
theorem dX1_copyFrom_36 : decode cX1_copyFrom 36 = .ok (.getfield 24, 3) := by decide +kernel
theorem dX1_copyFrom_39 : decode cX1_copyFrom 39 = .ok (.iconst 0, 1) := by decide +kernel
theorem dX1_copyFrom_40 : decode cX1_copyFrom 40 = .ok (.bipush 9, 2) := by decide +kernel
theorem dX1_copyFrom_42 : decode cX1_copyFrom 42 = .ok (.invokestatic 40, 3) := by decide +kernel
theorem dX1_copyFrom_45 : decode cX1_copyFrom 45 = .ok (.aload_n 1, 1) := by decide +kernel
theorem dX1_copyFrom_46 : decode cX1_copyFrom 46 = .ok (.getfield 27, 3) := by decide +kernel
theorem dX1_copyFrom_49 : decode cX1_copyFrom 49 = .ok (.iconst 0, 1) := by decide +kernel
theorem dX1_copyFrom_50 : decode cX1_copyFrom 50 = .ok (.aload_n 0, 1) := by decide +kernel
theorem dX1_copyFrom_51 : decode cX1_copyFrom 51 = .ok (.getfield 27, 3) := by decide +kernel
theorem dX1_copyFrom_54 : decode cX1_copyFrom 54 = .ok (.iconst 0, 1) := by decide +kernel
theorem dX1_copyFrom_55 : decode cX1_copyFrom 55 = .ok (.bipush 9, 2) := by decide +kernel
theorem dX1_copyFrom_57 : decode cX1_copyFrom 57 = .ok (.invokestatic 40, 3) := by decide +kernel
theorem dX1_copyFrom_60 : decode cX1_copyFrom 60 = .ok (.aload_n 1, 1) := by decide +kernel
theorem dX1_copyFrom_61 : decode cX1_copyFrom 61 = .ok (.getfield 30, 3) := by decide +kernel
theorem dX1_copyFrom_64 : decode cX1_copyFrom 64 = .ok (.iconst 0, 1) := by decide +kernel
theorem dX1_copyFrom_65 : decode cX1_copyFrom 65 = .ok (.aload_n 0, 1) := by decide +kernel
theorem dX1_copyFrom_66 : decode cX1_copyFrom 66 = .ok (.getfield 30, 3) := by decide +kernel
theorem dX1_copyFrom_69 : decode cX1_copyFrom 69 = .ok (.iconst 0, 1) := by decide +kernel
theorem dX1_copyFrom_70 : decode cX1_copyFrom 70 = .ok (.bipush 9, 2) := by decide +kernel
theorem dX1_copyFrom_72 : decode cX1_copyFrom 72 = .ok (.invokestatic 40, 3) := by decide +kernel
theorem dX1_copyFrom_75 : decode cX1_copyFrom 75 = .ok (.aload_n 1, 1) := by decide +kernel
theorem dX1_copyFrom_76 : decode cX1_copyFrom 76 = .ok (.getfield 33, 3) := by decide +kernel
theorem dX1_copyFrom_79 : decode cX1_copyFrom 79 = .ok (.iconst 0, 1) := by decide +kernel
theorem dX1_copyFrom_80 : decode cX1_copyFrom 80 = .ok (.aload_n 0, 1) := by decide +kernel
theorem dX1_copyFrom_81 : decode cX1_copyFrom 81 = .ok (.getfield 33, 3) := by decide +kernel
theorem dX1_copyFrom_84 : decode cX1_copyFrom 84 = .ok (.iconst 0, 1) := by decide +kernel
theorem dX1_copyFrom_85 : decode cX1_copyFrom 85 = .ok (.bipush 9, 2) := by decide +kernel
theorem dX1_copyFrom_87 : decode cX1_copyFrom 87 = .ok (.invokestatic 40, 3) := by decide +kernel
theorem dX1_copyFrom_90 : decode cX1_copyFrom 90 = .ok (.aload_n 1, 1) := by decide +kernel
theorem dX1_copyFrom_91 : decode cX1_copyFrom 91 = .ok (.getfield 36, 3) := by decide +kernel
theorem dX1_copyFrom_94 : decode cX1_copyFrom 94 = .ok (.iconst 0, 1) := by decide +kernel
theorem dX1_copyFrom_95 : decode cX1_copyFrom 95 = .ok (.aload_n 0, 1) := by decide +kernel
theorem dX1_copyFrom_96 : decode cX1_copyFrom 96 = .ok (.getfield 36, 3) := by decide +kernel
theorem dX1_copyFrom_99 : decode cX1_copyFrom 99 = .ok (.iconst 0, 1) := by decide +kernel
theorem dX1_copyFrom_100 : decode cX1_copyFrom 100 = .ok (.bipush 9, 2) := by decide +kernel
theorem dX1_copyFrom_102 : decode cX1_copyFrom 102 = .ok (.invokestatic 40, 3) := by decide +kernel
theorem dX1_copyFrom_105 : decode cX1_copyFrom 105 = .ok (.return_, 1) := by decide +kernel
set_option maxRecDepth 20000 in
theorem ggX2_init_X1_init : GoodIn wsX2_init wsX1_init := goodIn_r _ [20, 21, 2, 3, 22, 23, 24, 25, 26, 27, 28, 29, 30, 31, 32, 33, 34, 44, 45, 46, 47, 48, 49, 50] (by decide +kernel) (by decide +kernel)
set_option maxRecDepth 20000 in
theorem gX2_init_X1_init : GoodIn wsX2_init (wsX1_init) := ggX2_init_X1_init
set_option maxRecDepth 20000 in
theorem ggX2_init_X0_init : GoodIn wsX2_init wsX0_init := goodIn_r _ [37, 38, 2, 3, 39, 15, 40, 41, 42, 43, 58, 59, 60, 61] (by decide +kernel) (by decide +kernel)
set_option maxRecDepth 20000 in
theorem gX2_init_X0_init : GoodIn wsX2_init (wsX0_init) := ggX2_init_X0_init
theorem dX2_init_0 : decode cX2_init 0 = .ok (.aload_n 0, 1) := by decide +kernel
theorem dX2_init_1 : decode cX2_init 1 = .ok (.invokespecial 1, 3) := by decide +kernel
theorem dX2_init_4 : decode cX2_init 4 = .ok (.aload_n 0, 1) := by decide +kernel
theorem dX2_init_5 : decode cX2_init 5 = .ok (.new 7, 3) := by decide +kernel
theorem dX2_init_8 : decode cX2_init 8 = .ok (.dup, 1) := by decide +kernel
theorem dX2_init_9 : decode cX2_init 9 = .ok (.invokespecial 9, 3) := by decide +kernel
theorem dX2_init_12 : decode cX2_init 12 = .ok (.putfield 10, 3) := by decide +kernel
theorem dX2_init_15 : decode cX2_init 15 = .ok (.aload_n 0, 1) := by decide +kernel
theorem dX2_init_16 : decode cX2_init 16 = .ok (.iconst 4, 1) := by decide +kernel
theorem dX2_init_17 : decode cX2_init 17 = .ok (.anewarray 7, 3) := by decide +kernel
theorem dX2_init_20 : decode cX2_init 20 = .ok (.putfield 16, 3) := by decide +kernel
theorem dX2_init_23 : decode cX2_init 23 = .ok (.iconst 0, 1) := by decide +kernel
theorem dX2_init_24 : decode cX2_init 24 = .ok (.istore_n 1, 1) := by decide +kernel
theorem dX2_init_25 : decode cX2_init 25 = .ok (.iload_n 1, 1) := by decide +kernel
theorem dX2_init_26 : decode cX2_init 26 = .ok (.iconst 4, 1) := by decide +kernel
theorem dX2_init_27 : decode cX2_init 27 = .ok (.if_icmp .ge 22, 3) := by decide +kernel
theorem dX2_init_30 : decode cX2_init 30 = .ok (.aload_n 0, 1) := by decide +kernel
theorem dX2_init_31 : decode cX2_init 31 = .ok (.getfield 16, 3) := by decide +kernel
theorem dX2_init_34 : decode cX2_init 34 = .ok (.iload_n 1, 1) := by decide +kernel
theorem dX2_init_35 : decode cX2_init 35 = .ok (.new 7, 3) := by decide +kernel
theorem dX2_init_38 : decode cX2_init 38 = .ok (.dup, 1) := by decide +kernel
theorem dX2_init_39 : decode cX2_init 39 = .ok (.invokespecial 9, 3) := by decide +kernel
theorem dX2_init_42 : decode cX2_init 42 = .ok (.aastore, 1) := by decide +kernel
theorem dX2_init_43 : decode cX2_init 43 = .ok (.iinc 1 1, 3) := by decide +kernel
theorem dX2_init_46 : decode cX2_init 46 = .ok (.goto (-21), 3) := by decide +kernel
theorem dX2_init_49 : decode cX2_init 49 = .ok (.aload_n 0, 1) := by decide +kernel
theorem dX2_init_50 : decode cX2_init 50 = .ok (.iconst 0, 1) := by decide +kernel
theorem dX2_init_51 : decode cX2_init 51 = .ok (.putfield 20, 3) := by decide +kernel
theorem dX2_init_54 : decode cX2_init 54 = .ok (.aload_n 0, 1) := by decide +kernel
theorem dX2_init_55 : decode cX2_init 55 = .ok (.new 24, 3) := by decide +kernel
theorem dX2_init_58 : decode cX2_init 58 = .ok (.dup, 1) := by decide +kernel
theorem dX2_init_59 : decode cX2_init 59 = .ok (.invokespecial 26, 3) := by decide +kernel
theorem dX2_init_62 : decode cX2_init 62 = .ok (.putfield 27, 3) := by decide +kernel
theorem dX2_init_65 : decode cX2_init 65 = .ok (.aload_n 0, 1) := by decide +kernel
theorem dX2_init_66 : decode cX2_init 66 = .ok (.iconst 0, 1) := by decide +kernel
theorem dX2_init_67 : decode cX2_init 67 = .ok (.putfield 31, 3) := by decide +kernel
theorem dX2_init_70 : decode cX2_init 70 = .ok (.aload_n 0, 1) := by decide +kernel
theorem dX2_init_71 : decode cX2_init 71 = .ok (.bipush 9, 2) := by decide +kernel
theorem dX2_init_73 : decode cX2_init 73 = .ok (.newarray .long, 2) := by decide +kernel
theorem dX2_init_75 : decode cX2_init 75 = .ok (.putfield 35, 3) := by decide +kernel
theorem dX2_init_78 : decode cX2_init 78 = .ok (.aload_n 0, 1) := by decide +kernel
theorem dX2_init_79 : decode cX2_init 79 = .ok (.bipush 9, 2) := by decide +kernel
theorem dX2_init_81 : decode cX2_init 81 = .ok (.newarray .long, 2) := by decide +kernel
theorem dX2_init_83 : decode cX2_init 83 = .ok (.putfield 39, 3) := by decide +kernel
theorem dX2_init_86 : decode cX2_init 86 = .ok (.return_, 1) := by decide +kernel
set_option maxRecDepth 20000 in
theorem ggX2_setLink_X2_requireLink : GoodIn wsX2_setLink wsX2_requireLink := goodIn_ca (goodIn_r _ [6, 7, 8] (by decide +kernel) (by decide +kernel)) (goodIn_sub (fun _ h => List.mem_cons_of_mem _ (List.mem_append_left _ (List.mem_append_left _ (List.mem_append_right _ h)))) (by decide +kernel))
set_option maxRecDepth 20000 in
theorem gX2_setLink_X2_requireLink : GoodIn wsX2_setLink (va_wsS RX2 42 yX2_requireLink wsX2_requireLink) := goodIn_app (goodIn_of _ (by decide +kernel)) ggX2_setLink_X2_requireLink
set_option maxRecDepth 20000 in
theorem ggX2_setLink_X2_requireRange : GoodIn wsX2_setLink wsX2_requireRange := goodIn_ca (goodIn_r _ [11, 12, 13] (by decide +kernel) (by decide +kernel)) (goodIn_sub (fun _ h => List.mem_cons_of_mem _ (List.mem_append_left _ (List.mem_append_right _ h))) (by decide +kernel))
set_option maxRecDepth 20000 in
theorem gX2_setLink_X2_requireRange : GoodIn wsX2_setLink (va_wsS RX2 46 yX2_requireRange wsX2_requireRange) := goodIn_app (goodIn_of _ (by decide +kernel)) ggX2_setLink_X2_requireRange
set_option maxRecDepth 20000 in
theorem ggX2_setLink_X2_saveNow : GoodIn wsX2_setLink wsX2_saveNow := goodIn_r _ [17, 18, 19, 1, 20, 21, 22, 23, 5, 24, 25, 26, 27, 28, 29, 30, 31, 32, 33, 34, 35, 36, 37, 38, 39, 40, 44, 45, 46, 47, 48, 49, 50, 51, 52, 53, 54, 55, 56, 57] (by decide +kernel) (by decide +kernel)
set_option maxRecDepth 20000 in
theorem gX2_setLink_X2_saveNow : GoodIn wsX2_setLink (wsV RX2 50 RX2 yX2_saveNow wsX2_saveNow) := goodIn_app (goodIn_of _ (by decide +kernel)) ggX2_setLink_X2_saveNow
set_option maxRecDepth 20000 in
theorem ggX2_setLink_X2_exchange : GoodIn wsX2_setLink wsX2_exchange := goodIn_ca (goodIn_r _ [43] (by decide +kernel) (by decide +kernel)) (goodIn_sub (fun _ h => List.mem_cons_of_mem _ (List.mem_append_right _ h)) (by decide +kernel))
set_option maxRecDepth 20000 in
theorem gX2_setLink_X2_exchange : GoodIn wsX2_setLink (va_wsS RX2 57 yX2_exchange wsX2_exchange) := goodIn_app (goodIn_of _ (by decide +kernel)) ggX2_setLink_X2_exchange
theorem dX2_setLink_0 : decode cX2_setLink 0 = .ok (.iload_n 1, 1) := by decide +kernel
theorem dX2_setLink_1 : decode cX2_setLink 1 = .ok (.invokestatic 42, 3) := by decide +kernel
theorem dX2_setLink_4 : decode cX2_setLink 4 = .ok (.iload_n 2, 1) := by decide +kernel
theorem dX2_setLink_5 : decode cX2_setLink 5 = .ok (.iconst 2, 1) := by decide +kernel
theorem dX2_setLink_6 : decode cX2_setLink 6 = .ok (.invokestatic 46, 3) := by decide +kernel
theorem dX2_setLink_9 : decode cX2_setLink 9 = .ok (.aload_n 0, 1) := by decide +kernel
theorem dX2_setLink_10 : decode cX2_setLink 10 = .ok (.invokevirtual 50, 3) := by decide +kernel
theorem dX2_setLink_13 : decode cX2_setLink 13 = .ok (.aload_n 0, 1) := by decide +kernel
theorem dX2_setLink_14 : decode cX2_setLink 14 = .ok (.getfield 10, 3) := by decide +kernel
theorem dX2_setLink_17 : decode cX2_setLink 17 = .ok (.getfield 53, 3) := by decide +kernel
theorem dX2_setLink_20 : decode cX2_setLink 20 = .ok (.iload_n 1, 1) := by decide +kernel
theorem dX2_setLink_21 : decode cX2_setLink 21 = .ok (.iload_n 2, 1) := by decide +kernel
theorem dX2_setLink_22 : decode cX2_setLink 22 = .ok (.invokestatic 57, 3) := by decide +kernel
theorem dX2_setLink_25 : decode cX2_setLink 25 = .ok (.ireturn, 1) := by decide +kernel
set_option maxRecDepth 20000 in
theorem ggX2_setEdge_X2_requirePoint : GoodIn wsX2_setEdge wsX2_requirePoint := goodIn_ca (goodIn_r _ [6, 7, 8] (by decide +kernel) (by decide +kernel)) (goodIn_sub (fun _ h => List.mem_cons_of_mem _ (List.mem_append_left _ (List.mem_append_left _ (List.mem_append_right _ h)))) (by decide +kernel))
set_option maxRecDepth 20000 in
theorem gX2_setEdge_X2_requirePoint : GoodIn wsX2_setEdge (va_wsS RX2 61 yX2_requirePoint wsX2_requirePoint) := goodIn_app (goodIn_of _ (by decide +kernel)) ggX2_setEdge_X2_requirePoint
set_option maxRecDepth 20000 in
theorem ggX2_setEdge_X2_requireRange : GoodIn wsX2_setEdge wsX2_requireRange := goodIn_ca (goodIn_r _ [11, 12, 13] (by decide +kernel) (by decide +kernel)) (goodIn_sub (fun _ h => List.mem_cons_of_mem _ (List.mem_append_left _ (List.mem_append_right _ h))) (by decide +kernel))
set_option maxRecDepth 20000 in
theorem gX2_setEdge_X2_requireRange : GoodIn wsX2_setEdge (va_wsS RX2 46 yX2_requireRange wsX2_requireRange) := goodIn_app (goodIn_of _ (by decide +kernel)) ggX2_setEdge_X2_requireRange
set_option maxRecDepth 20000 in
theorem ggX2_setEdge_X2_saveNow : GoodIn wsX2_setEdge wsX2_saveNow := goodIn_r _ [17, 18, 19, 1, 20, 21, 22, 23, 5, 24, 25, 26, 27, 28, 29, 30, 31, 32, 33, 34, 35, 36, 37, 38, 39, 40, 44, 45, 46, 47, 48, 49, 50, 51, 52, 53, 54, 55, 56, 57] (by decide +kernel) (by decide +kernel)
set_option maxRecDepth 20000 in
theorem gX2_setEdge_X2_saveNow : GoodIn wsX2_setEdge (wsV RX2 50 RX2 yX2_saveNow wsX2_saveNow) := goodIn_app (goodIn_of _ (by decide +kernel)) ggX2_setEdge_X2_saveNow
set_option maxRecDepth 20000 in
theorem ggX2_setEdge_X2_exchange : GoodIn wsX2_setEdge wsX2_exchange := goodIn_ca (goodIn_r _ [43] (by decide +kernel) (by decide +kernel)) (goodIn_sub (fun _ h => List.mem_cons_of_mem _ (List.mem_append_right _ h)) (by decide +kernel))
set_option maxRecDepth 20000 in
theorem gX2_setEdge_X2_exchange : GoodIn wsX2_setEdge (va_wsS RX2 57 yX2_exchange wsX2_exchange) := goodIn_app (goodIn_of _ (by decide +kernel)) ggX2_setEdge_X2_exchange
theorem dX2_setEdge_0 : decode cX2_setEdge 0 = .ok (.iload_n 1, 1) := by decide +kernel
theorem dX2_setEdge_1 : decode cX2_setEdge 1 = .ok (.invokestatic 61, 3) := by decide +kernel
theorem dX2_setEdge_4 : decode cX2_setEdge 4 = .ok (.iload_n 2, 1) := by decide +kernel
theorem dX2_setEdge_5 : decode cX2_setEdge 5 = .ok (.sipush 1000, 3) := by decide +kernel
theorem dX2_setEdge_8 : decode cX2_setEdge 8 = .ok (.invokestatic 46, 3) := by decide +kernel
theorem dX2_setEdge_11 : decode cX2_setEdge 11 = .ok (.aload_n 0, 1) := by decide +kernel
theorem dX2_setEdge_12 : decode cX2_setEdge 12 = .ok (.invokevirtual 50, 3) := by decide +kernel
theorem dX2_setEdge_15 : decode cX2_setEdge 15 = .ok (.aload_n 0, 1) := by decide +kernel
theorem dX2_setEdge_16 : decode cX2_setEdge 16 = .ok (.getfield 10, 3) := by decide +kernel
theorem dX2_setEdge_19 : decode cX2_setEdge 19 = .ok (.getfield 64, 3) := by decide +kernel
theorem dX2_setEdge_22 : decode cX2_setEdge 22 = .ok (.iload_n 1, 1) := by decide +kernel
theorem dX2_setEdge_23 : decode cX2_setEdge 23 = .ok (.iload_n 2, 1) := by decide +kernel
theorem dX2_setEdge_24 : decode cX2_setEdge 24 = .ok (.invokestatic 57, 3) := by decide +kernel
theorem dX2_setEdge_27 : decode cX2_setEdge 27 = .ok (.ireturn, 1) := by decide +kernel
set_option maxRecDepth 20000 in
theorem ggX2_setRecharge_X2_requireCell : GoodIn wsX2_setRecharge wsX2_requireCell := goodIn_ca (goodIn_r _ [6, 7, 8] (by decide +kernel) (by decide +kernel)) (goodIn_sub (fun _ h => List.mem_cons_of_mem _ (List.mem_append_left _ (List.mem_append_left _ (List.mem_append_right _ h)))) (by decide +kernel))
set_option maxRecDepth 20000 in
theorem gX2_setRecharge_X2_requireCell : GoodIn wsX2_setRecharge (va_wsS RX2 67 yX2_requireCell wsX2_requireCell) := goodIn_app (goodIn_of _ (by decide +kernel)) ggX2_setRecharge_X2_requireCell
set_option maxRecDepth 20000 in
theorem ggX2_setRecharge_X2_requireRange : GoodIn wsX2_setRecharge wsX2_requireRange := goodIn_ca (goodIn_r _ [11, 12, 13] (by decide +kernel) (by decide +kernel)) (goodIn_sub (fun _ h => List.mem_cons_of_mem _ (List.mem_append_left _ (List.mem_append_right _ h))) (by decide +kernel))
set_option maxRecDepth 20000 in
theorem gX2_setRecharge_X2_requireRange : GoodIn wsX2_setRecharge (va_wsS RX2 46 yX2_requireRange wsX2_requireRange) := goodIn_app (goodIn_of _ (by decide +kernel)) ggX2_setRecharge_X2_requireRange
set_option maxRecDepth 20000 in
theorem ggX2_setRecharge_X2_saveNow : GoodIn wsX2_setRecharge wsX2_saveNow := goodIn_r _ [17, 18, 19, 1, 20, 21, 22, 23, 5, 24, 25, 26, 27, 28, 29, 30, 31, 32, 33, 34, 35, 36, 37, 38, 39, 40, 44, 45, 46, 47, 48, 49, 50, 51, 52, 53, 54, 55, 56, 57] (by decide +kernel) (by decide +kernel)
set_option maxRecDepth 20000 in
theorem gX2_setRecharge_X2_saveNow : GoodIn wsX2_setRecharge (wsV RX2 50 RX2 yX2_saveNow wsX2_saveNow) := goodIn_app (goodIn_of _ (by decide +kernel)) ggX2_setRecharge_X2_saveNow
set_option maxRecDepth 20000 in
theorem ggX2_setRecharge_X2_exchange : GoodIn wsX2_setRecharge wsX2_exchange := goodIn_ca (goodIn_r _ [43] (by decide +kernel) (by decide +kernel)) (goodIn_sub (fun _ h => List.mem_cons_of_mem _ (List.mem_append_right _ h)) (by decide +kernel))
set_option maxRecDepth 20000 in
theorem gX2_setRecharge_X2_exchange : GoodIn wsX2_setRecharge (va_wsS RX2 57 yX2_exchange wsX2_exchange) := goodIn_app (goodIn_of _ (by decide +kernel)) ggX2_setRecharge_X2_exchange
theorem dX2_setRecharge_0 : decode cX2_setRecharge 0 = .ok (.iload_n 1, 1) := by decide +kernel
theorem dX2_setRecharge_1 : decode cX2_setRecharge 1 = .ok (.invokestatic 67, 3) := by decide +kernel
theorem dX2_setRecharge_4 : decode cX2_setRecharge 4 = .ok (.iload_n 2, 1) := by decide +kernel
theorem dX2_setRecharge_5 : decode cX2_setRecharge 5 = .ok (.sipush 1000, 3) := by decide +kernel
theorem dX2_setRecharge_8 : decode cX2_setRecharge 8 = .ok (.invokestatic 46, 3) := by decide +kernel
theorem dX2_setRecharge_11 : decode cX2_setRecharge 11 = .ok (.aload_n 0, 1) := by decide +kernel
theorem dX2_setRecharge_12 : decode cX2_setRecharge 12 = .ok (.invokevirtual 50, 3) := by decide +kernel
theorem dX2_setRecharge_15 : decode cX2_setRecharge 15 = .ok (.aload_n 0, 1) := by decide +kernel
theorem dX2_setRecharge_16 : decode cX2_setRecharge 16 = .ok (.getfield 10, 3) := by decide +kernel
theorem dX2_setRecharge_19 : decode cX2_setRecharge 19 = .ok (.getfield 70, 3) := by decide +kernel
theorem dX2_setRecharge_22 : decode cX2_setRecharge 22 = .ok (.iload_n 1, 1) := by decide +kernel
theorem dX2_setRecharge_23 : decode cX2_setRecharge 23 = .ok (.iload_n 2, 1) := by decide +kernel
theorem dX2_setRecharge_24 : decode cX2_setRecharge 24 = .ok (.invokestatic 57, 3) := by decide +kernel
theorem dX2_setRecharge_27 : decode cX2_setRecharge 27 = .ok (.ireturn, 1) := by decide +kernel
set_option maxRecDepth 20000 in
theorem ggX2_setRate_X2_requireCell : GoodIn wsX2_setRate wsX2_requireCell := goodIn_ca (goodIn_r _ [6, 7, 8] (by decide +kernel) (by decide +kernel)) (goodIn_sub (fun _ h => List.mem_cons_of_mem _ (List.mem_append_left _ (List.mem_append_left _ (List.mem_append_right _ h)))) (by decide +kernel))
set_option maxRecDepth 20000 in
theorem gX2_setRate_X2_requireCell : GoodIn wsX2_setRate (va_wsS RX2 67 yX2_requireCell wsX2_requireCell) := goodIn_app (goodIn_of _ (by decide +kernel)) ggX2_setRate_X2_requireCell
set_option maxRecDepth 20000 in
theorem ggX2_setRate_X2_requireRange : GoodIn wsX2_setRate wsX2_requireRange := goodIn_ca (goodIn_r _ [11, 12, 13] (by decide +kernel) (by decide +kernel)) (goodIn_sub (fun _ h => List.mem_cons_of_mem _ (List.mem_append_left _ (List.mem_append_right _ h))) (by decide +kernel))
set_option maxRecDepth 20000 in
theorem gX2_setRate_X2_requireRange : GoodIn wsX2_setRate (va_wsS RX2 46 yX2_requireRange wsX2_requireRange) := goodIn_app (goodIn_of _ (by decide +kernel)) ggX2_setRate_X2_requireRange
set_option maxRecDepth 20000 in
theorem ggX2_setRate_X2_saveNow : GoodIn wsX2_setRate wsX2_saveNow := goodIn_r _ [17, 18, 19, 1, 20, 21, 22, 23, 5, 24, 25, 26, 27, 28, 29, 30, 31, 32, 33, 34, 35, 36, 37, 38, 39, 40, 44, 45, 46, 47, 48, 49, 50, 51, 52, 53, 54, 55, 56, 57] (by decide +kernel) (by decide +kernel)
set_option maxRecDepth 20000 in
theorem gX2_setRate_X2_saveNow : GoodIn wsX2_setRate (wsV RX2 50 RX2 yX2_saveNow wsX2_saveNow) := goodIn_app (goodIn_of _ (by decide +kernel)) ggX2_setRate_X2_saveNow
set_option maxRecDepth 20000 in
theorem ggX2_setRate_X2_exchange : GoodIn wsX2_setRate wsX2_exchange := goodIn_ca (goodIn_r _ [43] (by decide +kernel) (by decide +kernel)) (goodIn_sub (fun _ h => List.mem_cons_of_mem _ (List.mem_append_right _ h)) (by decide +kernel))
set_option maxRecDepth 20000 in
theorem gX2_setRate_X2_exchange : GoodIn wsX2_setRate (va_wsS RX2 57 yX2_exchange wsX2_exchange) := goodIn_app (goodIn_of _ (by decide +kernel)) ggX2_setRate_X2_exchange
theorem dX2_setRate_0 : decode cX2_setRate 0 = .ok (.iload_n 1, 1) := by decide +kernel
theorem dX2_setRate_1 : decode cX2_setRate 1 = .ok (.invokestatic 67, 3) := by decide +kernel
theorem dX2_setRate_4 : decode cX2_setRate 4 = .ok (.iload_n 2, 1) := by decide +kernel
theorem dX2_setRate_5 : decode cX2_setRate 5 = .ok (.sipush 1000, 3) := by decide +kernel
theorem dX2_setRate_8 : decode cX2_setRate 8 = .ok (.invokestatic 46, 3) := by decide +kernel
theorem dX2_setRate_11 : decode cX2_setRate 11 = .ok (.aload_n 0, 1) := by decide +kernel
theorem dX2_setRate_12 : decode cX2_setRate 12 = .ok (.invokevirtual 50, 3) := by decide +kernel
theorem dX2_setRate_15 : decode cX2_setRate 15 = .ok (.aload_n 0, 1) := by decide +kernel
theorem dX2_setRate_16 : decode cX2_setRate 16 = .ok (.getfield 10, 3) := by decide +kernel
theorem dX2_setRate_19 : decode cX2_setRate 19 = .ok (.getfield 73, 3) := by decide +kernel
theorem dX2_setRate_22 : decode cX2_setRate 22 = .ok (.iload_n 1, 1) := by decide +kernel
theorem dX2_setRate_23 : decode cX2_setRate 23 = .ok (.iload_n 2, 1) := by decide +kernel
theorem dX2_setRate_24 : decode cX2_setRate 24 = .ok (.invokestatic 57, 3) := by decide +kernel
theorem dX2_setRate_27 : decode cX2_setRate 27 = .ok (.ireturn, 1) := by decide +kernel
set_option maxRecDepth 20000 in
theorem ggX2_setLevels_X2_requireCell : GoodIn wsX2_setLevels wsX2_requireCell := goodIn_ca (goodIn_r _ [7, 8, 9] (by decide +kernel) (by decide +kernel)) (goodIn_sub (fun _ h => List.mem_cons_of_mem _ (List.mem_append_left _ (List.mem_append_left _ (List.mem_append_right _ h)))) (by decide +kernel))
set_option maxRecDepth 20000 in
theorem gX2_setLevels_X2_requireCell : GoodIn wsX2_setLevels (va_wsS RX2 67 yX2_requireCell wsX2_requireCell) := goodIn_app (goodIn_of _ (by decide +kernel)) ggX2_setLevels_X2_requireCell
set_option maxRecDepth 20000 in
theorem ggX2_setLevels_X2_requireRange : GoodIn wsX2_setLevels wsX2_requireRange := goodIn_ca (goodIn_r _ [12, 13, 14] (by decide +kernel) (by decide +kernel)) (goodIn_sub (fun _ h => List.mem_cons_of_mem _ (List.mem_append_left _ (List.mem_append_right _ h))) (by decide +kernel))
set_option maxRecDepth 20000 in
theorem gX2_setLevels_X2_requireRange : GoodIn wsX2_setLevels (va_wsS RX2 46 yX2_requireRange wsX2_requireRange) := goodIn_app (goodIn_of _ (by decide +kernel)) ggX2_setLevels_X2_requireRange
set_option maxRecDepth 20000 in
theorem ggX2_setLevels_X2_saveNow : GoodIn wsX2_setLevels wsX2_saveNow := goodIn_r _ [18, 19, 20, 1, 21, 22, 23, 24, 6, 25, 26, 27, 28, 29, 30, 31, 32, 33, 34, 35, 36, 37, 38, 39, 40, 41, 45, 46, 47, 48, 49, 50, 51, 52, 53, 54, 55, 56, 57, 58] (by decide +kernel) (by decide +kernel)
set_option maxRecDepth 20000 in
theorem gX2_setLevels_X2_saveNow : GoodIn wsX2_setLevels (wsV RX2 50 RX2 yX2_saveNow wsX2_saveNow) := goodIn_app (goodIn_of _ (by decide +kernel)) ggX2_setLevels_X2_saveNow
set_option maxRecDepth 20000 in
theorem ggX2_setLevels_X2_exchange : GoodIn wsX2_setLevels wsX2_exchange := goodIn_ca (goodIn_r _ [44] (by decide +kernel) (by decide +kernel)) (goodIn_sub (fun _ h => List.mem_cons_of_mem _ (List.mem_append_right _ h)) (by decide +kernel))
set_option maxRecDepth 20000 in
theorem gX2_setLevels_X2_exchange : GoodIn wsX2_setLevels (va_wsS RX2 57 yX2_exchange wsX2_exchange) := goodIn_app (goodIn_of _ (by decide +kernel)) ggX2_setLevels_X2_exchange
theorem dX2_setLevels_0 : decode cX2_setLevels 0 = .ok (.iload_n 1, 1) := by decide +kernel
theorem dX2_setLevels_1 : decode cX2_setLevels 1 = .ok (.invokestatic 67, 3) := by decide +kernel
theorem dX2_setLevels_4 : decode cX2_setLevels 4 = .ok (.iload_n 2, 1) := by decide +kernel
theorem dX2_setLevels_5 : decode cX2_setLevels 5 = .ok (.sipush 1000, 3) := by decide +kernel
theorem dX2_setLevels_8 : decode cX2_setLevels 8 = .ok (.invokestatic 46, 3) := by decide +kernel
theorem dX2_setLevels_11 : decode cX2_setLevels 11 = .ok (.iload_n 3, 1) := by decide +kernel
theorem dX2_setLevels_12 : decode cX2_setLevels 12 = .ok (.sipush 1000, 3) := by decide +kernel
theorem dX2_setLevels_15 : decode cX2_setLevels 15 = .ok (.invokestatic 46, 3) := by decide +kernel
theorem dX2_setLevels_18 : decode cX2_setLevels 18 = .ok (.aload_n 0, 1) := by decide +kernel
theorem dX2_setLevels_19 : decode cX2_setLevels 19 = .ok (.invokevirtual 50, 3) := by decide +kernel
theorem dX2_setLevels_22 : decode cX2_setLevels 22 = .ok (.aload_n 0, 1) := by decide +kernel
theorem dX2_setLevels_23 : decode cX2_setLevels 23 = .ok (.getfield 10, 3) := by decide +kernel
theorem dX2_setLevels_26 : decode cX2_setLevels 26 = .ok (.getfield 76, 3) := by decide +kernel
theorem dX2_setLevels_29 : decode cX2_setLevels 29 = .ok (.iload_n 1, 1) := by decide +kernel
theorem dX2_setLevels_30 : decode cX2_setLevels 30 = .ok (.iload_n 2, 1) := by decide +kernel
theorem dX2_setLevels_31 : decode cX2_setLevels 31 = .ok (.invokestatic 57, 3) := by decide +kernel
theorem dX2_setLevels_34 : decode cX2_setLevels 34 = .ok (.pop, 1) := by decide +kernel
theorem dX2_setLevels_35 : decode cX2_setLevels 35 = .ok (.aload_n 0, 1) := by decide +kernel
theorem dX2_setLevels_36 : decode cX2_setLevels 36 = .ok (.getfield 10, 3) := by decide +kernel
theorem dX2_setLevels_39 : decode cX2_setLevels 39 = .ok (.getfield 79, 3) := by decide +kernel
theorem dX2_setLevels_42 : decode cX2_setLevels 42 = .ok (.iload_n 1, 1) := by decide +kernel
theorem dX2_setLevels_43 : decode cX2_setLevels 43 = .ok (.iload_n 3, 1) := by decide +kernel
theorem dX2_setLevels_44 : decode cX2_setLevels 44 = .ok (.invokestatic 57, 3) := by decide +kernel
theorem dX2_setLevels_47 : decode cX2_setLevels 47 = .ok (.ireturn, 1) := by decide +kernel
set_option maxRecDepth 20000 in
theorem ggX2_isLoose_X2_commonDenominator : GoodIn wsX2_isLoose wsX2_commonDenominator := goodIn_ca (goodIn_ca (goodIn_r _ [5, 6, 7, 8, 9, 10, 11, 12, 13, 14, 15, 16, 17, 18, 19, 20, 21, 22, 23, 24, 25, 26, 27, 28, 29, 30, 31, 32, 33, 34, 35, 36, 37, 38, 39, 40, 41, 42, 43, 44, 45, 46, 47, 48, 49, 50, 51, 52, 53, 54, 55, 56, 57, 58, 59, 60, 61, 62, 63, 64, 65, 66, 67, 68, 69, 70, 71, 72, 73, 74, 75, 76] (by decide +kernel) (by decide +kernel)) (goodIn_sub (fun _ h => List.mem_cons_of_mem _ (List.mem_append_left _ (List.mem_append_right _ h))) (by decide +kernel))) (goodIn_sub (fun _ h => List.mem_cons_of_mem _ (List.mem_append_right _ h)) (by decide +kernel))
set_option maxRecDepth 20000 in
theorem gX2_isLoose_X2_commonDenominator : GoodIn wsX2_isLoose (wsV RX2 82 RX2 yX2_commonDenominator wsX2_commonDenominator) := goodIn_app (goodIn_of _ (by decide +kernel)) ggX2_isLoose_X2_commonDenominator
theorem dX2_isLoose_0 : decode cX2_isLoose 0 = .ok (.aload_n 0, 1) := by decide +kernel
theorem dX2_isLoose_1 : decode cX2_isLoose 1 = .ok (.invokevirtual 82, 3) := by decide +kernel
theorem dX2_isLoose_4 : decode cX2_isLoose 4 = .ok (.lconst 0, 1) := by decide +kernel
theorem dX2_isLoose_5 : decode cX2_isLoose 5 = .ok (.lcmp, 1) := by decide +kernel
theorem dX2_isLoose_6 : decode cX2_isLoose 6 = .ok (.ifCond .ne 7, 3) := by decide +kernel
theorem dX2_isLoose_9 : decode cX2_isLoose 9 = .ok (.iconst 1, 1) := by decide +kernel
theorem dX2_isLoose_10 : decode cX2_isLoose 10 = .ok (.goto 4, 3) := by decide +kernel
theorem dX2_isLoose_13 : decode cX2_isLoose 13 = .ok (.iconst 0, 1) := by decide +kernel
theorem dX2_isLoose_14 : decode cX2_isLoose 14 = .ok (.ireturn, 1) := by decide +kernel
set_option maxRecDepth 20000 in
theorem ggX2_head_X2_requireCell : GoodIn wsX2_head wsX2_requireCell := goodIn_ca (goodIn_r _ [6, 7, 8] (by decide +kernel) (by decide +kernel)) (goodIn_sub (fun _ h => List.mem_cons_of_mem _ (List.mem_append_left _ (List.mem_append_left _ (List.mem_append_left _ (List.mem_append_right _ h))))) (by decide +kernel))
set_option maxRecDepth 20000 in
theorem gX2_head_X2_requireCell : GoodIn wsX2_head (va_wsS RX2 67 yX2_requireCell wsX2_requireCell) := goodIn_app (goodIn_of _ (by decide +kernel)) ggX2_head_X2_requireCell
set_option maxRecDepth 20000 in
theorem ggX2_head_X2_requirePart : GoodIn wsX2_head wsX2_requirePart := goodIn_ca (goodIn_r _ [11, 12, 13] (by decide +kernel) (by decide +kernel)) (goodIn_sub (fun _ h => List.mem_cons_of_mem _ (List.mem_append_left _ (List.mem_append_left _ (List.mem_append_right _ h)))) (by decide +kernel))
set_option maxRecDepth 20000 in
theorem gX2_head_X2_requirePart : GoodIn wsX2_head (va_wsS RX2 86 yX2_requirePart wsX2_requirePart) := goodIn_app (goodIn_of _ (by decide +kernel)) ggX2_head_X2_requirePart
set_option maxRecDepth 20000 in
theorem ggX2_head_X2_requireExactHeads : GoodIn wsX2_head wsX2_requireExactHeads := goodIn_ca (goodIn_ca (goodIn_ca (goodIn_r _ [17, 18, 19, 20, 21, 22, 5, 23, 24, 1, 25, 26, 27, 28, 29, 30, 31, 32, 33, 34, 35, 36, 37, 38, 39, 40, 41, 42, 43, 44, 45, 46, 47, 48, 49, 50, 51, 52, 53, 54, 55, 56, 57, 58, 59, 60, 61, 62, 63, 64, 65, 66, 67, 68, 69, 70, 71, 72, 73, 74, 75, 90, 91, 92, 93, 94, 95, 96, 97, 98, 99, 100, 101, 102, 103, 104, 105, 106, 107] (by decide +kernel) (by decide +kernel)) (goodIn_sub (fun _ h => List.mem_cons_of_mem _ (List.mem_append_left _ (List.mem_append_right _ h))) (by decide +kernel))) (goodIn_sub (fun _ h => List.mem_cons_of_mem _ (List.mem_append_left _ (List.mem_append_left _ (List.mem_append_left _ (List.mem_append_left _ (List.mem_append_right _ h)))))) (by decide +kernel))) (goodIn_sub (fun _ h => List.mem_cons_of_mem _ (List.mem_append_right _ h)) (by decide +kernel))
set_option maxRecDepth 20000 in
theorem gX2_head_X2_requireExactHeads : GoodIn wsX2_head (wsV RX2 89 RX2 yX2_requireExactHeads wsX2_requireExactHeads) := goodIn_app (goodIn_of _ (by decide +kernel)) ggX2_head_X2_requireExactHeads
set_option maxRecDepth 20000 in
theorem ggX2_head_X2_partOf : GoodIn wsX2_head wsX2_partOf := goodIn_ca (goodIn_r _ [79, 1, 26, 80, 81, 5, 82, 83, 84, 85, 86, 87, 88, 89, 90, 91, 92, 93, 94, 95, 96, 97, 98, 99, 100] (by decide +kernel) (by decide +kernel)) (goodIn_sub (fun _ h => List.mem_cons_of_mem _ (List.mem_append_right _ h)) (by decide +kernel))
set_option maxRecDepth 20000 in
theorem gX2_head_X2_partOf : GoodIn wsX2_head (wsV RX2 95 RX2 yX2_partOf wsX2_partOf) := goodIn_app (goodIn_of _ (by decide +kernel)) ggX2_head_X2_partOf
theorem dX2_head_0 : decode cX2_head 0 = .ok (.iload_n 1, 1) := by decide +kernel
theorem dX2_head_1 : decode cX2_head 1 = .ok (.invokestatic 67, 3) := by decide +kernel
theorem dX2_head_4 : decode cX2_head 4 = .ok (.iload_n 2, 1) := by decide +kernel
theorem dX2_head_5 : decode cX2_head 5 = .ok (.invokestatic 86, 3) := by decide +kernel
theorem dX2_head_8 : decode cX2_head 8 = .ok (.aload_n 0, 1) := by decide +kernel
theorem dX2_head_9 : decode cX2_head 9 = .ok (.invokevirtual 89, 3) := by decide +kernel
theorem dX2_head_12 : decode cX2_head 12 = .ok (.aload_n 0, 1) := by decide +kernel
theorem dX2_head_13 : decode cX2_head 13 = .ok (.aload_n 0, 1) := by decide +kernel
theorem dX2_head_14 : decode cX2_head 14 = .ok (.getfield 27, 3) := by decide +kernel
theorem dX2_head_17 : decode cX2_head 17 = .ok (.getfield 92, 3) := by decide +kernel
theorem dX2_head_20 : decode cX2_head 20 = .ok (.iload_n 1, 1) := by decide +kernel
theorem dX2_head_21 : decode cX2_head 21 = .ok (.laload, 1) := by decide +kernel
theorem dX2_head_22 : decode cX2_head 22 = .ok (.iload_n 2, 1) := by decide +kernel
theorem dX2_head_23 : decode cX2_head 23 = .ok (.invokevirtual 95, 3) := by decide +kernel
theorem dX2_head_26 : decode cX2_head 26 = .ok (.lreturn, 1) := by decide +kernel
set_option maxRecDepth 20000 in
theorem ggX2_flow_X2_requireLink : GoodIn wsX2_flow wsX2_requireLink := goodIn_ca (goodIn_r _ [4, 5, 6] (by decide +kernel) (by decide +kernel)) (goodIn_sub (fun _ h => List.mem_cons_of_mem _ (List.mem_append_left _ (List.mem_append_left _ (List.mem_append_left _ (List.mem_append_left _ (List.mem_append_right _ h)))))) (by decide +kernel))
set_option maxRecDepth 20000 in
theorem gX2_flow_X2_requireLink : GoodIn wsX2_flow (va_wsS RX2 42 yX2_requireLink wsX2_requireLink) := goodIn_app (goodIn_of _ (by decide +kernel)) ggX2_flow_X2_requireLink
set_option maxRecDepth 20000 in
theorem ggX2_flow_X2_requirePart : GoodIn wsX2_flow wsX2_requirePart := goodIn_ca (goodIn_r _ [9, 10, 11] (by decide +kernel) (by decide +kernel)) (goodIn_sub (fun _ h => List.mem_cons_of_mem _ (List.mem_append_left _ (List.mem_append_left _ (List.mem_append_left _ (List.mem_append_right _ h))))) (by decide +kernel))
set_option maxRecDepth 20000 in
theorem gX2_flow_X2_requirePart : GoodIn wsX2_flow (va_wsS RX2 86 yX2_requirePart wsX2_requirePart) := goodIn_app (goodIn_of _ (by decide +kernel)) ggX2_flow_X2_requirePart
set_option maxRecDepth 20000 in
theorem ggX2_flow_X2_requireExactHeads : GoodIn wsX2_flow wsX2_requireExactHeads := goodIn_ca (goodIn_ca (goodIn_ca (goodIn_r _ [15, 16, 17, 18, 19, 20, 3, 21, 22, 23, 24, 25, 26, 27, 28, 29, 30, 31, 32, 33, 34, 35, 36, 37, 38, 39, 40, 41, 42, 43, 44, 45, 46, 47, 48, 49, 50, 51, 52, 53, 54, 55, 56, 57, 58, 59, 60, 61, 62, 63, 64, 65, 66, 67, 68, 69, 70, 71, 72, 73, 74, 102, 103, 104, 105, 106, 107, 108, 109, 110, 111, 112, 113, 114, 115, 116, 117, 118, 119] (by decide +kernel) (by decide +kernel)) (goodIn_sub (fun _ h => List.mem_cons_of_mem _ (List.mem_append_left _ (List.mem_append_left _ (List.mem_append_right _ h)))) (by decide +kernel))) (goodIn_sub (fun _ h => List.mem_cons_of_mem _ (List.mem_append_left _ (List.mem_append_right _ h))) (by decide +kernel))) (goodIn_sub (fun _ h => List.mem_cons_of_mem _ (List.mem_append_right _ h)) (by decide +kernel))
set_option maxRecDepth 20000 in
theorem gX2_flow_X2_requireExactHeads : GoodIn wsX2_flow (wsV RX2 89 RX2 yX2_requireExactHeads wsX2_requireExactHeads) := goodIn_app (goodIn_of _ (by decide +kernel)) ggX2_flow_X2_requireExactHeads
set_option maxRecDepth 20000 in
theorem ggX2_flow_X2_scaledFlow : GoodIn wsX2_flow wsX2_scaledFlow := goodIn_ca (goodIn_r _ [78, 79, 80, 24, 81, 82, 83, 84, 3, 85, 23, 86, 25, 87, 102, 103, 104, 105, 106, 107, 108, 113, 114, 115, 116, 117, 118, 119, 109, 110, 111, 112] (by decide +kernel) (by decide +kernel)) (goodIn_sub (fun _ h => List.mem_cons_of_mem _ (List.mem_append_left _ (List.mem_append_right _ h))) (by decide +kernel))
set_option maxRecDepth 20000 in
theorem gX2_flow_X2_scaledFlow : GoodIn wsX2_flow (wsV RX2 99 RX2 yX2_scaledFlow wsX2_scaledFlow) := goodIn_app (goodIn_of _ (by decide +kernel)) ggX2_flow_X2_scaledFlow
set_option maxRecDepth 20000 in
theorem ggX2_flow_X2_partOf : GoodIn wsX2_flow wsX2_partOf := goodIn_ca (goodIn_r _ [91, 23, 25, 92, 93, 3, 94, 95, 96, 97, 98, 99, 100, 101, 102, 103, 104, 105, 106, 107, 108, 109, 110, 111, 112] (by decide +kernel) (by decide +kernel)) (goodIn_sub (fun _ h => List.mem_cons_of_mem _ (List.mem_append_right _ h)) (by decide +kernel))
set_option maxRecDepth 20000 in
theorem gX2_flow_X2_partOf : GoodIn wsX2_flow (wsV RX2 95 RX2 yX2_partOf wsX2_partOf) := goodIn_app (goodIn_of _ (by decide +kernel)) ggX2_flow_X2_partOf
theorem dX2_flow_0 : decode cX2_flow 0 = .ok (.iload_n 1, 1) := by decide +kernel
theorem dX2_flow_1 : decode cX2_flow 1 = .ok (.invokestatic 42, 3) := by decide +kernel
theorem dX2_flow_4 : decode cX2_flow 4 = .ok (.iload_n 2, 1) := by decide +kernel
theorem dX2_flow_5 : decode cX2_flow 5 = .ok (.invokestatic 86, 3) := by decide +kernel
theorem dX2_flow_8 : decode cX2_flow 8 = .ok (.aload_n 0, 1) := by decide +kernel
theorem dX2_flow_9 : decode cX2_flow 9 = .ok (.invokevirtual 89, 3) := by decide +kernel
theorem dX2_flow_12 : decode cX2_flow 12 = .ok (.aload_n 0, 1) := by decide +kernel
theorem dX2_flow_13 : decode cX2_flow 13 = .ok (.aload_n 0, 1) := by decide +kernel
theorem dX2_flow_14 : decode cX2_flow 14 = .ok (.iload_n 1, 1) := by decide +kernel
theorem dX2_flow_15 : decode cX2_flow 15 = .ok (.invokevirtual 99, 3) := by decide +kernel
theorem dX2_flow_18 : decode cX2_flow 18 = .ok (.iload_n 2, 1) := by decide +kernel
theorem dX2_flow_19 : decode cX2_flow 19 = .ok (.invokevirtual 95, 3) := by decide +kernel
theorem dX2_flow_22 : decode cX2_flow 22 = .ok (.lreturn, 1) := by decide +kernel
set_option maxRecDepth 20000 in
theorem ggX2_inflow_X2_requireSide : GoodIn wsX2_inflow wsX2_requireSide := goodIn_ca (goodIn_r _ [4, 5, 6] (by decide +kernel) (by decide +kernel)) (goodIn_sub (fun _ h => List.mem_cons_of_mem _ (List.mem_append_left _ (List.mem_append_left _ (List.mem_append_left _ (List.mem_append_left _ (List.mem_append_right _ h)))))) (by decide +kernel))
set_option maxRecDepth 20000 in
theorem gX2_inflow_X2_requireSide : GoodIn wsX2_inflow (va_wsS RX2 103 yX2_requireSide wsX2_requireSide) := goodIn_app (goodIn_of _ (by decide +kernel)) ggX2_inflow_X2_requireSide
set_option maxRecDepth 20000 in
theorem ggX2_inflow_X2_requirePart : GoodIn wsX2_inflow wsX2_requirePart := goodIn_ca (goodIn_r _ [9, 10, 11] (by decide +kernel) (by decide +kernel)) (goodIn_sub (fun _ h => List.mem_cons_of_mem _ (List.mem_append_left _ (List.mem_append_left _ (List.mem_append_left _ (List.mem_append_right _ h))))) (by decide +kernel))
set_option maxRecDepth 20000 in
theorem gX2_inflow_X2_requirePart : GoodIn wsX2_inflow (va_wsS RX2 86 yX2_requirePart wsX2_requirePart) := goodIn_app (goodIn_of _ (by decide +kernel)) ggX2_inflow_X2_requirePart
set_option maxRecDepth 20000 in
theorem ggX2_inflow_X2_requireExactHeads : GoodIn wsX2_inflow wsX2_requireExactHeads := goodIn_ca (goodIn_ca (goodIn_ca (goodIn_r _ [15, 16, 17, 18, 19, 20, 3, 21, 22, 23, 24, 25, 26, 27, 28, 29, 30, 31, 32, 33, 34, 35, 36, 37, 38, 39, 40, 41, 42, 43, 44, 45, 46, 47, 48, 49, 50, 51, 52, 53, 54, 55, 56, 57, 58, 59, 60, 61, 62, 63, 64, 65, 66, 67, 68, 69, 70, 71, 72, 73, 74, 106, 107, 108, 109, 110, 111, 112, 113, 114, 115, 116, 117, 118, 119, 120, 121, 122, 123] (by decide +kernel) (by decide +kernel)) (goodIn_sub (fun _ h => List.mem_cons_of_mem _ (List.mem_append_left _ (List.mem_append_left _ (List.mem_append_right _ h)))) (by decide +kernel))) (goodIn_sub (fun _ h => List.mem_cons_of_mem _ (List.mem_append_left _ (List.mem_append_right _ h))) (by decide +kernel))) (goodIn_sub (fun _ h => List.mem_cons_of_mem _ (List.mem_append_right _ h)) (by decide +kernel))
set_option maxRecDepth 20000 in
theorem gX2_inflow_X2_requireExactHeads : GoodIn wsX2_inflow (wsV RX2 89 RX2 yX2_requireExactHeads wsX2_requireExactHeads) := goodIn_app (goodIn_of _ (by decide +kernel)) ggX2_inflow_X2_requireExactHeads
set_option maxRecDepth 20000 in
theorem ggX2_inflow_X2_scaledInflow : GoodIn wsX2_inflow wsX2_scaledInflow := goodIn_ca (goodIn_r _ [78, 79, 80, 81, 3, 82, 83, 84, 24, 85, 86, 87, 88, 89, 23, 90, 25, 91, 106, 107, 108, 109, 110, 111, 112, 117, 118, 119, 120, 121, 122, 123, 113, 114, 115, 116] (by decide +kernel) (by decide +kernel)) (goodIn_sub (fun _ h => List.mem_cons_of_mem _ (List.mem_append_left _ (List.mem_append_right _ h))) (by decide +kernel))
set_option maxRecDepth 20000 in
theorem gX2_inflow_X2_scaledInflow : GoodIn wsX2_inflow (wsV RX2 106 RX2 yX2_scaledInflow wsX2_scaledInflow) := goodIn_app (goodIn_of _ (by decide +kernel)) ggX2_inflow_X2_scaledInflow
set_option maxRecDepth 20000 in
theorem ggX2_inflow_X2_partOf : GoodIn wsX2_inflow wsX2_partOf := goodIn_ca (goodIn_r _ [95, 23, 25, 96, 97, 3, 98, 99, 100, 101, 102, 103, 104, 105, 106, 107, 108, 109, 110, 111, 112, 113, 114, 115, 116] (by decide +kernel) (by decide +kernel)) (goodIn_sub (fun _ h => List.mem_cons_of_mem _ (List.mem_append_right _ h)) (by decide +kernel))
set_option maxRecDepth 20000 in
theorem gX2_inflow_X2_partOf : GoodIn wsX2_inflow (wsV RX2 95 RX2 yX2_partOf wsX2_partOf) := goodIn_app (goodIn_of _ (by decide +kernel)) ggX2_inflow_X2_partOf
theorem dX2_inflow_0 : decode cX2_inflow 0 = .ok (.iload_n 1, 1) := by decide +kernel
theorem dX2_inflow_1 : decode cX2_inflow 1 = .ok (.invokestatic 103, 3) := by decide +kernel
theorem dX2_inflow_4 : decode cX2_inflow 4 = .ok (.iload_n 2, 1) := by decide +kernel
theorem dX2_inflow_5 : decode cX2_inflow 5 = .ok (.invokestatic 86, 3) := by decide +kernel
theorem dX2_inflow_8 : decode cX2_inflow 8 = .ok (.aload_n 0, 1) := by decide +kernel
theorem dX2_inflow_9 : decode cX2_inflow 9 = .ok (.invokevirtual 89, 3) := by decide +kernel
theorem dX2_inflow_12 : decode cX2_inflow 12 = .ok (.aload_n 0, 1) := by decide +kernel
theorem dX2_inflow_13 : decode cX2_inflow 13 = .ok (.aload_n 0, 1) := by decide +kernel
theorem dX2_inflow_14 : decode cX2_inflow 14 = .ok (.iload_n 1, 1) := by decide +kernel
theorem dX2_inflow_15 : decode cX2_inflow 15 = .ok (.invokevirtual 106, 3) := by decide +kernel
theorem dX2_inflow_18 : decode cX2_inflow 18 = .ok (.iload_n 2, 1) := by decide +kernel
theorem dX2_inflow_19 : decode cX2_inflow 19 = .ok (.invokevirtual 95, 3) := by decide +kernel
theorem dX2_inflow_22 : decode cX2_inflow 22 = .ok (.lreturn, 1) := by decide +kernel
set_option maxRecDepth 20000 in
theorem ggX2_influence_X2_requireCell : GoodIn wsX2_influence wsX2_requireCell := goodIn_ca (goodIn_r _ [5, 6, 7] (by decide +kernel) (by decide +kernel)) (goodIn_sub (fun _ h => List.mem_cons_of_mem _ (List.mem_append_left _ (List.mem_append_left _ (List.mem_append_left _ (List.mem_append_left _ (List.mem_append_right _ h)))))) (by decide +kernel))
set_option maxRecDepth 20000 in
theorem gX2_influence_X2_requireCell : GoodIn wsX2_influence (va_wsS RX2 67 yX2_requireCell wsX2_requireCell) := goodIn_app (goodIn_of _ (by decide +kernel)) ggX2_influence_X2_requireCell
set_option maxRecDepth 20000 in
theorem ggX2_influence_X2_requirePart : GoodIn wsX2_influence wsX2_requirePart := goodIn_ca (goodIn_r _ [10, 11, 12] (by decide +kernel) (by decide +kernel)) (goodIn_sub (fun _ h => List.mem_cons_of_mem _ (List.mem_append_left _ (List.mem_append_left _ (List.mem_append_left _ (List.mem_append_right _ h))))) (by decide +kernel))
set_option maxRecDepth 20000 in
theorem gX2_influence_X2_requirePart : GoodIn wsX2_influence (va_wsS RX2 86 yX2_requirePart wsX2_requirePart) := goodIn_app (goodIn_of _ (by decide +kernel)) ggX2_influence_X2_requirePart
set_option maxRecDepth 20000 in
theorem ggX2_influence_X2_requireExactHeads : GoodIn wsX2_influence wsX2_requireExactHeads := goodIn_ca (goodIn_ca (goodIn_ca (goodIn_r _ [16, 17, 18, 19, 20, 21, 4, 22, 23, 1, 24, 25, 26, 27, 28, 29, 30, 31, 32, 33, 34, 35, 36, 37, 38, 39, 40, 41, 42, 43, 44, 45, 46, 47, 48, 49, 50, 51, 52, 53, 54, 55, 56, 57, 58, 59, 60, 61, 62, 63, 64, 65, 66, 67, 68, 69, 70, 71, 72, 73, 74, 90, 91, 92, 93, 94, 95, 96, 97, 98, 99, 100, 101, 102, 103, 104, 105, 106, 107] (by decide +kernel) (by decide +kernel)) (goodIn_sub (fun _ h => List.mem_cons_of_mem _ (List.mem_append_left _ (List.mem_append_left _ (List.mem_append_right _ h)))) (by decide +kernel))) (goodIn_sub (fun _ h => List.mem_cons_of_mem _ (List.mem_append_left _ (List.mem_append_right _ h))) (by decide +kernel))) (goodIn_sub (fun _ h => List.mem_cons_of_mem _ (List.mem_append_right _ h)) (by decide +kernel))
set_option maxRecDepth 20000 in
theorem gX2_influence_X2_requireExactHeads : GoodIn wsX2_influence (wsV RX2 89 RX2 yX2_requireExactHeads wsX2_requireExactHeads) := goodIn_app (goodIn_of _ (by decide +kernel)) ggX2_influence_X2_requireExactHeads
set_option maxRecDepth 20000 in
theorem ggX2_influence_X0_scaledInfluence : GoodIn wsX2_influence wsX0_scaledInfluence := goodIn_ca (goodIn_r _ [74, 36, 97, 98, 99, 100] (by decide +kernel) (by decide +kernel)) (goodIn_sub (fun _ h => List.mem_cons_of_mem _ (List.mem_append_left _ (List.mem_append_right _ h))) (by decide +kernel))
set_option maxRecDepth 20000 in
theorem gX2_influence_X0_scaledInfluence : GoodIn wsX2_influence (wsV RX2 109 RX0 yX0_scaledInfluence wsX0_scaledInfluence) := goodIn_app (goodIn_of _ (by decide +kernel)) ggX2_influence_X0_scaledInfluence
set_option maxRecDepth 20000 in
theorem ggX2_influence_X2_partOf : GoodIn wsX2_influence wsX2_partOf := goodIn_ca (goodIn_r _ [79, 1, 25, 80, 81, 4, 82, 83, 84, 85, 86, 87, 88, 89, 90, 91, 92, 93, 94, 95, 96, 97, 98, 99, 100] (by decide +kernel) (by decide +kernel)) (goodIn_sub (fun _ h => List.mem_cons_of_mem _ (List.mem_append_right _ h)) (by decide +kernel))
set_option maxRecDepth 20000 in
theorem gX2_influence_X2_partOf : GoodIn wsX2_influence (wsV RX2 95 RX2 yX2_partOf wsX2_partOf) := goodIn_app (goodIn_of _ (by decide +kernel)) ggX2_influence_X2_partOf
theorem dX2_influence_0 : decode cX2_influence 0 = .ok (.iload_n 1, 1) := by decide +kernel
theorem dX2_influence_1 : decode cX2_influence 1 = .ok (.invokestatic 67, 3) := by decide +kernel
theorem dX2_influence_4 : decode cX2_influence 4 = .ok (.iload_n 2, 1) := by decide +kernel
theorem dX2_influence_5 : decode cX2_influence 5 = .ok (.invokestatic 67, 3) := by decide +kernel
theorem dX2_influence_8 : decode cX2_influence 8 = .ok (.iload_n 3, 1) := by decide +kernel
theorem dX2_influence_9 : decode cX2_influence 9 = .ok (.invokestatic 86, 3) := by decide +kernel
theorem dX2_influence_12 : decode cX2_influence 12 = .ok (.aload_n 0, 1) := by decide +kernel
theorem dX2_influence_13 : decode cX2_influence 13 = .ok (.invokevirtual 89, 3) := by decide +kernel
theorem dX2_influence_16 : decode cX2_influence 16 = .ok (.aload_n 0, 1) := by decide +kernel
theorem dX2_influence_17 : decode cX2_influence 17 = .ok (.aload_n 0, 1) := by decide +kernel
theorem dX2_influence_18 : decode cX2_influence 18 = .ok (.getfield 27, 3) := by decide +kernel
theorem dX2_influence_21 : decode cX2_influence 21 = .ok (.iload_n 1, 1) := by decide +kernel
theorem dX2_influence_22 : decode cX2_influence 22 = .ok (.iload_n 2, 1) := by decide +kernel
theorem dX2_influence_23 : decode cX2_influence 23 = .ok (.invokevirtual 109, 3) := by decide +kernel
theorem dX2_influence_26 : decode cX2_influence 26 = .ok (.iload_n 3, 1) := by decide +kernel
theorem dX2_influence_27 : decode cX2_influence 27 = .ok (.invokevirtual 95, 3) := by decide +kernel
theorem dX2_influence_30 : decode cX2_influence 30 = .ok (.lreturn, 1) := by decide +kernel
set_option maxRecDepth 20000 in
theorem ggX2_drawdown_X2_requireCell : GoodIn wsX2_drawdown wsX2_requireCell := goodIn_ca (goodIn_r _ [7, 8, 9] (by decide +kernel) (by decide +kernel)) (goodIn_sub (fun _ h => List.mem_cons_of_mem _ (List.mem_append_left _ (List.mem_append_left _ (List.mem_append_left _ (List.mem_append_right _ h))))) (by decide +kernel))
set_option maxRecDepth 20000 in
theorem gX2_drawdown_X2_requireCell : GoodIn wsX2_drawdown (va_wsS RX2 67 yX2_requireCell wsX2_requireCell) := goodIn_app (goodIn_of _ (by decide +kernel)) ggX2_drawdown_X2_requireCell
set_option maxRecDepth 20000 in
theorem ggX2_drawdown_X2_requirePart : GoodIn wsX2_drawdown wsX2_requirePart := goodIn_ca (goodIn_r _ [12, 13, 14] (by decide +kernel) (by decide +kernel)) (goodIn_sub (fun _ h => List.mem_cons_of_mem _ (List.mem_append_left _ (List.mem_append_left _ (List.mem_append_right _ h)))) (by decide +kernel))
set_option maxRecDepth 20000 in
theorem gX2_drawdown_X2_requirePart : GoodIn wsX2_drawdown (va_wsS RX2 86 yX2_requirePart wsX2_requirePart) := goodIn_app (goodIn_of _ (by decide +kernel)) ggX2_drawdown_X2_requirePart
set_option maxRecDepth 20000 in
theorem ggX2_drawdown_X2_requireExactHeads : GoodIn wsX2_drawdown wsX2_requireExactHeads := goodIn_ca (goodIn_ca (goodIn_ca (goodIn_r _ [18, 19, 20, 21, 22, 23, 6, 24, 25, 1, 2, 26, 27, 28, 29, 30, 31, 32, 33, 34, 35, 36, 37, 38, 39, 40, 41, 42, 43, 44, 45, 46, 47, 48, 49, 50, 51, 52, 53, 54, 55, 56, 57, 58, 59, 60, 61, 62, 63, 64, 65, 66, 67, 68, 69, 70, 71, 72, 73, 74, 75, 91, 92, 93, 94, 95, 96, 97, 105, 106, 107, 108, 98, 99, 100, 101, 102, 103, 104] (by decide +kernel) (by decide +kernel)) (goodIn_sub (fun _ h => List.mem_cons_of_mem _ (List.mem_append_left _ (List.mem_append_right _ h))) (by decide +kernel))) (goodIn_sub (fun _ h => List.mem_cons_of_mem _ (List.mem_append_left _ (List.mem_append_left _ (List.mem_append_left _ (List.mem_append_left _ (List.mem_append_right _ h)))))) (by decide +kernel))) (goodIn_sub (fun _ h => List.mem_cons_of_mem _ (List.mem_append_right _ h)) (by decide +kernel))
set_option maxRecDepth 20000 in
theorem gX2_drawdown_X2_requireExactHeads : GoodIn wsX2_drawdown (wsV RX2 89 RX2 yX2_requireExactHeads wsX2_requireExactHeads) := goodIn_app (goodIn_of _ (by decide +kernel)) ggX2_drawdown_X2_requireExactHeads
set_option maxRecDepth 20000 in
theorem ggX2_drawdown_X0_scaledInfluence : GoodIn wsX2_drawdown wsX0_scaledInfluence := goodIn_ca (goodIn_r _ [75, 37, 105, 106, 107, 108] (by decide +kernel) (by decide +kernel)) (goodIn_sub (fun _ h => List.mem_cons_of_mem _ (List.mem_append_left _ (List.mem_append_left _ (List.mem_append_left _ (List.mem_append_left _ (List.mem_append_right _ h)))))) (by decide +kernel))
set_option maxRecDepth 20000 in
theorem gX2_drawdown_X0_scaledInfluence : GoodIn wsX2_drawdown (wsV RX2 109 RX0 yX0_scaledInfluence wsX0_scaledInfluence) := goodIn_app (goodIn_of _ (by decide +kernel)) ggX2_drawdown_X0_scaledInfluence
set_option maxRecDepth 20000 in
theorem ggX2_drawdown_X2_partOf : GoodIn wsX2_drawdown wsX2_partOf := goodIn_ca (goodIn_r _ [80, 1, 26, 81, 82, 6, 83, 84, 85, 86, 87, 88, 89, 90, 91, 92, 93, 94, 95, 96, 97, 105, 106, 107, 108] (by decide +kernel) (by decide +kernel)) (goodIn_sub (fun _ h => List.mem_cons_of_mem _ (List.mem_append_right _ h)) (by decide +kernel))
set_option maxRecDepth 20000 in
theorem gX2_drawdown_X2_partOf : GoodIn wsX2_drawdown (wsV RX2 95 RX2 yX2_partOf wsX2_partOf) := goodIn_app (goodIn_of _ (by decide +kernel)) ggX2_drawdown_X2_partOf
theorem dX2_drawdown_0 : decode cX2_drawdown 0 = .ok (.iload_n 1, 1) := by decide +kernel
theorem dX2_drawdown_1 : decode cX2_drawdown 1 = .ok (.invokestatic 67, 3) := by decide +kernel
theorem dX2_drawdown_4 : decode cX2_drawdown 4 = .ok (.iload_n 2, 1) := by decide +kernel
theorem dX2_drawdown_5 : decode cX2_drawdown 5 = .ok (.invokestatic 86, 3) := by decide +kernel
theorem dX2_drawdown_8 : decode cX2_drawdown 8 = .ok (.aload_n 0, 1) := by decide +kernel
theorem dX2_drawdown_9 : decode cX2_drawdown 9 = .ok (.invokevirtual 89, 3) := by decide +kernel
theorem dX2_drawdown_12 : decode cX2_drawdown 12 = .ok (.lconst 0, 1) := by decide +kernel
theorem dX2_drawdown_13 : decode cX2_drawdown 13 = .ok (.lstore_n 3, 1) := by decide +kernel
theorem dX2_drawdown_14 : decode cX2_drawdown 14 = .ok (.iconst 0, 1) := by decide +kernel
theorem dX2_drawdown_15 : decode cX2_drawdown 15 = .ok (.istore 5, 2) := by decide +kernel
theorem dX2_drawdown_17 : decode cX2_drawdown 17 = .ok (.iload 5, 2) := by decide +kernel
theorem dX2_drawdown_19 : decode cX2_drawdown 19 = .ok (.bipush 9, 2) := by decide +kernel
theorem dX2_drawdown_21 : decode cX2_drawdown 21 = .ok (.if_icmp .ge 34, 3) := by decide +kernel
theorem dX2_drawdown_24 : decode cX2_drawdown 24 = .ok (.lload_n 3, 1) := by decide +kernel
theorem dX2_drawdown_25 : decode cX2_drawdown 25 = .ok (.aload_n 0, 1) := by decide +kernel
theorem dX2_drawdown_26 : decode cX2_drawdown 26 = .ok (.getfield 27, 3) := by decide +kernel
theorem dX2_drawdown_29 : decode cX2_drawdown 29 = .ok (.iload_n 1, 1) := by decide +kernel
theorem dX2_drawdown_30 : decode cX2_drawdown 30 = .ok (.iload 5, 2) := by decide +kernel
theorem dX2_drawdown_32 : decode cX2_drawdown 32 = .ok (.invokevirtual 109, 3) := by decide +kernel
theorem dX2_drawdown_35 : decode cX2_drawdown 35 = .ok (.aload_n 0, 1) := by decide +kernel
theorem dX2_drawdown_36 : decode cX2_drawdown 36 = .ok (.getfield 10, 3) := by decide +kernel
theorem dX2_drawdown_39 : decode cX2_drawdown 39 = .ok (.getfield 73, 3) := by decide +kernel
theorem dX2_drawdown_42 : decode cX2_drawdown 42 = .ok (.iload 5, 2) := by decide +kernel
theorem dX2_drawdown_44 : decode cX2_drawdown 44 = .ok (.iaload, 1) := by decide +kernel
theorem dX2_drawdown_45 : decode cX2_drawdown 45 = .ok (.i2l, 1) := by decide +kernel
theorem dX2_drawdown_46 : decode cX2_drawdown 46 = .ok (.lmul, 1) := by decide +kernel
theorem dX2_drawdown_47 : decode cX2_drawdown 47 = .ok (.ladd, 1) := by decide +kernel
theorem dX2_drawdown_48 : decode cX2_drawdown 48 = .ok (.lstore_n 3, 1) := by decide +kernel
theorem dX2_drawdown_49 : decode cX2_drawdown 49 = .ok (.iinc 5 1, 3) := by decide +kernel
theorem dX2_drawdown_52 : decode cX2_drawdown 52 = .ok (.goto (-35), 3) := by decide +kernel
theorem dX2_drawdown_55 : decode cX2_drawdown 55 = .ok (.aload_n 0, 1) := by decide +kernel
theorem dX2_drawdown_56 : decode cX2_drawdown 56 = .ok (.lload_n 3, 1) := by decide +kernel
theorem dX2_drawdown_57 : decode cX2_drawdown 57 = .ok (.iload_n 2, 1) := by decide +kernel
theorem dX2_drawdown_58 : decode cX2_drawdown 58 = .ok (.invokevirtual 95, 3) := by decide +kernel
theorem dX2_drawdown_61 : decode cX2_drawdown 61 = .ok (.lreturn, 1) := by decide +kernel
set_option maxRecDepth 20000 in
theorem ggX2_determinant_X2_commonDenominator : GoodIn wsX2_determinant wsX2_commonDenominator := goodIn_ca (goodIn_ca (goodIn_r _ [5, 6, 7, 8, 9, 10, 11, 12, 13, 14, 15, 16, 17, 18, 19, 20, 21, 22, 23, 24, 25, 26, 27, 28, 29, 30, 31, 32, 33, 34, 35, 36, 37, 38, 39, 40, 41, 42, 43, 44, 45, 46, 47, 48, 49, 50, 51, 52, 53, 54, 55, 56, 57, 58, 59, 60, 61, 62, 63, 64, 65, 66, 67, 68, 69, 70, 71, 72, 73, 74, 75, 76] (by decide +kernel) (by decide +kernel)) (goodIn_sub (fun _ h => List.mem_cons_of_mem _ (List.mem_append_left _ (List.mem_append_right _ h))) (by decide +kernel))) (goodIn_sub (fun _ h => List.mem_cons_of_mem _ (List.mem_append_right _ h)) (by decide +kernel))
set_option maxRecDepth 20000 in
theorem gX2_determinant_X2_commonDenominator : GoodIn wsX2_determinant (wsV RX2 82 RX2 yX2_commonDenominator wsX2_commonDenominator) := goodIn_app (goodIn_of _ (by decide +kernel)) ggX2_determinant_X2_commonDenominator
theorem dX2_determinant_0 : decode cX2_determinant 0 = .ok (.aload_n 0, 1) := by decide +kernel
theorem dX2_determinant_1 : decode cX2_determinant 1 = .ok (.invokevirtual 82, 3) := by decide +kernel
theorem dX2_determinant_4 : decode cX2_determinant 4 = .ok (.lreturn, 1) := by decide +kernel
set_option maxRecDepth 20000 in
theorem ggX2_extreme_X2_requireExactHeads : GoodIn wsX2_extreme wsX2_requireExactHeads := goodIn_ca (goodIn_ca (goodIn_ca (goodIn_r _ [7, 8, 9, 10, 11, 12, 6, 13, 14, 1, 15, 16, 17, 18, 19, 20, 21, 22, 23, 24, 25, 26, 27, 28, 29, 30, 31, 32, 33, 34, 35, 36, 37, 38, 39, 40, 41, 42, 43, 44, 45, 46, 47, 48, 49, 50, 51, 52, 53, 54, 55, 56, 57, 58, 59, 60, 61, 62, 63, 64, 65, 66, 67, 68, 69, 70, 71, 72, 73, 74, 75, 76, 77, 78, 79, 80, 81, 82, 83] (by decide +kernel) (by decide +kernel)) (goodIn_sub (fun _ h => List.mem_cons_of_mem _ (List.mem_append_left _ (List.mem_append_right _ h))) (by decide +kernel))) (goodIn_sub (fun _ h => List.mem_cons_of_mem _ (List.mem_append_left _ (List.mem_append_left _ (List.mem_append_right _ h)))) (by decide +kernel))) (goodIn_sub (fun _ h => List.mem_cons_of_mem _ (List.mem_append_right _ h)) (by decide +kernel))
set_option maxRecDepth 20000 in
theorem gX2_extreme_X2_requireExactHeads : GoodIn wsX2_extreme (wsV RX2 89 RX2 yX2_requireExactHeads wsX2_requireExactHeads) := goodIn_app (goodIn_of _ (by decide +kernel)) ggX2_extreme_X2_requireExactHeads
theorem dX2_extreme_0 : decode cX2_extreme 0 = .ok (.aload_n 0, 1) := by decide +kernel
theorem dX2_extreme_1 : decode cX2_extreme 1 = .ok (.invokevirtual 89, 3) := by decide +kernel
theorem dX2_extreme_4 : decode cX2_extreme 4 = .ok (.aload_n 0, 1) := by decide +kernel
theorem dX2_extreme_5 : decode cX2_extreme 5 = .ok (.getfield 27, 3) := by decide +kernel
theorem dX2_extreme_8 : decode cX2_extreme 8 = .ok (.getfield 92, 3) := by decide +kernel
theorem dX2_extreme_11 : decode cX2_extreme 11 = .ok (.astore_n 2, 1) := by decide +kernel
theorem dX2_extreme_12 : decode cX2_extreme 12 = .ok (.iconst 0, 1) := by decide +kernel
theorem dX2_extreme_13 : decode cX2_extreme 13 = .ok (.istore_n 3, 1) := by decide +kernel
theorem dX2_extreme_14 : decode cX2_extreme 14 = .ok (.iconst 1, 1) := by decide +kernel
theorem dX2_extreme_15 : decode cX2_extreme 15 = .ok (.istore 4, 2) := by decide +kernel
theorem dX2_extreme_17 : decode cX2_extreme 17 = .ok (.iload 4, 2) := by decide +kernel
theorem dX2_extreme_19 : decode cX2_extreme 19 = .ok (.bipush 9, 2) := by decide +kernel
theorem dX2_extreme_21 : decode cX2_extreme 21 = .ok (.if_icmp .ge 58, 3) := by decide +kernel
theorem dX2_extreme_24 : decode cX2_extreme 24 = .ok (.iload_n 1, 1) := by decide +kernel
theorem dX2_extreme_25 : decode cX2_extreme 25 = .ok (.ifCond .eq 22, 3) := by decide +kernel
theorem dX2_extreme_28 : decode cX2_extreme 28 = .ok (.aload_n 2, 1) := by decide +kernel
theorem dX2_extreme_29 : decode cX2_extreme 29 = .ok (.iload 4, 2) := by decide +kernel
theorem dX2_extreme_31 : decode cX2_extreme 31 = .ok (.laload, 1) := by decide +kernel
theorem dX2_extreme_32 : decode cX2_extreme 32 = .ok (.aload_n 2, 1) := by decide +kernel
theorem dX2_extreme_33 : decode cX2_extreme 33 = .ok (.iload_n 3, 1) := by decide +kernel
theorem dX2_extreme_34 : decode cX2_extreme 34 = .ok (.laload, 1) := by decide +kernel
theorem dX2_extreme_35 : decode cX2_extreme 35 = .ok (.lcmp, 1) := by decide +kernel
theorem dX2_extreme_36 : decode cX2_extreme 36 = .ok (.ifCond .le 7, 3) := by decide +kernel
theorem dX2_extreme_39 : decode cX2_extreme 39 = .ok (.iconst 1, 1) := by decide +kernel
theorem dX2_extreme_40 : decode cX2_extreme 40 = .ok (.goto 23, 3) := by decide +kernel
theorem dX2_extreme_43 : decode cX2_extreme 43 = .ok (.iconst 0, 1) := by decide +kernel
theorem dX2_extreme_44 : decode cX2_extreme 44 = .ok (.goto 19, 3) := by decide +kernel
theorem dX2_extreme_47 : decode cX2_extreme 47 = .ok (.aload_n 2, 1) := by decide +kernel
theorem dX2_extreme_48 : decode cX2_extreme 48 = .ok (.iload 4, 2) := by decide +kernel
theorem dX2_extreme_50 : decode cX2_extreme 50 = .ok (.laload, 1) := by decide +kernel
theorem dX2_extreme_51 : decode cX2_extreme 51 = .ok (.aload_n 2, 1) := by decide +kernel
theorem dX2_extreme_52 : decode cX2_extreme 52 = .ok (.iload_n 3, 1) := by decide +kernel
theorem dX2_extreme_53 : decode cX2_extreme 53 = .ok (.laload, 1) := by decide +kernel
theorem dX2_extreme_54 : decode cX2_extreme 54 = .ok (.lcmp, 1) := by decide +kernel
theorem dX2_extreme_55 : decode cX2_extreme 55 = .ok (.ifCond .ge 7, 3) := by decide +kernel
theorem dX2_extreme_58 : decode cX2_extreme 58 = .ok (.iconst 1, 1) := by decide +kernel
theorem dX2_extreme_59 : decode cX2_extreme 59 = .ok (.goto 4, 3) := by decide +kernel
theorem dX2_extreme_62 : decode cX2_extreme 62 = .ok (.iconst 0, 1) := by decide +kernel
theorem dX2_extreme_63 : decode cX2_extreme 63 = .ok (.istore 5, 2) := by decide +kernel
theorem dX2_extreme_65 : decode cX2_extreme 65 = .ok (.iload 5, 2) := by decide +kernel
theorem dX2_extreme_67 : decode cX2_extreme 67 = .ok (.ifCond .eq 6, 3) := by decide +kernel
theorem dX2_extreme_70 : decode cX2_extreme 70 = .ok (.iload 4, 2) := by decide +kernel
theorem dX2_extreme_72 : decode cX2_extreme 72 = .ok (.istore_n 3, 1) := by decide +kernel
theorem dX2_extreme_73 : decode cX2_extreme 73 = .ok (.iinc 4 1, 3) := by decide +kernel
theorem dX2_extreme_76 : decode cX2_extreme 76 = .ok (.goto (-59), 3) := by decide +kernel
theorem dX2_extreme_79 : decode cX2_extreme 79 = .ok (.iload_n 3, 1) := by decide +kernel
theorem dX2_extreme_80 : decode cX2_extreme 80 = .ok (.ireturn, 1) := by decide +kernel
set_option maxRecDepth 20000 in
theorem ggX2_dry_X2_requireExactHeads : GoodIn wsX2_dry wsX2_requireExactHeads := goodIn_ca (goodIn_ca (goodIn_ca (goodIn_r _ [7, 8, 9, 10, 11, 12, 6, 13, 14, 15, 1, 16, 17, 18, 19, 20, 21, 22, 23, 24, 25, 26, 27, 28, 29, 30, 31, 32, 33, 34, 35, 36, 37, 38, 39, 40, 41, 42, 43, 44, 45, 46, 47, 48, 49, 50, 51, 52, 53, 54, 55, 56, 57, 58, 59, 60, 61, 62, 63, 64, 65, 71, 72, 73, 74, 75, 76, 77, 85, 86, 87, 88, 78, 79, 80, 81, 82, 83, 84] (by decide +kernel) (by decide +kernel)) (goodIn_sub (fun _ h => List.mem_cons_of_mem _ (List.mem_append_left _ (List.mem_append_left _ (List.mem_append_right _ h)))) (by decide +kernel))) (goodIn_sub (fun _ h => List.mem_cons_of_mem _ (List.mem_append_left _ (List.mem_append_right _ h))) (by decide +kernel))) (goodIn_sub (fun _ h => List.mem_cons_of_mem _ (List.mem_append_right _ h)) (by decide +kernel))
set_option maxRecDepth 20000 in
theorem gX2_dry_X2_requireExactHeads : GoodIn wsX2_dry (wsV RX2 89 RX2 yX2_requireExactHeads wsX2_requireExactHeads) := goodIn_app (goodIn_of _ (by decide +kernel)) ggX2_dry_X2_requireExactHeads
set_option maxRecDepth 20000 in
theorem ggX2_dry_X2_cellsBelow : GoodIn wsX2_dry wsX2_cellsBelow := goodIn_ca (goodIn_r _ [69, 15, 70, 16, 71, 72, 73, 74, 75, 76, 77, 85, 86, 87, 88] (by decide +kernel) (by decide +kernel)) (goodIn_sub (fun _ h => List.mem_cons_of_mem _ (List.mem_append_left _ (List.mem_append_right _ h))) (by decide +kernel))
set_option maxRecDepth 20000 in
theorem gX2_dry_X2_cellsBelow : GoodIn wsX2_dry (wsV RX2 113 RX2 yX2_cellsBelow wsX2_cellsBelow) := goodIn_app (goodIn_of _ (by decide +kernel)) ggX2_dry_X2_cellsBelow
theorem dX2_dry_0 : decode cX2_dry 0 = .ok (.aload_n 0, 1) := by decide +kernel
theorem dX2_dry_1 : decode cX2_dry 1 = .ok (.invokevirtual 89, 3) := by decide +kernel
theorem dX2_dry_4 : decode cX2_dry 4 = .ok (.aload_n 0, 1) := by decide +kernel
theorem dX2_dry_5 : decode cX2_dry 5 = .ok (.aload_n 0, 1) := by decide +kernel
theorem dX2_dry_6 : decode cX2_dry 6 = .ok (.getfield 10, 3) := by decide +kernel
theorem dX2_dry_9 : decode cX2_dry 9 = .ok (.getfield 76, 3) := by decide +kernel
theorem dX2_dry_12 : decode cX2_dry 12 = .ok (.invokevirtual 113, 3) := by decide +kernel
theorem dX2_dry_15 : decode cX2_dry 15 = .ok (.ireturn, 1) := by decide +kernel
set_option maxRecDepth 20000 in
theorem ggX2_isAllowed_X2_requireExactHeads : GoodIn wsX2_isAllowed wsX2_requireExactHeads := goodIn_ca (goodIn_ca (goodIn_ca (goodIn_r _ [7, 8, 9, 10, 11, 12, 6, 13, 14, 15, 1, 16, 17, 18, 19, 20, 21, 22, 23, 24, 25, 26, 27, 28, 29, 30, 31, 32, 33, 34, 35, 36, 37, 38, 39, 40, 41, 42, 43, 44, 45, 46, 47, 48, 49, 50, 51, 52, 53, 54, 55, 56, 57, 58, 59, 60, 61, 62, 63, 64, 65, 71, 72, 73, 74, 75, 76, 77, 85, 86, 87, 88, 78, 79, 80, 81, 82, 83, 84] (by decide +kernel) (by decide +kernel)) (goodIn_sub (fun _ h => List.mem_cons_of_mem _ (List.mem_append_left _ (List.mem_append_left _ (List.mem_append_right _ h)))) (by decide +kernel))) (goodIn_sub (fun _ h => List.mem_cons_of_mem _ (List.mem_append_left _ (List.mem_append_right _ h))) (by decide +kernel))) (goodIn_sub (fun _ h => List.mem_cons_of_mem _ (List.mem_append_right _ h)) (by decide +kernel))
set_option maxRecDepth 20000 in
theorem gX2_isAllowed_X2_requireExactHeads : GoodIn wsX2_isAllowed (wsV RX2 89 RX2 yX2_requireExactHeads wsX2_requireExactHeads) := goodIn_app (goodIn_of _ (by decide +kernel)) ggX2_isAllowed_X2_requireExactHeads
set_option maxRecDepth 20000 in
theorem ggX2_isAllowed_X2_cellsBelow : GoodIn wsX2_isAllowed wsX2_cellsBelow := goodIn_ca (goodIn_r _ [69, 15, 70, 16, 71, 72, 73, 74, 75, 76, 77, 85, 86, 87, 88] (by decide +kernel) (by decide +kernel)) (goodIn_sub (fun _ h => List.mem_cons_of_mem _ (List.mem_append_left _ (List.mem_append_right _ h))) (by decide +kernel))
set_option maxRecDepth 20000 in
theorem gX2_isAllowed_X2_cellsBelow : GoodIn wsX2_isAllowed (wsV RX2 113 RX2 yX2_cellsBelow wsX2_cellsBelow) := goodIn_app (goodIn_of _ (by decide +kernel)) ggX2_isAllowed_X2_cellsBelow
theorem dX2_isAllowed_0 : decode cX2_isAllowed 0 = .ok (.aload_n 0, 1) := by decide +kernel
theorem dX2_isAllowed_1 : decode cX2_isAllowed 1 = .ok (.invokevirtual 89, 3) := by decide +kernel
theorem dX2_isAllowed_4 : decode cX2_isAllowed 4 = .ok (.aload_n 0, 1) := by decide +kernel
theorem dX2_isAllowed_5 : decode cX2_isAllowed 5 = .ok (.aload_n 0, 1) := by decide +kernel
theorem dX2_isAllowed_6 : decode cX2_isAllowed 6 = .ok (.getfield 10, 3) := by decide +kernel
theorem dX2_isAllowed_9 : decode cX2_isAllowed 9 = .ok (.getfield 79, 3) := by decide +kernel
theorem dX2_isAllowed_12 : decode cX2_isAllowed 12 = .ok (.invokevirtual 113, 3) := by decide +kernel
theorem dX2_isAllowed_15 : decode cX2_isAllowed 15 = .ok (.ifCond .ne 7, 3) := by decide +kernel
theorem dX2_isAllowed_18 : decode cX2_isAllowed 18 = .ok (.iconst 1, 1) := by decide +kernel
theorem dX2_isAllowed_19 : decode cX2_isAllowed 19 = .ok (.goto 4, 3) := by decide +kernel
theorem dX2_isAllowed_22 : decode cX2_isAllowed 22 = .ok (.iconst 0, 1) := by decide +kernel
theorem dX2_isAllowed_23 : decode cX2_isAllowed 23 = .ok (.ireturn, 1) := by decide +kernel
set_option maxRecDepth 20000 in
theorem ggX2_greatestRate_X2_requireCell : GoodIn wsX2_greatestRate wsX2_requireCell := goodIn_ca (goodIn_r _ [4, 5, 6] (by decide +kernel) (by decide +kernel)) (goodIn_sub (fun _ h => List.mem_cons_of_mem _ (List.mem_append_left _ (List.mem_append_left _ (List.mem_append_left _ (List.mem_append_right _ h))))) (by decide +kernel))
set_option maxRecDepth 20000 in
theorem gX2_greatestRate_X2_requireCell : GoodIn wsX2_greatestRate (va_wsS RX2 67 yX2_requireCell wsX2_requireCell) := goodIn_app (goodIn_of _ (by decide +kernel)) ggX2_greatestRate_X2_requireCell
set_option maxRecDepth 20000 in
theorem ggX2_greatestRate_X2_requireExactHeads : GoodIn wsX2_greatestRate wsX2_requireExactHeads := goodIn_ca (goodIn_ca (goodIn_ca (goodIn_r _ [10, 11, 12, 13, 14, 15, 3, 16, 17, 18, 19, 20, 21, 22, 23, 24, 25, 26, 27, 28, 29, 30, 31, 32, 33, 34, 35, 36, 37, 38, 39, 40, 41, 42, 43, 44, 45, 46, 47, 48, 49, 50, 51, 52, 53, 54, 55, 56, 57, 58, 59, 60, 61, 62, 63, 64, 65, 66, 67, 68, 69, 97, 98, 99, 100, 101, 102, 103, 104, 105, 106, 107, 108, 109, 110, 111, 112, 113, 114] (by decide +kernel) (by decide +kernel)) (goodIn_sub (fun _ h => List.mem_cons_of_mem _ (List.mem_append_left _ (List.mem_append_left _ (List.mem_append_right _ h)))) (by decide +kernel))) (goodIn_sub (fun _ h => List.mem_cons_of_mem _ (List.mem_append_left _ (List.mem_append_right _ h))) (by decide +kernel))) (goodIn_sub (fun _ h => List.mem_cons_of_mem _ (List.mem_append_right _ h)) (by decide +kernel))
set_option maxRecDepth 20000 in
theorem gX2_greatestRate_X2_requireExactHeads : GoodIn wsX2_greatestRate (wsV RX2 89 RX2 yX2_requireExactHeads wsX2_requireExactHeads) := goodIn_app (goodIn_of _ (by decide +kernel)) ggX2_greatestRate_X2_requireExactHeads
set_option maxRecDepth 20000 in
theorem ggX2_greatestRate_X2_greatestCommonRate : GoodIn wsX2_greatestRate wsX2_greatestCommonRate := goodIn_ca (goodIn_ca (goodIn_r _ [73, 74, 75, 76, 3, 77, 18, 78, 20, 19, 79, 80, 81, 82, 67, 68, 24, 69, 31, 83, 84, 85, 86, 87, 88, 89, 90, 91, 92, 93, 94, 95, 96, 97, 98, 99, 100, 101, 102, 103, 104, 105, 106, 107, 108, 109, 110, 111, 112, 113, 114] (by decide +kernel) (by decide +kernel)) (goodIn_sub (fun _ h => List.mem_cons_of_mem _ (List.mem_append_left _ (List.mem_append_right _ h))) (by decide +kernel))) (goodIn_sub (fun _ h => List.mem_cons_of_mem _ (List.mem_append_right _ h)) (by decide +kernel))
set_option maxRecDepth 20000 in
theorem gX2_greatestRate_X2_greatestCommonRate : GoodIn wsX2_greatestRate (wsV RX2 117 RX2 yX2_greatestCommonRate wsX2_greatestCommonRate) := goodIn_app (goodIn_of _ (by decide +kernel)) ggX2_greatestRate_X2_greatestCommonRate
theorem dX2_greatestRate_0 : decode cX2_greatestRate 0 = .ok (.iload_n 1, 1) := by decide +kernel
theorem dX2_greatestRate_1 : decode cX2_greatestRate 1 = .ok (.invokestatic 67, 3) := by decide +kernel
theorem dX2_greatestRate_4 : decode cX2_greatestRate 4 = .ok (.aload_n 0, 1) := by decide +kernel
theorem dX2_greatestRate_5 : decode cX2_greatestRate 5 = .ok (.invokevirtual 89, 3) := by decide +kernel
theorem dX2_greatestRate_8 : decode cX2_greatestRate 8 = .ok (.aload_n 0, 1) := by decide +kernel
theorem dX2_greatestRate_9 : decode cX2_greatestRate 9 = .ok (.iconst 1, 1) := by decide +kernel
theorem dX2_greatestRate_10 : decode cX2_greatestRate 10 = .ok (.iload_n 1, 1) := by decide +kernel
theorem dX2_greatestRate_11 : decode cX2_greatestRate 11 = .ok (.ishl, 1) := by decide +kernel
theorem dX2_greatestRate_12 : decode cX2_greatestRate 12 = .ok (.invokevirtual 117, 3) := by decide +kernel
theorem dX2_greatestRate_15 : decode cX2_greatestRate 15 = .ok (.ireturn, 1) := by decide +kernel
set_option maxRecDepth 20000 in
theorem ggX2_greatestEqual_X2_requireCellSet : GoodIn wsX2_greatestEqual wsX2_requireCellSet := goodIn_ca (goodIn_r _ [4, 5, 6] (by decide +kernel) (by decide +kernel)) (goodIn_sub (fun _ h => List.mem_cons_of_mem _ (List.mem_append_left _ (List.mem_append_left _ (List.mem_append_left _ (List.mem_append_right _ h))))) (by decide +kernel))
set_option maxRecDepth 20000 in
theorem gX2_greatestEqual_X2_requireCellSet : GoodIn wsX2_greatestEqual (va_wsS RX2 121 yX2_requireCellSet wsX2_requireCellSet) := goodIn_app (goodIn_of _ (by decide +kernel)) ggX2_greatestEqual_X2_requireCellSet
set_option maxRecDepth 20000 in
theorem ggX2_greatestEqual_X2_requireExactHeads : GoodIn wsX2_greatestEqual wsX2_requireExactHeads := goodIn_ca (goodIn_ca (goodIn_ca (goodIn_r _ [10, 11, 12, 13, 14, 15, 3, 16, 17, 18, 19, 20, 21, 22, 23, 24, 25, 26, 27, 28, 29, 30, 31, 32, 33, 34, 35, 36, 37, 38, 39, 40, 41, 42, 43, 44, 45, 46, 47, 48, 49, 50, 51, 52, 53, 54, 55, 56, 57, 58, 59, 60, 61, 62, 63, 64, 65, 66, 67, 68, 69, 97, 98, 99, 100, 101, 102, 103, 104, 105, 106, 107, 108, 109, 110, 111, 112, 113, 114] (by decide +kernel) (by decide +kernel)) (goodIn_sub (fun _ h => List.mem_cons_of_mem _ (List.mem_append_left _ (List.mem_append_left _ (List.mem_append_right _ h)))) (by decide +kernel))) (goodIn_sub (fun _ h => List.mem_cons_of_mem _ (List.mem_append_left _ (List.mem_append_right _ h))) (by decide +kernel))) (goodIn_sub (fun _ h => List.mem_cons_of_mem _ (List.mem_append_right _ h)) (by decide +kernel))
set_option maxRecDepth 20000 in
theorem gX2_greatestEqual_X2_requireExactHeads : GoodIn wsX2_greatestEqual (wsV RX2 89 RX2 yX2_requireExactHeads wsX2_requireExactHeads) := goodIn_app (goodIn_of _ (by decide +kernel)) ggX2_greatestEqual_X2_requireExactHeads
set_option maxRecDepth 20000 in
theorem ggX2_greatestEqual_X2_greatestCommonRate : GoodIn wsX2_greatestEqual wsX2_greatestCommonRate := goodIn_ca (goodIn_ca (goodIn_r _ [73, 74, 75, 76, 3, 77, 18, 78, 20, 19, 79, 80, 81, 82, 67, 68, 24, 69, 31, 83, 84, 85, 86, 87, 88, 89, 90, 91, 92, 93, 94, 95, 96, 97, 98, 99, 100, 101, 102, 103, 104, 105, 106, 107, 108, 109, 110, 111, 112, 113, 114] (by decide +kernel) (by decide +kernel)) (goodIn_sub (fun _ h => List.mem_cons_of_mem _ (List.mem_append_left _ (List.mem_append_right _ h))) (by decide +kernel))) (goodIn_sub (fun _ h => List.mem_cons_of_mem _ (List.mem_append_right _ h)) (by decide +kernel))
set_option maxRecDepth 20000 in
theorem gX2_greatestEqual_X2_greatestCommonRate : GoodIn wsX2_greatestEqual (wsV RX2 117 RX2 yX2_greatestCommonRate wsX2_greatestCommonRate) := goodIn_app (goodIn_of _ (by decide +kernel)) ggX2_greatestEqual_X2_greatestCommonRate
theorem dX2_greatestEqual_0 : decode cX2_greatestEqual 0 = .ok (.iload_n 1, 1) := by decide +kernel
theorem dX2_greatestEqual_1 : decode cX2_greatestEqual 1 = .ok (.invokestatic 121, 3) := by decide +kernel
theorem dX2_greatestEqual_4 : decode cX2_greatestEqual 4 = .ok (.aload_n 0, 1) := by decide +kernel
theorem dX2_greatestEqual_5 : decode cX2_greatestEqual 5 = .ok (.invokevirtual 89, 3) := by decide +kernel
theorem dX2_greatestEqual_8 : decode cX2_greatestEqual 8 = .ok (.aload_n 0, 1) := by decide +kernel
theorem dX2_greatestEqual_9 : decode cX2_greatestEqual 9 = .ok (.iload_n 1, 1) := by decide +kernel
theorem dX2_greatestEqual_10 : decode cX2_greatestEqual 10 = .ok (.invokevirtual 117, 3) := by decide +kernel
theorem dX2_greatestEqual_13 : decode cX2_greatestEqual 13 = .ok (.ireturn, 1) := by decide +kernel
set_option maxRecDepth 20000 in
theorem ggX2_bestPair_X2_requireCell : GoodIn wsX2_bestPair wsX2_requireCell := goodIn_ca (goodIn_r _ [4, 5, 6] (by decide +kernel) (by decide +kernel)) (goodIn_sub (fun _ h => List.mem_cons_of_mem _ (List.mem_append_left _ (List.mem_append_left _ (List.mem_append_left _ (List.mem_append_left _ (List.mem_append_right _ h)))))) (by decide +kernel))
set_option maxRecDepth 20000 in
theorem gX2_bestPair_X2_requireCell : GoodIn wsX2_bestPair (va_wsS RX2 67 yX2_requireCell wsX2_requireCell) := goodIn_app (goodIn_of _ (by decide +kernel)) ggX2_bestPair_X2_requireCell
set_option maxRecDepth 20000 in
theorem ggX2_bestPair_X2_requireDifferent : GoodIn wsX2_bestPair wsX2_requireDifferent := goodIn_ca (goodIn_r _ [9, 10, 11] (by decide +kernel) (by decide +kernel)) (goodIn_sub (fun _ h => List.mem_cons_of_mem _ (List.mem_append_left _ (List.mem_append_left _ (List.mem_append_left _ (List.mem_append_right _ h))))) (by decide +kernel))
set_option maxRecDepth 20000 in
theorem gX2_bestPair_X2_requireDifferent : GoodIn wsX2_bestPair (va_wsS RX2 124 yX2_requireDifferent wsX2_requireDifferent) := goodIn_app (goodIn_of _ (by decide +kernel)) ggX2_bestPair_X2_requireDifferent
set_option maxRecDepth 20000 in
theorem ggX2_bestPair_X2_requireExactHeads : GoodIn wsX2_bestPair wsX2_requireExactHeads := goodIn_ca (goodIn_ca (goodIn_ca (goodIn_r _ [15, 16, 17, 18, 19, 20, 3, 21, 22, 23, 24, 25, 26, 27, 28, 29, 30, 31, 32, 33, 34, 35, 36, 37, 38, 39, 40, 41, 42, 43, 44, 45, 46, 47, 48, 49, 50, 51, 52, 53, 54, 55, 56, 57, 58, 59, 60, 61, 62, 63, 64, 65, 66, 67, 68, 69, 70, 71, 72, 73, 74, 106, 107, 108, 109, 110, 111, 112, 113, 114, 115, 116, 117, 118, 119, 120, 121, 122, 123] (by decide +kernel) (by decide +kernel)) (goodIn_sub (fun _ h => List.mem_cons_of_mem _ (List.mem_append_left _ (List.mem_append_left _ (List.mem_append_right _ h)))) (by decide +kernel))) (goodIn_sub (fun _ h => List.mem_cons_of_mem _ (List.mem_append_left _ (List.mem_append_right _ h))) (by decide +kernel))) (goodIn_sub (fun _ h => List.mem_cons_of_mem _ (List.mem_append_right _ h)) (by decide +kernel))
set_option maxRecDepth 20000 in
theorem gX2_bestPair_X2_requireExactHeads : GoodIn wsX2_bestPair (wsV RX2 89 RX2 yX2_requireExactHeads wsX2_requireExactHeads) := goodIn_app (goodIn_of _ (by decide +kernel)) ggX2_bestPair_X2_requireExactHeads
set_option maxRecDepth 20000 in
theorem ggX2_bestPair_X2_bestRates : GoodIn wsX2_bestPair wsX2_bestRates := goodIn_ca (goodIn_ca (goodIn_r _ [78, 79, 80, 81, 3, 82, 23, 83, 25, 24, 84, 85, 86, 87, 72, 73, 29, 74, 36, 88, 89, 90, 91, 92, 93, 94, 95, 96, 97, 98, 99, 100, 101, 102, 103, 104, 105, 106, 107, 108, 109, 110, 111, 112, 113, 114, 115, 116, 117, 118, 119, 120, 121, 122, 123] (by decide +kernel) (by decide +kernel)) (goodIn_sub (fun _ h => List.mem_cons_of_mem _ (List.mem_append_left _ (List.mem_append_right _ h))) (by decide +kernel))) (goodIn_sub (fun _ h => List.mem_cons_of_mem _ (List.mem_append_right _ h)) (by decide +kernel))
set_option maxRecDepth 20000 in
theorem gX2_bestPair_X2_bestRates : GoodIn wsX2_bestPair (wsV RX2 127 RX2 yX2_bestRates wsX2_bestRates) := goodIn_app (goodIn_of _ (by decide +kernel)) ggX2_bestPair_X2_bestRates
theorem dX2_bestPair_0 : decode cX2_bestPair 0 = .ok (.iload_n 1, 1) := by decide +kernel
theorem dX2_bestPair_1 : decode cX2_bestPair 1 = .ok (.invokestatic 67, 3) := by decide +kernel
theorem dX2_bestPair_4 : decode cX2_bestPair 4 = .ok (.iload_n 2, 1) := by decide +kernel
theorem dX2_bestPair_5 : decode cX2_bestPair 5 = .ok (.invokestatic 67, 3) := by decide +kernel
theorem dX2_bestPair_8 : decode cX2_bestPair 8 = .ok (.iload_n 1, 1) := by decide +kernel
theorem dX2_bestPair_9 : decode cX2_bestPair 9 = .ok (.iload_n 2, 1) := by decide +kernel
theorem dX2_bestPair_10 : decode cX2_bestPair 10 = .ok (.invokestatic 124, 3) := by decide +kernel
theorem dX2_bestPair_13 : decode cX2_bestPair 13 = .ok (.aload_n 0, 1) := by decide +kernel
theorem dX2_bestPair_14 : decode cX2_bestPair 14 = .ok (.invokevirtual 89, 3) := by decide +kernel
theorem dX2_bestPair_17 : decode cX2_bestPair 17 = .ok (.aload_n 0, 1) := by decide +kernel
theorem dX2_bestPair_18 : decode cX2_bestPair 18 = .ok (.iload_n 1, 1) := by decide +kernel
theorem dX2_bestPair_19 : decode cX2_bestPair 19 = .ok (.iload_n 2, 1) := by decide +kernel
theorem dX2_bestPair_20 : decode cX2_bestPair 20 = .ok (.invokevirtual 127, 3) := by decide +kernel
theorem dX2_bestPair_23 : decode cX2_bestPair 23 = .ok (.ireturn, 1) := by decide +kernel
set_option maxRecDepth 20000 in
theorem ggX2_relax_X2_requireRange : GoodIn wsX2_relax wsX2_requireRange := goodIn_ca (goodIn_r _ [4, 5, 6] (by decide +kernel) (by decide +kernel)) (goodIn_sub (fun _ h => List.mem_cons_of_mem _ (List.mem_append_left _ (List.mem_append_right _ h))) (by decide +kernel))
set_option maxRecDepth 20000 in
theorem gX2_relax_X2_requireRange : GoodIn wsX2_relax (va_wsS RX2 46 yX2_requireRange wsX2_requireRange) := goodIn_app (goodIn_of _ (by decide +kernel)) ggX2_relax_X2_requireRange
set_option maxRecDepth 20000 in
theorem ggX2_relax_X2_saveNow : GoodIn wsX2_relax wsX2_saveNow := goodIn_r _ [10, 11, 12, 13, 14, 15, 16, 17, 3, 18, 19, 20, 21, 22, 23, 24, 25, 26, 27, 28, 29, 30, 31, 32, 33, 34, 63, 64, 65, 66, 67, 68, 69, 70, 71, 72, 73, 74, 75, 76] (by decide +kernel) (by decide +kernel)
set_option maxRecDepth 20000 in
theorem gX2_relax_X2_saveNow : GoodIn wsX2_relax (wsV RX2 50 RX2 yX2_saveNow wsX2_saveNow) := goodIn_app (goodIn_of _ (by decide +kernel)) ggX2_relax_X2_saveNow
set_option maxRecDepth 20000 in
theorem ggX2_relax_X2_sweepOnce : GoodIn wsX2_relax wsX2_sweepOnce := goodIn_ca (goodIn_r _ [38, 13, 39, 40, 41, 42, 3, 43, 44, 45, 46, 47, 48, 49, 50, 51, 52, 53, 54, 55, 56, 57, 58, 59, 60, 61, 62, 63, 64, 65, 66, 67, 68, 69, 70, 71, 72, 73, 74, 75, 76] (by decide +kernel) (by decide +kernel)) (goodIn_sub (fun _ h => List.mem_cons_of_mem _ (List.mem_append_right _ h)) (by decide +kernel))
set_option maxRecDepth 20000 in
theorem gX2_relax_X2_sweepOnce : GoodIn wsX2_relax (wsV RX2 131 RX2 yX2_sweepOnce wsX2_sweepOnce) := goodIn_app (goodIn_of _ (by decide +kernel)) ggX2_relax_X2_sweepOnce
theorem dX2_relax_0 : decode cX2_relax 0 = .ok (.iload_n 1, 1) := by decide +kernel
theorem dX2_relax_1 : decode cX2_relax 1 = .ok (.bipush 100, 2) := by decide +kernel
theorem dX2_relax_3 : decode cX2_relax 3 = .ok (.invokestatic 46, 3) := by decide +kernel
theorem dX2_relax_6 : decode cX2_relax 6 = .ok (.aload_n 0, 1) := by decide +kernel
theorem dX2_relax_7 : decode cX2_relax 7 = .ok (.invokevirtual 50, 3) := by decide +kernel
theorem dX2_relax_10 : decode cX2_relax 10 = .ok (.dconst 0, 1) := by decide +kernel
theorem dX2_relax_11 : decode cX2_relax 11 = .ok (.dstore_n 2, 1) := by decide +kernel
theorem dX2_relax_12 : decode cX2_relax 12 = .ok (.iconst 0, 1) := by decide +kernel
theorem dX2_relax_13 : decode cX2_relax 13 = .ok (.istore 4, 2) := by decide +kernel
theorem dX2_relax_15 : decode cX2_relax 15 = .ok (.iload 4, 2) := by decide +kernel
theorem dX2_relax_17 : decode cX2_relax 17 = .ok (.iload_n 1, 1) := by decide +kernel
theorem dX2_relax_18 : decode cX2_relax 18 = .ok (.if_icmp .ge 14, 3) := by decide +kernel
theorem dX2_relax_21 : decode cX2_relax 21 = .ok (.aload_n 0, 1) := by decide +kernel
theorem dX2_relax_22 : decode cX2_relax 22 = .ok (.invokevirtual 131, 3) := by decide +kernel
theorem dX2_relax_25 : decode cX2_relax 25 = .ok (.dstore_n 2, 1) := by decide +kernel
theorem dX2_relax_26 : decode cX2_relax 26 = .ok (.iinc 4 1, 3) := by decide +kernel
theorem dX2_relax_29 : decode cX2_relax 29 = .ok (.goto (-14), 3) := by decide +kernel
theorem dX2_relax_32 : decode cX2_relax 32 = .ok (.dload_n 2, 1) := by decide +kernel
theorem dX2_relax_33 : decode cX2_relax 33 = .ok (.dreturn, 1) := by decide +kernel
set_option maxRecDepth 20000 in
theorem ggX2_relaxed_X2_requireCell : GoodIn wsX2_relaxed wsX2_requireCell := goodIn_ca (goodIn_r _ [6, 7, 8] (by decide +kernel) (by decide +kernel)) (goodIn_sub (fun _ h => List.mem_cons_of_mem _ (List.mem_append_right _ h)) (by decide +kernel))
set_option maxRecDepth 20000 in
theorem gX2_relaxed_X2_requireCell : GoodIn wsX2_relaxed (va_wsS RX2 67 yX2_requireCell wsX2_requireCell) := goodIn_app (goodIn_of _ (by decide +kernel)) ggX2_relaxed_X2_requireCell
theorem dX2_relaxed_0 : decode cX2_relaxed 0 = .ok (.iload_n 1, 1) := by decide +kernel
theorem dX2_relaxed_1 : decode cX2_relaxed 1 = .ok (.invokestatic 67, 3) := by decide +kernel
theorem dX2_relaxed_4 : decode cX2_relaxed 4 = .ok (.aload_n 0, 1) := by decide +kernel
theorem dX2_relaxed_5 : decode cX2_relaxed 5 = .ok (.getfield 10, 3) := by decide +kernel
theorem dX2_relaxed_8 : decode cX2_relaxed 8 = .ok (.getfield 135, 3) := by decide +kernel
theorem dX2_relaxed_11 : decode cX2_relaxed 11 = .ok (.iload_n 1, 1) := by decide +kernel
theorem dX2_relaxed_12 : decode cX2_relaxed 12 = .ok (.daload, 1) := by decide +kernel
theorem dX2_relaxed_13 : decode cX2_relaxed 13 = .ok (.dreturn, 1) := by decide +kernel
set_option maxRecDepth 20000 in
theorem ggX2_error_X2_requireExactHeads : GoodIn wsX2_error wsX2_requireExactHeads := goodIn_ca (goodIn_ca (goodIn_ca (goodIn_r _ [7, 8, 9, 10, 11, 12, 6, 13, 14, 15, 1, 16, 17, 18, 19, 20, 21, 22, 23, 24, 25, 26, 27, 28, 29, 30, 31, 32, 33, 34, 35, 36, 37, 38, 39, 40, 41, 42, 43, 44, 45, 46, 47, 48, 49, 50, 51, 52, 53, 54, 55, 56, 57, 58, 59, 60, 61, 62, 63, 64, 65, 88, 89, 90, 91, 92, 93, 94, 102, 103, 104, 105, 95, 96, 97, 98, 99, 100, 101] (by decide +kernel) (by decide +kernel)) (goodIn_sub (fun _ h => List.mem_cons_of_mem _ (List.mem_append_left _ (List.mem_append_right _ h))) (by decide +kernel))) (goodIn_sub (fun _ h => List.mem_cons_of_mem _ (List.mem_append_left _ (List.mem_append_left _ (List.mem_append_right _ h)))) (by decide +kernel))) (goodIn_sub (fun _ h => List.mem_cons_of_mem _ (List.mem_append_right _ h)) (by decide +kernel))
set_option maxRecDepth 20000 in
theorem gX2_error_X2_requireExactHeads : GoodIn wsX2_error (wsV RX2 89 RX2 yX2_requireExactHeads wsX2_requireExactHeads) := goodIn_app (goodIn_of _ (by decide +kernel)) ggX2_error_X2_requireExactHeads
set_option maxRecDepth 20000 in
theorem ggX2_error_X2_exactHeadAsDouble : GoodIn wsX2_error wsX2_exactHeadAsDouble := goodIn_ca (goodIn_ca (goodIn_r _ [69, 15, 70, 71, 72, 73, 6, 74, 16, 75, 76, 77, 78, 79, 80, 81, 82, 83, 84, 88, 89, 90, 91, 92, 93, 94, 102, 103, 104, 105] (by decide +kernel) (by decide +kernel)) (goodIn_sub (fun _ h => List.mem_cons_of_mem _ (List.mem_append_left _ (List.mem_append_left _ (List.mem_append_right _ h)))) (by decide +kernel))) (goodIn_sub (fun _ h => List.mem_cons_of_mem _ (List.mem_append_right _ h)) (by decide +kernel))
set_option maxRecDepth 20000 in
theorem gX2_error_X2_exactHeadAsDouble : GoodIn wsX2_error (wsV RX2 139 RX2 yX2_exactHeadAsDouble wsX2_exactHeadAsDouble) := goodIn_app (goodIn_of _ (by decide +kernel)) ggX2_error_X2_exactHeadAsDouble
set_option maxRecDepth 20000 in
theorem ggX2_error_X2_distance : GoodIn wsX2_error wsX2_distance := goodIn_r _ [87] (by decide +kernel) (by decide +kernel)
set_option maxRecDepth 20000 in
theorem gX2_error_X2_distance : GoodIn wsX2_error (va_wsS RX2 143 yX2_distance wsX2_distance) := goodIn_app (goodIn_of _ (by decide +kernel)) ggX2_error_X2_distance
theorem dX2_error_0 : decode cX2_error 0 = .ok (.aload_n 0, 1) := by decide +kernel
theorem dX2_error_1 : decode cX2_error 1 = .ok (.invokevirtual 89, 3) := by decide +kernel
theorem dX2_error_4 : decode cX2_error 4 = .ok (.dconst 0, 1) := by decide +kernel
theorem dX2_error_5 : decode cX2_error 5 = .ok (.dstore_n 1, 1) := by decide +kernel
theorem dX2_error_6 : decode cX2_error 6 = .ok (.iconst 0, 1) := by decide +kernel
theorem dX2_error_7 : decode cX2_error 7 = .ok (.istore_n 3, 1) := by decide +kernel
theorem dX2_error_8 : decode cX2_error 8 = .ok (.iload_n 3, 1) := by decide +kernel
theorem dX2_error_9 : decode cX2_error 9 = .ok (.bipush 9, 2) := by decide +kernel
theorem dX2_error_11 : decode cX2_error 11 = .ok (.if_icmp .ge 42, 3) := by decide +kernel
theorem dX2_error_14 : decode cX2_error 14 = .ok (.aload_n 0, 1) := by decide +kernel
theorem dX2_error_15 : decode cX2_error 15 = .ok (.getfield 10, 3) := by decide +kernel
theorem dX2_error_18 : decode cX2_error 18 = .ok (.getfield 135, 3) := by decide +kernel
theorem dX2_error_21 : decode cX2_error 21 = .ok (.iload_n 3, 1) := by decide +kernel
theorem dX2_error_22 : decode cX2_error 22 = .ok (.daload, 1) := by decide +kernel
theorem dX2_error_23 : decode cX2_error 23 = .ok (.aload_n 0, 1) := by decide +kernel
theorem dX2_error_24 : decode cX2_error 24 = .ok (.iload_n 3, 1) := by decide +kernel
theorem dX2_error_25 : decode cX2_error 25 = .ok (.invokevirtual 139, 3) := by decide +kernel
theorem dX2_error_28 : decode cX2_error 28 = .ok (.invokestatic 143, 3) := by decide +kernel
theorem dX2_error_31 : decode cX2_error 31 = .ok (.dstore 4, 2) := by decide +kernel
theorem dX2_error_33 : decode cX2_error 33 = .ok (.dload 4, 2) := by decide +kernel
theorem dX2_error_35 : decode cX2_error 35 = .ok (.dload_n 1, 1) := by decide +kernel
theorem dX2_error_36 : decode cX2_error 36 = .ok (.dcmp .l, 1) := by decide +kernel
theorem dX2_error_37 : decode cX2_error 37 = .ok (.ifCond .le 8, 3) := by decide +kernel
theorem dX2_error_40 : decode cX2_error 40 = .ok (.dload 4, 2) := by decide +kernel
theorem dX2_error_42 : decode cX2_error 42 = .ok (.goto 4, 3) := by decide +kernel
theorem dX2_error_45 : decode cX2_error 45 = .ok (.dload_n 1, 1) := by decide +kernel
theorem dX2_error_46 : decode cX2_error 46 = .ok (.dstore_n 1, 1) := by decide +kernel
theorem dX2_error_47 : decode cX2_error 47 = .ok (.iinc 3 1, 3) := by decide +kernel
theorem dX2_error_50 : decode cX2_error 50 = .ok (.goto (-42), 3) := by decide +kernel
theorem dX2_error_53 : decode cX2_error 53 = .ok (.dload_n 1, 1) := by decide +kernel
theorem dX2_error_54 : decode cX2_error 54 = .ok (.dreturn, 1) := by decide +kernel
set_option maxRecDepth 20000 in
theorem ggX2_undo_X2_requireSavedState : GoodIn wsX2_undo wsX2_requireSavedState := goodIn_ca (goodIn_r _ [9, 10, 11, 1, 28, 29, 30, 31, 32, 33, 34] (by decide +kernel) (by decide +kernel)) (goodIn_sub (fun _ h => List.mem_cons_of_mem _ (List.mem_append_right _ h)) (by decide +kernel))
set_option maxRecDepth 20000 in
theorem gX2_undo_X2_requireSavedState : GoodIn wsX2_undo (wsV RX2 147 RX2 yX2_requireSavedState wsX2_requireSavedState) := goodIn_app (goodIn_of _ (by decide +kernel)) ggX2_undo_X2_requireSavedState
set_option maxRecDepth 20000 in
theorem ggX2_undo_X1_copyFrom : GoodIn wsX2_undo wsX1_copyFrom := goodIn_r _ [16, 17, 18, 19, 20, 21, 22, 23, 24, 25, 26, 27, 35, 36, 37, 38, 39, 40, 41] (by decide +kernel) (by decide +kernel)
set_option maxRecDepth 20000 in
theorem gX2_undo_X1_copyFrom : GoodIn wsX2_undo (wsV RX2 150 RX1 yX1_copyFrom wsX1_copyFrom) := goodIn_app (goodIn_of _ (by decide +kernel)) ggX2_undo_X1_copyFrom
theorem dX2_undo_0 : decode cX2_undo 0 = .ok (.aload_n 0, 1) := by decide +kernel
theorem dX2_undo_1 : decode cX2_undo 1 = .ok (.invokevirtual 147, 3) := by decide +kernel
theorem dX2_undo_4 : decode cX2_undo 4 = .ok (.aload_n 0, 1) := by decide +kernel
theorem dX2_undo_5 : decode cX2_undo 5 = .ok (.dup, 1) := by decide +kernel
theorem dX2_undo_6 : decode cX2_undo 6 = .ok (.getfield 20, 3) := by decide +kernel
theorem dX2_undo_9 : decode cX2_undo 9 = .ok (.iconst 1, 1) := by decide +kernel
theorem dX2_undo_10 : decode cX2_undo 10 = .ok (.isub, 1) := by decide +kernel
theorem dX2_undo_11 : decode cX2_undo 11 = .ok (.putfield 20, 3) := by decide +kernel
theorem dX2_undo_14 : decode cX2_undo 14 = .ok (.aload_n 0, 1) := by decide +kernel
theorem dX2_undo_15 : decode cX2_undo 15 = .ok (.getfield 10, 3) := by decide +kernel
theorem dX2_undo_18 : decode cX2_undo 18 = .ok (.aload_n 0, 1) := by decide +kernel
theorem dX2_undo_19 : decode cX2_undo 19 = .ok (.getfield 16, 3) := by decide +kernel
theorem dX2_undo_22 : decode cX2_undo 22 = .ok (.aload_n 0, 1) := by decide +kernel
theorem dX2_undo_23 : decode cX2_undo 23 = .ok (.getfield 20, 3) := by decide +kernel
theorem dX2_undo_26 : decode cX2_undo 26 = .ok (.aaload, 1) := by decide +kernel
theorem dX2_undo_27 : decode cX2_undo 27 = .ok (.invokevirtual 150, 3) := by decide +kernel
theorem dX2_undo_30 : decode cX2_undo 30 = .ok (.aload_n 0, 1) := by decide +kernel
theorem dX2_undo_31 : decode cX2_undo 31 = .ok (.iconst 0, 1) := by decide +kernel
theorem dX2_undo_32 : decode cX2_undo 32 = .ok (.putfield 31, 3) := by decide +kernel
theorem dX2_undo_35 : decode cX2_undo 35 = .ok (.aload_n 0, 1) := by decide +kernel
theorem dX2_undo_36 : decode cX2_undo 36 = .ok (.getfield 20, 3) := by decide +kernel
theorem dX2_undo_39 : decode cX2_undo 39 = .ok (.ireturn, 1) := by decide +kernel
set_option maxRecDepth 20000 in
theorem ggX2_digest_X2_commonDenominator : GoodIn wsX2_digest wsX2_commonDenominator := goodIn_ca (goodIn_ca (goodIn_r _ [15, 16, 17, 2, 18, 19, 20, 21, 22, 23, 24, 25, 26, 27, 28, 29, 30, 31, 32, 33, 34, 35, 36, 37, 38, 39, 40, 41, 42, 43, 44, 45, 46, 47, 48, 49, 50, 51, 52, 53, 54, 55, 56, 57, 58, 59, 60, 61, 62, 63, 64, 65, 66, 67, 100, 101, 102, 103, 104, 105, 106, 114, 115, 116, 117, 107, 108, 109, 110, 111, 112, 113] (by decide +kernel) (by decide +kernel)) (goodIn_sub (fun _ h => List.mem_cons_of_mem _ (List.mem_append_left _ (List.mem_append_right _ h))) (by decide +kernel))) (goodIn_sub (fun _ h => List.mem_cons_of_mem _ (List.mem_append_right _ h)) (by decide +kernel))
set_option maxRecDepth 20000 in
theorem gX2_digest_X2_commonDenominator : GoodIn wsX2_digest (wsV RX2 82 RX2 yX2_commonDenominator wsX2_commonDenominator) := goodIn_app (goodIn_of _ (by decide +kernel)) ggX2_digest_X2_commonDenominator
set_option maxRecDepth 20000 in
theorem ggX2_digest_X2_mixAll : GoodIn wsX2_digest wsX2_mixAll := goodIn_ca (goodIn_r _ [70, 71, 72, 14, 73, 74] (by decide +kernel) (by decide +kernel)) (goodIn_sub (fun _ h => List.mem_cons_of_mem _ (List.mem_append_left _ (List.mem_append_right _ h))) (by decide +kernel))
set_option maxRecDepth 20000 in
theorem gX2_digest_X2_mixAll : GoodIn wsX2_digest (va_wsS RX2 156 yX2_mixAll wsX2_mixAll) := goodIn_app (goodIn_of _ (by decide +kernel)) ggX2_digest_X2_mixAll
set_option maxRecDepth 20000 in
theorem ggX2_digest_X2_mix : GoodIn wsX2_digest wsX2_mix := goodIn_r _ [73, 74] (by decide +kernel) (by decide +kernel)
set_option maxRecDepth 20000 in
theorem gX2_digest_X2_mix : GoodIn wsX2_digest (va_wsS RX2 160 yX2_mix wsX2_mix) := goodIn_app (goodIn_of _ (by decide +kernel)) ggX2_digest_X2_mix
set_option maxRecDepth 20000 in
theorem ggX2_digest_X2_bitsOf : GoodIn wsX2_digest wsX2_bitsOf := goodIn_r _ [77, 78, 79, 80] (by decide +kernel) (by decide +kernel)
set_option maxRecDepth 20000 in
theorem gX2_digest_X2_bitsOf : GoodIn wsX2_digest (va_wsS RX2 164 yX2_bitsOf wsX2_bitsOf) := goodIn_app (goodIn_of _ (by decide +kernel)) ggX2_digest_X2_bitsOf
set_option maxRecDepth 20000 in
theorem ggX2_digest_X2_mixHeads : GoodIn wsX2_digest wsX2_mixHeads := goodIn_ca (goodIn_ca (goodIn_r _ [84, 17, 85, 86, 87, 88, 14, 89, 18, 90, 91, 92, 93, 94, 95, 96, 97, 98, 99, 71, 72, 73, 74, 100, 101, 102, 103, 104, 105, 106, 114, 115, 116, 117] (by decide +kernel) (by decide +kernel)) (goodIn_sub (fun _ h => List.mem_cons_of_mem _ (List.mem_append_left _ (List.mem_append_right _ h))) (by decide +kernel))) (goodIn_sub (fun _ h => List.mem_cons_of_mem _ (List.mem_append_right _ h)) (by decide +kernel))
set_option maxRecDepth 20000 in
theorem gX2_digest_X2_mixHeads : GoodIn wsX2_digest (wsV RX2 168 RX2 yX2_mixHeads wsX2_mixHeads) := goodIn_app (goodIn_of _ (by decide +kernel)) ggX2_digest_X2_mixHeads
theorem dX2_digest_0 : decode cX2_digest 0 = .ok (.aload_n 0, 1) := by decide +kernel
theorem dX2_digest_1 : decode cX2_digest 1 = .ok (.invokevirtual 82, 3) := by decide +kernel
theorem dX2_digest_4 : decode cX2_digest 4 = .ok (.lstore_n 1, 1) := by decide +kernel
theorem dX2_digest_5 : decode cX2_digest 5 = .ok (.ldc2_w 154, 3) := by decide +kernel
theorem dX2_digest_8 : decode cX2_digest 8 = .ok (.aload_n 0, 1) := by decide +kernel
theorem dX2_digest_9 : decode cX2_digest 9 = .ok (.getfield 10, 3) := by decide +kernel
theorem dX2_digest_12 : decode cX2_digest 12 = .ok (.getfield 53, 3) := by decide +kernel
theorem dX2_digest_15 : decode cX2_digest 15 = .ok (.invokestatic 156, 3) := by decide +kernel
theorem dX2_digest_18 : decode cX2_digest 18 = .ok (.lstore_n 3, 1) := by decide +kernel
theorem dX2_digest_19 : decode cX2_digest 19 = .ok (.lload_n 3, 1) := by decide +kernel
theorem dX2_digest_20 : decode cX2_digest 20 = .ok (.aload_n 0, 1) := by decide +kernel
theorem dX2_digest_21 : decode cX2_digest 21 = .ok (.getfield 10, 3) := by decide +kernel
theorem dX2_digest_24 : decode cX2_digest 24 = .ok (.getfield 64, 3) := by decide +kernel
theorem dX2_digest_27 : decode cX2_digest 27 = .ok (.invokestatic 156, 3) := by decide +kernel
theorem dX2_digest_30 : decode cX2_digest 30 = .ok (.lstore_n 3, 1) := by decide +kernel
theorem dX2_digest_31 : decode cX2_digest 31 = .ok (.iconst 0, 1) := by decide +kernel
theorem dX2_digest_32 : decode cX2_digest 32 = .ok (.istore 5, 2) := by decide +kernel
theorem dX2_digest_34 : decode cX2_digest 34 = .ok (.iload 5, 2) := by decide +kernel
theorem dX2_digest_36 : decode cX2_digest 36 = .ok (.bipush 9, 2) := by decide +kernel
theorem dX2_digest_38 : decode cX2_digest 38 = .ok (.if_icmp .ge 91, 3) := by decide +kernel
theorem dX2_digest_41 : decode cX2_digest 41 = .ok (.lload_n 3, 1) := by decide +kernel
theorem dX2_digest_42 : decode cX2_digest 42 = .ok (.aload_n 0, 1) := by decide +kernel
theorem dX2_digest_43 : decode cX2_digest 43 = .ok (.getfield 10, 3) := by decide +kernel
theorem dX2_digest_46 : decode cX2_digest 46 = .ok (.getfield 70, 3) := by decide +kernel
theorem dX2_digest_49 : decode cX2_digest 49 = .ok (.iload 5, 2) := by decide +kernel
theorem dX2_digest_51 : decode cX2_digest 51 = .ok (.iaload, 1) := by decide +kernel
theorem dX2_digest_52 : decode cX2_digest 52 = .ok (.i2l, 1) := by decide +kernel
theorem dX2_digest_53 : decode cX2_digest 53 = .ok (.invokestatic 160, 3) := by decide +kernel
theorem dX2_digest_56 : decode cX2_digest 56 = .ok (.lstore_n 3, 1) := by decide +kernel
theorem dX2_digest_57 : decode cX2_digest 57 = .ok (.lload_n 3, 1) := by decide +kernel
theorem dX2_digest_58 : decode cX2_digest 58 = .ok (.aload_n 0, 1) := by decide +kernel
theorem dX2_digest_59 : decode cX2_digest 59 = .ok (.getfield 10, 3) := by decide +kernel
theorem dX2_digest_62 : decode cX2_digest 62 = .ok (.getfield 73, 3) := by decide +kernel
theorem dX2_digest_65 : decode cX2_digest 65 = .ok (.iload 5, 2) := by decide +kernel
theorem dX2_digest_67 : decode cX2_digest 67 = .ok (.iaload, 1) := by decide +kernel
theorem dX2_digest_68 : decode cX2_digest 68 = .ok (.i2l, 1) := by decide +kernel
theorem dX2_digest_69 : decode cX2_digest 69 = .ok (.invokestatic 160, 3) := by decide +kernel
theorem dX2_digest_72 : decode cX2_digest 72 = .ok (.lstore_n 3, 1) := by decide +kernel
theorem dX2_digest_73 : decode cX2_digest 73 = .ok (.lload_n 3, 1) := by decide +kernel
theorem dX2_digest_74 : decode cX2_digest 74 = .ok (.aload_n 0, 1) := by decide +kernel
theorem dX2_digest_75 : decode cX2_digest 75 = .ok (.getfield 10, 3) := by decide +kernel
theorem dX2_digest_78 : decode cX2_digest 78 = .ok (.getfield 76, 3) := by decide +kernel
theorem dX2_digest_81 : decode cX2_digest 81 = .ok (.iload 5, 2) := by decide +kernel
theorem dX2_digest_83 : decode cX2_digest 83 = .ok (.iaload, 1) := by decide +kernel
theorem dX2_digest_84 : decode cX2_digest 84 = .ok (.i2l, 1) := by decide +kernel
theorem dX2_digest_85 : decode cX2_digest 85 = .ok (.invokestatic 160, 3) := by decide +kernel
theorem dX2_digest_88 : decode cX2_digest 88 = .ok (.lstore_n 3, 1) := by decide +kernel
theorem dX2_digest_89 : decode cX2_digest 89 = .ok (.lload_n 3, 1) := by decide +kernel
theorem dX2_digest_90 : decode cX2_digest 90 = .ok (.aload_n 0, 1) := by decide +kernel
theorem dX2_digest_91 : decode cX2_digest 91 = .ok (.getfield 10, 3) := by decide +kernel
theorem dX2_digest_94 : decode cX2_digest 94 = .ok (.getfield 79, 3) := by decide +kernel
theorem dX2_digest_97 : decode cX2_digest 97 = .ok (.iload 5, 2) := by decide +kernel
theorem dX2_digest_99 : decode cX2_digest 99 = .ok (.iaload, 1) := by decide +kernel
theorem dX2_digest_100 : decode cX2_digest 100 = .ok (.i2l, 1) := by decide +kernel
theorem dX2_digest_101 : decode cX2_digest 101 = .ok (.invokestatic 160, 3) := by decide +kernel
theorem dX2_digest_104 : decode cX2_digest 104 = .ok (.lstore_n 3, 1) := by decide +kernel
theorem dX2_digest_105 : decode cX2_digest 105 = .ok (.lload_n 3, 1) := by decide +kernel
theorem dX2_digest_106 : decode cX2_digest 106 = .ok (.aload_n 0, 1) := by decide +kernel
theorem dX2_digest_107 : decode cX2_digest 107 = .ok (.getfield 10, 3) := by decide +kernel
theorem dX2_digest_110 : decode cX2_digest 110 = .ok (.getfield 135, 3) := by decide +kernel
theorem dX2_digest_113 : decode cX2_digest 113 = .ok (.iload 5, 2) := by decide +kernel
theorem dX2_digest_115 : decode cX2_digest 115 = .ok (.daload, 1) := by decide +kernel
theorem dX2_digest_116 : decode cX2_digest 116 = .ok (.invokestatic 164, 3) := by decide +kernel
theorem dX2_digest_119 : decode cX2_digest 119 = .ok (.invokestatic 160, 3) := by decide +kernel
theorem dX2_digest_122 : decode cX2_digest 122 = .ok (.lstore_n 3, 1) := by decide +kernel
theorem dX2_digest_123 : decode cX2_digest 123 = .ok (.iinc 5 1, 3) := by decide +kernel
theorem dX2_digest_126 : decode cX2_digest 126 = .ok (.goto (-92), 3) := by decide +kernel
theorem dX2_digest_129 : decode cX2_digest 129 = .ok (.lload_n 3, 1) := by decide +kernel
theorem dX2_digest_130 : decode cX2_digest 130 = .ok (.lload_n 1, 1) := by decide +kernel
theorem dX2_digest_131 : decode cX2_digest 131 = .ok (.invokestatic 160, 3) := by decide +kernel
theorem dX2_digest_134 : decode cX2_digest 134 = .ok (.lstore_n 3, 1) := by decide +kernel
theorem dX2_digest_135 : decode cX2_digest 135 = .ok (.lload_n 1, 1) := by decide +kernel
theorem dX2_digest_136 : decode cX2_digest 136 = .ok (.lconst 0, 1) := by decide +kernel
theorem dX2_digest_137 : decode cX2_digest 137 = .ok (.lcmp, 1) := by decide +kernel
theorem dX2_digest_138 : decode cX2_digest 138 = .ok (.ifCond .eq 9, 3) := by decide +kernel
theorem dX2_digest_141 : decode cX2_digest 141 = .ok (.aload_n 0, 1) := by decide +kernel
theorem dX2_digest_142 : decode cX2_digest 142 = .ok (.lload_n 3, 1) := by decide +kernel
theorem dX2_digest_143 : decode cX2_digest 143 = .ok (.invokevirtual 168, 3) := by decide +kernel
theorem dX2_digest_146 : decode cX2_digest 146 = .ok (.lstore_n 3, 1) := by decide +kernel
theorem dX2_digest_147 : decode cX2_digest 147 = .ok (.lload_n 3, 1) := by decide +kernel
theorem dX2_digest_148 : decode cX2_digest 148 = .ok (.aload_n 0, 1) := by decide +kernel
theorem dX2_digest_149 : decode cX2_digest 149 = .ok (.getfield 20, 3) := by decide +kernel
theorem dX2_digest_152 : decode cX2_digest 152 = .ok (.i2l, 1) := by decide +kernel
theorem dX2_digest_153 : decode cX2_digest 153 = .ok (.invokestatic 160, 3) := by decide +kernel
theorem dX2_digest_156 : decode cX2_digest 156 = .ok (.lreturn, 1) := by decide +kernel
theorem dX2_requireLink_0 : decode cX2_requireLink 0 = .ok (.iload_n 0, 1) := by decide +kernel
theorem dX2_requireLink_1 : decode cX2_requireLink 1 = .ok (.ifCond .lt 9, 3) := by decide +kernel
theorem dX2_requireLink_4 : decode cX2_requireLink 4 = .ok (.iload_n 0, 1) := by decide +kernel
theorem dX2_requireLink_5 : decode cX2_requireLink 5 = .ok (.bipush 24, 2) := by decide +kernel
theorem dX2_requireLink_7 : decode cX2_requireLink 7 = .ok (.if_icmp .lt 13, 3) := by decide +kernel
theorem dX2_requireLink_10 : decode cX2_requireLink 10 = .ok (.new 172, 3) := by decide +kernel
theorem dX2_requireLink_13 : decode cX2_requireLink 13 = .ok (.dup, 1) := by decide +kernel
theorem dX2_requireLink_14 : decode cX2_requireLink 14 = .ok (.ldc 174, 2) := by decide +kernel
theorem dX2_requireLink_16 : decode cX2_requireLink 16 = .ok (.invokespecial 176, 3) := by decide +kernel
theorem dX2_requireLink_19 : decode cX2_requireLink 19 = .ok (.athrow, 1) := by decide +kernel
theorem dX2_requireLink_20 : decode cX2_requireLink 20 = .ok (.return_, 1) := by decide +kernel
theorem dX2_requirePoint_0 : decode cX2_requirePoint 0 = .ok (.iload_n 0, 1) := by decide +kernel
theorem dX2_requirePoint_1 : decode cX2_requirePoint 1 = .ok (.ifCond .lt 9, 3) := by decide +kernel
theorem dX2_requirePoint_4 : decode cX2_requirePoint 4 = .ok (.iload_n 0, 1) := by decide +kernel
theorem dX2_requirePoint_5 : decode cX2_requirePoint 5 = .ok (.bipush 12, 2) := by decide +kernel
theorem dX2_requirePoint_7 : decode cX2_requirePoint 7 = .ok (.if_icmp .lt 13, 3) := by decide +kernel
theorem dX2_requirePoint_10 : decode cX2_requirePoint 10 = .ok (.new 172, 3) := by decide +kernel
theorem dX2_requirePoint_13 : decode cX2_requirePoint 13 = .ok (.dup, 1) := by decide +kernel
theorem dX2_requirePoint_14 : decode cX2_requirePoint 14 = .ok (.ldc 179, 2) := by decide +kernel
theorem dX2_requirePoint_16 : decode cX2_requirePoint 16 = .ok (.invokespecial 176, 3) := by decide +kernel
theorem dX2_requirePoint_19 : decode cX2_requirePoint 19 = .ok (.athrow, 1) := by decide +kernel
theorem dX2_requirePoint_20 : decode cX2_requirePoint 20 = .ok (.return_, 1) := by decide +kernel
theorem dX2_requireCell_0 : decode cX2_requireCell 0 = .ok (.iload_n 0, 1) := by decide +kernel
theorem dX2_requireCell_1 : decode cX2_requireCell 1 = .ok (.ifCond .lt 9, 3) := by decide +kernel
theorem dX2_requireCell_4 : decode cX2_requireCell 4 = .ok (.iload_n 0, 1) := by decide +kernel
theorem dX2_requireCell_5 : decode cX2_requireCell 5 = .ok (.bipush 9, 2) := by decide +kernel
theorem dX2_requireCell_7 : decode cX2_requireCell 7 = .ok (.if_icmp .lt 13, 3) := by decide +kernel
theorem dX2_requireCell_10 : decode cX2_requireCell 10 = .ok (.new 172, 3) := by decide +kernel
theorem dX2_requireCell_13 : decode cX2_requireCell 13 = .ok (.dup, 1) := by decide +kernel
theorem dX2_requireCell_14 : decode cX2_requireCell 14 = .ok (.ldc 181, 2) := by decide +kernel
theorem dX2_requireCell_16 : decode cX2_requireCell 16 = .ok (.invokespecial 176, 3) := by decide +kernel
theorem dX2_requireCell_19 : decode cX2_requireCell 19 = .ok (.athrow, 1) := by decide +kernel
theorem dX2_requireCell_20 : decode cX2_requireCell 20 = .ok (.return_, 1) := by decide +kernel
theorem dX2_requireSide_0 : decode cX2_requireSide 0 = .ok (.iload_n 0, 1) := by decide +kernel
theorem dX2_requireSide_1 : decode cX2_requireSide 1 = .ok (.ifCond .lt 8, 3) := by decide +kernel
theorem dX2_requireSide_4 : decode cX2_requireSide 4 = .ok (.iload_n 0, 1) := by decide +kernel
theorem dX2_requireSide_5 : decode cX2_requireSide 5 = .ok (.iconst 4, 1) := by decide +kernel
theorem dX2_requireSide_6 : decode cX2_requireSide 6 = .ok (.if_icmp .lt 13, 3) := by decide +kernel
theorem dX2_requireSide_9 : decode cX2_requireSide 9 = .ok (.new 172, 3) := by decide +kernel
theorem dX2_requireSide_12 : decode cX2_requireSide 12 = .ok (.dup, 1) := by decide +kernel
theorem dX2_requireSide_13 : decode cX2_requireSide 13 = .ok (.ldc 183, 2) := by decide +kernel
theorem dX2_requireSide_15 : decode cX2_requireSide 15 = .ok (.invokespecial 176, 3) := by decide +kernel
theorem dX2_requireSide_18 : decode cX2_requireSide 18 = .ok (.athrow, 1) := by decide +kernel
theorem dX2_requireSide_19 : decode cX2_requireSide 19 = .ok (.return_, 1) := by decide +kernel
theorem dX2_requireRange_0 : decode cX2_requireRange 0 = .ok (.iload_n 0, 1) := by decide +kernel
theorem dX2_requireRange_1 : decode cX2_requireRange 1 = .ok (.ifCond .lt 8, 3) := by decide +kernel
theorem dX2_requireRange_4 : decode cX2_requireRange 4 = .ok (.iload_n 0, 1) := by decide +kernel
theorem dX2_requireRange_5 : decode cX2_requireRange 5 = .ok (.iload_n 1, 1) := by decide +kernel
theorem dX2_requireRange_6 : decode cX2_requireRange 6 = .ok (.if_icmp .le 13, 3) := by decide +kernel
theorem dX2_requireRange_9 : decode cX2_requireRange 9 = .ok (.new 185, 3) := by decide +kernel
theorem dX2_requireRange_12 : decode cX2_requireRange 12 = .ok (.dup, 1) := by decide +kernel
theorem dX2_requireRange_13 : decode cX2_requireRange 13 = .ok (.ldc 187, 2) := by decide +kernel
theorem dX2_requireRange_15 : decode cX2_requireRange 15 = .ok (.invokespecial 189, 3) := by decide +kernel
theorem dX2_requireRange_18 : decode cX2_requireRange 18 = .ok (.athrow, 1) := by decide +kernel
theorem dX2_requireRange_19 : decode cX2_requireRange 19 = .ok (.return_, 1) := by decide +kernel
theorem dX2_requirePart_0 : decode cX2_requirePart 0 = .ok (.iload_n 0, 1) := by decide +kernel
theorem dX2_requirePart_1 : decode cX2_requirePart 1 = .ok (.ifCond .eq 18, 3) := by decide +kernel
theorem dX2_requirePart_4 : decode cX2_requirePart 4 = .ok (.iload_n 0, 1) := by decide +kernel
theorem dX2_requirePart_5 : decode cX2_requirePart 5 = .ok (.iconst 1, 1) := by decide +kernel
theorem dX2_requirePart_6 : decode cX2_requirePart 6 = .ok (.if_icmp .eq 13, 3) := by decide +kernel
theorem dX2_requirePart_9 : decode cX2_requirePart 9 = .ok (.new 185, 3) := by decide +kernel
theorem dX2_requirePart_12 : decode cX2_requirePart 12 = .ok (.dup, 1) := by decide +kernel
theorem dX2_requirePart_13 : decode cX2_requirePart 13 = .ok (.ldc 190, 2) := by decide +kernel
theorem dX2_requirePart_15 : decode cX2_requirePart 15 = .ok (.invokespecial 189, 3) := by decide +kernel
theorem dX2_requirePart_18 : decode cX2_requirePart 18 = .ok (.athrow, 1) := by decide +kernel
theorem dX2_requirePart_19 : decode cX2_requirePart 19 = .ok (.return_, 1) := by decide +kernel
theorem dX2_requireCellSet_0 : decode cX2_requireCellSet 0 = .ok (.iload_n 0, 1) := by decide +kernel
theorem dX2_requireCellSet_1 : decode cX2_requireCellSet 1 = .ok (.ifCond .le 10, 3) := by decide +kernel
theorem dX2_requireCellSet_4 : decode cX2_requireCellSet 4 = .ok (.iload_n 0, 1) := by decide +kernel
theorem dX2_requireCellSet_5 : decode cX2_requireCellSet 5 = .ok (.sipush 512, 3) := by decide +kernel
theorem dX2_requireCellSet_8 : decode cX2_requireCellSet 8 = .ok (.if_icmp .lt 13, 3) := by decide +kernel
theorem dX2_requireCellSet_11 : decode cX2_requireCellSet 11 = .ok (.new 185, 3) := by decide +kernel
theorem dX2_requireCellSet_14 : decode cX2_requireCellSet 14 = .ok (.dup, 1) := by decide +kernel
theorem dX2_requireCellSet_15 : decode cX2_requireCellSet 15 = .ok (.ldc 192, 2) := by decide +kernel
theorem dX2_requireCellSet_17 : decode cX2_requireCellSet 17 = .ok (.invokespecial 189, 3) := by decide +kernel
theorem dX2_requireCellSet_20 : decode cX2_requireCellSet 20 = .ok (.athrow, 1) := by decide +kernel
theorem dX2_requireCellSet_21 : decode cX2_requireCellSet 21 = .ok (.return_, 1) := by decide +kernel
theorem dX2_requireDifferent_0 : decode cX2_requireDifferent 0 = .ok (.iload_n 0, 1) := by decide +kernel
theorem dX2_requireDifferent_1 : decode cX2_requireDifferent 1 = .ok (.iload_n 1, 1) := by decide +kernel
theorem dX2_requireDifferent_2 : decode cX2_requireDifferent 2 = .ok (.if_icmp .ne 13, 3) := by decide +kernel
theorem dX2_requireDifferent_5 : decode cX2_requireDifferent 5 = .ok (.new 185, 3) := by decide +kernel
theorem dX2_requireDifferent_8 : decode cX2_requireDifferent 8 = .ok (.dup, 1) := by decide +kernel
theorem dX2_requireDifferent_9 : decode cX2_requireDifferent 9 = .ok (.ldc 194, 2) := by decide +kernel
theorem dX2_requireDifferent_11 : decode cX2_requireDifferent 11 = .ok (.invokespecial 189, 3) := by decide +kernel
theorem dX2_requireDifferent_14 : decode cX2_requireDifferent 14 = .ok (.athrow, 1) := by decide +kernel
theorem dX2_requireDifferent_15 : decode cX2_requireDifferent 15 = .ok (.return_, 1) := by decide +kernel
set_option maxRecDepth 20000 in
theorem ggX2_requireExactHeads_X2_commonDenominator : GoodIn wsX2_requireExactHeads wsX2_commonDenominator := goodIn_ca (goodIn_ca (goodIn_r _ [7, 8, 9, 10, 11, 12, 13, 14, 15, 16, 17, 18, 19, 20, 21, 22, 23, 24, 25, 26, 27, 28, 29, 30, 31, 32, 33, 34, 35, 36, 37, 38, 39, 40, 41, 42, 43, 44, 45, 46, 47, 48, 49, 50, 51, 52, 53, 54, 55, 56, 57, 58, 59, 60, 61, 62, 63, 64, 65, 66, 67, 68, 69, 70, 71, 72, 73, 74, 75, 76, 77, 78] (by decide +kernel) (by decide +kernel)) (goodIn_sub (fun _ h => List.mem_cons_of_mem _ (List.mem_append_left _ (List.mem_append_right _ h))) (by decide +kernel))) (goodIn_sub (fun _ h => List.mem_cons_of_mem _ (List.mem_append_right _ h)) (by decide +kernel))
set_option maxRecDepth 20000 in
theorem gX2_requireExactHeads_X2_commonDenominator : GoodIn wsX2_requireExactHeads (wsV RX2 82 RX2 yX2_commonDenominator wsX2_commonDenominator) := goodIn_app (goodIn_of _ (by decide +kernel)) ggX2_requireExactHeads_X2_commonDenominator
theorem dX2_requireExactHeads_0 : decode cX2_requireExactHeads 0 = .ok (.aload_n 0, 1) := by decide +kernel
theorem dX2_requireExactHeads_1 : decode cX2_requireExactHeads 1 = .ok (.invokevirtual 82, 3) := by decide +kernel
theorem dX2_requireExactHeads_4 : decode cX2_requireExactHeads 4 = .ok (.lconst 0, 1) := by decide +kernel
theorem dX2_requireExactHeads_5 : decode cX2_requireExactHeads 5 = .ok (.lcmp, 1) := by decide +kernel
theorem dX2_requireExactHeads_6 : decode cX2_requireExactHeads 6 = .ok (.ifCond .ne 13, 3) := by decide +kernel
theorem dX2_requireExactHeads_9 : decode cX2_requireExactHeads 9 = .ok (.new 196, 3) := by decide +kernel
theorem dX2_requireExactHeads_12 : decode cX2_requireExactHeads 12 = .ok (.dup, 1) := by decide +kernel
theorem dX2_requireExactHeads_13 : decode cX2_requireExactHeads 13 = .ok (.ldc 198, 2) := by decide +kernel
theorem dX2_requireExactHeads_15 : decode cX2_requireExactHeads 15 = .ok (.invokespecial 200, 3) := by decide +kernel
theorem dX2_requireExactHeads_18 : decode cX2_requireExactHeads 18 = .ok (.athrow, 1) := by decide +kernel
theorem dX2_requireExactHeads_19 : decode cX2_requireExactHeads 19 = .ok (.return_, 1) := by decide +kernel
theorem dX2_requireSavedState_0 : decode cX2_requireSavedState 0 = .ok (.aload_n 0, 1) := by decide +kernel
theorem dX2_requireSavedState_1 : decode cX2_requireSavedState 1 = .ok (.getfield 20, 3) := by decide +kernel
theorem dX2_requireSavedState_4 : decode cX2_requireSavedState 4 = .ok (.ifCond .ne 13, 3) := by decide +kernel
theorem dX2_requireSavedState_7 : decode cX2_requireSavedState 7 = .ok (.new 201, 3) := by decide +kernel
theorem dX2_requireSavedState_10 : decode cX2_requireSavedState 10 = .ok (.dup, 1) := by decide +kernel
theorem dX2_requireSavedState_11 : decode cX2_requireSavedState 11 = .ok (.ldc 203, 2) := by decide +kernel
theorem dX2_requireSavedState_13 : decode cX2_requireSavedState 13 = .ok (.invokespecial 205, 3) := by decide +kernel
theorem dX2_requireSavedState_16 : decode cX2_requireSavedState 16 = .ok (.athrow, 1) := by decide +kernel
theorem dX2_requireSavedState_17 : decode cX2_requireSavedState 17 = .ok (.return_, 1) := by decide +kernel
set_option maxRecDepth 20000 in
theorem ggX2_saveNow_X2_dropOldest : GoodIn wsX2_saveNow wsX2_dropOldest := goodIn_r _ [9, 2, 1, 26, 27, 28, 29, 30, 31, 32] (by decide +kernel) (by decide +kernel)
set_option maxRecDepth 20000 in
theorem gX2_saveNow_X2_dropOldest : GoodIn wsX2_saveNow (wsV RX2 206 RX2 yX2_dropOldest wsX2_dropOldest) := goodIn_app (goodIn_of _ (by decide +kernel)) ggX2_saveNow_X2_dropOldest
set_option maxRecDepth 20000 in
theorem ggX2_saveNow_X1_copyFrom : GoodIn wsX2_saveNow wsX1_copyFrom := goodIn_r _ [14, 15, 16, 17, 18, 19, 20, 21, 22, 23, 24, 25, 33, 34, 35, 36, 37, 38, 39] (by decide +kernel) (by decide +kernel)
set_option maxRecDepth 20000 in
theorem gX2_saveNow_X1_copyFrom : GoodIn wsX2_saveNow (wsV RX2 150 RX1 yX1_copyFrom wsX1_copyFrom) := goodIn_app (goodIn_of _ (by decide +kernel)) ggX2_saveNow_X1_copyFrom
theorem dX2_saveNow_0 : decode cX2_saveNow 0 = .ok (.aload_n 0, 1) := by decide +kernel
theorem dX2_saveNow_1 : decode cX2_saveNow 1 = .ok (.getfield 20, 3) := by decide +kernel
theorem dX2_saveNow_4 : decode cX2_saveNow 4 = .ok (.iconst 4, 1) := by decide +kernel
theorem dX2_saveNow_5 : decode cX2_saveNow 5 = .ok (.if_icmp .ne 7, 3) := by decide +kernel
theorem dX2_saveNow_8 : decode cX2_saveNow 8 = .ok (.aload_n 0, 1) := by decide +kernel
theorem dX2_saveNow_9 : decode cX2_saveNow 9 = .ok (.invokevirtual 206, 3) := by decide +kernel
theorem dX2_saveNow_12 : decode cX2_saveNow 12 = .ok (.aload_n 0, 1) := by decide +kernel
theorem dX2_saveNow_13 : decode cX2_saveNow 13 = .ok (.getfield 16, 3) := by decide +kernel
theorem dX2_saveNow_16 : decode cX2_saveNow 16 = .ok (.aload_n 0, 1) := by decide +kernel
theorem dX2_saveNow_17 : decode cX2_saveNow 17 = .ok (.getfield 20, 3) := by decide +kernel
theorem dX2_saveNow_20 : decode cX2_saveNow 20 = .ok (.aaload, 1) := by decide +kernel
theorem dX2_saveNow_21 : decode cX2_saveNow 21 = .ok (.aload_n 0, 1) := by decide +kernel
theorem dX2_saveNow_22 : decode cX2_saveNow 22 = .ok (.getfield 10, 3) := by decide +kernel
theorem dX2_saveNow_25 : decode cX2_saveNow 25 = .ok (.invokevirtual 150, 3) := by decide +kernel
theorem dX2_saveNow_28 : decode cX2_saveNow 28 = .ok (.aload_n 0, 1) := by decide +kernel
theorem dX2_saveNow_29 : decode cX2_saveNow 29 = .ok (.dup, 1) := by decide +kernel
theorem dX2_saveNow_30 : decode cX2_saveNow 30 = .ok (.getfield 20, 3) := by decide +kernel
theorem dX2_saveNow_33 : decode cX2_saveNow 33 = .ok (.iconst 1, 1) := by decide +kernel
theorem dX2_saveNow_34 : decode cX2_saveNow 34 = .ok (.iadd, 1) := by decide +kernel
theorem dX2_saveNow_35 : decode cX2_saveNow 35 = .ok (.putfield 20, 3) := by decide +kernel
theorem dX2_saveNow_38 : decode cX2_saveNow 38 = .ok (.aload_n 0, 1) := by decide +kernel
theorem dX2_saveNow_39 : decode cX2_saveNow 39 = .ok (.iconst 0, 1) := by decide +kernel
theorem dX2_saveNow_40 : decode cX2_saveNow 40 = .ok (.putfield 31, 3) := by decide +kernel
theorem dX2_saveNow_43 : decode cX2_saveNow 43 = .ok (.return_, 1) := by decide +kernel
theorem dX2_dropOldest_0 : decode cX2_dropOldest 0 = .ok (.aload_n 0, 1) := by decide +kernel
theorem dX2_dropOldest_1 : decode cX2_dropOldest 1 = .ok (.getfield 16, 3) := by decide +kernel
theorem dX2_dropOldest_4 : decode cX2_dropOldest 4 = .ok (.iconst 0, 1) := by decide +kernel
theorem dX2_dropOldest_5 : decode cX2_dropOldest 5 = .ok (.aaload, 1) := by decide +kernel
theorem dX2_dropOldest_6 : decode cX2_dropOldest 6 = .ok (.astore_n 1, 1) := by decide +kernel
theorem dX2_dropOldest_7 : decode cX2_dropOldest 7 = .ok (.iconst 1, 1) := by decide +kernel
theorem dX2_dropOldest_8 : decode cX2_dropOldest 8 = .ok (.istore_n 2, 1) := by decide +kernel
theorem dX2_dropOldest_9 : decode cX2_dropOldest 9 = .ok (.iload_n 2, 1) := by decide +kernel
theorem dX2_dropOldest_10 : decode cX2_dropOldest 10 = .ok (.iconst 4, 1) := by decide +kernel
theorem dX2_dropOldest_11 : decode cX2_dropOldest 11 = .ok (.if_icmp .ge 23, 3) := by decide +kernel
theorem dX2_dropOldest_14 : decode cX2_dropOldest 14 = .ok (.aload_n 0, 1) := by decide +kernel
theorem dX2_dropOldest_15 : decode cX2_dropOldest 15 = .ok (.getfield 16, 3) := by decide +kernel
theorem dX2_dropOldest_18 : decode cX2_dropOldest 18 = .ok (.iload_n 2, 1) := by decide +kernel
theorem dX2_dropOldest_19 : decode cX2_dropOldest 19 = .ok (.iconst 1, 1) := by decide +kernel
theorem dX2_dropOldest_20 : decode cX2_dropOldest 20 = .ok (.isub, 1) := by decide +kernel
theorem dX2_dropOldest_21 : decode cX2_dropOldest 21 = .ok (.aload_n 0, 1) := by decide +kernel
theorem dX2_dropOldest_22 : decode cX2_dropOldest 22 = .ok (.getfield 16, 3) := by decide +kernel
theorem dX2_dropOldest_25 : decode cX2_dropOldest 25 = .ok (.iload_n 2, 1) := by decide +kernel
theorem dX2_dropOldest_26 : decode cX2_dropOldest 26 = .ok (.aaload, 1) := by decide +kernel
theorem dX2_dropOldest_27 : decode cX2_dropOldest 27 = .ok (.aastore, 1) := by decide +kernel
theorem dX2_dropOldest_28 : decode cX2_dropOldest 28 = .ok (.iinc 2 1, 3) := by decide +kernel
theorem dX2_dropOldest_31 : decode cX2_dropOldest 31 = .ok (.goto (-22), 3) := by decide +kernel
theorem dX2_dropOldest_34 : decode cX2_dropOldest 34 = .ok (.aload_n 0, 1) := by decide +kernel
theorem dX2_dropOldest_35 : decode cX2_dropOldest 35 = .ok (.getfield 16, 3) := by decide +kernel
theorem dX2_dropOldest_38 : decode cX2_dropOldest 38 = .ok (.iconst 3, 1) := by decide +kernel
theorem dX2_dropOldest_39 : decode cX2_dropOldest 39 = .ok (.aload_n 1, 1) := by decide +kernel
theorem dX2_dropOldest_40 : decode cX2_dropOldest 40 = .ok (.aastore, 1) := by decide +kernel
theorem dX2_dropOldest_41 : decode cX2_dropOldest 41 = .ok (.aload_n 0, 1) := by decide +kernel
theorem dX2_dropOldest_42 : decode cX2_dropOldest 42 = .ok (.dup, 1) := by decide +kernel
theorem dX2_dropOldest_43 : decode cX2_dropOldest 43 = .ok (.getfield 20, 3) := by decide +kernel
theorem dX2_dropOldest_46 : decode cX2_dropOldest 46 = .ok (.iconst 1, 1) := by decide +kernel
theorem dX2_dropOldest_47 : decode cX2_dropOldest 47 = .ok (.isub, 1) := by decide +kernel
theorem dX2_dropOldest_48 : decode cX2_dropOldest 48 = .ok (.putfield 20, 3) := by decide +kernel
theorem dX2_dropOldest_51 : decode cX2_dropOldest 51 = .ok (.return_, 1) := by decide +kernel
theorem dX2_exchange_0 : decode cX2_exchange 0 = .ok (.aload_n 0, 1) := by decide +kernel
theorem dX2_exchange_1 : decode cX2_exchange 1 = .ok (.iload_n 1, 1) := by decide +kernel
theorem dX2_exchange_2 : decode cX2_exchange 2 = .ok (.iaload, 1) := by decide +kernel
theorem dX2_exchange_3 : decode cX2_exchange 3 = .ok (.istore_n 3, 1) := by decide +kernel
theorem dX2_exchange_4 : decode cX2_exchange 4 = .ok (.aload_n 0, 1) := by decide +kernel
theorem dX2_exchange_5 : decode cX2_exchange 5 = .ok (.iload_n 1, 1) := by decide +kernel
theorem dX2_exchange_6 : decode cX2_exchange 6 = .ok (.iload_n 2, 1) := by decide +kernel
theorem dX2_exchange_7 : decode cX2_exchange 7 = .ok (.iastore, 1) := by decide +kernel
theorem dX2_exchange_8 : decode cX2_exchange 8 = .ok (.iload_n 3, 1) := by decide +kernel
theorem dX2_exchange_9 : decode cX2_exchange 9 = .ok (.ireturn, 1) := by decide +kernel
set_option maxRecDepth 20000 in
theorem ggX2_commonDenominator_X0_solve : GoodIn wsX2_commonDenominator wsX0_solve := goodIn_ca (goodIn_ca (goodIn_r _ [9, 10, 11, 12, 13, 8, 14, 15, 16, 17, 18, 19, 20, 21, 22, 23, 24, 25, 26, 27, 28, 29, 30, 31, 32, 33, 34, 35, 36, 37, 38, 39, 40, 41, 42, 43, 44, 45, 46, 47, 48, 49, 50, 51, 52, 53, 61, 62, 63, 64, 65, 66, 67, 68, 69, 70, 71] (by decide +kernel) (by decide +kernel)) (goodIn_sub (fun _ h => List.mem_cons_of_mem _ (List.mem_append_left _ (List.mem_append_right _ h))) (by decide +kernel))) (goodIn_sub (fun _ h => List.mem_cons_of_mem _ (List.mem_append_right _ h)) (by decide +kernel))
set_option maxRecDepth 20000 in
theorem gX2_commonDenominator_X0_solve : GoodIn wsX2_commonDenominator (wsV RX2 209 RX0 yX0_solve wsX0_solve) := goodIn_app (goodIn_of _ (by decide +kernel)) ggX2_commonDenominator_X0_solve
theorem dX2_commonDenominator_0 : decode cX2_commonDenominator 0 = .ok (.aload_n 0, 1) := by decide +kernel
theorem dX2_commonDenominator_1 : decode cX2_commonDenominator 1 = .ok (.getfield 31, 3) := by decide +kernel
theorem dX2_commonDenominator_4 : decode cX2_commonDenominator 4 = .ok (.ifCond .ne 19, 3) := by decide +kernel
theorem dX2_commonDenominator_7 : decode cX2_commonDenominator 7 = .ok (.aload_n 0, 1) := by decide +kernel
theorem dX2_commonDenominator_8 : decode cX2_commonDenominator 8 = .ok (.getfield 27, 3) := by decide +kernel
theorem dX2_commonDenominator_11 : decode cX2_commonDenominator 11 = .ok (.aload_n 0, 1) := by decide +kernel
theorem dX2_commonDenominator_12 : decode cX2_commonDenominator 12 = .ok (.getfield 10, 3) := by decide +kernel
theorem dX2_commonDenominator_15 : decode cX2_commonDenominator 15 = .ok (.invokevirtual 209, 3) := by decide +kernel
theorem dX2_commonDenominator_18 : decode cX2_commonDenominator 18 = .ok (.aload_n 0, 1) := by decide +kernel
theorem dX2_commonDenominator_19 : decode cX2_commonDenominator 19 = .ok (.iconst 1, 1) := by decide +kernel
theorem dX2_commonDenominator_20 : decode cX2_commonDenominator 20 = .ok (.putfield 31, 3) := by decide +kernel
theorem dX2_commonDenominator_23 : decode cX2_commonDenominator 23 = .ok (.aload_n 0, 1) := by decide +kernel
theorem dX2_commonDenominator_24 : decode cX2_commonDenominator 24 = .ok (.getfield 27, 3) := by decide +kernel
theorem dX2_commonDenominator_27 : decode cX2_commonDenominator 27 = .ok (.getfield 212, 3) := by decide +kernel
theorem dX2_commonDenominator_30 : decode cX2_commonDenominator 30 = .ok (.lreturn, 1) := by decide +kernel
theorem dX2_scaledHeadOfEnd_0 : decode cX2_scaledHeadOfEnd 0 = .ok (.iload_n 1, 1) := by decide +kernel
theorem dX2_scaledHeadOfEnd_1 : decode cX2_scaledHeadOfEnd 1 = .ok (.bipush 9, 2) := by decide +kernel
theorem dX2_scaledHeadOfEnd_3 : decode cX2_scaledHeadOfEnd 3 = .ok (.if_icmp .ge 13, 3) := by decide +kernel
theorem dX2_scaledHeadOfEnd_6 : decode cX2_scaledHeadOfEnd 6 = .ok (.aload_n 0, 1) := by decide +kernel
theorem dX2_scaledHeadOfEnd_7 : decode cX2_scaledHeadOfEnd 7 = .ok (.getfield 27, 3) := by decide +kernel
theorem dX2_scaledHeadOfEnd_10 : decode cX2_scaledHeadOfEnd 10 = .ok (.getfield 92, 3) := by decide +kernel
theorem dX2_scaledHeadOfEnd_13 : decode cX2_scaledHeadOfEnd 13 = .ok (.iload_n 1, 1) := by decide +kernel
theorem dX2_scaledHeadOfEnd_14 : decode cX2_scaledHeadOfEnd 14 = .ok (.laload, 1) := by decide +kernel
theorem dX2_scaledHeadOfEnd_15 : decode cX2_scaledHeadOfEnd 15 = .ok (.lreturn, 1) := by decide +kernel
theorem dX2_scaledHeadOfEnd_16 : decode cX2_scaledHeadOfEnd 16 = .ok (.aload_n 0, 1) := by decide +kernel
theorem dX2_scaledHeadOfEnd_17 : decode cX2_scaledHeadOfEnd 17 = .ok (.getfield 27, 3) := by decide +kernel
theorem dX2_scaledHeadOfEnd_20 : decode cX2_scaledHeadOfEnd 20 = .ok (.getfield 212, 3) := by decide +kernel
theorem dX2_scaledHeadOfEnd_23 : decode cX2_scaledHeadOfEnd 23 = .ok (.aload_n 0, 1) := by decide +kernel
theorem dX2_scaledHeadOfEnd_24 : decode cX2_scaledHeadOfEnd 24 = .ok (.getfield 10, 3) := by decide +kernel
theorem dX2_scaledHeadOfEnd_27 : decode cX2_scaledHeadOfEnd 27 = .ok (.getfield 64, 3) := by decide +kernel
theorem dX2_scaledHeadOfEnd_30 : decode cX2_scaledHeadOfEnd 30 = .ok (.iload_n 1, 1) := by decide +kernel
theorem dX2_scaledHeadOfEnd_31 : decode cX2_scaledHeadOfEnd 31 = .ok (.bipush 9, 2) := by decide +kernel
theorem dX2_scaledHeadOfEnd_33 : decode cX2_scaledHeadOfEnd 33 = .ok (.isub, 1) := by decide +kernel
theorem dX2_scaledHeadOfEnd_34 : decode cX2_scaledHeadOfEnd 34 = .ok (.iaload, 1) := by decide +kernel
theorem dX2_scaledHeadOfEnd_35 : decode cX2_scaledHeadOfEnd 35 = .ok (.i2l, 1) := by decide +kernel
theorem dX2_scaledHeadOfEnd_36 : decode cX2_scaledHeadOfEnd 36 = .ok (.lmul, 1) := by decide +kernel
theorem dX2_scaledHeadOfEnd_37 : decode cX2_scaledHeadOfEnd 37 = .ok (.lreturn, 1) := by decide +kernel
set_option maxRecDepth 20000 in
theorem ggX2_scaledFlow_X2_scaledHeadOfEnd : GoodIn wsX2_scaledFlow wsX2_scaledHeadOfEnd := goodIn_ca (goodIn_r _ [9, 10, 11, 12, 3, 13, 14, 15, 16, 17, 18, 19, 20, 28, 29, 30, 31, 21, 22, 23, 24, 25, 26, 27] (by decide +kernel) (by decide +kernel)) (goodIn_sub (fun _ h => List.mem_cons_of_mem _ (List.mem_append_right _ h)) (by decide +kernel))
set_option maxRecDepth 20000 in
theorem gX2_scaledFlow_X2_scaledHeadOfEnd : GoodIn wsX2_scaledFlow (wsV RX2 219 RX2 yX2_scaledHeadOfEnd wsX2_scaledHeadOfEnd) := goodIn_app (goodIn_of _ (by decide +kernel)) ggX2_scaledFlow_X2_scaledHeadOfEnd
theorem dX2_scaledFlow_0 : decode cX2_scaledFlow 0 = .ok (.aload_n 0, 1) := by decide +kernel
theorem dX2_scaledFlow_1 : decode cX2_scaledFlow 1 = .ok (.getstatic 216, 3) := by decide +kernel
theorem dX2_scaledFlow_4 : decode cX2_scaledFlow 4 = .ok (.iload_n 1, 1) := by decide +kernel
theorem dX2_scaledFlow_5 : decode cX2_scaledFlow 5 = .ok (.iaload, 1) := by decide +kernel
theorem dX2_scaledFlow_6 : decode cX2_scaledFlow 6 = .ok (.invokevirtual 219, 3) := by decide +kernel
theorem dX2_scaledFlow_9 : decode cX2_scaledFlow 9 = .ok (.aload_n 0, 1) := by decide +kernel
theorem dX2_scaledFlow_10 : decode cX2_scaledFlow 10 = .ok (.getstatic 222, 3) := by decide +kernel
theorem dX2_scaledFlow_13 : decode cX2_scaledFlow 13 = .ok (.iload_n 1, 1) := by decide +kernel
theorem dX2_scaledFlow_14 : decode cX2_scaledFlow 14 = .ok (.iaload, 1) := by decide +kernel
theorem dX2_scaledFlow_15 : decode cX2_scaledFlow 15 = .ok (.invokevirtual 219, 3) := by decide +kernel
theorem dX2_scaledFlow_18 : decode cX2_scaledFlow 18 = .ok (.lsub, 1) := by decide +kernel
theorem dX2_scaledFlow_19 : decode cX2_scaledFlow 19 = .ok (.lstore_n 2, 1) := by decide +kernel
theorem dX2_scaledFlow_20 : decode cX2_scaledFlow 20 = .ok (.aload_n 0, 1) := by decide +kernel
theorem dX2_scaledFlow_21 : decode cX2_scaledFlow 21 = .ok (.getfield 10, 3) := by decide +kernel
theorem dX2_scaledFlow_24 : decode cX2_scaledFlow 24 = .ok (.getfield 53, 3) := by decide +kernel
theorem dX2_scaledFlow_27 : decode cX2_scaledFlow 27 = .ok (.iload_n 1, 1) := by decide +kernel
theorem dX2_scaledFlow_28 : decode cX2_scaledFlow 28 = .ok (.iaload, 1) := by decide +kernel
theorem dX2_scaledFlow_29 : decode cX2_scaledFlow 29 = .ok (.i2l, 1) := by decide +kernel
theorem dX2_scaledFlow_30 : decode cX2_scaledFlow 30 = .ok (.lload_n 2, 1) := by decide +kernel
theorem dX2_scaledFlow_31 : decode cX2_scaledFlow 31 = .ok (.lmul, 1) := by decide +kernel
theorem dX2_scaledFlow_32 : decode cX2_scaledFlow 32 = .ok (.lreturn, 1) := by decide +kernel
set_option maxRecDepth 20000 in
theorem ggX2_scaledInflow_X2_scaledFlow : GoodIn wsX2_scaledInflow wsX2_scaledFlow := goodIn_ca (goodIn_r _ [5, 6, 7, 8, 9, 10, 11, 12, 4, 13, 14, 15, 16, 17, 18, 19, 20, 21, 22, 23, 24, 25, 26, 27, 28, 29, 30, 31, 32, 33, 34, 35] (by decide +kernel) (by decide +kernel)) (goodIn_sub (fun _ h => List.mem_cons_of_mem _ (List.mem_append_right _ h)) (by decide +kernel))
set_option maxRecDepth 20000 in
theorem gX2_scaledInflow_X2_scaledFlow : GoodIn wsX2_scaledInflow (wsV RX2 99 RX2 yX2_scaledFlow wsX2_scaledFlow) := goodIn_app (goodIn_of _ (by decide +kernel)) ggX2_scaledInflow_X2_scaledFlow
theorem dX2_scaledInflow_0 : decode cX2_scaledInflow 0 = .ok (.iload_n 1, 1) := by decide +kernel
theorem dX2_scaledInflow_1 : decode cX2_scaledInflow 1 = .ok (.ifCond .eq 8, 3) := by decide +kernel
theorem dX2_scaledInflow_4 : decode cX2_scaledInflow 4 = .ok (.iload_n 1, 1) := by decide +kernel
theorem dX2_scaledInflow_5 : decode cX2_scaledInflow 5 = .ok (.iconst 2, 1) := by decide +kernel
theorem dX2_scaledInflow_6 : decode cX2_scaledInflow 6 = .ok (.if_icmp .ne 7, 3) := by decide +kernel
theorem dX2_scaledInflow_9 : decode cX2_scaledInflow 9 = .ok (.iconst 1, 1) := by decide +kernel
theorem dX2_scaledInflow_10 : decode cX2_scaledInflow 10 = .ok (.goto 4, 3) := by decide +kernel
theorem dX2_scaledInflow_13 : decode cX2_scaledInflow 13 = .ok (.iconst 0, 1) := by decide +kernel
theorem dX2_scaledInflow_14 : decode cX2_scaledInflow 14 = .ok (.istore_n 2, 1) := by decide +kernel
theorem dX2_scaledInflow_15 : decode cX2_scaledInflow 15 = .ok (.iload_n 1, 1) := by decide +kernel
theorem dX2_scaledInflow_16 : decode cX2_scaledInflow 16 = .ok (.iconst 1, 1) := by decide +kernel
theorem dX2_scaledInflow_17 : decode cX2_scaledInflow 17 = .ok (.if_icmp .eq 8, 3) := by decide +kernel
theorem dX2_scaledInflow_20 : decode cX2_scaledInflow 20 = .ok (.iload_n 1, 1) := by decide +kernel
theorem dX2_scaledInflow_21 : decode cX2_scaledInflow 21 = .ok (.iconst 2, 1) := by decide +kernel
theorem dX2_scaledInflow_22 : decode cX2_scaledInflow 22 = .ok (.if_icmp .ne 7, 3) := by decide +kernel
theorem dX2_scaledInflow_25 : decode cX2_scaledInflow 25 = .ok (.iconst 1, 1) := by decide +kernel
theorem dX2_scaledInflow_26 : decode cX2_scaledInflow 26 = .ok (.goto 4, 3) := by decide +kernel
theorem dX2_scaledInflow_29 : decode cX2_scaledInflow 29 = .ok (.iconst 0, 1) := by decide +kernel
theorem dX2_scaledInflow_30 : decode cX2_scaledInflow 30 = .ok (.istore_n 3, 1) := by decide +kernel
theorem dX2_scaledInflow_31 : decode cX2_scaledInflow 31 = .ok (.iload_n 2, 1) := by decide +kernel
theorem dX2_scaledInflow_32 : decode cX2_scaledInflow 32 = .ok (.ifCond .eq 8, 3) := by decide +kernel
theorem dX2_scaledInflow_35 : decode cX2_scaledInflow 35 = .ok (.bipush 12, 2) := by decide +kernel
theorem dX2_scaledInflow_37 : decode cX2_scaledInflow 37 = .ok (.goto 4, 3) := by decide +kernel
theorem dX2_scaledInflow_40 : decode cX2_scaledInflow 40 = .ok (.iconst 0, 1) := by decide +kernel
theorem dX2_scaledInflow_41 : decode cX2_scaledInflow 41 = .ok (.iload_n 3, 1) := by decide +kernel
theorem dX2_scaledInflow_42 : decode cX2_scaledInflow 42 = .ok (.ifCond .eq 7, 3) := by decide +kernel
theorem dX2_scaledInflow_45 : decode cX2_scaledInflow 45 = .ok (.iconst 3, 1) := by decide +kernel
theorem dX2_scaledInflow_46 : decode cX2_scaledInflow 46 = .ok (.goto 4, 3) := by decide +kernel
theorem dX2_scaledInflow_49 : decode cX2_scaledInflow 49 = .ok (.iconst 0, 1) := by decide +kernel
theorem dX2_scaledInflow_50 : decode cX2_scaledInflow 50 = .ok (.iadd, 1) := by decide +kernel
theorem dX2_scaledInflow_51 : decode cX2_scaledInflow 51 = .ok (.istore 4, 2) := by decide +kernel
theorem dX2_scaledInflow_53 : decode cX2_scaledInflow 53 = .ok (.lconst 0, 1) := by decide +kernel
theorem dX2_scaledInflow_54 : decode cX2_scaledInflow 54 = .ok (.lstore 5, 2) := by decide +kernel
theorem dX2_scaledInflow_56 : decode cX2_scaledInflow 56 = .ok (.iconst 0, 1) := by decide +kernel
theorem dX2_scaledInflow_57 : decode cX2_scaledInflow 57 = .ok (.istore 7, 2) := by decide +kernel
theorem dX2_scaledInflow_59 : decode cX2_scaledInflow 59 = .ok (.iload 7, 2) := by decide +kernel
theorem dX2_scaledInflow_61 : decode cX2_scaledInflow 61 = .ok (.iconst 3, 1) := by decide +kernel
theorem dX2_scaledInflow_62 : decode cX2_scaledInflow 62 = .ok (.if_icmp .ge 25, 3) := by decide +kernel
theorem dX2_scaledInflow_65 : decode cX2_scaledInflow 65 = .ok (.lload 5, 2) := by decide +kernel
theorem dX2_scaledInflow_67 : decode cX2_scaledInflow 67 = .ok (.aload_n 0, 1) := by decide +kernel
theorem dX2_scaledInflow_68 : decode cX2_scaledInflow 68 = .ok (.iload 4, 2) := by decide +kernel
theorem dX2_scaledInflow_70 : decode cX2_scaledInflow 70 = .ok (.iconst 4, 1) := by decide +kernel
theorem dX2_scaledInflow_71 : decode cX2_scaledInflow 71 = .ok (.iload 7, 2) := by decide +kernel
theorem dX2_scaledInflow_73 : decode cX2_scaledInflow 73 = .ok (.imul, 1) := by decide +kernel
theorem dX2_scaledInflow_74 : decode cX2_scaledInflow 74 = .ok (.iadd, 1) := by decide +kernel
theorem dX2_scaledInflow_75 : decode cX2_scaledInflow 75 = .ok (.invokevirtual 99, 3) := by decide +kernel
theorem dX2_scaledInflow_78 : decode cX2_scaledInflow 78 = .ok (.ladd, 1) := by decide +kernel
theorem dX2_scaledInflow_79 : decode cX2_scaledInflow 79 = .ok (.lstore 5, 2) := by decide +kernel
theorem dX2_scaledInflow_81 : decode cX2_scaledInflow 81 = .ok (.iinc 7 1, 3) := by decide +kernel
theorem dX2_scaledInflow_84 : decode cX2_scaledInflow 84 = .ok (.goto (-25), 3) := by decide +kernel
theorem dX2_scaledInflow_87 : decode cX2_scaledInflow 87 = .ok (.iload_n 3, 1) := by decide +kernel
theorem dX2_scaledInflow_88 : decode cX2_scaledInflow 88 = .ok (.ifCond .eq 9, 3) := by decide +kernel
theorem dX2_scaledInflow_91 : decode cX2_scaledInflow 91 = .ok (.lload 5, 2) := by decide +kernel
theorem dX2_scaledInflow_93 : decode cX2_scaledInflow 93 = .ok (.lneg, 1) := by decide +kernel
theorem dX2_scaledInflow_94 : decode cX2_scaledInflow 94 = .ok (.goto 5, 3) := by decide +kernel
theorem dX2_scaledInflow_97 : decode cX2_scaledInflow 97 = .ok (.lload 5, 2) := by decide +kernel
theorem dX2_scaledInflow_99 : decode cX2_scaledInflow 99 = .ok (.lreturn, 1) := by decide +kernel
theorem dX2_cellsBelow_0 : decode cX2_cellsBelow 0 = .ok (.iconst 0, 1) := by decide +kernel
theorem dX2_cellsBelow_1 : decode cX2_cellsBelow 1 = .ok (.istore_n 2, 1) := by decide +kernel
theorem dX2_cellsBelow_2 : decode cX2_cellsBelow 2 = .ok (.iconst 0, 1) := by decide +kernel
theorem dX2_cellsBelow_3 : decode cX2_cellsBelow 3 = .ok (.istore_n 3, 1) := by decide +kernel
theorem dX2_cellsBelow_4 : decode cX2_cellsBelow 4 = .ok (.iload_n 3, 1) := by decide +kernel
theorem dX2_cellsBelow_5 : decode cX2_cellsBelow 5 = .ok (.bipush 9, 2) := by decide +kernel
theorem dX2_cellsBelow_7 : decode cX2_cellsBelow 7 = .ok (.if_icmp .ge 40, 3) := by decide +kernel
theorem dX2_cellsBelow_10 : decode cX2_cellsBelow 10 = .ok (.aload_n 0, 1) := by decide +kernel
theorem dX2_cellsBelow_11 : decode cX2_cellsBelow 11 = .ok (.getfield 27, 3) := by decide +kernel
theorem dX2_cellsBelow_14 : decode cX2_cellsBelow 14 = .ok (.getfield 92, 3) := by decide +kernel
theorem dX2_cellsBelow_17 : decode cX2_cellsBelow 17 = .ok (.iload_n 3, 1) := by decide +kernel
theorem dX2_cellsBelow_18 : decode cX2_cellsBelow 18 = .ok (.laload, 1) := by decide +kernel
theorem dX2_cellsBelow_19 : decode cX2_cellsBelow 19 = .ok (.aload_n 0, 1) := by decide +kernel
theorem dX2_cellsBelow_20 : decode cX2_cellsBelow 20 = .ok (.getfield 27, 3) := by decide +kernel
theorem dX2_cellsBelow_23 : decode cX2_cellsBelow 23 = .ok (.getfield 212, 3) := by decide +kernel
theorem dX2_cellsBelow_26 : decode cX2_cellsBelow 26 = .ok (.aload_n 1, 1) := by decide +kernel
theorem dX2_cellsBelow_27 : decode cX2_cellsBelow 27 = .ok (.iload_n 3, 1) := by decide +kernel
theorem dX2_cellsBelow_28 : decode cX2_cellsBelow 28 = .ok (.iaload, 1) := by decide +kernel
theorem dX2_cellsBelow_29 : decode cX2_cellsBelow 29 = .ok (.i2l, 1) := by decide +kernel
theorem dX2_cellsBelow_30 : decode cX2_cellsBelow 30 = .ok (.lmul, 1) := by decide +kernel
theorem dX2_cellsBelow_31 : decode cX2_cellsBelow 31 = .ok (.lcmp, 1) := by decide +kernel
theorem dX2_cellsBelow_32 : decode cX2_cellsBelow 32 = .ok (.ifCond .ge 9, 3) := by decide +kernel
theorem dX2_cellsBelow_35 : decode cX2_cellsBelow 35 = .ok (.iload_n 2, 1) := by decide +kernel
theorem dX2_cellsBelow_36 : decode cX2_cellsBelow 36 = .ok (.iconst 1, 1) := by decide +kernel
theorem dX2_cellsBelow_37 : decode cX2_cellsBelow 37 = .ok (.iload_n 3, 1) := by decide +kernel
theorem dX2_cellsBelow_38 : decode cX2_cellsBelow 38 = .ok (.ishl, 1) := by decide +kernel
theorem dX2_cellsBelow_39 : decode cX2_cellsBelow 39 = .ok (.ior, 1) := by decide +kernel
theorem dX2_cellsBelow_40 : decode cX2_cellsBelow 40 = .ok (.istore_n 2, 1) := by decide +kernel
theorem dX2_cellsBelow_41 : decode cX2_cellsBelow 41 = .ok (.iinc 3 1, 3) := by decide +kernel
theorem dX2_cellsBelow_44 : decode cX2_cellsBelow 44 = .ok (.goto (-40), 3) := by decide +kernel
theorem dX2_cellsBelow_47 : decode cX2_cellsBelow 47 = .ok (.iload_n 2, 1) := by decide +kernel
theorem dX2_cellsBelow_48 : decode cX2_cellsBelow 48 = .ok (.ireturn, 1) := by decide +kernel
set_option maxRecDepth 20000 in
theorem ggX2_partOf_X2_commonDivisor : GoodIn wsX2_partOf wsX2_commonDivisor := goodIn_ca (goodIn_r _ [6, 7, 8, 9, 10, 11, 12, 13] (by decide +kernel) (by decide +kernel)) (goodIn_sub (fun _ h => List.mem_cons_of_mem _ (List.mem_append_right _ h)) (by decide +kernel))
set_option maxRecDepth 20000 in
theorem gX2_partOf_X2_commonDivisor : GoodIn wsX2_partOf (va_wsS RX2 225 yX2_commonDivisor wsX2_commonDivisor) := goodIn_app (goodIn_of _ (by decide +kernel)) ggX2_partOf_X2_commonDivisor
theorem dX2_partOf_0 : decode cX2_partOf 0 = .ok (.lload_n 1, 1) := by decide +kernel
theorem dX2_partOf_1 : decode cX2_partOf 1 = .ok (.aload_n 0, 1) := by decide +kernel
theorem dX2_partOf_2 : decode cX2_partOf 2 = .ok (.getfield 27, 3) := by decide +kernel
theorem dX2_partOf_5 : decode cX2_partOf 5 = .ok (.getfield 212, 3) := by decide +kernel
theorem dX2_partOf_8 : decode cX2_partOf 8 = .ok (.invokestatic 225, 3) := by decide +kernel
theorem dX2_partOf_11 : decode cX2_partOf 11 = .ok (.lstore 4, 2) := by decide +kernel
theorem dX2_partOf_13 : decode cX2_partOf 13 = .ok (.iload_n 3, 1) := by decide +kernel
theorem dX2_partOf_14 : decode cX2_partOf 14 = .ok (.ifCond .ne 7, 3) := by decide +kernel
theorem dX2_partOf_17 : decode cX2_partOf 17 = .ok (.lload_n 1, 1) := by decide +kernel
theorem dX2_partOf_18 : decode cX2_partOf 18 = .ok (.goto 10, 3) := by decide +kernel
theorem dX2_partOf_21 : decode cX2_partOf 21 = .ok (.aload_n 0, 1) := by decide +kernel
theorem dX2_partOf_22 : decode cX2_partOf 22 = .ok (.getfield 27, 3) := by decide +kernel
theorem dX2_partOf_25 : decode cX2_partOf 25 = .ok (.getfield 212, 3) := by decide +kernel
theorem dX2_partOf_28 : decode cX2_partOf 28 = .ok (.lload 4, 2) := by decide +kernel
theorem dX2_partOf_30 : decode cX2_partOf 30 = .ok (.ldiv, 1) := by decide +kernel
theorem dX2_partOf_31 : decode cX2_partOf 31 = .ok (.lreturn, 1) := by decide +kernel
theorem dX2_commonDivisor_0 : decode cX2_commonDivisor 0 = .ok (.lload_n 0, 1) := by decide +kernel
theorem dX2_commonDivisor_1 : decode cX2_commonDivisor 1 = .ok (.invokestatic 228, 3) := by decide +kernel
theorem dX2_commonDivisor_4 : decode cX2_commonDivisor 4 = .ok (.lstore 4, 2) := by decide +kernel
theorem dX2_commonDivisor_6 : decode cX2_commonDivisor 6 = .ok (.lload_n 2, 1) := by decide +kernel
theorem dX2_commonDivisor_7 : decode cX2_commonDivisor 7 = .ok (.invokestatic 228, 3) := by decide +kernel
theorem dX2_commonDivisor_10 : decode cX2_commonDivisor 10 = .ok (.lstore 6, 2) := by decide +kernel
theorem dX2_commonDivisor_12 : decode cX2_commonDivisor 12 = .ok (.iconst 0, 1) := by decide +kernel
theorem dX2_commonDivisor_13 : decode cX2_commonDivisor 13 = .ok (.istore 8, 2) := by decide +kernel
