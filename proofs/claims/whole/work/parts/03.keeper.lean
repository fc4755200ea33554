theorem dX0_init_0 : decode cX0_init 0 = .ok (.aload_n 0, 1) := by decide +kernel
theorem dX0_init_1 : decode cX0_init 1 = .ok (.invokespecial 1, 3) := by decide +kernel
theorem dX0_init_4 : decode cX0_init 4 = .ok (.aload_n 0, 1) := by decide +kernel
theorem dX0_init_5 : decode cX0_init 5 = .ok (.sipush 1000, 3) := by decide +kernel
theorem dX0_init_8 : decode cX0_init 8 = .ok (.newarray .int, 2) := by decide +kernel
theorem dX0_init_10 : decode cX0_init 10 = .ok (.putfield 9, 3) := by decide +kernel
theorem dX0_init_13 : decode cX0_init 13 = .ok (.aload_n 0, 1) := by decide +kernel
theorem dX0_init_14 : decode cX0_init 14 = .ok (.sipush 1000, 3) := by decide +kernel
theorem dX0_init_17 : decode cX0_init 17 = .ok (.newarray .int, 2) := by decide +kernel
theorem dX0_init_19 : decode cX0_init 19 = .ok (.putfield 13, 3) := by decide +kernel
theorem dX0_init_22 : decode cX0_init 22 = .ok (.iconst 1, 1) := by decide +kernel
theorem dX0_init_23 : decode cX0_init 23 = .ok (.istore_n 1, 1) := by decide +kernel
theorem dX0_init_24 : decode cX0_init 24 = .ok (.iload_n 1, 1) := by decide +kernel
theorem dX0_init_25 : decode cX0_init 25 = .ok (.sipush 1000, 3) := by decide +kernel
theorem dX0_init_28 : decode cX0_init 28 = .ok (.if_icmp .ge 16, 3) := by decide +kernel
theorem dX0_init_31 : decode cX0_init 31 = .ok (.aload_n 0, 1) := by decide +kernel
theorem dX0_init_32 : decode cX0_init 32 = .ok (.getfield 13, 3) := by decide +kernel
theorem dX0_init_35 : decode cX0_init 35 = .ok (.iload_n 1, 1) := by decide +kernel
theorem dX0_init_36 : decode cX0_init 36 = .ok (.iconst (-1), 1) := by decide +kernel
theorem dX0_init_37 : decode cX0_init 37 = .ok (.iastore, 1) := by decide +kernel
theorem dX0_init_38 : decode cX0_init 38 = .ok (.iinc 1 1, 3) := by decide +kernel
theorem dX0_init_41 : decode cX0_init 41 = .ok (.goto (-17), 3) := by decide +kernel
theorem dX0_init_44 : decode cX0_init 44 = .ok (.aload_n 0, 1) := by decide +kernel
theorem dX0_init_45 : decode cX0_init 45 = .ok (.iconst 1, 1) := by decide +kernel
theorem dX0_init_46 : decode cX0_init 46 = .ok (.putfield 16, 3) := by decide +kernel
theorem dX0_init_49 : decode cX0_init 49 = .ok (.return_, 1) := by decide +kernel
set_option maxRecDepth 20000 in
theorem ggX0_behind_X0_demand : GoodIn wsX0_behind wsX0_demand := goodIn_ca (goodIn_r _ [6, 7, 8, 9, 10, 11, 5, 12, 13, 31, 32, 33] (by decide +kernel) (by decide +kernel)) (goodIn_sub (fun _ h => List.mem_cons_of_mem _ (List.mem_append_right _ h)) (by decide +kernel))
set_option maxRecDepth 20000 in
theorem gX0_behind_X0_demand : GoodIn wsX0_behind (wsV RX0 20 RX0 yX0_demand wsX0_demand) := goodIn_app (goodIn_of _ (by decide +kernel)) ggX0_behind_X0_demand
set_option maxRecDepth 20000 in
theorem ggX0_behind_X0_addBehind : GoodIn wsX0_behind wsX0_addBehind := goodIn_r _ [17, 13, 18, 19, 20, 21, 5, 22, 1, 23, 24, 25, 26, 27, 28, 29, 30, 31, 32, 33] (by decide +kernel) (by decide +kernel)
set_option maxRecDepth 20000 in
theorem gX0_behind_X0_addBehind : GoodIn wsX0_behind (wsV RX0 24 RX0 yX0_addBehind wsX0_addBehind) := goodIn_app (goodIn_of _ (by decide +kernel)) ggX0_behind_X0_addBehind
theorem dX0_behind_0 : decode cX0_behind 0 = .ok (.aload_n 0, 1) := by decide +kernel
theorem dX0_behind_1 : decode cX0_behind 1 = .ok (.iload_n 1, 1) := by decide +kernel
theorem dX0_behind_2 : decode cX0_behind 2 = .ok (.invokevirtual 20, 3) := by decide +kernel
theorem dX0_behind_5 : decode cX0_behind 5 = .ok (.aload_n 0, 1) := by decide +kernel
theorem dX0_behind_6 : decode cX0_behind 6 = .ok (.getfield 16, 3) := by decide +kernel
theorem dX0_behind_9 : decode cX0_behind 9 = .ok (.sipush 1000, 3) := by decide +kernel
theorem dX0_behind_12 : decode cX0_behind 12 = .ok (.if_icmp .lt 5, 3) := by decide +kernel
theorem dX0_behind_15 : decode cX0_behind 15 = .ok (.iconst (-1), 1) := by decide +kernel
theorem dX0_behind_16 : decode cX0_behind 16 = .ok (.ireturn, 1) := by decide +kernel
theorem dX0_behind_17 : decode cX0_behind 17 = .ok (.aload_n 0, 1) := by decide +kernel
theorem dX0_behind_18 : decode cX0_behind 18 = .ok (.iload_n 1, 1) := by decide +kernel
theorem dX0_behind_19 : decode cX0_behind 19 = .ok (.iconst 1, 1) := by decide +kernel
theorem dX0_behind_20 : decode cX0_behind 20 = .ok (.invokevirtual 24, 3) := by decide +kernel
theorem dX0_behind_23 : decode cX0_behind 23 = .ok (.ireturn, 1) := by decide +kernel
set_option maxRecDepth 20000 in
theorem ggX0_several_X0_demand : GoodIn wsX0_several wsX0_demand := goodIn_ca (goodIn_r _ [6, 7, 8, 9, 10, 11, 5, 12, 13, 31, 32, 33] (by decide +kernel) (by decide +kernel)) (goodIn_sub (fun _ h => List.mem_cons_of_mem _ (List.mem_append_right _ h)) (by decide +kernel))
set_option maxRecDepth 20000 in
theorem gX0_several_X0_demand : GoodIn wsX0_several (wsV RX0 20 RX0 yX0_demand wsX0_demand) := goodIn_app (goodIn_of _ (by decide +kernel)) ggX0_several_X0_demand
set_option maxRecDepth 20000 in
theorem ggX0_several_X0_addBehind : GoodIn wsX0_several wsX0_addBehind := goodIn_r _ [17, 13, 18, 19, 20, 21, 5, 22, 1, 23, 24, 25, 26, 27, 28, 29, 30, 31, 32, 33] (by decide +kernel) (by decide +kernel)
set_option maxRecDepth 20000 in
theorem gX0_several_X0_addBehind : GoodIn wsX0_several (wsV RX0 24 RX0 yX0_addBehind wsX0_addBehind) := goodIn_app (goodIn_of _ (by decide +kernel)) ggX0_several_X0_addBehind
theorem dX0_several_0 : decode cX0_several 0 = .ok (.aload_n 0, 1) := by decide +kernel
theorem dX0_several_1 : decode cX0_several 1 = .ok (.iload_n 1, 1) := by decide +kernel
theorem dX0_several_2 : decode cX0_several 2 = .ok (.invokevirtual 20, 3) := by decide +kernel
theorem dX0_several_5 : decode cX0_several 5 = .ok (.iload_n 2, 1) := by decide +kernel
theorem dX0_several_6 : decode cX0_several 6 = .ok (.iconst 2, 1) := by decide +kernel
theorem dX0_several_7 : decode cX0_several 7 = .ok (.if_icmp .lt 21, 3) := by decide +kernel
theorem dX0_several_10 : decode cX0_several 10 = .ok (.iload_n 2, 1) := by decide +kernel
theorem dX0_several_11 : decode cX0_several 11 = .ok (.bipush 64, 2) := by decide +kernel
theorem dX0_several_13 : decode cX0_several 13 = .ok (.if_icmp .gt 15, 3) := by decide +kernel
theorem dX0_several_16 : decode cX0_several 16 = .ok (.iload_n 2, 1) := by decide +kernel
theorem dX0_several_17 : decode cX0_several 17 = .ok (.sipush 1000, 3) := by decide +kernel
theorem dX0_several_20 : decode cX0_several 20 = .ok (.aload_n 0, 1) := by decide +kernel
theorem dX0_several_21 : decode cX0_several 21 = .ok (.getfield 16, 3) := by decide +kernel
theorem dX0_several_24 : decode cX0_several 24 = .ok (.isub, 1) := by decide +kernel
theorem dX0_several_25 : decode cX0_several 25 = .ok (.if_icmp .le 5, 3) := by decide +kernel
theorem dX0_several_28 : decode cX0_several 28 = .ok (.iconst (-1), 1) := by decide +kernel
theorem dX0_several_29 : decode cX0_several 29 = .ok (.ireturn, 1) := by decide +kernel
theorem dX0_several_30 : decode cX0_several 30 = .ok (.aload_n 0, 1) := by decide +kernel
theorem dX0_several_31 : decode cX0_several 31 = .ok (.iload_n 1, 1) := by decide +kernel
theorem dX0_several_32 : decode cX0_several 32 = .ok (.iload_n 2, 1) := by decide +kernel
theorem dX0_several_33 : decode cX0_several 33 = .ok (.invokevirtual 24, 3) := by decide +kernel
theorem dX0_several_36 : decode cX0_several 36 = .ok (.ireturn, 1) := by decide +kernel
set_option maxRecDepth 20000 in
theorem ggX0_remove_X0_has : GoodIn wsX0_remove wsX0_has := goodIn_r _ [6, 1, 17, 18, 19] (by decide +kernel) (by decide +kernel)
set_option maxRecDepth 20000 in
theorem gX0_remove_X0_has : GoodIn wsX0_remove (wsV RX0 28 RX0 yX0_has wsX0_has) := goodIn_app (goodIn_of _ (by decide +kernel)) ggX0_remove_X0_has
set_option maxRecDepth 20000 in
theorem ggX0_remove_X0_takeOut : GoodIn wsX0_remove wsX0_takeOut := goodIn_r _ [10, 1, 11, 12, 13, 14, 15, 5, 16, 17, 18, 19] (by decide +kernel) (by decide +kernel)
set_option maxRecDepth 20000 in
theorem gX0_remove_X0_takeOut : GoodIn wsX0_remove (wsV RX0 32 RX0 yX0_takeOut wsX0_takeOut) := goodIn_app (goodIn_of _ (by decide +kernel)) ggX0_remove_X0_takeOut
theorem dX0_remove_0 : decode cX0_remove 0 = .ok (.iload_n 1, 1) := by decide +kernel
theorem dX0_remove_1 : decode cX0_remove 1 = .ok (.ifCond .eq 11, 3) := by decide +kernel
theorem dX0_remove_4 : decode cX0_remove 4 = .ok (.aload_n 0, 1) := by decide +kernel
theorem dX0_remove_5 : decode cX0_remove 5 = .ok (.iload_n 1, 1) := by decide +kernel
theorem dX0_remove_6 : decode cX0_remove 6 = .ok (.invokevirtual 28, 3) := by decide +kernel
theorem dX0_remove_9 : decode cX0_remove 9 = .ok (.ifCond .ne 5, 3) := by decide +kernel
theorem dX0_remove_12 : decode cX0_remove 12 = .ok (.iconst 0, 1) := by decide +kernel
theorem dX0_remove_13 : decode cX0_remove 13 = .ok (.ireturn, 1) := by decide +kernel
theorem dX0_remove_14 : decode cX0_remove 14 = .ok (.aload_n 0, 1) := by decide +kernel
theorem dX0_remove_15 : decode cX0_remove 15 = .ok (.getfield 13, 3) := by decide +kernel
theorem dX0_remove_18 : decode cX0_remove 18 = .ok (.iload_n 1, 1) := by decide +kernel
theorem dX0_remove_19 : decode cX0_remove 19 = .ok (.iaload, 1) := by decide +kernel
theorem dX0_remove_20 : decode cX0_remove 20 = .ok (.istore_n 2, 1) := by decide +kernel
theorem dX0_remove_21 : decode cX0_remove 21 = .ok (.aload_n 0, 1) := by decide +kernel
theorem dX0_remove_22 : decode cX0_remove 22 = .ok (.iload_n 2, 1) := by decide +kernel
theorem dX0_remove_23 : decode cX0_remove 23 = .ok (.iload_n 2, 1) := by decide +kernel
theorem dX0_remove_24 : decode cX0_remove 24 = .ok (.iconst 1, 1) := by decide +kernel
theorem dX0_remove_25 : decode cX0_remove 25 = .ok (.iadd, 1) := by decide +kernel
theorem dX0_remove_26 : decode cX0_remove 26 = .ok (.invokevirtual 32, 3) := by decide +kernel
theorem dX0_remove_29 : decode cX0_remove 29 = .ok (.iconst 1, 1) := by decide +kernel
theorem dX0_remove_30 : decode cX0_remove 30 = .ok (.ireturn, 1) := by decide +kernel
set_option maxRecDepth 20000 in
theorem ggX0_clear_X0_demand : GoodIn wsX0_clear wsX0_demand := goodIn_ca (goodIn_r _ [6, 7, 8, 9, 10, 11, 5, 12, 1, 23, 24, 25] (by decide +kernel) (by decide +kernel)) (goodIn_sub (fun _ h => List.mem_cons_of_mem _ (List.mem_append_right _ h)) (by decide +kernel))
set_option maxRecDepth 20000 in
theorem gX0_clear_X0_demand : GoodIn wsX0_clear (wsV RX0 20 RX0 yX0_demand wsX0_demand) := goodIn_app (goodIn_of _ (by decide +kernel)) ggX0_clear_X0_demand
set_option maxRecDepth 20000 in
theorem ggX0_clear_X0_takeOut : GoodIn wsX0_clear wsX0_takeOut := goodIn_r _ [16, 1, 17, 18, 19, 20, 21, 5, 22, 23, 24, 25] (by decide +kernel) (by decide +kernel)
set_option maxRecDepth 20000 in
theorem gX0_clear_X0_takeOut : GoodIn wsX0_clear (wsV RX0 32 RX0 yX0_takeOut wsX0_takeOut) := goodIn_app (goodIn_of _ (by decide +kernel)) ggX0_clear_X0_takeOut
theorem dX0_clear_0 : decode cX0_clear 0 = .ok (.aload_n 0, 1) := by decide +kernel
theorem dX0_clear_1 : decode cX0_clear 1 = .ok (.iload_n 1, 1) := by decide +kernel
theorem dX0_clear_2 : decode cX0_clear 2 = .ok (.invokevirtual 20, 3) := by decide +kernel
theorem dX0_clear_5 : decode cX0_clear 5 = .ok (.aload_n 0, 1) := by decide +kernel
theorem dX0_clear_6 : decode cX0_clear 6 = .ok (.iload_n 2, 1) := by decide +kernel
theorem dX0_clear_7 : decode cX0_clear 7 = .ok (.invokevirtual 20, 3) := by decide +kernel
theorem dX0_clear_10 : decode cX0_clear 10 = .ok (.aload_n 0, 1) := by decide +kernel
theorem dX0_clear_11 : decode cX0_clear 11 = .ok (.getfield 13, 3) := by decide +kernel
theorem dX0_clear_14 : decode cX0_clear 14 = .ok (.iload_n 1, 1) := by decide +kernel
theorem dX0_clear_15 : decode cX0_clear 15 = .ok (.iaload, 1) := by decide +kernel
theorem dX0_clear_16 : decode cX0_clear 16 = .ok (.iconst 1, 1) := by decide +kernel
theorem dX0_clear_17 : decode cX0_clear 17 = .ok (.iadd, 1) := by decide +kernel
theorem dX0_clear_18 : decode cX0_clear 18 = .ok (.istore_n 3, 1) := by decide +kernel
theorem dX0_clear_19 : decode cX0_clear 19 = .ok (.aload_n 0, 1) := by decide +kernel
theorem dX0_clear_20 : decode cX0_clear 20 = .ok (.getfield 13, 3) := by decide +kernel
theorem dX0_clear_23 : decode cX0_clear 23 = .ok (.iload_n 2, 1) := by decide +kernel
theorem dX0_clear_24 : decode cX0_clear 24 = .ok (.iaload, 1) := by decide +kernel
theorem dX0_clear_25 : decode cX0_clear 25 = .ok (.istore 4, 2) := by decide +kernel
theorem dX0_clear_27 : decode cX0_clear 27 = .ok (.iload_n 3, 1) := by decide +kernel
theorem dX0_clear_28 : decode cX0_clear 28 = .ok (.iload 4, 2) := by decide +kernel
theorem dX0_clear_30 : decode cX0_clear 30 = .ok (.if_icmp .lt 5, 3) := by decide +kernel
theorem dX0_clear_33 : decode cX0_clear 33 = .ok (.iconst 0, 1) := by decide +kernel
theorem dX0_clear_34 : decode cX0_clear 34 = .ok (.ireturn, 1) := by decide +kernel
theorem dX0_clear_35 : decode cX0_clear 35 = .ok (.aload_n 0, 1) := by decide +kernel
theorem dX0_clear_36 : decode cX0_clear 36 = .ok (.iload_n 3, 1) := by decide +kernel
theorem dX0_clear_37 : decode cX0_clear 37 = .ok (.iload 4, 2) := by decide +kernel
theorem dX0_clear_39 : decode cX0_clear 39 = .ok (.invokevirtual 32, 3) := by decide +kernel
theorem dX0_clear_42 : decode cX0_clear 42 = .ok (.iload 4, 2) := by decide +kernel
theorem dX0_clear_44 : decode cX0_clear 44 = .ok (.iload_n 3, 1) := by decide +kernel
theorem dX0_clear_45 : decode cX0_clear 45 = .ok (.isub, 1) := by decide +kernel
theorem dX0_clear_46 : decode cX0_clear 46 = .ok (.ireturn, 1) := by decide +kernel
set_option maxRecDepth 20000 in
theorem ggX0_carry_X0_demand : GoodIn wsX0_carry wsX0_demand := goodIn_ca (goodIn_r _ [6, 7, 8, 9, 10, 11, 5, 12, 1, 26, 27, 28] (by decide +kernel) (by decide +kernel)) (goodIn_sub (fun _ h => List.mem_cons_of_mem _ (List.mem_append_right _ h)) (by decide +kernel))
set_option maxRecDepth 20000 in
theorem gX0_carry_X0_demand : GoodIn wsX0_carry (wsV RX0 20 RX0 yX0_demand wsX0_demand) := goodIn_app (goodIn_of _ (by decide +kernel)) ggX0_carry_X0_demand
set_option maxRecDepth 20000 in
theorem ggX0_carry_X0_swapBlocks : GoodIn wsX0_carry wsX0_swapBlocks := goodIn_r _ [16, 17, 18, 19, 5, 20, 21, 22, 23, 24, 25, 1, 26, 27, 28] (by decide +kernel) (by decide +kernel)
set_option maxRecDepth 20000 in
theorem gX0_carry_X0_swapBlocks : GoodIn wsX0_carry (wsV RX0 36 RX0 yX0_swapBlocks wsX0_swapBlocks) := goodIn_app (goodIn_of _ (by decide +kernel)) ggX0_carry_X0_swapBlocks
theorem dX0_carry_0 : decode cX0_carry 0 = .ok (.aload_n 0, 1) := by decide +kernel
theorem dX0_carry_1 : decode cX0_carry 1 = .ok (.iload_n 1, 1) := by decide +kernel
theorem dX0_carry_2 : decode cX0_carry 2 = .ok (.invokevirtual 20, 3) := by decide +kernel
theorem dX0_carry_5 : decode cX0_carry 5 = .ok (.aload_n 0, 1) := by decide +kernel
theorem dX0_carry_6 : decode cX0_carry 6 = .ok (.iload_n 2, 1) := by decide +kernel
theorem dX0_carry_7 : decode cX0_carry 7 = .ok (.invokevirtual 20, 3) := by decide +kernel
theorem dX0_carry_10 : decode cX0_carry 10 = .ok (.aload_n 0, 1) := by decide +kernel
theorem dX0_carry_11 : decode cX0_carry 11 = .ok (.iload_n 3, 1) := by decide +kernel
theorem dX0_carry_12 : decode cX0_carry 12 = .ok (.invokevirtual 20, 3) := by decide +kernel
theorem dX0_carry_15 : decode cX0_carry 15 = .ok (.aload_n 0, 1) := by decide +kernel
theorem dX0_carry_16 : decode cX0_carry 16 = .ok (.getfield 13, 3) := by decide +kernel
theorem dX0_carry_19 : decode cX0_carry 19 = .ok (.iload_n 1, 1) := by decide +kernel
theorem dX0_carry_20 : decode cX0_carry 20 = .ok (.iaload, 1) := by decide +kernel
theorem dX0_carry_21 : decode cX0_carry 21 = .ok (.iconst 1, 1) := by decide +kernel
theorem dX0_carry_22 : decode cX0_carry 22 = .ok (.iadd, 1) := by decide +kernel
theorem dX0_carry_23 : decode cX0_carry 23 = .ok (.istore 4, 2) := by decide +kernel
theorem dX0_carry_25 : decode cX0_carry 25 = .ok (.aload_n 0, 1) := by decide +kernel
theorem dX0_carry_26 : decode cX0_carry 26 = .ok (.getfield 13, 3) := by decide +kernel
theorem dX0_carry_29 : decode cX0_carry 29 = .ok (.iload_n 2, 1) := by decide +kernel
theorem dX0_carry_30 : decode cX0_carry 30 = .ok (.iaload, 1) := by decide +kernel
theorem dX0_carry_31 : decode cX0_carry 31 = .ok (.istore 5, 2) := by decide +kernel
theorem dX0_carry_33 : decode cX0_carry 33 = .ok (.aload_n 0, 1) := by decide +kernel
theorem dX0_carry_34 : decode cX0_carry 34 = .ok (.getfield 13, 3) := by decide +kernel
theorem dX0_carry_37 : decode cX0_carry 37 = .ok (.iload_n 3, 1) := by decide +kernel
theorem dX0_carry_38 : decode cX0_carry 38 = .ok (.iaload, 1) := by decide +kernel
theorem dX0_carry_39 : decode cX0_carry 39 = .ok (.istore 6, 2) := by decide +kernel
theorem dX0_carry_41 : decode cX0_carry 41 = .ok (.iload 4, 2) := by decide +kernel
theorem dX0_carry_43 : decode cX0_carry 43 = .ok (.iload 5, 2) := by decide +kernel
theorem dX0_carry_45 : decode cX0_carry 45 = .ok (.if_icmp .gt 17, 3) := by decide +kernel
theorem dX0_carry_48 : decode cX0_carry 48 = .ok (.iload 4, 2) := by decide +kernel
theorem dX0_carry_50 : decode cX0_carry 50 = .ok (.iload 6, 2) := by decide +kernel
theorem dX0_carry_52 : decode cX0_carry 52 = .ok (.if_icmp .gt 12, 3) := by decide +kernel
theorem dX0_carry_55 : decode cX0_carry 55 = .ok (.iload 6, 2) := by decide +kernel
theorem dX0_carry_57 : decode cX0_carry 57 = .ok (.iload 5, 2) := by decide +kernel
theorem dX0_carry_59 : decode cX0_carry 59 = .ok (.if_icmp .ge 5, 3) := by decide +kernel
theorem dX0_carry_62 : decode cX0_carry 62 = .ok (.iconst (-1), 1) := by decide +kernel
theorem dX0_carry_63 : decode cX0_carry 63 = .ok (.ireturn, 1) := by decide +kernel
theorem dX0_carry_64 : decode cX0_carry 64 = .ok (.iload 6, 2) := by decide +kernel
theorem dX0_carry_66 : decode cX0_carry 66 = .ok (.iload 4, 2) := by decide +kernel
theorem dX0_carry_68 : decode cX0_carry 68 = .ok (.if_icmp .ge 18, 3) := by decide +kernel
theorem dX0_carry_71 : decode cX0_carry 71 = .ok (.aload_n 0, 1) := by decide +kernel
theorem dX0_carry_72 : decode cX0_carry 72 = .ok (.iload 6, 2) := by decide +kernel
theorem dX0_carry_74 : decode cX0_carry 74 = .ok (.iconst 1, 1) := by decide +kernel
theorem dX0_carry_75 : decode cX0_carry 75 = .ok (.iadd, 1) := by decide +kernel
theorem dX0_carry_76 : decode cX0_carry 76 = .ok (.iload 4, 2) := by decide +kernel
theorem dX0_carry_78 : decode cX0_carry 78 = .ok (.iload 5, 2) := by decide +kernel
theorem dX0_carry_80 : decode cX0_carry 80 = .ok (.invokevirtual 36, 3) := by decide +kernel
theorem dX0_carry_83 : decode cX0_carry 83 = .ok (.goto 15, 3) := by decide +kernel
theorem dX0_carry_86 : decode cX0_carry 86 = .ok (.aload_n 0, 1) := by decide +kernel
theorem dX0_carry_87 : decode cX0_carry 87 = .ok (.iload 4, 2) := by decide +kernel
theorem dX0_carry_89 : decode cX0_carry 89 = .ok (.iload 5, 2) := by decide +kernel
theorem dX0_carry_91 : decode cX0_carry 91 = .ok (.iload 6, 2) := by decide +kernel
theorem dX0_carry_93 : decode cX0_carry 93 = .ok (.iconst 1, 1) := by decide +kernel
theorem dX0_carry_94 : decode cX0_carry 94 = .ok (.iadd, 1) := by decide +kernel
theorem dX0_carry_95 : decode cX0_carry 95 = .ok (.invokevirtual 36, 3) := by decide +kernel
theorem dX0_carry_98 : decode cX0_carry 98 = .ok (.iload 5, 2) := by decide +kernel
theorem dX0_carry_100 : decode cX0_carry 100 = .ok (.iload 4, 2) := by decide +kernel
theorem dX0_carry_102 : decode cX0_carry 102 = .ok (.isub, 1) := by decide +kernel
theorem dX0_carry_103 : decode cX0_carry 103 = .ok (.ireturn, 1) := by decide +kernel
set_option maxRecDepth 20000 in
theorem ggX0_compare_X0_demand : GoodIn wsX0_compare wsX0_demand := goodIn_ca (goodIn_r _ [6, 7, 8, 9, 10, 11, 5, 12, 1, 13, 14, 15] (by decide +kernel) (by decide +kernel)) (goodIn_sub (fun _ h => List.mem_cons_of_mem _ (List.mem_append_right _ h)) (by decide +kernel))
set_option maxRecDepth 20000 in
theorem gX0_compare_X0_demand : GoodIn wsX0_compare (wsV RX0 20 RX0 yX0_demand wsX0_demand) := goodIn_app (goodIn_of _ (by decide +kernel)) ggX0_compare_X0_demand
theorem dX0_compare_0 : decode cX0_compare 0 = .ok (.aload_n 0, 1) := by decide +kernel
theorem dX0_compare_1 : decode cX0_compare 1 = .ok (.iload_n 1, 1) := by decide +kernel
theorem dX0_compare_2 : decode cX0_compare 2 = .ok (.invokevirtual 20, 3) := by decide +kernel
theorem dX0_compare_5 : decode cX0_compare 5 = .ok (.aload_n 0, 1) := by decide +kernel
theorem dX0_compare_6 : decode cX0_compare 6 = .ok (.iload_n 2, 1) := by decide +kernel
theorem dX0_compare_7 : decode cX0_compare 7 = .ok (.invokevirtual 20, 3) := by decide +kernel
theorem dX0_compare_10 : decode cX0_compare 10 = .ok (.iload_n 1, 1) := by decide +kernel
theorem dX0_compare_11 : decode cX0_compare 11 = .ok (.iload_n 2, 1) := by decide +kernel
theorem dX0_compare_12 : decode cX0_compare 12 = .ok (.if_icmp .ne 5, 3) := by decide +kernel
theorem dX0_compare_15 : decode cX0_compare 15 = .ok (.iconst 0, 1) := by decide +kernel
theorem dX0_compare_16 : decode cX0_compare 16 = .ok (.ireturn, 1) := by decide +kernel
theorem dX0_compare_17 : decode cX0_compare 17 = .ok (.aload_n 0, 1) := by decide +kernel
theorem dX0_compare_18 : decode cX0_compare 18 = .ok (.getfield 13, 3) := by decide +kernel
theorem dX0_compare_21 : decode cX0_compare 21 = .ok (.iload_n 1, 1) := by decide +kernel
theorem dX0_compare_22 : decode cX0_compare 22 = .ok (.iaload, 1) := by decide +kernel
theorem dX0_compare_23 : decode cX0_compare 23 = .ok (.aload_n 0, 1) := by decide +kernel
theorem dX0_compare_24 : decode cX0_compare 24 = .ok (.getfield 13, 3) := by decide +kernel
theorem dX0_compare_27 : decode cX0_compare 27 = .ok (.iload_n 2, 1) := by decide +kernel
theorem dX0_compare_28 : decode cX0_compare 28 = .ok (.iaload, 1) := by decide +kernel
theorem dX0_compare_29 : decode cX0_compare 29 = .ok (.if_icmp .ge 7, 3) := by decide +kernel
theorem dX0_compare_32 : decode cX0_compare 32 = .ok (.iconst (-1), 1) := by decide +kernel
theorem dX0_compare_33 : decode cX0_compare 33 = .ok (.goto 4, 3) := by decide +kernel
theorem dX0_compare_36 : decode cX0_compare 36 = .ok (.iconst 1, 1) := by decide +kernel
theorem dX0_compare_37 : decode cX0_compare 37 = .ok (.ireturn, 1) := by decide +kernel
set_option maxRecDepth 20000 in
theorem ggX0_next_X0_demand : GoodIn wsX0_next wsX0_demand := goodIn_ca (goodIn_r _ [6, 7, 8, 9, 10, 11, 5, 12, 1, 19, 20, 21] (by decide +kernel) (by decide +kernel)) (goodIn_sub (fun _ h => List.mem_cons_of_mem _ (List.mem_append_right _ h)) (by decide +kernel))
set_option maxRecDepth 20000 in
theorem gX0_next_X0_demand : GoodIn wsX0_next (wsV RX0 20 RX0 yX0_demand wsX0_demand) := goodIn_app (goodIn_of _ (by decide +kernel)) ggX0_next_X0_demand
set_option maxRecDepth 20000 in
theorem ggX0_next_X0_at : GoodIn wsX0_next wsX0_at := goodIn_r _ [16, 17, 18, 19, 20, 21] (by decide +kernel) (by decide +kernel)
set_option maxRecDepth 20000 in
theorem gX0_next_X0_at : GoodIn wsX0_next (wsV RX0 40 RX0 yX0_at wsX0_at) := goodIn_app (goodIn_of _ (by decide +kernel)) ggX0_next_X0_at
theorem dX0_next_0 : decode cX0_next 0 = .ok (.aload_n 0, 1) := by decide +kernel
theorem dX0_next_1 : decode cX0_next 1 = .ok (.iload_n 1, 1) := by decide +kernel
theorem dX0_next_2 : decode cX0_next 2 = .ok (.invokevirtual 20, 3) := by decide +kernel
theorem dX0_next_5 : decode cX0_next 5 = .ok (.aload_n 0, 1) := by decide +kernel
theorem dX0_next_6 : decode cX0_next 6 = .ok (.iload_n 2, 1) := by decide +kernel
theorem dX0_next_7 : decode cX0_next 7 = .ok (.ifCond .eq 14, 3) := by decide +kernel
theorem dX0_next_10 : decode cX0_next 10 = .ok (.aload_n 0, 1) := by decide +kernel
theorem dX0_next_11 : decode cX0_next 11 = .ok (.getfield 13, 3) := by decide +kernel
theorem dX0_next_14 : decode cX0_next 14 = .ok (.iload_n 1, 1) := by decide +kernel
theorem dX0_next_15 : decode cX0_next 15 = .ok (.iaload, 1) := by decide +kernel
theorem dX0_next_16 : decode cX0_next 16 = .ok (.iconst 1, 1) := by decide +kernel
theorem dX0_next_17 : decode cX0_next 17 = .ok (.iadd, 1) := by decide +kernel
theorem dX0_next_18 : decode cX0_next 18 = .ok (.goto 11, 3) := by decide +kernel
theorem dX0_next_21 : decode cX0_next 21 = .ok (.aload_n 0, 1) := by decide +kernel
theorem dX0_next_22 : decode cX0_next 22 = .ok (.getfield 13, 3) := by decide +kernel
theorem dX0_next_25 : decode cX0_next 25 = .ok (.iload_n 1, 1) := by decide +kernel
theorem dX0_next_26 : decode cX0_next 26 = .ok (.iaload, 1) := by decide +kernel
theorem dX0_next_27 : decode cX0_next 27 = .ok (.iconst 1, 1) := by decide +kernel
theorem dX0_next_28 : decode cX0_next 28 = .ok (.isub, 1) := by decide +kernel
theorem dX0_next_29 : decode cX0_next 29 = .ok (.invokevirtual 40, 3) := by decide +kernel
theorem dX0_next_32 : decode cX0_next 32 = .ok (.ireturn, 1) := by decide +kernel
theorem dX0_has_0 : decode cX0_has 0 = .ok (.iload_n 1, 1) := by decide +kernel
theorem dX0_has_1 : decode cX0_has 1 = .ok (.ifCond .lt 24, 3) := by decide +kernel
theorem dX0_has_4 : decode cX0_has 4 = .ok (.iload_n 1, 1) := by decide +kernel
theorem dX0_has_5 : decode cX0_has 5 = .ok (.sipush 1000, 3) := by decide +kernel
theorem dX0_has_8 : decode cX0_has 8 = .ok (.if_icmp .ge 17, 3) := by decide +kernel
theorem dX0_has_11 : decode cX0_has 11 = .ok (.aload_n 0, 1) := by decide +kernel
theorem dX0_has_12 : decode cX0_has 12 = .ok (.getfield 13, 3) := by decide +kernel
theorem dX0_has_15 : decode cX0_has 15 = .ok (.iload_n 1, 1) := by decide +kernel
theorem dX0_has_16 : decode cX0_has 16 = .ok (.iaload, 1) := by decide +kernel
theorem dX0_has_17 : decode cX0_has 17 = .ok (.iconst (-1), 1) := by decide +kernel
theorem dX0_has_18 : decode cX0_has 18 = .ok (.if_icmp .eq 7, 3) := by decide +kernel
theorem dX0_has_21 : decode cX0_has 21 = .ok (.iconst 1, 1) := by decide +kernel
theorem dX0_has_22 : decode cX0_has 22 = .ok (.goto 4, 3) := by decide +kernel
theorem dX0_has_25 : decode cX0_has 25 = .ok (.iconst 0, 1) := by decide +kernel
theorem dX0_has_26 : decode cX0_has 26 = .ok (.ireturn, 1) := by decide +kernel
set_option maxRecDepth 20000 in
theorem ggX0_place_X0_demand : GoodIn wsX0_place wsX0_demand := goodIn_ca (goodIn_r _ [6, 7, 8, 9, 10, 11, 5, 12, 1, 13, 14, 15] (by decide +kernel) (by decide +kernel)) (goodIn_sub (fun _ h => List.mem_cons_of_mem _ (List.mem_append_right _ h)) (by decide +kernel))
set_option maxRecDepth 20000 in
theorem gX0_place_X0_demand : GoodIn wsX0_place (wsV RX0 20 RX0 yX0_demand wsX0_demand) := goodIn_app (goodIn_of _ (by decide +kernel)) ggX0_place_X0_demand
theorem dX0_place_0 : decode cX0_place 0 = .ok (.aload_n 0, 1) := by decide +kernel
theorem dX0_place_1 : decode cX0_place 1 = .ok (.iload_n 1, 1) := by decide +kernel
theorem dX0_place_2 : decode cX0_place 2 = .ok (.invokevirtual 20, 3) := by decide +kernel
theorem dX0_place_5 : decode cX0_place 5 = .ok (.aload_n 0, 1) := by decide +kernel
theorem dX0_place_6 : decode cX0_place 6 = .ok (.getfield 13, 3) := by decide +kernel
theorem dX0_place_9 : decode cX0_place 9 = .ok (.iload_n 1, 1) := by decide +kernel
theorem dX0_place_10 : decode cX0_place 10 = .ok (.iaload, 1) := by decide +kernel
theorem dX0_place_11 : decode cX0_place 11 = .ok (.ireturn, 1) := by decide +kernel
theorem dX0_at_0 : decode cX0_at 0 = .ok (.iload_n 1, 1) := by decide +kernel
theorem dX0_at_1 : decode cX0_at 1 = .ok (.ifCond .lt 20, 3) := by decide +kernel
theorem dX0_at_4 : decode cX0_at 4 = .ok (.iload_n 1, 1) := by decide +kernel
theorem dX0_at_5 : decode cX0_at 5 = .ok (.aload_n 0, 1) := by decide +kernel
theorem dX0_at_6 : decode cX0_at 6 = .ok (.getfield 16, 3) := by decide +kernel
theorem dX0_at_9 : decode cX0_at 9 = .ok (.if_icmp .ge 12, 3) := by decide +kernel
theorem dX0_at_12 : decode cX0_at 12 = .ok (.aload_n 0, 1) := by decide +kernel
theorem dX0_at_13 : decode cX0_at 13 = .ok (.getfield 9, 3) := by decide +kernel
theorem dX0_at_16 : decode cX0_at 16 = .ok (.iload_n 1, 1) := by decide +kernel
theorem dX0_at_17 : decode cX0_at 17 = .ok (.iaload, 1) := by decide +kernel
theorem dX0_at_18 : decode cX0_at 18 = .ok (.goto 4, 3) := by decide +kernel
theorem dX0_at_21 : decode cX0_at 21 = .ok (.iconst (-1), 1) := by decide +kernel
theorem dX0_at_22 : decode cX0_at 22 = .ok (.ireturn, 1) := by decide +kernel
set_option maxRecDepth 20000 in
theorem ggX0_greatest_X0_demand : GoodIn wsX0_greatest wsX0_demand := goodIn_ca (goodIn_r _ [11, 12, 13, 14, 15, 16, 10, 17, 1, 18, 19, 20] (by decide +kernel) (by decide +kernel)) (goodIn_sub (fun _ h => List.mem_cons_of_mem _ (List.mem_append_right _ h)) (by decide +kernel))
set_option maxRecDepth 20000 in
theorem gX0_greatest_X0_demand : GoodIn wsX0_greatest (wsV RX0 20 RX0 yX0_demand wsX0_demand) := goodIn_app (goodIn_of _ (by decide +kernel)) ggX0_greatest_X0_demand
theorem dX0_greatest_0 : decode cX0_greatest 0 = .ok (.aload_n 0, 1) := by decide +kernel
theorem dX0_greatest_1 : decode cX0_greatest 1 = .ok (.iload_n 1, 1) := by decide +kernel
theorem dX0_greatest_2 : decode cX0_greatest 2 = .ok (.invokevirtual 20, 3) := by decide +kernel
theorem dX0_greatest_5 : decode cX0_greatest 5 = .ok (.aload_n 0, 1) := by decide +kernel
theorem dX0_greatest_6 : decode cX0_greatest 6 = .ok (.iload_n 2, 1) := by decide +kernel
theorem dX0_greatest_7 : decode cX0_greatest 7 = .ok (.invokevirtual 20, 3) := by decide +kernel
theorem dX0_greatest_10 : decode cX0_greatest 10 = .ok (.aload_n 0, 1) := by decide +kernel
theorem dX0_greatest_11 : decode cX0_greatest 11 = .ok (.getfield 13, 3) := by decide +kernel
theorem dX0_greatest_14 : decode cX0_greatest 14 = .ok (.iload_n 2, 1) := by decide +kernel
theorem dX0_greatest_15 : decode cX0_greatest 15 = .ok (.iaload, 1) := by decide +kernel
theorem dX0_greatest_16 : decode cX0_greatest 16 = .ok (.istore_n 3, 1) := by decide +kernel
theorem dX0_greatest_17 : decode cX0_greatest 17 = .ok (.iconst (-1), 1) := by decide +kernel
theorem dX0_greatest_18 : decode cX0_greatest 18 = .ok (.istore 4, 2) := by decide +kernel
theorem dX0_greatest_20 : decode cX0_greatest 20 = .ok (.aload_n 0, 1) := by decide +kernel
theorem dX0_greatest_21 : decode cX0_greatest 21 = .ok (.getfield 13, 3) := by decide +kernel
theorem dX0_greatest_24 : decode cX0_greatest 24 = .ok (.iload_n 1, 1) := by decide +kernel
theorem dX0_greatest_25 : decode cX0_greatest 25 = .ok (.iaload, 1) := by decide +kernel
theorem dX0_greatest_26 : decode cX0_greatest 26 = .ok (.istore 5, 2) := by decide +kernel
theorem dX0_greatest_28 : decode cX0_greatest 28 = .ok (.iload 5, 2) := by decide +kernel
theorem dX0_greatest_30 : decode cX0_greatest 30 = .ok (.iload_n 3, 1) := by decide +kernel
theorem dX0_greatest_31 : decode cX0_greatest 31 = .ok (.if_icmp .gt 23, 3) := by decide +kernel
theorem dX0_greatest_34 : decode cX0_greatest 34 = .ok (.iload 4, 2) := by decide +kernel
theorem dX0_greatest_36 : decode cX0_greatest 36 = .ok (.aload_n 0, 1) := by decide +kernel
theorem dX0_greatest_37 : decode cX0_greatest 37 = .ok (.getfield 9, 3) := by decide +kernel
theorem dX0_greatest_40 : decode cX0_greatest 40 = .ok (.iload 5, 2) := by decide +kernel
theorem dX0_greatest_42 : decode cX0_greatest 42 = .ok (.iaload, 1) := by decide +kernel
theorem dX0_greatest_43 : decode cX0_greatest 43 = .ok (.invokestatic 44, 3) := by decide +kernel
theorem dX0_greatest_46 : decode cX0_greatest 46 = .ok (.istore 4, 2) := by decide +kernel
theorem dX0_greatest_48 : decode cX0_greatest 48 = .ok (.iinc 5 1, 3) := by decide +kernel
theorem dX0_greatest_51 : decode cX0_greatest 51 = .ok (.goto (-23), 3) := by decide +kernel
theorem dX0_greatest_54 : decode cX0_greatest 54 = .ok (.iload 4, 2) := by decide +kernel
theorem dX0_greatest_56 : decode cX0_greatest 56 = .ok (.ireturn, 1) := by decide +kernel
set_option maxRecDepth 20000 in
theorem ggX0_wipe_X0_takeOut : GoodIn wsX0_wipe wsX0_takeOut := goodIn_r _ [6, 7, 8, 1, 9, 10, 11, 5, 12, 13, 14, 15] (by decide +kernel) (by decide +kernel)
set_option maxRecDepth 20000 in
theorem gX0_wipe_X0_takeOut : GoodIn wsX0_wipe (wsV RX0 32 RX0 yX0_takeOut wsX0_takeOut) := goodIn_app (goodIn_of _ (by decide +kernel)) ggX0_wipe_X0_takeOut
theorem dX0_wipe_0 : decode cX0_wipe 0 = .ok (.aload_n 0, 1) := by decide +kernel
theorem dX0_wipe_1 : decode cX0_wipe 1 = .ok (.iconst 1, 1) := by decide +kernel
theorem dX0_wipe_2 : decode cX0_wipe 2 = .ok (.aload_n 0, 1) := by decide +kernel
theorem dX0_wipe_3 : decode cX0_wipe 3 = .ok (.getfield 16, 3) := by decide +kernel
theorem dX0_wipe_6 : decode cX0_wipe 6 = .ok (.invokevirtual 32, 3) := by decide +kernel
theorem dX0_wipe_9 : decode cX0_wipe 9 = .ok (.return_, 1) := by decide +kernel
set_option maxRecDepth 20000 in
theorem ggX0_look_X0_at : GoodIn wsX0_look wsX0_at := goodIn_r _ [6, 1, 7, 13, 14, 15] (by decide +kernel) (by decide +kernel)
set_option maxRecDepth 20000 in
theorem gX0_look_X0_at : GoodIn wsX0_look (wsV RX0 40 RX0 yX0_at wsX0_at) := goodIn_app (goodIn_of _ (by decide +kernel)) ggX0_look_X0_at
set_option maxRecDepth 20000 in
theorem ggX0_look_X0_leastFree : GoodIn wsX0_look wsX0_leastFree := goodIn_r _ [11, 12, 13, 14, 15] (by decide +kernel) (by decide +kernel)
set_option maxRecDepth 20000 in
theorem gX0_look_X0_leastFree : GoodIn wsX0_look (wsV RX0 49 RX0 yX0_leastFree wsX0_leastFree) := goodIn_app (goodIn_of _ (by decide +kernel)) ggX0_look_X0_leastFree
theorem dX0_look_0 : decode cX0_look 0 = .ok (.iload_n 1, 1) := by decide +kernel
theorem dX0_look_1 : decode cX0_look 1 = .ok (.tableswitch 48 0 2 #[27, 32, 43], 27) := by decide +kernel
theorem dX0_look_28 : decode cX0_look 28 = .ok (.aload_n 0, 1) := by decide +kernel
theorem dX0_look_29 : decode cX0_look 29 = .ok (.getfield 16, 3) := by decide +kernel
theorem dX0_look_32 : decode cX0_look 32 = .ok (.ireturn, 1) := by decide +kernel
theorem dX0_look_33 : decode cX0_look 33 = .ok (.aload_n 0, 1) := by decide +kernel
theorem dX0_look_34 : decode cX0_look 34 = .ok (.aload_n 0, 1) := by decide +kernel
theorem dX0_look_35 : decode cX0_look 35 = .ok (.getfield 16, 3) := by decide +kernel
theorem dX0_look_38 : decode cX0_look 38 = .ok (.iconst 1, 1) := by decide +kernel
theorem dX0_look_39 : decode cX0_look 39 = .ok (.isub, 1) := by decide +kernel
theorem dX0_look_40 : decode cX0_look 40 = .ok (.invokevirtual 40, 3) := by decide +kernel
theorem dX0_look_43 : decode cX0_look 43 = .ok (.ireturn, 1) := by decide +kernel
theorem dX0_look_44 : decode cX0_look 44 = .ok (.aload_n 0, 1) := by decide +kernel
theorem dX0_look_45 : decode cX0_look 45 = .ok (.invokevirtual 49, 3) := by decide +kernel
theorem dX0_look_48 : decode cX0_look 48 = .ok (.ireturn, 1) := by decide +kernel
theorem dX0_look_49 : decode cX0_look 49 = .ok (.iconst (-1), 1) := by decide +kernel
theorem dX0_look_50 : decode cX0_look 50 = .ok (.ireturn, 1) := by decide +kernel
set_option maxRecDepth 20000 in
theorem ggX0_demand_X0_has : GoodIn wsX0_demand wsX0_has := goodIn_r _ [7, 8, 9, 10, 11] (by decide +kernel) (by decide +kernel)
set_option maxRecDepth 20000 in
theorem gX0_demand_X0_has : GoodIn wsX0_demand (wsV RX0 28 RX0 yX0_has wsX0_has) := goodIn_app (goodIn_of _ (by decide +kernel)) ggX0_demand_X0_has
theorem dX0_demand_0 : decode cX0_demand 0 = .ok (.aload_n 0, 1) := by decide +kernel
theorem dX0_demand_1 : decode cX0_demand 1 = .ok (.iload_n 1, 1) := by decide +kernel
theorem dX0_demand_2 : decode cX0_demand 2 = .ok (.invokevirtual 28, 3) := by decide +kernel
theorem dX0_demand_5 : decode cX0_demand 5 = .ok (.ifCond .ne 13, 3) := by decide +kernel
theorem dX0_demand_8 : decode cX0_demand 8 = .ok (.new 53, 3) := by decide +kernel
theorem dX0_demand_11 : decode cX0_demand 11 = .ok (.dup, 1) := by decide +kernel
theorem dX0_demand_12 : decode cX0_demand 12 = .ok (.ldc 55, 2) := by decide +kernel
theorem dX0_demand_14 : decode cX0_demand 14 = .ok (.invokespecial 57, 3) := by decide +kernel
theorem dX0_demand_17 : decode cX0_demand 17 = .ok (.athrow, 1) := by decide +kernel
theorem dX0_demand_18 : decode cX0_demand 18 = .ok (.return_, 1) := by decide +kernel
theorem dX0_leastFree_0 : decode cX0_leastFree 0 = .ok (.iconst 0, 1) := by decide +kernel
theorem dX0_leastFree_1 : decode cX0_leastFree 1 = .ok (.istore_n 1, 1) := by decide +kernel
theorem dX0_leastFree_2 : decode cX0_leastFree 2 = .ok (.iload_n 1, 1) := by decide +kernel
theorem dX0_leastFree_3 : decode cX0_leastFree 3 = .ok (.sipush 1000, 3) := by decide +kernel
theorem dX0_leastFree_6 : decode cX0_leastFree 6 = .ok (.if_icmp .ge 21, 3) := by decide +kernel
theorem dX0_leastFree_9 : decode cX0_leastFree 9 = .ok (.aload_n 0, 1) := by decide +kernel
theorem dX0_leastFree_10 : decode cX0_leastFree 10 = .ok (.getfield 13, 3) := by decide +kernel
theorem dX0_leastFree_13 : decode cX0_leastFree 13 = .ok (.iload_n 1, 1) := by decide +kernel
theorem dX0_leastFree_14 : decode cX0_leastFree 14 = .ok (.iaload, 1) := by decide +kernel
theorem dX0_leastFree_15 : decode cX0_leastFree 15 = .ok (.iconst (-1), 1) := by decide +kernel
theorem dX0_leastFree_16 : decode cX0_leastFree 16 = .ok (.if_icmp .ne 5, 3) := by decide +kernel
theorem dX0_leastFree_19 : decode cX0_leastFree 19 = .ok (.iload_n 1, 1) := by decide +kernel
theorem dX0_leastFree_20 : decode cX0_leastFree 20 = .ok (.ireturn, 1) := by decide +kernel
theorem dX0_leastFree_21 : decode cX0_leastFree 21 = .ok (.iinc 1 1, 3) := by decide +kernel
theorem dX0_leastFree_24 : decode cX0_leastFree 24 = .ok (.goto (-22), 3) := by decide +kernel
theorem dX0_leastFree_27 : decode cX0_leastFree 27 = .ok (.iconst (-1), 1) := by decide +kernel
theorem dX0_leastFree_28 : decode cX0_leastFree 28 = .ok (.ireturn, 1) := by decide +kernel
set_option maxRecDepth 20000 in
theorem ggX0_addBehind_X0_openGap : GoodIn wsX0_addBehind wsX0_openGap := goodIn_r _ [7, 8, 2, 9, 10, 11, 6, 12, 1, 17, 18, 19] (by decide +kernel) (by decide +kernel)
set_option maxRecDepth 20000 in
theorem gX0_addBehind_X0_openGap : GoodIn wsX0_addBehind (wsV RX0 60 RX0 yX0_openGap wsX0_openGap) := goodIn_app (goodIn_of _ (by decide +kernel)) ggX0_addBehind_X0_openGap
set_option maxRecDepth 20000 in
theorem ggX0_addBehind_X0_fillGap : GoodIn wsX0_addBehind wsX0_fillGap := goodIn_r _ [16, 1, 9, 10, 11, 6, 12, 2, 17, 18, 19] (by decide +kernel) (by decide +kernel)
set_option maxRecDepth 20000 in
theorem gX0_addBehind_X0_fillGap : GoodIn wsX0_addBehind (wsV RX0 63 RX0 yX0_fillGap wsX0_fillGap) := goodIn_app (goodIn_of _ (by decide +kernel)) ggX0_addBehind_X0_fillGap
theorem dX0_addBehind_0 : decode cX0_addBehind 0 = .ok (.aload_n 0, 1) := by decide +kernel
theorem dX0_addBehind_1 : decode cX0_addBehind 1 = .ok (.getfield 13, 3) := by decide +kernel
theorem dX0_addBehind_4 : decode cX0_addBehind 4 = .ok (.iload_n 1, 1) := by decide +kernel
theorem dX0_addBehind_5 : decode cX0_addBehind 5 = .ok (.iaload, 1) := by decide +kernel
theorem dX0_addBehind_6 : decode cX0_addBehind 6 = .ok (.iconst 1, 1) := by decide +kernel
theorem dX0_addBehind_7 : decode cX0_addBehind 7 = .ok (.iadd, 1) := by decide +kernel
theorem dX0_addBehind_8 : decode cX0_addBehind 8 = .ok (.istore_n 3, 1) := by decide +kernel
theorem dX0_addBehind_9 : decode cX0_addBehind 9 = .ok (.aload_n 0, 1) := by decide +kernel
theorem dX0_addBehind_10 : decode cX0_addBehind 10 = .ok (.iload_n 3, 1) := by decide +kernel
theorem dX0_addBehind_11 : decode cX0_addBehind 11 = .ok (.iload_n 2, 1) := by decide +kernel
theorem dX0_addBehind_12 : decode cX0_addBehind 12 = .ok (.invokevirtual 60, 3) := by decide +kernel
theorem dX0_addBehind_15 : decode cX0_addBehind 15 = .ok (.aload_n 0, 1) := by decide +kernel
theorem dX0_addBehind_16 : decode cX0_addBehind 16 = .ok (.iload_n 3, 1) := by decide +kernel
theorem dX0_addBehind_17 : decode cX0_addBehind 17 = .ok (.iload_n 3, 1) := by decide +kernel
theorem dX0_addBehind_18 : decode cX0_addBehind 18 = .ok (.iload_n 2, 1) := by decide +kernel
theorem dX0_addBehind_19 : decode cX0_addBehind 19 = .ok (.iadd, 1) := by decide +kernel
theorem dX0_addBehind_20 : decode cX0_addBehind 20 = .ok (.invokevirtual 63, 3) := by decide +kernel
theorem dX0_addBehind_23 : decode cX0_addBehind 23 = .ok (.aload_n 0, 1) := by decide +kernel
theorem dX0_addBehind_24 : decode cX0_addBehind 24 = .ok (.getfield 9, 3) := by decide +kernel
theorem dX0_addBehind_27 : decode cX0_addBehind 27 = .ok (.iload_n 3, 1) := by decide +kernel
theorem dX0_addBehind_28 : decode cX0_addBehind 28 = .ok (.iaload, 1) := by decide +kernel
theorem dX0_addBehind_29 : decode cX0_addBehind 29 = .ok (.ireturn, 1) := by decide +kernel
set_option maxRecDepth 20000 in
theorem ggX0_openGap_X0_put : GoodIn wsX0_openGap wsX0_put := goodIn_r _ [7, 2, 8, 9, 10, 11] (by decide +kernel) (by decide +kernel)
set_option maxRecDepth 20000 in
theorem gX0_openGap_X0_put : GoodIn wsX0_openGap (wsV RX0 66 RX0 yX0_put wsX0_put) := goodIn_app (goodIn_of _ (by decide +kernel)) ggX0_openGap_X0_put
theorem dX0_openGap_0 : decode cX0_openGap 0 = .ok (.aload_n 0, 1) := by decide +kernel
theorem dX0_openGap_1 : decode cX0_openGap 1 = .ok (.getfield 16, 3) := by decide +kernel
theorem dX0_openGap_4 : decode cX0_openGap 4 = .ok (.iconst 1, 1) := by decide +kernel
theorem dX0_openGap_5 : decode cX0_openGap 5 = .ok (.isub, 1) := by decide +kernel
theorem dX0_openGap_6 : decode cX0_openGap 6 = .ok (.istore_n 3, 1) := by decide +kernel
theorem dX0_openGap_7 : decode cX0_openGap 7 = .ok (.iload_n 3, 1) := by decide +kernel
theorem dX0_openGap_8 : decode cX0_openGap 8 = .ok (.iload_n 1, 1) := by decide +kernel
theorem dX0_openGap_9 : decode cX0_openGap 9 = .ok (.if_icmp .lt 22, 3) := by decide +kernel
theorem dX0_openGap_12 : decode cX0_openGap 12 = .ok (.aload_n 0, 1) := by decide +kernel
theorem dX0_openGap_13 : decode cX0_openGap 13 = .ok (.aload_n 0, 1) := by decide +kernel
theorem dX0_openGap_14 : decode cX0_openGap 14 = .ok (.getfield 9, 3) := by decide +kernel
theorem dX0_openGap_17 : decode cX0_openGap 17 = .ok (.iload_n 3, 1) := by decide +kernel
theorem dX0_openGap_18 : decode cX0_openGap 18 = .ok (.iaload, 1) := by decide +kernel
theorem dX0_openGap_19 : decode cX0_openGap 19 = .ok (.iload_n 3, 1) := by decide +kernel
theorem dX0_openGap_20 : decode cX0_openGap 20 = .ok (.iload_n 2, 1) := by decide +kernel
theorem dX0_openGap_21 : decode cX0_openGap 21 = .ok (.iadd, 1) := by decide +kernel
theorem dX0_openGap_22 : decode cX0_openGap 22 = .ok (.invokevirtual 66, 3) := by decide +kernel
theorem dX0_openGap_25 : decode cX0_openGap 25 = .ok (.iinc 3 (-1), 3) := by decide +kernel
theorem dX0_openGap_28 : decode cX0_openGap 28 = .ok (.goto (-21), 3) := by decide +kernel
theorem dX0_openGap_31 : decode cX0_openGap 31 = .ok (.aload_n 0, 1) := by decide +kernel
theorem dX0_openGap_32 : decode cX0_openGap 32 = .ok (.dup, 1) := by decide +kernel
theorem dX0_openGap_33 : decode cX0_openGap 33 = .ok (.getfield 16, 3) := by decide +kernel
theorem dX0_openGap_36 : decode cX0_openGap 36 = .ok (.iload_n 2, 1) := by decide +kernel
theorem dX0_openGap_37 : decode cX0_openGap 37 = .ok (.iadd, 1) := by decide +kernel
theorem dX0_openGap_38 : decode cX0_openGap 38 = .ok (.putfield 16, 3) := by decide +kernel
theorem dX0_openGap_41 : decode cX0_openGap 41 = .ok (.return_, 1) := by decide +kernel
set_option maxRecDepth 20000 in
theorem ggX0_fillGap_X0_put : GoodIn wsX0_fillGap wsX0_put := goodIn_r _ [6, 7, 1, 8, 9, 10] (by decide +kernel) (by decide +kernel)
set_option maxRecDepth 20000 in
theorem gX0_fillGap_X0_put : GoodIn wsX0_fillGap (wsV RX0 66 RX0 yX0_put wsX0_put) := goodIn_app (goodIn_of _ (by decide +kernel)) ggX0_fillGap_X0_put
theorem dX0_fillGap_0 : decode cX0_fillGap 0 = .ok (.iload_n 1, 1) := by decide +kernel
theorem dX0_fillGap_1 : decode cX0_fillGap 1 = .ok (.istore_n 3, 1) := by decide +kernel
theorem dX0_fillGap_2 : decode cX0_fillGap 2 = .ok (.iconst 0, 1) := by decide +kernel
theorem dX0_fillGap_3 : decode cX0_fillGap 3 = .ok (.istore 4, 2) := by decide +kernel
theorem dX0_fillGap_5 : decode cX0_fillGap 5 = .ok (.iload 4, 2) := by decide +kernel
theorem dX0_fillGap_7 : decode cX0_fillGap 7 = .ok (.sipush 1000, 3) := by decide +kernel
theorem dX0_fillGap_10 : decode cX0_fillGap 10 = .ok (.if_icmp .ge 35, 3) := by decide +kernel
theorem dX0_fillGap_13 : decode cX0_fillGap 13 = .ok (.iload_n 3, 1) := by decide +kernel
theorem dX0_fillGap_14 : decode cX0_fillGap 14 = .ok (.iload_n 2, 1) := by decide +kernel
theorem dX0_fillGap_15 : decode cX0_fillGap 15 = .ok (.if_icmp .ge 30, 3) := by decide +kernel
theorem dX0_fillGap_18 : decode cX0_fillGap 18 = .ok (.aload_n 0, 1) := by decide +kernel
theorem dX0_fillGap_19 : decode cX0_fillGap 19 = .ok (.getfield 13, 3) := by decide +kernel
theorem dX0_fillGap_22 : decode cX0_fillGap 22 = .ok (.iload 4, 2) := by decide +kernel
theorem dX0_fillGap_24 : decode cX0_fillGap 24 = .ok (.iaload, 1) := by decide +kernel
theorem dX0_fillGap_25 : decode cX0_fillGap 25 = .ok (.iconst (-1), 1) := by decide +kernel
theorem dX0_fillGap_26 : decode cX0_fillGap 26 = .ok (.if_icmp .ne 13, 3) := by decide +kernel
theorem dX0_fillGap_29 : decode cX0_fillGap 29 = .ok (.aload_n 0, 1) := by decide +kernel
theorem dX0_fillGap_30 : decode cX0_fillGap 30 = .ok (.iload 4, 2) := by decide +kernel
theorem dX0_fillGap_32 : decode cX0_fillGap 32 = .ok (.iload_n 3, 1) := by decide +kernel
theorem dX0_fillGap_33 : decode cX0_fillGap 33 = .ok (.invokevirtual 66, 3) := by decide +kernel
theorem dX0_fillGap_36 : decode cX0_fillGap 36 = .ok (.iinc 3 1, 3) := by decide +kernel
theorem dX0_fillGap_39 : decode cX0_fillGap 39 = .ok (.iinc 4 1, 3) := by decide +kernel
theorem dX0_fillGap_42 : decode cX0_fillGap 42 = .ok (.goto (-37), 3) := by decide +kernel
theorem dX0_fillGap_45 : decode cX0_fillGap 45 = .ok (.return_, 1) := by decide +kernel
set_option maxRecDepth 20000 in
theorem ggX0_takeOut_X0_put : GoodIn wsX0_takeOut wsX0_put := goodIn_r _ [8, 2, 1, 9, 10, 11] (by decide +kernel) (by decide +kernel)
set_option maxRecDepth 20000 in
theorem gX0_takeOut_X0_put : GoodIn wsX0_takeOut (wsV RX0 66 RX0 yX0_put wsX0_put) := goodIn_app (goodIn_of _ (by decide +kernel)) ggX0_takeOut_X0_put
theorem dX0_takeOut_0 : decode cX0_takeOut 0 = .ok (.iload_n 1, 1) := by decide +kernel
theorem dX0_takeOut_1 : decode cX0_takeOut 1 = .ok (.istore_n 3, 1) := by decide +kernel
theorem dX0_takeOut_2 : decode cX0_takeOut 2 = .ok (.iload_n 3, 1) := by decide +kernel
theorem dX0_takeOut_3 : decode cX0_takeOut 3 = .ok (.iload_n 2, 1) := by decide +kernel
theorem dX0_takeOut_4 : decode cX0_takeOut 4 = .ok (.if_icmp .ge 21, 3) := by decide +kernel
theorem dX0_takeOut_7 : decode cX0_takeOut 7 = .ok (.aload_n 0, 1) := by decide +kernel
theorem dX0_takeOut_8 : decode cX0_takeOut 8 = .ok (.getfield 13, 3) := by decide +kernel
theorem dX0_takeOut_11 : decode cX0_takeOut 11 = .ok (.aload_n 0, 1) := by decide +kernel
theorem dX0_takeOut_12 : decode cX0_takeOut 12 = .ok (.getfield 9, 3) := by decide +kernel
theorem dX0_takeOut_15 : decode cX0_takeOut 15 = .ok (.iload_n 3, 1) := by decide +kernel
theorem dX0_takeOut_16 : decode cX0_takeOut 16 = .ok (.iaload, 1) := by decide +kernel
theorem dX0_takeOut_17 : decode cX0_takeOut 17 = .ok (.iconst (-1), 1) := by decide +kernel
theorem dX0_takeOut_18 : decode cX0_takeOut 18 = .ok (.iastore, 1) := by decide +kernel
theorem dX0_takeOut_19 : decode cX0_takeOut 19 = .ok (.iinc 3 1, 3) := by decide +kernel
theorem dX0_takeOut_22 : decode cX0_takeOut 22 = .ok (.goto (-20), 3) := by decide +kernel
theorem dX0_takeOut_25 : decode cX0_takeOut 25 = .ok (.iload_n 2, 1) := by decide +kernel
theorem dX0_takeOut_26 : decode cX0_takeOut 26 = .ok (.iload_n 1, 1) := by decide +kernel
theorem dX0_takeOut_27 : decode cX0_takeOut 27 = .ok (.isub, 1) := by decide +kernel
theorem dX0_takeOut_28 : decode cX0_takeOut 28 = .ok (.istore_n 3, 1) := by decide +kernel
theorem dX0_takeOut_29 : decode cX0_takeOut 29 = .ok (.iload_n 2, 1) := by decide +kernel
theorem dX0_takeOut_30 : decode cX0_takeOut 30 = .ok (.istore 4, 2) := by decide +kernel
theorem dX0_takeOut_32 : decode cX0_takeOut 32 = .ok (.iload 4, 2) := by decide +kernel
theorem dX0_takeOut_34 : decode cX0_takeOut 34 = .ok (.aload_n 0, 1) := by decide +kernel
theorem dX0_takeOut_35 : decode cX0_takeOut 35 = .ok (.getfield 16, 3) := by decide +kernel
theorem dX0_takeOut_38 : decode cX0_takeOut 38 = .ok (.if_icmp .ge 24, 3) := by decide +kernel
theorem dX0_takeOut_41 : decode cX0_takeOut 41 = .ok (.aload_n 0, 1) := by decide +kernel
theorem dX0_takeOut_42 : decode cX0_takeOut 42 = .ok (.aload_n 0, 1) := by decide +kernel
theorem dX0_takeOut_43 : decode cX0_takeOut 43 = .ok (.getfield 9, 3) := by decide +kernel
theorem dX0_takeOut_46 : decode cX0_takeOut 46 = .ok (.iload 4, 2) := by decide +kernel
theorem dX0_takeOut_48 : decode cX0_takeOut 48 = .ok (.iaload, 1) := by decide +kernel
theorem dX0_takeOut_49 : decode cX0_takeOut 49 = .ok (.iload 4, 2) := by decide +kernel
theorem dX0_takeOut_51 : decode cX0_takeOut 51 = .ok (.iload_n 3, 1) := by decide +kernel
theorem dX0_takeOut_52 : decode cX0_takeOut 52 = .ok (.isub, 1) := by decide +kernel
theorem dX0_takeOut_53 : decode cX0_takeOut 53 = .ok (.invokevirtual 66, 3) := by decide +kernel
theorem dX0_takeOut_56 : decode cX0_takeOut 56 = .ok (.iinc 4 1, 3) := by decide +kernel
theorem dX0_takeOut_59 : decode cX0_takeOut 59 = .ok (.goto (-27), 3) := by decide +kernel
theorem dX0_takeOut_62 : decode cX0_takeOut 62 = .ok (.aload_n 0, 1) := by decide +kernel
theorem dX0_takeOut_63 : decode cX0_takeOut 63 = .ok (.dup, 1) := by decide +kernel
theorem dX0_takeOut_64 : decode cX0_takeOut 64 = .ok (.getfield 16, 3) := by decide +kernel
theorem dX0_takeOut_67 : decode cX0_takeOut 67 = .ok (.iload_n 3, 1) := by decide +kernel
theorem dX0_takeOut_68 : decode cX0_takeOut 68 = .ok (.isub, 1) := by decide +kernel
theorem dX0_takeOut_69 : decode cX0_takeOut 69 = .ok (.putfield 16, 3) := by decide +kernel
theorem dX0_takeOut_72 : decode cX0_takeOut 72 = .ok (.return_, 1) := by decide +kernel
set_option maxRecDepth 20000 in
theorem ggX0_swapBlocks_X0_turn : GoodIn wsX0_swapBlocks wsX0_turn := goodIn_r _ [5, 6, 7, 8, 9, 4, 10, 11, 12, 13, 14] (by decide +kernel) (by decide +kernel)
set_option maxRecDepth 20000 in
theorem gX0_swapBlocks_X0_turn : GoodIn wsX0_swapBlocks (wsV RX0 69 RX0 yX0_turn wsX0_turn) := goodIn_app (goodIn_of _ (by decide +kernel)) ggX0_swapBlocks_X0_turn
theorem dX0_swapBlocks_0 : decode cX0_swapBlocks 0 = .ok (.aload_n 0, 1) := by decide +kernel
theorem dX0_swapBlocks_1 : decode cX0_swapBlocks 1 = .ok (.iload_n 1, 1) := by decide +kernel
theorem dX0_swapBlocks_2 : decode cX0_swapBlocks 2 = .ok (.iload_n 2, 1) := by decide +kernel
theorem dX0_swapBlocks_3 : decode cX0_swapBlocks 3 = .ok (.invokevirtual 69, 3) := by decide +kernel
theorem dX0_swapBlocks_6 : decode cX0_swapBlocks 6 = .ok (.aload_n 0, 1) := by decide +kernel
theorem dX0_swapBlocks_7 : decode cX0_swapBlocks 7 = .ok (.iload_n 2, 1) := by decide +kernel
theorem dX0_swapBlocks_8 : decode cX0_swapBlocks 8 = .ok (.iload_n 3, 1) := by decide +kernel
theorem dX0_swapBlocks_9 : decode cX0_swapBlocks 9 = .ok (.invokevirtual 69, 3) := by decide +kernel
theorem dX0_swapBlocks_12 : decode cX0_swapBlocks 12 = .ok (.aload_n 0, 1) := by decide +kernel
theorem dX0_swapBlocks_13 : decode cX0_swapBlocks 13 = .ok (.iload_n 1, 1) := by decide +kernel
theorem dX0_swapBlocks_14 : decode cX0_swapBlocks 14 = .ok (.iload_n 3, 1) := by decide +kernel
theorem dX0_swapBlocks_15 : decode cX0_swapBlocks 15 = .ok (.invokevirtual 69, 3) := by decide +kernel
theorem dX0_swapBlocks_18 : decode cX0_swapBlocks 18 = .ok (.return_, 1) := by decide +kernel
set_option maxRecDepth 20000 in
theorem ggX0_turn_X0_put : GoodIn wsX0_turn wsX0_put := goodIn_r _ [6, 1, 7, 8, 9, 10] (by decide +kernel) (by decide +kernel)
set_option maxRecDepth 20000 in
theorem gX0_turn_X0_put : GoodIn wsX0_turn (wsV RX0 66 RX0 yX0_put wsX0_put) := goodIn_app (goodIn_of _ (by decide +kernel)) ggX0_turn_X0_put
theorem dX0_turn_0 : decode cX0_turn 0 = .ok (.iload_n 2, 1) := by decide +kernel
theorem dX0_turn_1 : decode cX0_turn 1 = .ok (.iconst 1, 1) := by decide +kernel
theorem dX0_turn_2 : decode cX0_turn 2 = .ok (.isub, 1) := by decide +kernel
theorem dX0_turn_3 : decode cX0_turn 3 = .ok (.istore_n 3, 1) := by decide +kernel
theorem dX0_turn_4 : decode cX0_turn 4 = .ok (.iload_n 1, 1) := by decide +kernel
theorem dX0_turn_5 : decode cX0_turn 5 = .ok (.istore 4, 2) := by decide +kernel
theorem dX0_turn_7 : decode cX0_turn 7 = .ok (.iload 4, 2) := by decide +kernel
theorem dX0_turn_9 : decode cX0_turn 9 = .ok (.iload_n 3, 1) := by decide +kernel
theorem dX0_turn_10 : decode cX0_turn 10 = .ok (.if_icmp .ge 40, 3) := by decide +kernel
theorem dX0_turn_13 : decode cX0_turn 13 = .ok (.aload_n 0, 1) := by decide +kernel
theorem dX0_turn_14 : decode cX0_turn 14 = .ok (.getfield 9, 3) := by decide +kernel
theorem dX0_turn_17 : decode cX0_turn 17 = .ok (.iload 4, 2) := by decide +kernel
theorem dX0_turn_19 : decode cX0_turn 19 = .ok (.iaload, 1) := by decide +kernel
theorem dX0_turn_20 : decode cX0_turn 20 = .ok (.istore 5, 2) := by decide +kernel
theorem dX0_turn_22 : decode cX0_turn 22 = .ok (.aload_n 0, 1) := by decide +kernel
theorem dX0_turn_23 : decode cX0_turn 23 = .ok (.aload_n 0, 1) := by decide +kernel
theorem dX0_turn_24 : decode cX0_turn 24 = .ok (.getfield 9, 3) := by decide +kernel
theorem dX0_turn_27 : decode cX0_turn 27 = .ok (.iload_n 3, 1) := by decide +kernel
theorem dX0_turn_28 : decode cX0_turn 28 = .ok (.iaload, 1) := by decide +kernel
theorem dX0_turn_29 : decode cX0_turn 29 = .ok (.iload 4, 2) := by decide +kernel
theorem dX0_turn_31 : decode cX0_turn 31 = .ok (.invokevirtual 66, 3) := by decide +kernel
theorem dX0_turn_34 : decode cX0_turn 34 = .ok (.aload_n 0, 1) := by decide +kernel
theorem dX0_turn_35 : decode cX0_turn 35 = .ok (.iload 5, 2) := by decide +kernel
theorem dX0_turn_37 : decode cX0_turn 37 = .ok (.iload_n 3, 1) := by decide +kernel
theorem dX0_turn_38 : decode cX0_turn 38 = .ok (.invokevirtual 66, 3) := by decide +kernel
theorem dX0_turn_41 : decode cX0_turn 41 = .ok (.iinc 3 (-1), 3) := by decide +kernel
theorem dX0_turn_44 : decode cX0_turn 44 = .ok (.iinc 4 1, 3) := by decide +kernel
theorem dX0_turn_47 : decode cX0_turn 47 = .ok (.goto (-40), 3) := by decide +kernel
theorem dX0_turn_50 : decode cX0_turn 50 = .ok (.return_, 1) := by decide +kernel
theorem dX0_put_0 : decode cX0_put 0 = .ok (.aload_n 0, 1) := by decide +kernel
theorem dX0_put_1 : decode cX0_put 1 = .ok (.getfield 9, 3) := by decide +kernel
theorem dX0_put_4 : decode cX0_put 4 = .ok (.iload_n 2, 1) := by decide +kernel
theorem dX0_put_5 : decode cX0_put 5 = .ok (.iload_n 1, 1) := by decide +kernel
theorem dX0_put_6 : decode cX0_put 6 = .ok (.iastore, 1) := by decide +kernel
theorem dX0_put_7 : decode cX0_put 7 = .ok (.aload_n 0, 1) := by decide +kernel
theorem dX0_put_8 : decode cX0_put 8 = .ok (.getfield 13, 3) := by decide +kernel
theorem dX0_put_11 : decode cX0_put 11 = .ok (.iload_n 1, 1) := by decide +kernel
theorem dX0_put_12 : decode cX0_put 12 = .ok (.iload_n 2, 1) := by decide +kernel
theorem dX0_put_13 : decode cX0_put 13 = .ok (.iastore, 1) := by decide +kernel
theorem dX0_put_14 : decode cX0_put 14 = .ok (.return_, 1) := by decide +kernel
theorem dX1_init_0 : decode cX1_init 0 = .ok (.aload_n 0, 1) := by decide +kernel
theorem dX1_init_1 : decode cX1_init 1 = .ok (.invokespecial 1, 3) := by decide +kernel
theorem dX1_init_4 : decode cX1_init 4 = .ok (.aload_n 0, 1) := by decide +kernel
theorem dX1_init_5 : decode cX1_init 5 = .ok (.sipush 1000, 3) := by decide +kernel
theorem dX1_init_8 : decode cX1_init 8 = .ok (.newarray .int, 2) := by decide +kernel
theorem dX1_init_10 : decode cX1_init 10 = .ok (.putfield 7, 3) := by decide +kernel
theorem dX1_init_13 : decode cX1_init 13 = .ok (.aload_n 0, 1) := by decide +kernel
theorem dX1_init_14 : decode cX1_init 14 = .ok (.iconst 1, 1) := by decide +kernel
theorem dX1_init_15 : decode cX1_init 15 = .ok (.putfield 13, 3) := by decide +kernel
theorem dX1_init_18 : decode cX1_init 18 = .ok (.aload_n 0, 1) := by decide +kernel
theorem dX1_init_19 : decode cX1_init 19 = .ok (.sipush 1000, 3) := by decide +kernel
theorem dX1_init_22 : decode cX1_init 22 = .ok (.newarray .int, 2) := by decide +kernel
theorem dX1_init_24 : decode cX1_init 24 = .ok (.putfield 17, 3) := by decide +kernel
theorem dX1_init_27 : decode cX1_init 27 = .ok (.return_, 1) := by decide +kernel
theorem dX1_thrown_0 : decode cX1_thrown 0 = .ok (.aload_n 0, 1) := by decide +kernel
theorem dX1_thrown_1 : decode cX1_thrown 1 = .ok (.getfield 20, 3) := by decide +kernel
theorem dX1_thrown_4 : decode cX1_thrown 4 = .ok (.ireturn, 1) := by decide +kernel
theorem dX1_behind_0 : decode cX1_behind 0 = .ok (.aload_n 0, 1) := by decide +kernel
theorem dX1_behind_1 : decode cX1_behind 1 = .ok (.iload_n 1, 1) := by decide +kernel
theorem dX1_behind_2 : decode cX1_behind 2 = .ok (.iconst 0, 1) := by decide +kernel
theorem dX1_behind_3 : decode cX1_behind 3 = .ok (.iconst 0, 1) := by decide +kernel
theorem dX1_behind_4 : decode cX1_behind 4 = .ok (.invokevirtual 27, 3) := by decide +kernel
theorem dX1_behind_7 : decode cX1_behind 7 = .ok (.ifCond .eq 5, 3) := by decide +kernel
theorem dX1_behind_10 : decode cX1_behind 10 = .ok (.iconst 0, 1) := by decide +kernel
theorem dX1_behind_11 : decode cX1_behind 11 = .ok (.ireturn, 1) := by decide +kernel
theorem dX1_behind_12 : decode cX1_behind 12 = .ok (.aload_n 0, 1) := by decide +kernel
theorem dX1_behind_13 : decode cX1_behind 13 = .ok (.invokevirtual 31, 3) := by decide +kernel
theorem dX1_behind_16 : decode cX1_behind 16 = .ok (.istore_n 2, 1) := by decide +kernel
theorem dX1_behind_17 : decode cX1_behind 17 = .ok (.iload_n 2, 1) := by decide +kernel
theorem dX1_behind_18 : decode cX1_behind 18 = .ok (.ifCond .lt 15, 3) := by decide +kernel
theorem dX1_behind_21 : decode cX1_behind 21 = .ok (.aload_n 0, 1) := by decide +kernel
theorem dX1_behind_22 : decode cX1_behind 22 = .ok (.iload_n 2, 1) := by decide +kernel
theorem dX1_behind_23 : decode cX1_behind 23 = .ok (.aload_n 0, 1) := by decide +kernel
theorem dX1_behind_24 : decode cX1_behind 24 = .ok (.iload_n 1, 1) := by decide +kernel
theorem dX1_behind_25 : decode cX1_behind 25 = .ok (.invokevirtual 23, 3) := by decide +kernel
theorem dX1_behind_28 : decode cX1_behind 28 = .ok (.iconst 1, 1) := by decide +kernel
theorem dX1_behind_29 : decode cX1_behind 29 = .ok (.iadd, 1) := by decide +kernel
theorem dX1_behind_30 : decode cX1_behind 30 = .ok (.invokevirtual 35, 3) := by decide +kernel
theorem dX1_behind_33 : decode cX1_behind 33 = .ok (.iload_n 2, 1) := by decide +kernel
theorem dX1_behind_34 : decode cX1_behind 34 = .ok (.ireturn, 1) := by decide +kernel
theorem dJ9_max_7cf53_0 : decode cJ9_max_7cf53 0 = .ok (.iload_n 0, 1) := by decide +kernel
theorem dJ9_max_7cf53_1 : decode cJ9_max_7cf53 1 = .ok (.iload_n 1, 1) := by decide +kernel
theorem dJ9_max_7cf53_2 : decode cJ9_max_7cf53 2 = .ok (.if_icmp .lt 7, 3) := by decide +kernel
theorem dJ9_max_7cf53_5 : decode cJ9_max_7cf53 5 = .ok (.iload_n 0, 1) := by decide +kernel
theorem dJ9_max_7cf53_6 : decode cJ9_max_7cf53 6 = .ok (.goto 4, 3) := by decide +kernel
theorem dJ9_max_7cf53_9 : decode cJ9_max_7cf53 9 = .ok (.iload_n 1, 1) := by decide +kernel
theorem dJ9_max_7cf53_10 : decode cJ9_max_7cf53 10 = .ok (.ireturn, 1) := by decide +kernel
set_option maxRecDepth 20000 in
theorem ggL_behind_X0_behind : GoodIn wsL_behind wsX0_behind := goodIn_ca (goodIn_r _ [6, 7, 8, 9, 10, 5, 11, 12, 13, 14, 15, 16, 17, 18, 19, 20, 21, 22, 23, 24, 25, 26, 27, 28, 29, 30, 31, 32, 33, 34, 35, 36, 37, 38] (by decide +kernel) (by decide +kernel)) (goodIn_sub (fun _ h => List.mem_cons_of_mem _ (List.mem_append_right _ h)) (by decide +kernel))
set_option maxRecDepth 20000 in
theorem gL_behind_X0_behind : GoodIn wsL_behind (wsV RL 7 RX0 yX0_behind wsX0_behind) := goodIn_app (goodIn_of _ (by decide +kernel)) ggL_behind_X0_behind
theorem dL_behind_0 : decode cL_behind 0 = .ok (.aload_n 2, 1) := by decide +kernel
theorem dL_behind_1 : decode cL_behind 1 = .ok (.iconst 0, 1) := by decide +kernel
theorem dL_behind_2 : decode cL_behind 2 = .ok (.aload_n 0, 1) := by decide +kernel
theorem dL_behind_3 : decode cL_behind 3 = .ok (.iload_n 1, 1) := by decide +kernel
theorem dL_behind_4 : decode cL_behind 4 = .ok (.invokevirtual 7, 3) := by decide +kernel
theorem dL_behind_7 : decode cL_behind 7 = .ok (.i2l, 1) := by decide +kernel
theorem dL_behind_8 : decode cL_behind 8 = .ok (.lastore, 1) := by decide +kernel
theorem dL_behind_9 : decode cL_behind 9 = .ok (.goto 6, 3) := by decide +kernel
theorem dL_behind_12 : decode cL_behind 12 = .ok (.astore_n 3, 1) := by decide +kernel
theorem dL_behind_13 : decode cL_behind 13 = .ok (.iconst 1, 1) := by decide +kernel
theorem dL_behind_14 : decode cL_behind 14 = .ok (.ireturn, 1) := by decide +kernel
theorem dL_behind_15 : decode cL_behind 15 = .ok (.iconst 0, 1) := by decide +kernel
theorem dL_behind_16 : decode cL_behind 16 = .ok (.ireturn, 1) := by decide +kernel
set_option maxRecDepth 20000 in
theorem ggL_several_X0_several : GoodIn wsL_several wsX0_several := goodIn_ca (goodIn_r _ [6, 7, 8, 9, 10, 5, 11, 12, 13, 14, 15, 16, 17, 18, 19, 20, 21, 22, 23, 24, 25, 26, 27, 28, 29, 30, 31, 32, 33, 34, 35, 36, 37, 38] (by decide +kernel) (by decide +kernel)) (goodIn_sub (fun _ h => List.mem_cons_of_mem _ (List.mem_append_right _ h)) (by decide +kernel))
set_option maxRecDepth 20000 in
theorem gL_several_X0_several : GoodIn wsL_several (wsV RL 15 RX0 yX0_several wsX0_several) := goodIn_app (goodIn_of _ (by decide +kernel)) ggL_several_X0_several
theorem dL_several_0 : decode cL_several 0 = .ok (.aload_n 3, 1) := by decide +kernel
theorem dL_several_1 : decode cL_several 1 = .ok (.iconst 0, 1) := by decide +kernel
theorem dL_several_2 : decode cL_several 2 = .ok (.aload_n 0, 1) := by decide +kernel
theorem dL_several_3 : decode cL_several 3 = .ok (.iload_n 1, 1) := by decide +kernel
theorem dL_several_4 : decode cL_several 4 = .ok (.iload_n 2, 1) := by decide +kernel
theorem dL_several_5 : decode cL_several 5 = .ok (.invokevirtual 15, 3) := by decide +kernel
theorem dL_several_8 : decode cL_several 8 = .ok (.i2l, 1) := by decide +kernel
theorem dL_several_9 : decode cL_several 9 = .ok (.lastore, 1) := by decide +kernel
theorem dL_several_10 : decode cL_several 10 = .ok (.goto 7, 3) := by decide +kernel
theorem dL_several_13 : decode cL_several 13 = .ok (.astore 4, 2) := by decide +kernel
theorem dL_several_15 : decode cL_several 15 = .ok (.iconst 1, 1) := by decide +kernel
theorem dL_several_16 : decode cL_several 16 = .ok (.ireturn, 1) := by decide +kernel
theorem dL_several_17 : decode cL_several 17 = .ok (.iconst 0, 1) := by decide +kernel
theorem dL_several_18 : decode cL_several 18 = .ok (.ireturn, 1) := by decide +kernel
set_option maxRecDepth 20000 in
theorem ggL_clear_X0_clear : GoodIn wsL_clear wsX0_clear := goodIn_ca (goodIn_r _ [6, 7, 8, 9, 10, 5, 11, 12, 13, 14, 15, 16, 17, 18, 19, 20, 21, 22, 23, 24, 25, 26, 27, 28, 29, 30] (by decide +kernel) (by decide +kernel)) (goodIn_sub (fun _ h => List.mem_cons_of_mem _ (List.mem_append_right _ h)) (by decide +kernel))
set_option maxRecDepth 20000 in
theorem gL_clear_X0_clear : GoodIn wsL_clear (wsV RL 19 RX0 yX0_clear wsX0_clear) := goodIn_app (goodIn_of _ (by decide +kernel)) ggL_clear_X0_clear
theorem dL_clear_0 : decode cL_clear 0 = .ok (.aload_n 3, 1) := by decide +kernel
theorem dL_clear_1 : decode cL_clear 1 = .ok (.iconst 0, 1) := by decide +kernel
theorem dL_clear_2 : decode cL_clear 2 = .ok (.aload_n 0, 1) := by decide +kernel
theorem dL_clear_3 : decode cL_clear 3 = .ok (.iload_n 1, 1) := by decide +kernel
theorem dL_clear_4 : decode cL_clear 4 = .ok (.iload_n 2, 1) := by decide +kernel
theorem dL_clear_5 : decode cL_clear 5 = .ok (.invokevirtual 19, 3) := by decide +kernel
theorem dL_clear_8 : decode cL_clear 8 = .ok (.i2l, 1) := by decide +kernel
theorem dL_clear_9 : decode cL_clear 9 = .ok (.lastore, 1) := by decide +kernel
theorem dL_clear_10 : decode cL_clear 10 = .ok (.goto 7, 3) := by decide +kernel
theorem dL_clear_13 : decode cL_clear 13 = .ok (.astore 4, 2) := by decide +kernel
theorem dL_clear_15 : decode cL_clear 15 = .ok (.iconst 1, 1) := by decide +kernel
theorem dL_clear_16 : decode cL_clear 16 = .ok (.ireturn, 1) := by decide +kernel
theorem dL_clear_17 : decode cL_clear 17 = .ok (.iconst 0, 1) := by decide +kernel
theorem dL_clear_18 : decode cL_clear 18 = .ok (.ireturn, 1) := by decide +kernel
set_option maxRecDepth 20000 in
theorem ggL_carry_X0_carry : GoodIn wsL_carry wsX0_carry := goodIn_ca (goodIn_r _ [6, 7, 8, 9, 10, 5, 11, 12, 13, 14, 15, 16, 17, 18, 19, 20, 21, 22, 23, 24, 25, 26, 27, 28, 29, 30, 31, 32, 33] (by decide +kernel) (by decide +kernel)) (goodIn_sub (fun _ h => List.mem_cons_of_mem _ (List.mem_append_right _ h)) (by decide +kernel))
set_option maxRecDepth 20000 in
theorem gL_carry_X0_carry : GoodIn wsL_carry (wsV RL 22 RX0 yX0_carry wsX0_carry) := goodIn_app (goodIn_of _ (by decide +kernel)) ggL_carry_X0_carry
theorem dL_carry_0 : decode cL_carry 0 = .ok (.aload 4, 2) := by decide +kernel
theorem dL_carry_2 : decode cL_carry 2 = .ok (.iconst 0, 1) := by decide +kernel
theorem dL_carry_3 : decode cL_carry 3 = .ok (.aload_n 0, 1) := by decide +kernel
theorem dL_carry_4 : decode cL_carry 4 = .ok (.iload_n 1, 1) := by decide +kernel
theorem dL_carry_5 : decode cL_carry 5 = .ok (.iload_n 2, 1) := by decide +kernel
theorem dL_carry_6 : decode cL_carry 6 = .ok (.iload_n 3, 1) := by decide +kernel
theorem dL_carry_7 : decode cL_carry 7 = .ok (.invokevirtual 22, 3) := by decide +kernel
theorem dL_carry_10 : decode cL_carry 10 = .ok (.i2l, 1) := by decide +kernel
theorem dL_carry_11 : decode cL_carry 11 = .ok (.lastore, 1) := by decide +kernel
theorem dL_carry_12 : decode cL_carry 12 = .ok (.goto 7, 3) := by decide +kernel
theorem dL_carry_15 : decode cL_carry 15 = .ok (.astore 5, 2) := by decide +kernel
theorem dL_carry_17 : decode cL_carry 17 = .ok (.iconst 1, 1) := by decide +kernel
theorem dL_carry_18 : decode cL_carry 18 = .ok (.ireturn, 1) := by decide +kernel
theorem dL_carry_19 : decode cL_carry 19 = .ok (.iconst 0, 1) := by decide +kernel
theorem dL_carry_20 : decode cL_carry 20 = .ok (.ireturn, 1) := by decide +kernel
set_option maxRecDepth 20000 in
theorem ggL_compare_X0_compare : GoodIn wsL_compare wsX0_compare := goodIn_ca (goodIn_r _ [6, 7, 8, 9, 10, 5, 11, 12, 13, 14, 15, 16, 17, 18, 19, 20] (by decide +kernel) (by decide +kernel)) (goodIn_sub (fun _ h => List.mem_cons_of_mem _ (List.mem_append_right _ h)) (by decide +kernel))
set_option maxRecDepth 20000 in
theorem gL_compare_X0_compare : GoodIn wsL_compare (wsV RL 26 RX0 yX0_compare wsX0_compare) := goodIn_app (goodIn_of _ (by decide +kernel)) ggL_compare_X0_compare
theorem dL_compare_0 : decode cL_compare 0 = .ok (.aload_n 3, 1) := by decide +kernel
theorem dL_compare_1 : decode cL_compare 1 = .ok (.iconst 0, 1) := by decide +kernel
theorem dL_compare_2 : decode cL_compare 2 = .ok (.aload_n 0, 1) := by decide +kernel
theorem dL_compare_3 : decode cL_compare 3 = .ok (.iload_n 1, 1) := by decide +kernel
theorem dL_compare_4 : decode cL_compare 4 = .ok (.iload_n 2, 1) := by decide +kernel
theorem dL_compare_5 : decode cL_compare 5 = .ok (.invokevirtual 26, 3) := by decide +kernel
theorem dL_compare_8 : decode cL_compare 8 = .ok (.i2l, 1) := by decide +kernel
theorem dL_compare_9 : decode cL_compare 9 = .ok (.lastore, 1) := by decide +kernel
theorem dL_compare_10 : decode cL_compare 10 = .ok (.goto 7, 3) := by decide +kernel
theorem dL_compare_13 : decode cL_compare 13 = .ok (.astore 4, 2) := by decide +kernel
theorem dL_compare_15 : decode cL_compare 15 = .ok (.iconst 1, 1) := by decide +kernel
theorem dL_compare_16 : decode cL_compare 16 = .ok (.ireturn, 1) := by decide +kernel
theorem dL_compare_17 : decode cL_compare 17 = .ok (.iconst 0, 1) := by decide +kernel
theorem dL_compare_18 : decode cL_compare 18 = .ok (.ireturn, 1) := by decide +kernel
set_option maxRecDepth 20000 in
theorem ggL_next_X0_next : GoodIn wsL_next wsX0_next := goodIn_ca (goodIn_r _ [6, 7, 8, 9, 10, 5, 11, 12, 13, 14, 15, 16, 17, 18, 19, 20, 21, 22, 23, 24, 25, 26] (by decide +kernel) (by decide +kernel)) (goodIn_sub (fun _ h => List.mem_cons_of_mem _ (List.mem_append_right _ h)) (by decide +kernel))
set_option maxRecDepth 20000 in
theorem gL_next_X0_next : GoodIn wsL_next (wsV RL 29 RX0 yX0_next wsX0_next) := goodIn_app (goodIn_of _ (by decide +kernel)) ggL_next_X0_next
theorem dL_next_0 : decode cL_next 0 = .ok (.aload_n 3, 1) := by decide +kernel
theorem dL_next_1 : decode cL_next 1 = .ok (.iconst 0, 1) := by decide +kernel
theorem dL_next_2 : decode cL_next 2 = .ok (.aload_n 0, 1) := by decide +kernel
theorem dL_next_3 : decode cL_next 3 = .ok (.iload_n 1, 1) := by decide +kernel
theorem dL_next_4 : decode cL_next 4 = .ok (.iload_n 2, 1) := by decide +kernel
theorem dL_next_5 : decode cL_next 5 = .ok (.invokevirtual 29, 3) := by decide +kernel
theorem dL_next_8 : decode cL_next 8 = .ok (.i2l, 1) := by decide +kernel
theorem dL_next_9 : decode cL_next 9 = .ok (.lastore, 1) := by decide +kernel
theorem dL_next_10 : decode cL_next 10 = .ok (.goto 7, 3) := by decide +kernel
theorem dL_next_13 : decode cL_next 13 = .ok (.astore 4, 2) := by decide +kernel
theorem dL_next_15 : decode cL_next 15 = .ok (.iconst 1, 1) := by decide +kernel
theorem dL_next_16 : decode cL_next 16 = .ok (.ireturn, 1) := by decide +kernel
theorem dL_next_17 : decode cL_next 17 = .ok (.iconst 0, 1) := by decide +kernel
theorem dL_next_18 : decode cL_next 18 = .ok (.ireturn, 1) := by decide +kernel
set_option maxRecDepth 20000 in
theorem ggL_place_X0_place : GoodIn wsL_place wsX0_place := goodIn_ca (goodIn_r _ [6, 7, 8, 9, 10, 5, 11, 12, 13, 14, 15, 16, 17, 18, 19, 20] (by decide +kernel) (by decide +kernel)) (goodIn_sub (fun _ h => List.mem_cons_of_mem _ (List.mem_append_right _ h)) (by decide +kernel))
set_option maxRecDepth 20000 in
theorem gL_place_X0_place : GoodIn wsL_place (wsV RL 33 RX0 yX0_place wsX0_place) := goodIn_app (goodIn_of _ (by decide +kernel)) ggL_place_X0_place
theorem dL_place_0 : decode cL_place 0 = .ok (.aload_n 2, 1) := by decide +kernel
theorem dL_place_1 : decode cL_place 1 = .ok (.iconst 0, 1) := by decide +kernel
theorem dL_place_2 : decode cL_place 2 = .ok (.aload_n 0, 1) := by decide +kernel
theorem dL_place_3 : decode cL_place 3 = .ok (.iload_n 1, 1) := by decide +kernel
theorem dL_place_4 : decode cL_place 4 = .ok (.invokevirtual 33, 3) := by decide +kernel
theorem dL_place_7 : decode cL_place 7 = .ok (.i2l, 1) := by decide +kernel
theorem dL_place_8 : decode cL_place 8 = .ok (.lastore, 1) := by decide +kernel
theorem dL_place_9 : decode cL_place 9 = .ok (.goto 6, 3) := by decide +kernel
theorem dL_place_12 : decode cL_place 12 = .ok (.astore_n 3, 1) := by decide +kernel
theorem dL_place_13 : decode cL_place 13 = .ok (.iconst 1, 1) := by decide +kernel
theorem dL_place_14 : decode cL_place 14 = .ok (.ireturn, 1) := by decide +kernel
theorem dL_place_15 : decode cL_place 15 = .ok (.iconst 0, 1) := by decide +kernel
theorem dL_place_16 : decode cL_place 16 = .ok (.ireturn, 1) := by decide +kernel
set_option maxRecDepth 20000 in
theorem ggL_greatest_X0_greatest : GoodIn wsL_greatest wsX0_greatest := goodIn_ca (goodIn_r _ [6, 7, 8, 9, 10, 11, 12, 13, 14, 15, 5, 16, 17, 18, 19, 20, 21, 22, 23, 24, 25] (by decide +kernel) (by decide +kernel)) (goodIn_sub (fun _ h => List.mem_cons_of_mem _ (List.mem_append_right _ h)) (by decide +kernel))
set_option maxRecDepth 20000 in
theorem gL_greatest_X0_greatest : GoodIn wsL_greatest (wsV RL 36 RX0 yX0_greatest wsX0_greatest) := goodIn_app (goodIn_of _ (by decide +kernel)) ggL_greatest_X0_greatest
theorem dL_greatest_0 : decode cL_greatest 0 = .ok (.aload_n 3, 1) := by decide +kernel
theorem dL_greatest_1 : decode cL_greatest 1 = .ok (.iconst 0, 1) := by decide +kernel
theorem dL_greatest_2 : decode cL_greatest 2 = .ok (.aload_n 0, 1) := by decide +kernel
theorem dL_greatest_3 : decode cL_greatest 3 = .ok (.iload_n 1, 1) := by decide +kernel
theorem dL_greatest_4 : decode cL_greatest 4 = .ok (.iload_n 2, 1) := by decide +kernel
theorem dL_greatest_5 : decode cL_greatest 5 = .ok (.invokevirtual 36, 3) := by decide +kernel
theorem dL_greatest_8 : decode cL_greatest 8 = .ok (.i2l, 1) := by decide +kernel
theorem dL_greatest_9 : decode cL_greatest 9 = .ok (.lastore, 1) := by decide +kernel
theorem dL_greatest_10 : decode cL_greatest 10 = .ok (.goto 7, 3) := by decide +kernel
theorem dL_greatest_13 : decode cL_greatest 13 = .ok (.astore 4, 2) := by decide +kernel
theorem dL_greatest_15 : decode cL_greatest 15 = .ok (.iconst 1, 1) := by decide +kernel
theorem dL_greatest_16 : decode cL_greatest 16 = .ok (.ireturn, 1) := by decide +kernel
theorem dL_greatest_17 : decode cL_greatest 17 = .ok (.iconst 0, 1) := by decide +kernel
theorem dL_greatest_18 : decode cL_greatest 18 = .ok (.ireturn, 1) := by decide +kernel
set_option maxRecDepth 20000 in
theorem ggL_law_X0_init : GoodIn wsL_law wsX0_init := goodIn_r _ [8, 9, 10, 11, 12, 13, 14, 15, 154, 155, 156] (by decide +kernel) (by decide +kernel)
set_option maxRecDepth 20000 in
theorem gL_law_X0_init : GoodIn wsL_law (wsX0_init) := ggL_law_X0_init
set_option maxRecDepth 20000 in
theorem ggL_law_X1_init : GoodIn wsL_law wsX1_init := goodIn_r _ [18, 19, 10, 11, 12, 20, 21, 22, 157, 158, 159, 160] (by decide +kernel) (by decide +kernel)
set_option maxRecDepth 20000 in
theorem gL_law_X1_init : GoodIn wsL_law (wsX1_init) := ggL_law_X1_init
set_option maxRecDepth 20000 in
theorem ggL_law_L_behind : GoodIn wsL_law wsL_behind := goodIn_ca (goodIn_r _ [26, 27, 28, 29, 30, 2, 31, 15, 32, 33, 34, 35, 36, 37, 38, 39, 40, 41, 14, 42, 43, 44, 45, 13, 46, 47, 48, 49, 50, 51, 52, 53, 54, 55, 56, 57, 154, 155, 156] (by decide +kernel) (by decide +kernel)) (goodIn_sub (fun _ h => List.mem_append_right _ h) (by decide +kernel))
set_option maxRecDepth 20000 in
theorem gL_law_L_behind : GoodIn wsL_law (va_wsS RL 43 yL_behind wsL_behind) := goodIn_app (goodIn_of _ (by decide +kernel)) ggL_law_L_behind
set_option maxRecDepth 20000 in
theorem ggL_law_X1_thrown : GoodIn wsL_law wsX1_thrown := goodIn_r _ [65, 66, 157, 158, 159, 160] (by decide +kernel) (by decide +kernel)
set_option maxRecDepth 20000 in
theorem gL_law_X1_thrown : GoodIn wsL_law (wsV RL 49 RX1 yX1_thrown wsX1_thrown) := goodIn_app (goodIn_of _ (by decide +kernel)) ggL_law_X1_thrown
set_option maxRecDepth 20000 in
theorem ggL_law_L_several : GoodIn wsL_law wsL_several := goodIn_ca (goodIn_r _ [69, 27, 70, 71, 72, 2, 73, 15, 32, 33, 34, 35, 36, 37, 38, 39, 40, 41, 14, 42, 43, 44, 45, 13, 46, 47, 48, 49, 50, 51, 52, 53, 54, 55, 56, 57, 154, 155, 156] (by decide +kernel) (by decide +kernel)) (goodIn_sub (fun _ h => List.mem_append_right _ h) (by decide +kernel))
set_option maxRecDepth 20000 in
theorem gL_law_L_several : GoodIn wsL_law (va_wsS RL 53 yL_several wsL_several) := goodIn_app (goodIn_of _ (by decide +kernel)) ggL_law_L_several
set_option maxRecDepth 20000 in
theorem ggL_law_X0_remove : GoodIn wsL_law wsX0_remove := goodIn_r _ [77, 14, 38, 39, 40, 2, 41, 78, 79, 80, 81, 13, 15, 50, 51, 52, 53, 154, 155, 156] (by decide +kernel) (by decide +kernel)
set_option maxRecDepth 20000 in
theorem gL_law_X0_remove : GoodIn wsL_law (wsV RL 57 RX0 yX0_remove wsX0_remove) := goodIn_app (goodIn_of _ (by decide +kernel)) ggL_law_X0_remove
set_option maxRecDepth 20000 in
theorem ggL_law_L_clear : GoodIn wsL_law wsL_clear := goodIn_ca (goodIn_r _ [84, 27, 85, 86, 87, 2, 88, 14, 32, 33, 34, 35, 36, 37, 38, 39, 40, 41, 78, 79, 80, 81, 13, 15, 50, 51, 52, 53, 154, 155, 156] (by decide +kernel) (by decide +kernel)) (goodIn_sub (fun _ h => List.mem_append_right _ h) (by decide +kernel))
set_option maxRecDepth 20000 in
theorem gL_law_L_clear : GoodIn wsL_law (va_wsS RL 62 yL_clear wsL_clear) := goodIn_app (goodIn_of _ (by decide +kernel)) ggL_law_L_clear
set_option maxRecDepth 20000 in
theorem ggL_law_L_carry : GoodIn wsL_law wsL_carry := goodIn_ca (goodIn_r _ [91, 27, 92, 93, 94, 2, 95, 14, 32, 33, 34, 35, 36, 37, 38, 39, 40, 41, 96, 97, 98, 99, 100, 101, 102, 103, 13, 50, 51, 52, 53, 154, 155, 156] (by decide +kernel) (by decide +kernel)) (goodIn_sub (fun _ h => List.mem_append_right _ h) (by decide +kernel))
set_option maxRecDepth 20000 in
theorem gL_law_L_carry : GoodIn wsL_law (va_wsS RL 65 yL_carry wsL_carry) := goodIn_app (goodIn_of _ (by decide +kernel)) ggL_law_L_carry
set_option maxRecDepth 20000 in
theorem ggL_law_L_compare : GoodIn wsL_law wsL_compare := goodIn_ca (goodIn_r _ [106, 27, 107, 108, 109, 2, 110, 14, 32, 33, 34, 35, 36, 37, 38, 39, 40, 41, 154, 155, 156] (by decide +kernel) (by decide +kernel)) (goodIn_sub (fun _ h => List.mem_append_right _ h) (by decide +kernel))
set_option maxRecDepth 20000 in
theorem gL_law_L_compare : GoodIn wsL_law (va_wsS RL 69 yL_compare wsL_compare) := goodIn_app (goodIn_of _ (by decide +kernel)) ggL_law_L_compare
set_option maxRecDepth 20000 in
theorem ggL_law_L_next : GoodIn wsL_law wsL_next := goodIn_ca (goodIn_r _ [113, 27, 114, 115, 116, 2, 117, 14, 32, 33, 34, 35, 36, 37, 38, 39, 40, 41, 118, 119, 120, 121, 15, 13, 154, 155, 156] (by decide +kernel) (by decide +kernel)) (goodIn_sub (fun _ h => List.mem_append_right _ h) (by decide +kernel))
set_option maxRecDepth 20000 in
theorem gL_law_L_next : GoodIn wsL_law (va_wsS RL 72 yL_next wsL_next) := goodIn_app (goodIn_of _ (by decide +kernel)) ggL_law_L_next
set_option maxRecDepth 20000 in
theorem ggL_law_X0_has : GoodIn wsL_law wsX0_has := goodIn_r _ [41, 14, 154, 155, 156] (by decide +kernel) (by decide +kernel)
set_option maxRecDepth 20000 in
theorem gL_law_X0_has : GoodIn wsL_law (wsV RL 76 RX0 yX0_has wsX0_has) := goodIn_app (goodIn_of _ (by decide +kernel)) ggL_law_X0_has
set_option maxRecDepth 20000 in
theorem ggL_law_L_place : GoodIn wsL_law wsL_place := goodIn_ca (goodIn_r _ [125, 27, 126, 127, 128, 2, 129, 14, 32, 33, 34, 35, 36, 37, 38, 39, 40, 41, 154, 155, 156] (by decide +kernel) (by decide +kernel)) (goodIn_sub (fun _ h => List.mem_append_right _ h) (by decide +kernel))
set_option maxRecDepth 20000 in
theorem gL_law_L_place : GoodIn wsL_law (va_wsS RL 80 yL_place wsL_place) := goodIn_app (goodIn_of _ (by decide +kernel)) ggL_law_L_place
set_option maxRecDepth 20000 in
theorem ggL_law_X0_at : GoodIn wsL_law wsX0_at := goodIn_r _ [121, 15, 13, 154, 155, 156] (by decide +kernel) (by decide +kernel)
set_option maxRecDepth 20000 in
theorem gL_law_X0_at : GoodIn wsL_law (wsV RL 83 RX0 yX0_at wsX0_at) := goodIn_app (goodIn_of _ (by decide +kernel)) ggL_law_X0_at
set_option maxRecDepth 20000 in
theorem ggL_law_L_greatest : GoodIn wsL_law wsL_greatest := goodIn_ca (goodIn_r _ [133, 27, 134, 135, 136, 2, 137, 14, 13, 138, 139, 140, 141, 32, 33, 34, 35, 36, 37, 38, 39, 40, 41, 154, 155, 156] (by decide +kernel) (by decide +kernel)) (goodIn_sub (fun _ h => List.mem_append_right _ h) (by decide +kernel))
set_option maxRecDepth 20000 in
theorem gL_law_L_greatest : GoodIn wsL_law (va_wsS RL 87 yL_greatest wsL_greatest) := goodIn_app (goodIn_of _ (by decide +kernel)) ggL_law_L_greatest
set_option maxRecDepth 20000 in
theorem ggL_law_X0_wipe : GoodIn wsL_law wsX0_wipe := goodIn_r _ [145, 15, 78, 79, 80, 2, 81, 14, 13, 50, 51, 52, 53, 154, 155, 156] (by decide +kernel) (by decide +kernel)
set_option maxRecDepth 20000 in
theorem gL_law_X0_wipe : GoodIn wsL_law (wsV RL 90 RX0 yX0_wipe wsX0_wipe) := goodIn_app (goodIn_of _ (by decide +kernel)) ggL_law_X0_wipe
set_option maxRecDepth 20000 in
theorem ggL_law_X0_look : GoodIn wsL_law wsX0_look := goodIn_r _ [149, 15, 118, 119, 120, 2, 121, 13, 150, 151, 152, 153, 14, 154, 155, 156] (by decide +kernel) (by decide +kernel)
set_option maxRecDepth 20000 in
theorem gL_law_X0_look : GoodIn wsL_law (wsV RL 94 RX0 yX0_look wsX0_look) := goodIn_app (goodIn_of _ (by decide +kernel)) ggL_law_X0_look
abbrev vwCl : List vw_C := [(RX0, TX0, 3), (RX1, TX1, 4)]
