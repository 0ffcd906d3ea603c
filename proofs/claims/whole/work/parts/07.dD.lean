theorem dX6_perform_169 : decode cX6_perform 169 = .ok (.ireturn, 1) := by decide +kernel
set_option maxRecDepth 20000 in
theorem ggX7_init_X7_of : GoodIn wsX7_init wsX7_of := goodIn_r _ [14] (by decide +kernel) (by decide +kernel)
set_option maxRecDepth 20000 in
theorem gX7_init_X7_of : GoodIn wsX7_init (va_wsS RX7 28 yX7_of wsX7_of) := goodIn_app (goodIn_of _ (by decide +kernel)) ggX7_init_X7_of
theorem dX7_init_0 : decode cX7_init 0 = .ok (.aload_n 0, 1) := by decide +kernel
theorem dX7_init_1 : decode cX7_init 1 = .ok (.invokespecial 1, 3) := by decide +kernel
theorem dX7_init_4 : decode cX7_init 4 = .ok (.aload_n 0, 1) := by decide +kernel
theorem dX7_init_5 : decode cX7_init 5 = .ok (.sipush 389, 3) := by decide +kernel
theorem dX7_init_8 : decode cX7_init 8 = .ok (.newarray .int, 2) := by decide +kernel
theorem dX7_init_10 : decode cX7_init 10 = .ok (.putfield 7, 3) := by decide +kernel
theorem dX7_init_13 : decode cX7_init 13 = .ok (.aload_n 0, 1) := by decide +kernel
theorem dX7_init_14 : decode cX7_init 14 = .ok (.sipush 389, 3) := by decide +kernel
theorem dX7_init_17 : decode cX7_init 17 = .ok (.newarray .int, 2) := by decide +kernel
theorem dX7_init_19 : decode cX7_init 19 = .ok (.putfield 13, 3) := by decide +kernel
theorem dX7_init_22 : decode cX7_init 22 = .ok (.aload_n 0, 1) := by decide +kernel
theorem dX7_init_23 : decode cX7_init 23 = .ok (.sipush 2334, 3) := by decide +kernel
theorem dX7_init_26 : decode cX7_init 26 = .ok (.newarray .int, 2) := by decide +kernel
theorem dX7_init_28 : decode cX7_init 28 = .ok (.putfield 16, 3) := by decide +kernel
theorem dX7_init_31 : decode cX7_init 31 = .ok (.aload_n 0, 1) := by decide +kernel
theorem dX7_init_32 : decode cX7_init 32 = .ok (.bipush 80, 2) := by decide +kernel
theorem dX7_init_34 : decode cX7_init 34 = .ok (.newarray .int, 2) := by decide +kernel
theorem dX7_init_36 : decode cX7_init 36 = .ok (.putfield 19, 3) := by decide +kernel
theorem dX7_init_39 : decode cX7_init 39 = .ok (.aload_n 0, 1) := by decide +kernel
theorem dX7_init_40 : decode cX7_init 40 = .ok (.bipush 8, 2) := by decide +kernel
theorem dX7_init_42 : decode cX7_init 42 = .ok (.newarray .int, 2) := by decide +kernel
theorem dX7_init_44 : decode cX7_init 44 = .ok (.putfield 22, 3) := by decide +kernel
theorem dX7_init_47 : decode cX7_init 47 = .ok (.aload_n 0, 1) := by decide +kernel
theorem dX7_init_48 : decode cX7_init 48 = .ok (.bipush 8, 2) := by decide +kernel
theorem dX7_init_50 : decode cX7_init 50 = .ok (.newarray .int, 2) := by decide +kernel
theorem dX7_init_52 : decode cX7_init 52 = .ok (.putfield 25, 3) := by decide +kernel
theorem dX7_init_55 : decode cX7_init 55 = .ok (.iconst 0, 1) := by decide +kernel
theorem dX7_init_56 : decode cX7_init 56 = .ok (.istore_n 1, 1) := by decide +kernel
theorem dX7_init_57 : decode cX7_init 57 = .ok (.iload_n 1, 1) := by decide +kernel
theorem dX7_init_58 : decode cX7_init 58 = .ok (.bipush 48, 2) := by decide +kernel
theorem dX7_init_60 : decode cX7_init 60 = .ok (.if_icmp .ge 31, 3) := by decide +kernel
theorem dX7_init_63 : decode cX7_init 63 = .ok (.aload_n 0, 1) := by decide +kernel
theorem dX7_init_64 : decode cX7_init 64 = .ok (.getfield 7, 3) := by decide +kernel
theorem dX7_init_67 : decode cX7_init 67 = .ok (.iload_n 1, 1) := by decide +kernel
theorem dX7_init_68 : decode cX7_init 68 = .ok (.iconst 3, 1) := by decide +kernel
theorem dX7_init_69 : decode cX7_init 69 = .ok (.invokestatic 28, 3) := by decide +kernel
theorem dX7_init_72 : decode cX7_init 72 = .ok (.iconst 1, 1) := by decide +kernel
theorem dX7_init_73 : decode cX7_init 73 = .ok (.iastore, 1) := by decide +kernel
theorem dX7_init_74 : decode cX7_init 74 = .ok (.aload_n 0, 1) := by decide +kernel
theorem dX7_init_75 : decode cX7_init 75 = .ok (.getfield 7, 3) := by decide +kernel
theorem dX7_init_78 : decode cX7_init 78 = .ok (.iload_n 1, 1) := by decide +kernel
theorem dX7_init_79 : decode cX7_init 79 = .ok (.iconst 5, 1) := by decide +kernel
theorem dX7_init_80 : decode cX7_init 80 = .ok (.invokestatic 28, 3) := by decide +kernel
theorem dX7_init_83 : decode cX7_init 83 = .ok (.iconst 1, 1) := by decide +kernel
theorem dX7_init_84 : decode cX7_init 84 = .ok (.iastore, 1) := by decide +kernel
theorem dX7_init_85 : decode cX7_init 85 = .ok (.iinc 1 1, 3) := by decide +kernel
theorem dX7_init_88 : decode cX7_init 88 = .ok (.goto (-31), 3) := by decide +kernel
theorem dX7_init_91 : decode cX7_init 91 = .ok (.return_, 1) := by decide +kernel
theorem dX7_thrown_0 : decode cX7_thrown 0 = .ok (.aload_n 0, 1) := by decide +kernel
theorem dX7_thrown_1 : decode cX7_thrown 1 = .ok (.getfield 32, 3) := by decide +kernel
theorem dX7_thrown_4 : decode cX7_thrown 4 = .ok (.ireturn, 1) := by decide +kernel
theorem dX7_in_0 : decode cX7_in 0 = .ok (.iload_n 0, 1) := by decide +kernel
theorem dX7_in_1 : decode cX7_in 1 = .ok (.iload_n 1, 1) := by decide +kernel
theorem dX7_in_2 : decode cX7_in 2 = .ok (.if_icmp .lt 12, 3) := by decide +kernel
theorem dX7_in_5 : decode cX7_in 5 = .ok (.iload_n 0, 1) := by decide +kernel
theorem dX7_in_6 : decode cX7_in 6 = .ok (.iload_n 2, 1) := by decide +kernel
theorem dX7_in_7 : decode cX7_in 7 = .ok (.if_icmp .gt 7, 3) := by decide +kernel
theorem dX7_in_10 : decode cX7_in 10 = .ok (.iconst 1, 1) := by decide +kernel
theorem dX7_in_11 : decode cX7_in 11 = .ok (.goto 4, 3) := by decide +kernel
theorem dX7_in_14 : decode cX7_in 14 = .ok (.iconst 0, 1) := by decide +kernel
theorem dX7_in_15 : decode cX7_in 15 = .ok (.ireturn, 1) := by decide +kernel
theorem dX7_holds_0 : decode cX7_holds 0 = .ok (.aload_n 0, 1) := by decide +kernel
theorem dX7_holds_1 : decode cX7_holds 1 = .ok (.iload_n 1, 1) := by decide +kernel
theorem dX7_holds_2 : decode cX7_holds 2 = .ok (.putfield 32, 3) := by decide +kernel
theorem dX7_holds_5 : decode cX7_holds 5 = .ok (.iload_n 1, 1) := by decide +kernel
theorem dX7_holds_6 : decode cX7_holds 6 = .ok (.ifCond .ne 7, 3) := by decide +kernel
theorem dX7_holds_9 : decode cX7_holds 9 = .ok (.iconst 1, 1) := by decide +kernel
theorem dX7_holds_10 : decode cX7_holds 10 = .ok (.goto 4, 3) := by decide +kernel
theorem dX7_holds_13 : decode cX7_holds 13 = .ok (.iconst 0, 1) := by decide +kernel
theorem dX7_holds_14 : decode cX7_holds 14 = .ok (.ireturn, 1) := by decide +kernel
set_option maxRecDepth 20000 in
theorem ggX7_isAddress_X7_in : GoodIn wsX7_isAddress wsX7_in := goodIn_r _ [4] (by decide +kernel) (by decide +kernel)
set_option maxRecDepth 20000 in
theorem gX7_isAddress_X7_in : GoodIn wsX7_isAddress (va_wsS RX7 36 yX7_in wsX7_in) := goodIn_app (goodIn_of _ (by decide +kernel)) ggX7_isAddress_X7_in
theorem dX7_isAddress_0 : decode cX7_isAddress 0 = .ok (.iload_n 0, 1) := by decide +kernel
theorem dX7_isAddress_1 : decode cX7_isAddress 1 = .ok (.iconst 0, 1) := by decide +kernel
theorem dX7_isAddress_2 : decode cX7_isAddress 2 = .ok (.bipush 47, 2) := by decide +kernel
theorem dX7_isAddress_4 : decode cX7_isAddress 4 = .ok (.invokestatic 36, 3) := by decide +kernel
theorem dX7_isAddress_7 : decode cX7_isAddress 7 = .ok (.ireturn, 1) := by decide +kernel
theorem dX7_of_0 : decode cX7_of 0 = .ok (.iconst 0, 1) := by decide +kernel
theorem dX7_of_1 : decode cX7_of 1 = .ok (.bipush 6, 2) := by decide +kernel
theorem dX7_of_3 : decode cX7_of 3 = .ok (.iload_n 0, 1) := by decide +kernel
theorem dX7_of_4 : decode cX7_of 4 = .ok (.imul, 1) := by decide +kernel
theorem dX7_of_5 : decode cX7_of 5 = .ok (.iadd, 1) := by decide +kernel
theorem dX7_of_6 : decode cX7_of 6 = .ok (.iload_n 1, 1) := by decide +kernel
theorem dX7_of_7 : decode cX7_of 7 = .ok (.iadd, 1) := by decide +kernel
theorem dX7_of_8 : decode cX7_of 8 = .ok (.ireturn, 1) := by decide +kernel
theorem dX7_ofLine_0 : decode cX7_ofLine 0 = .ok (.sipush 289, 3) := by decide +kernel
theorem dX7_ofLine_3 : decode cX7_ofLine 3 = .ok (.bipush 10, 2) := by decide +kernel
theorem dX7_ofLine_5 : decode cX7_ofLine 5 = .ok (.iload_n 0, 1) := by decide +kernel
theorem dX7_ofLine_6 : decode cX7_ofLine 6 = .ok (.imul, 1) := by decide +kernel
theorem dX7_ofLine_7 : decode cX7_ofLine 7 = .ok (.iadd, 1) := by decide +kernel
theorem dX7_ofLine_8 : decode cX7_ofLine 8 = .ok (.iload_n 1, 1) := by decide +kernel
theorem dX7_ofLine_9 : decode cX7_ofLine 9 = .ok (.iadd, 1) := by decide +kernel
theorem dX7_ofLine_10 : decode cX7_ofLine 10 = .ok (.ireturn, 1) := by decide +kernel
theorem dX7_save_0 : decode cX7_save 0 = .ok (.aload_n 0, 1) := by decide +kernel
theorem dX7_save_1 : decode cX7_save 1 = .ok (.getfield 40, 3) := by decide +kernel
theorem dX7_save_4 : decode cX7_save 4 = .ok (.bipush 6, 2) := by decide +kernel
theorem dX7_save_6 : decode cX7_save 6 = .ok (.if_icmp .ne 44, 3) := by decide +kernel
theorem dX7_save_9 : decode cX7_save 9 = .ok (.iconst 0, 1) := by decide +kernel
theorem dX7_save_10 : decode cX7_save 10 = .ok (.istore_n 1, 1) := by decide +kernel
theorem dX7_save_11 : decode cX7_save 11 = .ok (.iload_n 1, 1) := by decide +kernel
theorem dX7_save_12 : decode cX7_save 12 = .ok (.sipush 1945, 3) := by decide +kernel
theorem dX7_save_15 : decode cX7_save 15 = .ok (.if_icmp .ge 25, 3) := by decide +kernel
theorem dX7_save_18 : decode cX7_save 18 = .ok (.aload_n 0, 1) := by decide +kernel
theorem dX7_save_19 : decode cX7_save 19 = .ok (.getfield 16, 3) := by decide +kernel
theorem dX7_save_22 : decode cX7_save 22 = .ok (.iload_n 1, 1) := by decide +kernel
theorem dX7_save_23 : decode cX7_save 23 = .ok (.aload_n 0, 1) := by decide +kernel
theorem dX7_save_24 : decode cX7_save 24 = .ok (.getfield 16, 3) := by decide +kernel
theorem dX7_save_27 : decode cX7_save 27 = .ok (.iload_n 1, 1) := by decide +kernel
theorem dX7_save_28 : decode cX7_save 28 = .ok (.sipush 389, 3) := by decide +kernel
theorem dX7_save_31 : decode cX7_save 31 = .ok (.iadd, 1) := by decide +kernel
theorem dX7_save_32 : decode cX7_save 32 = .ok (.iaload, 1) := by decide +kernel
theorem dX7_save_33 : decode cX7_save 33 = .ok (.iastore, 1) := by decide +kernel
theorem dX7_save_34 : decode cX7_save 34 = .ok (.iinc 1 1, 3) := by decide +kernel
theorem dX7_save_37 : decode cX7_save 37 = .ok (.goto (-26), 3) := by decide +kernel
theorem dX7_save_40 : decode cX7_save 40 = .ok (.aload_n 0, 1) := by decide +kernel
theorem dX7_save_41 : decode cX7_save 41 = .ok (.dup, 1) := by decide +kernel
theorem dX7_save_42 : decode cX7_save 42 = .ok (.getfield 40, 3) := by decide +kernel
theorem dX7_save_45 : decode cX7_save 45 = .ok (.iconst 1, 1) := by decide +kernel
theorem dX7_save_46 : decode cX7_save 46 = .ok (.isub, 1) := by decide +kernel
theorem dX7_save_47 : decode cX7_save 47 = .ok (.putfield 40, 3) := by decide +kernel
theorem dX7_save_50 : decode cX7_save 50 = .ok (.iconst 0, 1) := by decide +kernel
theorem dX7_save_51 : decode cX7_save 51 = .ok (.istore_n 1, 1) := by decide +kernel
theorem dX7_save_52 : decode cX7_save 52 = .ok (.iload_n 1, 1) := by decide +kernel
theorem dX7_save_53 : decode cX7_save 53 = .ok (.sipush 389, 3) := by decide +kernel
theorem dX7_save_56 : decode cX7_save 56 = .ok (.if_icmp .ge 30, 3) := by decide +kernel
theorem dX7_save_59 : decode cX7_save 59 = .ok (.aload_n 0, 1) := by decide +kernel
theorem dX7_save_60 : decode cX7_save 60 = .ok (.getfield 16, 3) := by decide +kernel
theorem dX7_save_63 : decode cX7_save 63 = .ok (.sipush 389, 3) := by decide +kernel
theorem dX7_save_66 : decode cX7_save 66 = .ok (.aload_n 0, 1) := by decide +kernel
theorem dX7_save_67 : decode cX7_save 67 = .ok (.getfield 40, 3) := by decide +kernel
theorem dX7_save_70 : decode cX7_save 70 = .ok (.imul, 1) := by decide +kernel
theorem dX7_save_71 : decode cX7_save 71 = .ok (.iload_n 1, 1) := by decide +kernel
theorem dX7_save_72 : decode cX7_save 72 = .ok (.iadd, 1) := by decide +kernel
theorem dX7_save_73 : decode cX7_save 73 = .ok (.aload_n 0, 1) := by decide +kernel
theorem dX7_save_74 : decode cX7_save 74 = .ok (.getfield 7, 3) := by decide +kernel
theorem dX7_save_77 : decode cX7_save 77 = .ok (.iload_n 1, 1) := by decide +kernel
theorem dX7_save_78 : decode cX7_save 78 = .ok (.iaload, 1) := by decide +kernel
theorem dX7_save_79 : decode cX7_save 79 = .ok (.iastore, 1) := by decide +kernel
theorem dX7_save_80 : decode cX7_save 80 = .ok (.iinc 1 1, 3) := by decide +kernel
theorem dX7_save_83 : decode cX7_save 83 = .ok (.goto (-31), 3) := by decide +kernel
theorem dX7_save_86 : decode cX7_save 86 = .ok (.aload_n 0, 1) := by decide +kernel
theorem dX7_save_87 : decode cX7_save 87 = .ok (.dup, 1) := by decide +kernel
theorem dX7_save_88 : decode cX7_save 88 = .ok (.getfield 40, 3) := by decide +kernel
theorem dX7_save_91 : decode cX7_save 91 = .ok (.iconst 1, 1) := by decide +kernel
theorem dX7_save_92 : decode cX7_save 92 = .ok (.iadd, 1) := by decide +kernel
theorem dX7_save_93 : decode cX7_save 93 = .ok (.putfield 40, 3) := by decide +kernel
theorem dX7_save_96 : decode cX7_save 96 = .ok (.return_, 1) := by decide +kernel
theorem dX7_putAside_0 : decode cX7_putAside 0 = .ok (.iconst 0, 1) := by decide +kernel
theorem dX7_putAside_1 : decode cX7_putAside 1 = .ok (.istore_n 1, 1) := by decide +kernel
theorem dX7_putAside_2 : decode cX7_putAside 2 = .ok (.iload_n 1, 1) := by decide +kernel
theorem dX7_putAside_3 : decode cX7_putAside 3 = .ok (.sipush 389, 3) := by decide +kernel
theorem dX7_putAside_6 : decode cX7_putAside 6 = .ok (.if_icmp .ge 21, 3) := by decide +kernel
theorem dX7_putAside_9 : decode cX7_putAside 9 = .ok (.aload_n 0, 1) := by decide +kernel
theorem dX7_putAside_10 : decode cX7_putAside 10 = .ok (.getfield 13, 3) := by decide +kernel
theorem dX7_putAside_13 : decode cX7_putAside 13 = .ok (.iload_n 1, 1) := by decide +kernel
theorem dX7_putAside_14 : decode cX7_putAside 14 = .ok (.aload_n 0, 1) := by decide +kernel
theorem dX7_putAside_15 : decode cX7_putAside 15 = .ok (.getfield 7, 3) := by decide +kernel
theorem dX7_putAside_18 : decode cX7_putAside 18 = .ok (.iload_n 1, 1) := by decide +kernel
theorem dX7_putAside_19 : decode cX7_putAside 19 = .ok (.iaload, 1) := by decide +kernel
theorem dX7_putAside_20 : decode cX7_putAside 20 = .ok (.iastore, 1) := by decide +kernel
theorem dX7_putAside_21 : decode cX7_putAside 21 = .ok (.iinc 1 1, 3) := by decide +kernel
theorem dX7_putAside_24 : decode cX7_putAside 24 = .ok (.goto (-22), 3) := by decide +kernel
theorem dX7_putAside_27 : decode cX7_putAside 27 = .ok (.return_, 1) := by decide +kernel
theorem dX7_putBack_0 : decode cX7_putBack 0 = .ok (.iconst 0, 1) := by decide +kernel
theorem dX7_putBack_1 : decode cX7_putBack 1 = .ok (.istore_n 1, 1) := by decide +kernel
theorem dX7_putBack_2 : decode cX7_putBack 2 = .ok (.iload_n 1, 1) := by decide +kernel
theorem dX7_putBack_3 : decode cX7_putBack 3 = .ok (.sipush 389, 3) := by decide +kernel
theorem dX7_putBack_6 : decode cX7_putBack 6 = .ok (.if_icmp .ge 21, 3) := by decide +kernel
theorem dX7_putBack_9 : decode cX7_putBack 9 = .ok (.aload_n 0, 1) := by decide +kernel
theorem dX7_putBack_10 : decode cX7_putBack 10 = .ok (.getfield 7, 3) := by decide +kernel
theorem dX7_putBack_13 : decode cX7_putBack 13 = .ok (.iload_n 1, 1) := by decide +kernel
theorem dX7_putBack_14 : decode cX7_putBack 14 = .ok (.aload_n 0, 1) := by decide +kernel
theorem dX7_putBack_15 : decode cX7_putBack 15 = .ok (.getfield 13, 3) := by decide +kernel
theorem dX7_putBack_18 : decode cX7_putBack 18 = .ok (.iload_n 1, 1) := by decide +kernel
theorem dX7_putBack_19 : decode cX7_putBack 19 = .ok (.iaload, 1) := by decide +kernel
theorem dX7_putBack_20 : decode cX7_putBack 20 = .ok (.iastore, 1) := by decide +kernel
theorem dX7_putBack_21 : decode cX7_putBack 21 = .ok (.iinc 1 1, 3) := by decide +kernel
theorem dX7_putBack_24 : decode cX7_putBack 24 = .ok (.goto (-22), 3) := by decide +kernel
theorem dX7_putBack_27 : decode cX7_putBack 27 = .ok (.return_, 1) := by decide +kernel
theorem dX7_after_0 : decode cX7_after 0 = .ok (.iload_n 0, 1) := by decide +kernel
theorem dX7_after_1 : decode cX7_after 1 = .ok (.iconst 1, 1) := by decide +kernel
theorem dX7_after_2 : decode cX7_after 2 = .ok (.iadd, 1) := by decide +kernel
theorem dX7_after_3 : decode cX7_after 3 = .ok (.bipush 48, 2) := by decide +kernel
theorem dX7_after_5 : decode cX7_after 5 = .ok (.irem, 1) := by decide +kernel
theorem dX7_after_6 : decode cX7_after 6 = .ok (.ireturn, 1) := by decide +kernel
set_option maxRecDepth 20000 in
theorem ggX7_isPredictedTaken_X7_of : GoodIn wsX7_isPredictedTaken wsX7_of := goodIn_r _ [5] (by decide +kernel) (by decide +kernel)
set_option maxRecDepth 20000 in
theorem gX7_isPredictedTaken_X7_of : GoodIn wsX7_isPredictedTaken (va_wsS RX7 28 yX7_of wsX7_of) := goodIn_app (goodIn_of _ (by decide +kernel)) ggX7_isPredictedTaken_X7_of
theorem dX7_isPredictedTaken_0 : decode cX7_isPredictedTaken 0 = .ok (.aload_n 0, 1) := by decide +kernel
theorem dX7_isPredictedTaken_1 : decode cX7_isPredictedTaken 1 = .ok (.getfield 7, 3) := by decide +kernel
theorem dX7_isPredictedTaken_4 : decode cX7_isPredictedTaken 4 = .ok (.iload_n 1, 1) := by decide +kernel
theorem dX7_isPredictedTaken_5 : decode cX7_isPredictedTaken 5 = .ok (.iconst 0, 1) := by decide +kernel
theorem dX7_isPredictedTaken_6 : decode cX7_isPredictedTaken 6 = .ok (.invokestatic 28, 3) := by decide +kernel
theorem dX7_isPredictedTaken_9 : decode cX7_isPredictedTaken 9 = .ok (.iaload, 1) := by decide +kernel
theorem dX7_isPredictedTaken_10 : decode cX7_isPredictedTaken 10 = .ok (.iconst 2, 1) := by decide +kernel
theorem dX7_isPredictedTaken_11 : decode cX7_isPredictedTaken 11 = .ok (.if_icmp .ne 21, 3) := by decide +kernel
theorem dX7_isPredictedTaken_14 : decode cX7_isPredictedTaken 14 = .ok (.aload_n 0, 1) := by decide +kernel
theorem dX7_isPredictedTaken_15 : decode cX7_isPredictedTaken 15 = .ok (.getfield 7, 3) := by decide +kernel
theorem dX7_isPredictedTaken_18 : decode cX7_isPredictedTaken 18 = .ok (.iload_n 1, 1) := by decide +kernel
theorem dX7_isPredictedTaken_19 : decode cX7_isPredictedTaken 19 = .ok (.iconst 5, 1) := by decide +kernel
theorem dX7_isPredictedTaken_20 : decode cX7_isPredictedTaken 20 = .ok (.invokestatic 28, 3) := by decide +kernel
theorem dX7_isPredictedTaken_23 : decode cX7_isPredictedTaken 23 = .ok (.iaload, 1) := by decide +kernel
theorem dX7_isPredictedTaken_24 : decode cX7_isPredictedTaken 24 = .ok (.iconst 1, 1) := by decide +kernel
theorem dX7_isPredictedTaken_25 : decode cX7_isPredictedTaken 25 = .ok (.if_icmp .le 7, 3) := by decide +kernel
theorem dX7_isPredictedTaken_28 : decode cX7_isPredictedTaken 28 = .ok (.iconst 1, 1) := by decide +kernel
theorem dX7_isPredictedTaken_29 : decode cX7_isPredictedTaken 29 = .ok (.goto 4, 3) := by decide +kernel
theorem dX7_isPredictedTaken_32 : decode cX7_isPredictedTaken 32 = .ok (.iconst 0, 1) := by decide +kernel
theorem dX7_isPredictedTaken_33 : decode cX7_isPredictedTaken 33 = .ok (.ireturn, 1) := by decide +kernel
set_option maxRecDepth 20000 in
theorem ggX7_successor_X7_of : GoodIn wsX7_successor wsX7_of := goodIn_r _ [5] (by decide +kernel) (by decide +kernel)
set_option maxRecDepth 20000 in
theorem gX7_successor_X7_of : GoodIn wsX7_successor (va_wsS RX7 28 yX7_of wsX7_of) := goodIn_app (goodIn_of _ (by decide +kernel)) ggX7_successor_X7_of
set_option maxRecDepth 20000 in
theorem ggX7_successor_X7_after : GoodIn wsX7_successor wsX7_after := goodIn_r _ [8] (by decide +kernel) (by decide +kernel)
set_option maxRecDepth 20000 in
theorem gX7_successor_X7_after : GoodIn wsX7_successor (va_wsS RX7 43 yX7_after wsX7_after) := goodIn_app (goodIn_of _ (by decide +kernel)) ggX7_successor_X7_after
theorem dX7_successor_0 : decode cX7_successor 0 = .ok (.aload_n 0, 1) := by decide +kernel
theorem dX7_successor_1 : decode cX7_successor 1 = .ok (.getfield 7, 3) := by decide +kernel
theorem dX7_successor_4 : decode cX7_successor 4 = .ok (.iload_n 1, 1) := by decide +kernel
theorem dX7_successor_5 : decode cX7_successor 5 = .ok (.iconst 0, 1) := by decide +kernel
theorem dX7_successor_6 : decode cX7_successor 6 = .ok (.invokestatic 28, 3) := by decide +kernel
theorem dX7_successor_9 : decode cX7_successor 9 = .ok (.iaload, 1) := by decide +kernel
theorem dX7_successor_10 : decode cX7_successor 10 = .ok (.istore_n 3, 1) := by decide +kernel
theorem dX7_successor_11 : decode cX7_successor 11 = .ok (.iload_n 3, 1) := by decide +kernel
theorem dX7_successor_12 : decode cX7_successor 12 = .ok (.iconst 1, 1) := by decide +kernel
theorem dX7_successor_13 : decode cX7_successor 13 = .ok (.if_icmp .eq 12, 3) := by decide +kernel
theorem dX7_successor_16 : decode cX7_successor 16 = .ok (.iload_n 3, 1) := by decide +kernel
theorem dX7_successor_17 : decode cX7_successor 17 = .ok (.iconst 2, 1) := by decide +kernel
theorem dX7_successor_18 : decode cX7_successor 18 = .ok (.if_icmp .ne 20, 3) := by decide +kernel
theorem dX7_successor_21 : decode cX7_successor 21 = .ok (.iload_n 2, 1) := by decide +kernel
theorem dX7_successor_22 : decode cX7_successor 22 = .ok (.ifCond .eq 16, 3) := by decide +kernel
theorem dX7_successor_25 : decode cX7_successor 25 = .ok (.aload_n 0, 1) := by decide +kernel
theorem dX7_successor_26 : decode cX7_successor 26 = .ok (.getfield 7, 3) := by decide +kernel
theorem dX7_successor_29 : decode cX7_successor 29 = .ok (.iload_n 1, 1) := by decide +kernel
theorem dX7_successor_30 : decode cX7_successor 30 = .ok (.iconst 1, 1) := by decide +kernel
theorem dX7_successor_31 : decode cX7_successor 31 = .ok (.invokestatic 28, 3) := by decide +kernel
theorem dX7_successor_34 : decode cX7_successor 34 = .ok (.iaload, 1) := by decide +kernel
theorem dX7_successor_35 : decode cX7_successor 35 = .ok (.goto 7, 3) := by decide +kernel
theorem dX7_successor_38 : decode cX7_successor 38 = .ok (.iload_n 1, 1) := by decide +kernel
theorem dX7_successor_39 : decode cX7_successor 39 = .ok (.invokestatic 43, 3) := by decide +kernel
theorem dX7_successor_42 : decode cX7_successor 42 = .ok (.ireturn, 1) := by decide +kernel
set_option maxRecDepth 20000 in
theorem ggX7_predictedSuccessor_X7_isPredictedTaken : GoodIn wsX7_predictedSuccessor wsX7_isPredictedTaken := goodIn_r _ [5, 6, 7, 8, 4, 9, 17, 18, 19, 20, 21, 22, 23, 24, 25, 26, 27, 28, 29, 30] (by decide +kernel) (by decide +kernel)
set_option maxRecDepth 20000 in
theorem gX7_predictedSuccessor_X7_isPredictedTaken : GoodIn wsX7_predictedSuccessor (wsV RX7 47 RX7 yX7_isPredictedTaken wsX7_isPredictedTaken) := goodIn_app (goodIn_of _ (by decide +kernel)) ggX7_predictedSuccessor_X7_isPredictedTaken
set_option maxRecDepth 20000 in
theorem ggX7_predictedSuccessor_X7_successor : GoodIn wsX7_predictedSuccessor wsX7_successor := goodIn_r _ [13, 6, 7, 8, 4, 9, 14, 15, 16, 17, 18, 19, 20, 21, 22, 23, 24, 25, 26, 27, 28, 29, 30] (by decide +kernel) (by decide +kernel)
set_option maxRecDepth 20000 in
theorem gX7_predictedSuccessor_X7_successor : GoodIn wsX7_predictedSuccessor (wsV RX7 51 RX7 yX7_successor wsX7_successor) := goodIn_app (goodIn_of _ (by decide +kernel)) ggX7_predictedSuccessor_X7_successor
theorem dX7_predictedSuccessor_0 : decode cX7_predictedSuccessor 0 = .ok (.aload_n 0, 1) := by decide +kernel
theorem dX7_predictedSuccessor_1 : decode cX7_predictedSuccessor 1 = .ok (.iload_n 1, 1) := by decide +kernel
theorem dX7_predictedSuccessor_2 : decode cX7_predictedSuccessor 2 = .ok (.aload_n 0, 1) := by decide +kernel
theorem dX7_predictedSuccessor_3 : decode cX7_predictedSuccessor 3 = .ok (.iload_n 1, 1) := by decide +kernel
theorem dX7_predictedSuccessor_4 : decode cX7_predictedSuccessor 4 = .ok (.invokevirtual 47, 3) := by decide +kernel
theorem dX7_predictedSuccessor_7 : decode cX7_predictedSuccessor 7 = .ok (.invokevirtual 51, 3) := by decide +kernel
theorem dX7_predictedSuccessor_10 : decode cX7_predictedSuccessor 10 = .ok (.ireturn, 1) := by decide +kernel
set_option maxRecDepth 20000 in
theorem ggX7_isTakenNow_X7_of : GoodIn wsX7_isTakenNow wsX7_of := goodIn_r _ [5] (by decide +kernel) (by decide +kernel)
set_option maxRecDepth 20000 in
theorem gX7_isTakenNow_X7_of : GoodIn wsX7_isTakenNow (va_wsS RX7 28 yX7_of wsX7_of) := goodIn_app (goodIn_of _ (by decide +kernel)) ggX7_isTakenNow_X7_of
theorem dX7_isTakenNow_0 : decode cX7_isTakenNow 0 = .ok (.aload_n 0, 1) := by decide +kernel
theorem dX7_isTakenNow_1 : decode cX7_isTakenNow 1 = .ok (.getfield 7, 3) := by decide +kernel
theorem dX7_isTakenNow_4 : decode cX7_isTakenNow 4 = .ok (.iload_n 1, 1) := by decide +kernel
theorem dX7_isTakenNow_5 : decode cX7_isTakenNow 5 = .ok (.iconst 4, 1) := by decide +kernel
theorem dX7_isTakenNow_6 : decode cX7_isTakenNow 6 = .ok (.invokestatic 28, 3) := by decide +kernel
theorem dX7_isTakenNow_9 : decode cX7_isTakenNow 9 = .ok (.iaload, 1) := by decide +kernel
theorem dX7_isTakenNow_10 : decode cX7_isTakenNow 10 = .ok (.aload_n 0, 1) := by decide +kernel
theorem dX7_isTakenNow_11 : decode cX7_isTakenNow 11 = .ok (.getfield 7, 3) := by decide +kernel
theorem dX7_isTakenNow_14 : decode cX7_isTakenNow 14 = .ok (.iload_n 1, 1) := by decide +kernel
theorem dX7_isTakenNow_15 : decode cX7_isTakenNow 15 = .ok (.iconst 3, 1) := by decide +kernel
theorem dX7_isTakenNow_16 : decode cX7_isTakenNow 16 = .ok (.invokestatic 28, 3) := by decide +kernel
theorem dX7_isTakenNow_19 : decode cX7_isTakenNow 19 = .ok (.iaload, 1) := by decide +kernel
theorem dX7_isTakenNow_20 : decode cX7_isTakenNow 20 = .ok (.irem, 1) := by decide +kernel
theorem dX7_isTakenNow_21 : decode cX7_isTakenNow 21 = .ok (.istore_n 2, 1) := by decide +kernel
theorem dX7_isTakenNow_22 : decode cX7_isTakenNow 22 = .ok (.aload_n 0, 1) := by decide +kernel
theorem dX7_isTakenNow_23 : decode cX7_isTakenNow 23 = .ok (.getfield 7, 3) := by decide +kernel
theorem dX7_isTakenNow_26 : decode cX7_isTakenNow 26 = .ok (.iload_n 1, 1) := by decide +kernel
theorem dX7_isTakenNow_27 : decode cX7_isTakenNow 27 = .ok (.iconst 0, 1) := by decide +kernel
theorem dX7_isTakenNow_28 : decode cX7_isTakenNow 28 = .ok (.invokestatic 28, 3) := by decide +kernel
theorem dX7_isTakenNow_31 : decode cX7_isTakenNow 31 = .ok (.iaload, 1) := by decide +kernel
theorem dX7_isTakenNow_32 : decode cX7_isTakenNow 32 = .ok (.iconst 2, 1) := by decide +kernel
theorem dX7_isTakenNow_33 : decode cX7_isTakenNow 33 = .ok (.if_icmp .ne 25, 3) := by decide +kernel
theorem dX7_isTakenNow_36 : decode cX7_isTakenNow 36 = .ok (.aload_n 0, 1) := by decide +kernel
theorem dX7_isTakenNow_37 : decode cX7_isTakenNow 37 = .ok (.getfield 7, 3) := by decide +kernel
theorem dX7_isTakenNow_40 : decode cX7_isTakenNow 40 = .ok (.iload_n 1, 1) := by decide +kernel
theorem dX7_isTakenNow_41 : decode cX7_isTakenNow 41 = .ok (.iconst 2, 1) := by decide +kernel
theorem dX7_isTakenNow_42 : decode cX7_isTakenNow 42 = .ok (.invokestatic 28, 3) := by decide +kernel
theorem dX7_isTakenNow_45 : decode cX7_isTakenNow 45 = .ok (.iaload, 1) := by decide +kernel
theorem dX7_isTakenNow_46 : decode cX7_isTakenNow 46 = .ok (.iload_n 2, 1) := by decide +kernel
theorem dX7_isTakenNow_47 : decode cX7_isTakenNow 47 = .ok (.ishr, 1) := by decide +kernel
theorem dX7_isTakenNow_48 : decode cX7_isTakenNow 48 = .ok (.iconst 1, 1) := by decide +kernel
theorem dX7_isTakenNow_49 : decode cX7_isTakenNow 49 = .ok (.iand, 1) := by decide +kernel
theorem dX7_isTakenNow_50 : decode cX7_isTakenNow 50 = .ok (.iconst 1, 1) := by decide +kernel
theorem dX7_isTakenNow_51 : decode cX7_isTakenNow 51 = .ok (.if_icmp .ne 7, 3) := by decide +kernel
theorem dX7_isTakenNow_54 : decode cX7_isTakenNow 54 = .ok (.iconst 1, 1) := by decide +kernel
theorem dX7_isTakenNow_55 : decode cX7_isTakenNow 55 = .ok (.goto 4, 3) := by decide +kernel
theorem dX7_isTakenNow_58 : decode cX7_isTakenNow 58 = .ok (.iconst 0, 1) := by decide +kernel
theorem dX7_isTakenNow_59 : decode cX7_isTakenNow 59 = .ok (.ireturn, 1) := by decide +kernel
set_option maxRecDepth 20000 in
theorem ggX7_usable_X7_ofLine : GoodIn wsX7_usable wsX7_ofLine := goodIn_r _ [5] (by decide +kernel) (by decide +kernel)
set_option maxRecDepth 20000 in
theorem gX7_usable_X7_ofLine : GoodIn wsX7_usable (va_wsS RX7 55 yX7_ofLine wsX7_ofLine) := goodIn_app (goodIn_of _ (by decide +kernel)) ggX7_usable_X7_ofLine
set_option maxRecDepth 20000 in
theorem ggX7_usable_X7_predictedSuccessor : GoodIn wsX7_usable wsX7_predictedSuccessor := goodIn_r _ [9, 10, 11, 12, 4, 13, 1, 14, 15, 16, 17, 18, 19, 20, 21, 22, 23, 24, 25, 26, 27, 28, 29, 30, 31, 32, 33, 34, 35, 36, 37] (by decide +kernel) (by decide +kernel)
set_option maxRecDepth 20000 in
theorem gX7_usable_X7_predictedSuccessor : GoodIn wsX7_usable (wsV RX7 58 RX7 yX7_predictedSuccessor wsX7_predictedSuccessor) := goodIn_app (goodIn_of _ (by decide +kernel)) ggX7_usable_X7_predictedSuccessor
theorem dX7_usable_0 : decode cX7_usable 0 = .ok (.aload_n 0, 1) := by decide +kernel
theorem dX7_usable_1 : decode cX7_usable 1 = .ok (.getfield 7, 3) := by decide +kernel
theorem dX7_usable_4 : decode cX7_usable 4 = .ok (.iload_n 1, 1) := by decide +kernel
theorem dX7_usable_5 : decode cX7_usable 5 = .ok (.iconst 0, 1) := by decide +kernel
theorem dX7_usable_6 : decode cX7_usable 6 = .ok (.invokestatic 55, 3) := by decide +kernel
theorem dX7_usable_9 : decode cX7_usable 9 = .ok (.iaload, 1) := by decide +kernel
theorem dX7_usable_10 : decode cX7_usable 10 = .ok (.istore_n 2, 1) := by decide +kernel
theorem dX7_usable_11 : decode cX7_usable 11 = .ok (.iload_n 2, 1) := by decide +kernel
theorem dX7_usable_12 : decode cX7_usable 12 = .ok (.ifCond .le 7, 3) := by decide +kernel
theorem dX7_usable_15 : decode cX7_usable 15 = .ok (.iconst 1, 1) := by decide +kernel
theorem dX7_usable_16 : decode cX7_usable 16 = .ok (.goto 4, 3) := by decide +kernel
theorem dX7_usable_19 : decode cX7_usable 19 = .ok (.iconst 0, 1) := by decide +kernel
theorem dX7_usable_20 : decode cX7_usable 20 = .ok (.istore_n 3, 1) := by decide +kernel
theorem dX7_usable_21 : decode cX7_usable 21 = .ok (.iload_n 3, 1) := by decide +kernel
theorem dX7_usable_22 : decode cX7_usable 22 = .ok (.ifCond .le 47, 3) := by decide +kernel
theorem dX7_usable_25 : decode cX7_usable 25 = .ok (.iload_n 3, 1) := by decide +kernel
theorem dX7_usable_26 : decode cX7_usable 26 = .ok (.iload_n 2, 1) := by decide +kernel
theorem dX7_usable_27 : decode cX7_usable 27 = .ok (.if_icmp .ge 42, 3) := by decide +kernel
theorem dX7_usable_30 : decode cX7_usable 30 = .ok (.aload_n 0, 1) := by decide +kernel
theorem dX7_usable_31 : decode cX7_usable 31 = .ok (.getfield 7, 3) := by decide +kernel
theorem dX7_usable_34 : decode cX7_usable 34 = .ok (.iload_n 1, 1) := by decide +kernel
theorem dX7_usable_35 : decode cX7_usable 35 = .ok (.iconst 2, 1) := by decide +kernel
theorem dX7_usable_36 : decode cX7_usable 36 = .ok (.iload_n 3, 1) := by decide +kernel
theorem dX7_usable_37 : decode cX7_usable 37 = .ok (.iadd, 1) := by decide +kernel
theorem dX7_usable_38 : decode cX7_usable 38 = .ok (.invokestatic 55, 3) := by decide +kernel
theorem dX7_usable_41 : decode cX7_usable 41 = .ok (.iaload, 1) := by decide +kernel
theorem dX7_usable_42 : decode cX7_usable 42 = .ok (.aload_n 0, 1) := by decide +kernel
theorem dX7_usable_43 : decode cX7_usable 43 = .ok (.aload_n 0, 1) := by decide +kernel
theorem dX7_usable_44 : decode cX7_usable 44 = .ok (.getfield 7, 3) := by decide +kernel
theorem dX7_usable_47 : decode cX7_usable 47 = .ok (.iload_n 1, 1) := by decide +kernel
theorem dX7_usable_48 : decode cX7_usable 48 = .ok (.iconst 2, 1) := by decide +kernel
theorem dX7_usable_49 : decode cX7_usable 49 = .ok (.iload_n 3, 1) := by decide +kernel
theorem dX7_usable_50 : decode cX7_usable 50 = .ok (.iadd, 1) := by decide +kernel
theorem dX7_usable_51 : decode cX7_usable 51 = .ok (.iconst 1, 1) := by decide +kernel
theorem dX7_usable_52 : decode cX7_usable 52 = .ok (.isub, 1) := by decide +kernel
theorem dX7_usable_53 : decode cX7_usable 53 = .ok (.invokestatic 55, 3) := by decide +kernel
theorem dX7_usable_56 : decode cX7_usable 56 = .ok (.iaload, 1) := by decide +kernel
theorem dX7_usable_57 : decode cX7_usable 57 = .ok (.invokevirtual 58, 3) := by decide +kernel
theorem dX7_usable_60 : decode cX7_usable 60 = .ok (.if_icmp .ne 9, 3) := by decide +kernel
theorem dX7_usable_63 : decode cX7_usable 63 = .ok (.iinc 3 1, 3) := by decide +kernel
theorem dX7_usable_66 : decode cX7_usable 66 = .ok (.goto (-45), 3) := by decide +kernel
theorem dX7_usable_69 : decode cX7_usable 69 = .ok (.iload_n 3, 1) := by decide +kernel
theorem dX7_usable_70 : decode cX7_usable 70 = .ok (.ireturn, 1) := by decide +kernel
set_option maxRecDepth 20000 in
theorem ggX7_contains_X7_ofLine : GoodIn wsX7_contains wsX7_ofLine := goodIn_r _ [5] (by decide +kernel) (by decide +kernel)
set_option maxRecDepth 20000 in
theorem gX7_contains_X7_ofLine : GoodIn wsX7_contains (va_wsS RX7 55 yX7_ofLine wsX7_ofLine) := goodIn_app (goodIn_of _ (by decide +kernel)) ggX7_contains_X7_ofLine
theorem dX7_contains_0 : decode cX7_contains 0 = .ok (.iconst 0, 1) := by decide +kernel
theorem dX7_contains_1 : decode cX7_contains 1 = .ok (.istore_n 3, 1) := by decide +kernel
theorem dX7_contains_2 : decode cX7_contains 2 = .ok (.iconst 0, 1) := by decide +kernel
theorem dX7_contains_3 : decode cX7_contains 3 = .ok (.istore 4, 2) := by decide +kernel
theorem dX7_contains_5 : decode cX7_contains 5 = .ok (.iload 4, 2) := by decide +kernel
theorem dX7_contains_7 : decode cX7_contains 7 = .ok (.aload_n 0, 1) := by decide +kernel
theorem dX7_contains_8 : decode cX7_contains 8 = .ok (.getfield 7, 3) := by decide +kernel
theorem dX7_contains_11 : decode cX7_contains 11 = .ok (.iload_n 1, 1) := by decide +kernel
theorem dX7_contains_12 : decode cX7_contains 12 = .ok (.iconst 0, 1) := by decide +kernel
theorem dX7_contains_13 : decode cX7_contains 13 = .ok (.invokestatic 55, 3) := by decide +kernel
theorem dX7_contains_16 : decode cX7_contains 16 = .ok (.iaload, 1) := by decide +kernel
theorem dX7_contains_17 : decode cX7_contains 17 = .ok (.if_icmp .ge 36, 3) := by decide +kernel
theorem dX7_contains_20 : decode cX7_contains 20 = .ok (.iload_n 3, 1) := by decide +kernel
theorem dX7_contains_21 : decode cX7_contains 21 = .ok (.ifCond .ne 20, 3) := by decide +kernel
theorem dX7_contains_24 : decode cX7_contains 24 = .ok (.aload_n 0, 1) := by decide +kernel
theorem dX7_contains_25 : decode cX7_contains 25 = .ok (.getfield 7, 3) := by decide +kernel
theorem dX7_contains_28 : decode cX7_contains 28 = .ok (.iload_n 1, 1) := by decide +kernel
theorem dX7_contains_29 : decode cX7_contains 29 = .ok (.iconst 2, 1) := by decide +kernel
theorem dX7_contains_30 : decode cX7_contains 30 = .ok (.iload 4, 2) := by decide +kernel
theorem dX7_contains_32 : decode cX7_contains 32 = .ok (.iadd, 1) := by decide +kernel
theorem dX7_contains_33 : decode cX7_contains 33 = .ok (.invokestatic 55, 3) := by decide +kernel
theorem dX7_contains_36 : decode cX7_contains 36 = .ok (.iaload, 1) := by decide +kernel
theorem dX7_contains_37 : decode cX7_contains 37 = .ok (.iload_n 2, 1) := by decide +kernel
theorem dX7_contains_38 : decode cX7_contains 38 = .ok (.if_icmp .ne 7, 3) := by decide +kernel
theorem dX7_contains_41 : decode cX7_contains 41 = .ok (.iconst 1, 1) := by decide +kernel
theorem dX7_contains_42 : decode cX7_contains 42 = .ok (.goto 4, 3) := by decide +kernel
theorem dX7_contains_45 : decode cX7_contains 45 = .ok (.iconst 0, 1) := by decide +kernel
theorem dX7_contains_46 : decode cX7_contains 46 = .ok (.istore_n 3, 1) := by decide +kernel
theorem dX7_contains_47 : decode cX7_contains 47 = .ok (.iinc 4 1, 3) := by decide +kernel
theorem dX7_contains_50 : decode cX7_contains 50 = .ok (.goto (-45), 3) := by decide +kernel
theorem dX7_contains_53 : decode cX7_contains 53 = .ok (.iload_n 3, 1) := by decide +kernel
theorem dX7_contains_54 : decode cX7_contains 54 = .ok (.ireturn, 1) := by decide +kernel
set_option maxRecDepth 20000 in
theorem ggX7_isPending_X7_ofLine : GoodIn wsX7_isPending wsX7_ofLine := goodIn_r _ [5] (by decide +kernel) (by decide +kernel)
set_option maxRecDepth 20000 in
theorem gX7_isPending_X7_ofLine : GoodIn wsX7_isPending (va_wsS RX7 55 yX7_ofLine wsX7_ofLine) := goodIn_app (goodIn_of _ (by decide +kernel)) ggX7_isPending_X7_ofLine
theorem dX7_isPending_0 : decode cX7_isPending 0 = .ok (.aload_n 0, 1) := by decide +kernel
theorem dX7_isPending_1 : decode cX7_isPending 1 = .ok (.getfield 7, 3) := by decide +kernel
theorem dX7_isPending_4 : decode cX7_isPending 4 = .ok (.iload_n 1, 1) := by decide +kernel
theorem dX7_isPending_5 : decode cX7_isPending 5 = .ok (.iconst 0, 1) := by decide +kernel
theorem dX7_isPending_6 : decode cX7_isPending 6 = .ok (.invokestatic 55, 3) := by decide +kernel
theorem dX7_isPending_9 : decode cX7_isPending 9 = .ok (.iaload, 1) := by decide +kernel
theorem dX7_isPending_10 : decode cX7_isPending 10 = .ok (.aload_n 0, 1) := by decide +kernel
theorem dX7_isPending_11 : decode cX7_isPending 11 = .ok (.getfield 7, 3) := by decide +kernel
theorem dX7_isPending_14 : decode cX7_isPending 14 = .ok (.sipush 369, 3) := by decide +kernel
theorem dX7_isPending_17 : decode cX7_isPending 17 = .ok (.iaload, 1) := by decide +kernel
theorem dX7_isPending_18 : decode cX7_isPending 18 = .ok (.if_icmp .ne 7, 3) := by decide +kernel
theorem dX7_isPending_21 : decode cX7_isPending 21 = .ok (.iconst 1, 1) := by decide +kernel
theorem dX7_isPending_22 : decode cX7_isPending 22 = .ok (.goto 4, 3) := by decide +kernel
theorem dX7_isPending_25 : decode cX7_isPending 25 = .ok (.iconst 0, 1) := by decide +kernel
theorem dX7_isPending_26 : decode cX7_isPending 26 = .ok (.istore_n 2, 1) := by decide +kernel
theorem dX7_isPending_27 : decode cX7_isPending 27 = .ok (.iconst 0, 1) := by decide +kernel
theorem dX7_isPending_28 : decode cX7_isPending 28 = .ok (.istore_n 3, 1) := by decide +kernel
theorem dX7_isPending_29 : decode cX7_isPending 29 = .ok (.iload_n 3, 1) := by decide +kernel
theorem dX7_isPending_30 : decode cX7_isPending 30 = .ok (.aload_n 0, 1) := by decide +kernel
theorem dX7_isPending_31 : decode cX7_isPending 31 = .ok (.getfield 7, 3) := by decide +kernel
theorem dX7_isPending_34 : decode cX7_isPending 34 = .ok (.sipush 369, 3) := by decide +kernel
theorem dX7_isPending_37 : decode cX7_isPending 37 = .ok (.iaload, 1) := by decide +kernel
theorem dX7_isPending_38 : decode cX7_isPending 38 = .ok (.if_icmp .ge 44, 3) := by decide +kernel
theorem dX7_isPending_41 : decode cX7_isPending 41 = .ok (.iload_n 2, 1) := by decide +kernel
theorem dX7_isPending_42 : decode cX7_isPending 42 = .ok (.ifCond .eq 40, 3) := by decide +kernel
theorem dX7_isPending_45 : decode cX7_isPending 45 = .ok (.aload_n 0, 1) := by decide +kernel
theorem dX7_isPending_46 : decode cX7_isPending 46 = .ok (.getfield 7, 3) := by decide +kernel
theorem dX7_isPending_49 : decode cX7_isPending 49 = .ok (.iload_n 1, 1) := by decide +kernel
theorem dX7_isPending_50 : decode cX7_isPending 50 = .ok (.iconst 2, 1) := by decide +kernel
theorem dX7_isPending_51 : decode cX7_isPending 51 = .ok (.iload_n 3, 1) := by decide +kernel
theorem dX7_isPending_52 : decode cX7_isPending 52 = .ok (.iadd, 1) := by decide +kernel
theorem dX7_isPending_53 : decode cX7_isPending 53 = .ok (.invokestatic 55, 3) := by decide +kernel
theorem dX7_isPending_56 : decode cX7_isPending 56 = .ok (.iaload, 1) := by decide +kernel
theorem dX7_isPending_57 : decode cX7_isPending 57 = .ok (.aload_n 0, 1) := by decide +kernel
theorem dX7_isPending_58 : decode cX7_isPending 58 = .ok (.getfield 7, 3) := by decide +kernel
theorem dX7_isPending_61 : decode cX7_isPending 61 = .ok (.sipush 370, 3) := by decide +kernel
theorem dX7_isPending_64 : decode cX7_isPending 64 = .ok (.iload_n 3, 1) := by decide +kernel
theorem dX7_isPending_65 : decode cX7_isPending 65 = .ok (.iadd, 1) := by decide +kernel
theorem dX7_isPending_66 : decode cX7_isPending 66 = .ok (.iaload, 1) := by decide +kernel
theorem dX7_isPending_67 : decode cX7_isPending 67 = .ok (.if_icmp .ne 7, 3) := by decide +kernel
theorem dX7_isPending_70 : decode cX7_isPending 70 = .ok (.iconst 1, 1) := by decide +kernel
theorem dX7_isPending_71 : decode cX7_isPending 71 = .ok (.goto 4, 3) := by decide +kernel
theorem dX7_isPending_74 : decode cX7_isPending 74 = .ok (.iconst 0, 1) := by decide +kernel
theorem dX7_isPending_75 : decode cX7_isPending 75 = .ok (.istore_n 2, 1) := by decide +kernel
theorem dX7_isPending_76 : decode cX7_isPending 76 = .ok (.iinc 3 1, 3) := by decide +kernel
theorem dX7_isPending_79 : decode cX7_isPending 79 = .ok (.goto (-50), 3) := by decide +kernel
theorem dX7_isPending_82 : decode cX7_isPending 82 = .ok (.iload_n 2, 1) := by decide +kernel
theorem dX7_isPending_83 : decode cX7_isPending 83 = .ok (.ireturn, 1) := by decide +kernel
set_option maxRecDepth 20000 in
theorem ggX7_placeIn_X7_ofLine : GoodIn wsX7_placeIn wsX7_ofLine := goodIn_r _ [5] (by decide +kernel) (by decide +kernel)
set_option maxRecDepth 20000 in
theorem gX7_placeIn_X7_ofLine : GoodIn wsX7_placeIn (va_wsS RX7 55 yX7_ofLine wsX7_ofLine) := goodIn_app (goodIn_of _ (by decide +kernel)) ggX7_placeIn_X7_ofLine
theorem dX7_placeIn_0 : decode cX7_placeIn 0 = .ok (.iconst 2, 1) := by decide +kernel
theorem dX7_placeIn_1 : decode cX7_placeIn 1 = .ok (.iload_n 1, 1) := by decide +kernel
theorem dX7_placeIn_2 : decode cX7_placeIn 2 = .ok (.imul, 1) := by decide +kernel
theorem dX7_placeIn_3 : decode cX7_placeIn 3 = .ok (.istore_n 2, 1) := by decide +kernel
theorem dX7_placeIn_4 : decode cX7_placeIn 4 = .ok (.aload_n 0, 1) := by decide +kernel
theorem dX7_placeIn_5 : decode cX7_placeIn 5 = .ok (.getfield 7, 3) := by decide +kernel
theorem dX7_placeIn_8 : decode cX7_placeIn 8 = .ok (.iload_n 2, 1) := by decide +kernel
theorem dX7_placeIn_9 : decode cX7_placeIn 9 = .ok (.iconst 0, 1) := by decide +kernel
theorem dX7_placeIn_10 : decode cX7_placeIn 10 = .ok (.invokestatic 55, 3) := by decide +kernel
theorem dX7_placeIn_13 : decode cX7_placeIn 13 = .ok (.iaload, 1) := by decide +kernel
theorem dX7_placeIn_14 : decode cX7_placeIn 14 = .ok (.ifCond .eq 43, 3) := by decide +kernel
theorem dX7_placeIn_17 : decode cX7_placeIn 17 = .ok (.aload_n 0, 1) := by decide +kernel
theorem dX7_placeIn_18 : decode cX7_placeIn 18 = .ok (.getfield 7, 3) := by decide +kernel
theorem dX7_placeIn_21 : decode cX7_placeIn 21 = .ok (.iload_n 2, 1) := by decide +kernel
theorem dX7_placeIn_22 : decode cX7_placeIn 22 = .ok (.iconst 1, 1) := by decide +kernel
theorem dX7_placeIn_23 : decode cX7_placeIn 23 = .ok (.iadd, 1) := by decide +kernel
theorem dX7_placeIn_24 : decode cX7_placeIn 24 = .ok (.iconst 0, 1) := by decide +kernel
theorem dX7_placeIn_25 : decode cX7_placeIn 25 = .ok (.invokestatic 55, 3) := by decide +kernel
theorem dX7_placeIn_28 : decode cX7_placeIn 28 = .ok (.iaload, 1) := by decide +kernel
theorem dX7_placeIn_29 : decode cX7_placeIn 29 = .ok (.ifCond .le 32, 3) := by decide +kernel
theorem dX7_placeIn_32 : decode cX7_placeIn 32 = .ok (.aload_n 0, 1) := by decide +kernel
theorem dX7_placeIn_33 : decode cX7_placeIn 33 = .ok (.getfield 7, 3) := by decide +kernel
theorem dX7_placeIn_36 : decode cX7_placeIn 36 = .ok (.iload_n 2, 1) := by decide +kernel
theorem dX7_placeIn_37 : decode cX7_placeIn 37 = .ok (.iconst 1, 1) := by decide +kernel
theorem dX7_placeIn_38 : decode cX7_placeIn 38 = .ok (.invokestatic 55, 3) := by decide +kernel
theorem dX7_placeIn_41 : decode cX7_placeIn 41 = .ok (.iaload, 1) := by decide +kernel
theorem dX7_placeIn_42 : decode cX7_placeIn 42 = .ok (.aload_n 0, 1) := by decide +kernel
theorem dX7_placeIn_43 : decode cX7_placeIn 43 = .ok (.getfield 7, 3) := by decide +kernel
theorem dX7_placeIn_46 : decode cX7_placeIn 46 = .ok (.iload_n 2, 1) := by decide +kernel
theorem dX7_placeIn_47 : decode cX7_placeIn 47 = .ok (.iconst 1, 1) := by decide +kernel
theorem dX7_placeIn_48 : decode cX7_placeIn 48 = .ok (.iadd, 1) := by decide +kernel
theorem dX7_placeIn_49 : decode cX7_placeIn 49 = .ok (.iconst 1, 1) := by decide +kernel
theorem dX7_placeIn_50 : decode cX7_placeIn 50 = .ok (.invokestatic 55, 3) := by decide +kernel
theorem dX7_placeIn_53 : decode cX7_placeIn 53 = .ok (.iaload, 1) := by decide +kernel
theorem dX7_placeIn_54 : decode cX7_placeIn 54 = .ok (.if_icmp .ge 7, 3) := by decide +kernel
theorem dX7_placeIn_57 : decode cX7_placeIn 57 = .ok (.iconst 1, 1) := by decide +kernel
theorem dX7_placeIn_58 : decode cX7_placeIn 58 = .ok (.goto 4, 3) := by decide +kernel
theorem dX7_placeIn_61 : decode cX7_placeIn 61 = .ok (.iconst 0, 1) := by decide +kernel
theorem dX7_placeIn_62 : decode cX7_placeIn 62 = .ok (.istore_n 3, 1) := by decide +kernel
theorem dX7_placeIn_63 : decode cX7_placeIn 63 = .ok (.iload_n 3, 1) := by decide +kernel
theorem dX7_placeIn_64 : decode cX7_placeIn 64 = .ok (.ifCond .eq 7, 3) := by decide +kernel
theorem dX7_placeIn_67 : decode cX7_placeIn 67 = .ok (.iload_n 2, 1) := by decide +kernel
theorem dX7_placeIn_68 : decode cX7_placeIn 68 = .ok (.goto 6, 3) := by decide +kernel
theorem dX7_placeIn_71 : decode cX7_placeIn 71 = .ok (.iload_n 2, 1) := by decide +kernel
theorem dX7_placeIn_72 : decode cX7_placeIn 72 = .ok (.iconst 1, 1) := by decide +kernel
theorem dX7_placeIn_73 : decode cX7_placeIn 73 = .ok (.iadd, 1) := by decide +kernel
theorem dX7_placeIn_74 : decode cX7_placeIn 74 = .ok (.ireturn, 1) := by decide +kernel
theorem dX7_nextUse_0 : decode cX7_nextUse 0 = .ok (.aload_n 0, 1) := by decide +kernel
theorem dX7_nextUse_1 : decode cX7_nextUse 1 = .ok (.getfield 7, 3) := by decide +kernel
theorem dX7_nextUse_4 : decode cX7_nextUse 4 = .ok (.sipush 378, 3) := by decide +kernel
theorem dX7_nextUse_7 : decode cX7_nextUse 7 = .ok (.dup2, 1) := by decide +kernel
theorem dX7_nextUse_8 : decode cX7_nextUse 8 = .ok (.iaload, 1) := by decide +kernel
theorem dX7_nextUse_9 : decode cX7_nextUse 9 = .ok (.iconst 1, 1) := by decide +kernel
theorem dX7_nextUse_10 : decode cX7_nextUse 10 = .ok (.iadd, 1) := by decide +kernel
theorem dX7_nextUse_11 : decode cX7_nextUse 11 = .ok (.iastore, 1) := by decide +kernel
theorem dX7_nextUse_12 : decode cX7_nextUse 12 = .ok (.aload_n 0, 1) := by decide +kernel
theorem dX7_nextUse_13 : decode cX7_nextUse 13 = .ok (.getfield 7, 3) := by decide +kernel
theorem dX7_nextUse_16 : decode cX7_nextUse 16 = .ok (.sipush 378, 3) := by decide +kernel
theorem dX7_nextUse_19 : decode cX7_nextUse 19 = .ok (.iaload, 1) := by decide +kernel
theorem dX7_nextUse_20 : decode cX7_nextUse 20 = .ok (.ireturn, 1) := by decide +kernel
set_option maxRecDepth 20000 in
theorem ggX7_stores_X7_isPending : GoodIn wsX7_stores wsX7_isPending := goodIn_r _ [6, 1, 7, 8, 5, 9, 18, 19, 20, 21, 22, 23, 24, 25, 26, 27, 28, 29, 30, 31] (by decide +kernel) (by decide +kernel)
set_option maxRecDepth 20000 in
theorem gX7_stores_X7_isPending : GoodIn wsX7_stores (wsV RX7 61 RX7 yX7_isPending wsX7_isPending) := goodIn_app (goodIn_of _ (by decide +kernel)) ggX7_stores_X7_isPending
set_option maxRecDepth 20000 in
theorem ggX7_stores_X7_placeIn : GoodIn wsX7_stores wsX7_placeIn := goodIn_r _ [13, 1, 7, 8, 5, 9, 18, 19, 20, 21, 22, 23, 24, 25, 26, 27, 28, 29, 30, 31] (by decide +kernel) (by decide +kernel)
set_option maxRecDepth 20000 in
theorem gX7_stores_X7_placeIn : GoodIn wsX7_stores (wsV RX7 64 RX7 yX7_placeIn wsX7_placeIn) := goodIn_app (goodIn_of _ (by decide +kernel)) ggX7_stores_X7_placeIn
set_option maxRecDepth 20000 in
theorem ggX7_stores_X7_ofLine : GoodIn wsX7_stores wsX7_ofLine := goodIn_r _ [9] (by decide +kernel) (by decide +kernel)
set_option maxRecDepth 20000 in
theorem gX7_stores_X7_ofLine : GoodIn wsX7_stores (va_wsS RX7 55 yX7_ofLine wsX7_ofLine) := goodIn_app (goodIn_of _ (by decide +kernel)) ggX7_stores_X7_ofLine
set_option maxRecDepth 20000 in
theorem ggX7_stores_X7_nextUse : GoodIn wsX7_stores wsX7_nextUse := goodIn_r _ [17, 1, 18, 19, 20, 21, 22, 23, 24, 25, 26, 27, 28, 29, 30, 31] (by decide +kernel) (by decide +kernel)
set_option maxRecDepth 20000 in
theorem gX7_stores_X7_nextUse : GoodIn wsX7_stores (wsV RX7 67 RX7 yX7_nextUse wsX7_nextUse) := goodIn_app (goodIn_of _ (by decide +kernel)) ggX7_stores_X7_nextUse
theorem dX7_stores_0 : decode cX7_stores 0 = .ok (.aload_n 0, 1) := by decide +kernel
theorem dX7_stores_1 : decode cX7_stores 1 = .ok (.getfield 7, 3) := by decide +kernel
theorem dX7_stores_4 : decode cX7_stores 4 = .ok (.sipush 370, 3) := by decide +kernel
theorem dX7_stores_7 : decode cX7_stores 7 = .ok (.iaload, 1) := by decide +kernel
theorem dX7_stores_8 : decode cX7_stores 8 = .ok (.iconst 4, 1) := by decide +kernel
theorem dX7_stores_9 : decode cX7_stores 9 = .ok (.irem, 1) := by decide +kernel
theorem dX7_stores_10 : decode cX7_stores 10 = .ok (.istore_n 1, 1) := by decide +kernel
theorem dX7_stores_11 : decode cX7_stores 11 = .ok (.aload_n 0, 1) := by decide +kernel
theorem dX7_stores_12 : decode cX7_stores 12 = .ok (.iconst 2, 1) := by decide +kernel
theorem dX7_stores_13 : decode cX7_stores 13 = .ok (.iload_n 1, 1) := by decide +kernel
theorem dX7_stores_14 : decode cX7_stores 14 = .ok (.imul, 1) := by decide +kernel
theorem dX7_stores_15 : decode cX7_stores 15 = .ok (.invokevirtual 61, 3) := by decide +kernel
theorem dX7_stores_18 : decode cX7_stores 18 = .ok (.ifCond .eq 9, 3) := by decide +kernel
theorem dX7_stores_21 : decode cX7_stores 21 = .ok (.iconst 2, 1) := by decide +kernel
theorem dX7_stores_22 : decode cX7_stores 22 = .ok (.iload_n 1, 1) := by decide +kernel
theorem dX7_stores_23 : decode cX7_stores 23 = .ok (.imul, 1) := by decide +kernel
theorem dX7_stores_24 : decode cX7_stores 24 = .ok (.goto 24, 3) := by decide +kernel
theorem dX7_stores_27 : decode cX7_stores 27 = .ok (.aload_n 0, 1) := by decide +kernel
theorem dX7_stores_28 : decode cX7_stores 28 = .ok (.iconst 2, 1) := by decide +kernel
theorem dX7_stores_29 : decode cX7_stores 29 = .ok (.iload_n 1, 1) := by decide +kernel
theorem dX7_stores_30 : decode cX7_stores 30 = .ok (.imul, 1) := by decide +kernel
theorem dX7_stores_31 : decode cX7_stores 31 = .ok (.iconst 1, 1) := by decide +kernel
theorem dX7_stores_32 : decode cX7_stores 32 = .ok (.iadd, 1) := by decide +kernel
theorem dX7_stores_33 : decode cX7_stores 33 = .ok (.invokevirtual 61, 3) := by decide +kernel
theorem dX7_stores_36 : decode cX7_stores 36 = .ok (.ifCond .eq 11, 3) := by decide +kernel
theorem dX7_stores_39 : decode cX7_stores 39 = .ok (.iconst 2, 1) := by decide +kernel
theorem dX7_stores_40 : decode cX7_stores 40 = .ok (.iload_n 1, 1) := by decide +kernel
theorem dX7_stores_41 : decode cX7_stores 41 = .ok (.imul, 1) := by decide +kernel
theorem dX7_stores_42 : decode cX7_stores 42 = .ok (.iconst 1, 1) := by decide +kernel
theorem dX7_stores_43 : decode cX7_stores 43 = .ok (.iadd, 1) := by decide +kernel
theorem dX7_stores_44 : decode cX7_stores 44 = .ok (.goto 4, 3) := by decide +kernel
theorem dX7_stores_47 : decode cX7_stores 47 = .ok (.iconst (-1), 1) := by decide +kernel
theorem dX7_stores_48 : decode cX7_stores 48 = .ok (.istore_n 2, 1) := by decide +kernel
theorem dX7_stores_49 : decode cX7_stores 49 = .ok (.iload_n 2, 1) := by decide +kernel
theorem dX7_stores_50 : decode cX7_stores 50 = .ok (.iconst (-1), 1) := by decide +kernel
theorem dX7_stores_51 : decode cX7_stores 51 = .ok (.if_icmp .ne 110, 3) := by decide +kernel
theorem dX7_stores_54 : decode cX7_stores 54 = .ok (.aload_n 0, 1) := by decide +kernel
theorem dX7_stores_55 : decode cX7_stores 55 = .ok (.iload_n 1, 1) := by decide +kernel
theorem dX7_stores_56 : decode cX7_stores 56 = .ok (.invokevirtual 64, 3) := by decide +kernel
theorem dX7_stores_59 : decode cX7_stores 59 = .ok (.istore_n 2, 1) := by decide +kernel
theorem dX7_stores_60 : decode cX7_stores 60 = .ok (.aload_n 0, 1) := by decide +kernel
theorem dX7_stores_61 : decode cX7_stores 61 = .ok (.getfield 7, 3) := by decide +kernel
theorem dX7_stores_64 : decode cX7_stores 64 = .ok (.sipush 387, 3) := by decide +kernel
theorem dX7_stores_67 : decode cX7_stores 67 = .ok (.dup2, 1) := by decide +kernel
theorem dX7_stores_68 : decode cX7_stores 68 = .ok (.iaload, 1) := by decide +kernel
theorem dX7_stores_69 : decode cX7_stores 69 = .ok (.aload_n 0, 1) := by decide +kernel
theorem dX7_stores_70 : decode cX7_stores 70 = .ok (.getfield 7, 3) := by decide +kernel
theorem dX7_stores_73 : decode cX7_stores 73 = .ok (.iload_n 2, 1) := by decide +kernel
theorem dX7_stores_74 : decode cX7_stores 74 = .ok (.iconst 0, 1) := by decide +kernel
theorem dX7_stores_75 : decode cX7_stores 75 = .ok (.invokestatic 55, 3) := by decide +kernel
theorem dX7_stores_78 : decode cX7_stores 78 = .ok (.iaload, 1) := by decide +kernel
theorem dX7_stores_79 : decode cX7_stores 79 = .ok (.ifCond .le 7, 3) := by decide +kernel
theorem dX7_stores_82 : decode cX7_stores 82 = .ok (.iconst 1, 1) := by decide +kernel
theorem dX7_stores_83 : decode cX7_stores 83 = .ok (.goto 4, 3) := by decide +kernel
theorem dX7_stores_86 : decode cX7_stores 86 = .ok (.iconst 0, 1) := by decide +kernel
theorem dX7_stores_87 : decode cX7_stores 87 = .ok (.iadd, 1) := by decide +kernel
theorem dX7_stores_88 : decode cX7_stores 88 = .ok (.iastore, 1) := by decide +kernel
theorem dX7_stores_89 : decode cX7_stores 89 = .ok (.aload_n 0, 1) := by decide +kernel
theorem dX7_stores_90 : decode cX7_stores 90 = .ok (.getfield 7, 3) := by decide +kernel
theorem dX7_stores_93 : decode cX7_stores 93 = .ok (.sipush 386, 3) := by decide +kernel
theorem dX7_stores_96 : decode cX7_stores 96 = .ok (.dup2, 1) := by decide +kernel
theorem dX7_stores_97 : decode cX7_stores 97 = .ok (.iaload, 1) := by decide +kernel
theorem dX7_stores_98 : decode cX7_stores 98 = .ok (.iconst 1, 1) := by decide +kernel
theorem dX7_stores_99 : decode cX7_stores 99 = .ok (.iadd, 1) := by decide +kernel
theorem dX7_stores_100 : decode cX7_stores 100 = .ok (.iastore, 1) := by decide +kernel
theorem dX7_stores_101 : decode cX7_stores 101 = .ok (.aload_n 0, 1) := by decide +kernel
theorem dX7_stores_102 : decode cX7_stores 102 = .ok (.getfield 7, 3) := by decide +kernel
theorem dX7_stores_105 : decode cX7_stores 105 = .ok (.iload_n 2, 1) := by decide +kernel
theorem dX7_stores_106 : decode cX7_stores 106 = .ok (.iconst 0, 1) := by decide +kernel
theorem dX7_stores_107 : decode cX7_stores 107 = .ok (.invokestatic 55, 3) := by decide +kernel
theorem dX7_stores_110 : decode cX7_stores 110 = .ok (.aload_n 0, 1) := by decide +kernel
theorem dX7_stores_111 : decode cX7_stores 111 = .ok (.getfield 7, 3) := by decide +kernel
theorem dX7_stores_114 : decode cX7_stores 114 = .ok (.sipush 369, 3) := by decide +kernel
theorem dX7_stores_117 : decode cX7_stores 117 = .ok (.iaload, 1) := by decide +kernel
theorem dX7_stores_118 : decode cX7_stores 118 = .ok (.iastore, 1) := by decide +kernel
theorem dX7_stores_119 : decode cX7_stores 119 = .ok (.iconst 0, 1) := by decide +kernel
theorem dX7_stores_120 : decode cX7_stores 120 = .ok (.istore_n 3, 1) := by decide +kernel
theorem dX7_stores_121 : decode cX7_stores 121 = .ok (.iload_n 3, 1) := by decide +kernel
theorem dX7_stores_122 : decode cX7_stores 122 = .ok (.aload_n 0, 1) := by decide +kernel
theorem dX7_stores_123 : decode cX7_stores 123 = .ok (.getfield 7, 3) := by decide +kernel
theorem dX7_stores_126 : decode cX7_stores 126 = .ok (.sipush 369, 3) := by decide +kernel
theorem dX7_stores_129 : decode cX7_stores 129 = .ok (.iaload, 1) := by decide +kernel
theorem dX7_stores_130 : decode cX7_stores 130 = .ok (.if_icmp .ge 31, 3) := by decide +kernel
theorem dX7_stores_133 : decode cX7_stores 133 = .ok (.aload_n 0, 1) := by decide +kernel
theorem dX7_stores_134 : decode cX7_stores 134 = .ok (.getfield 7, 3) := by decide +kernel
theorem dX7_stores_137 : decode cX7_stores 137 = .ok (.iload_n 2, 1) := by decide +kernel
theorem dX7_stores_138 : decode cX7_stores 138 = .ok (.iconst 2, 1) := by decide +kernel
theorem dX7_stores_139 : decode cX7_stores 139 = .ok (.iload_n 3, 1) := by decide +kernel
theorem dX7_stores_140 : decode cX7_stores 140 = .ok (.iadd, 1) := by decide +kernel
theorem dX7_stores_141 : decode cX7_stores 141 = .ok (.invokestatic 55, 3) := by decide +kernel
theorem dX7_stores_144 : decode cX7_stores 144 = .ok (.aload_n 0, 1) := by decide +kernel
theorem dX7_stores_145 : decode cX7_stores 145 = .ok (.getfield 7, 3) := by decide +kernel
theorem dX7_stores_148 : decode cX7_stores 148 = .ok (.sipush 370, 3) := by decide +kernel
theorem dX7_stores_151 : decode cX7_stores 151 = .ok (.iload_n 3, 1) := by decide +kernel
theorem dX7_stores_152 : decode cX7_stores 152 = .ok (.iadd, 1) := by decide +kernel
theorem dX7_stores_153 : decode cX7_stores 153 = .ok (.iaload, 1) := by decide +kernel
theorem dX7_stores_154 : decode cX7_stores 154 = .ok (.iastore, 1) := by decide +kernel
theorem dX7_stores_155 : decode cX7_stores 155 = .ok (.iinc 3 1, 3) := by decide +kernel
theorem dX7_stores_158 : decode cX7_stores 158 = .ok (.goto (-37), 3) := by decide +kernel
theorem dX7_stores_161 : decode cX7_stores 161 = .ok (.aload_n 0, 1) := by decide +kernel
theorem dX7_stores_162 : decode cX7_stores 162 = .ok (.getfield 7, 3) := by decide +kernel
theorem dX7_stores_165 : decode cX7_stores 165 = .ok (.iload_n 2, 1) := by decide +kernel
theorem dX7_stores_166 : decode cX7_stores 166 = .ok (.iconst 1, 1) := by decide +kernel
theorem dX7_stores_167 : decode cX7_stores 167 = .ok (.invokestatic 55, 3) := by decide +kernel
theorem dX7_stores_170 : decode cX7_stores 170 = .ok (.aload_n 0, 1) := by decide +kernel
theorem dX7_stores_171 : decode cX7_stores 171 = .ok (.invokevirtual 67, 3) := by decide +kernel
theorem dX7_stores_174 : decode cX7_stores 174 = .ok (.iastore, 1) := by decide +kernel
theorem dX7_stores_175 : decode cX7_stores 175 = .ok (.aload_n 0, 1) := by decide +kernel
theorem dX7_stores_176 : decode cX7_stores 176 = .ok (.getfield 7, 3) := by decide +kernel
theorem dX7_stores_179 : decode cX7_stores 179 = .ok (.sipush 369, 3) := by decide +kernel
theorem dX7_stores_182 : decode cX7_stores 182 = .ok (.iconst 0, 1) := by decide +kernel
theorem dX7_stores_183 : decode cX7_stores 183 = .ok (.iastore, 1) := by decide +kernel
theorem dX7_stores_184 : decode cX7_stores 184 = .ok (.return_, 1) := by decide +kernel
set_option maxRecDepth 20000 in
theorem ggX7_pendingBranches_X7_of : GoodIn wsX7_pendingBranches wsX7_of := goodIn_r _ [5] (by decide +kernel) (by decide +kernel)
set_option maxRecDepth 20000 in
theorem gX7_pendingBranches_X7_of : GoodIn wsX7_pendingBranches (va_wsS RX7 28 yX7_of wsX7_of) := goodIn_app (goodIn_of _ (by decide +kernel)) ggX7_pendingBranches_X7_of
theorem dX7_pendingBranches_0 : decode cX7_pendingBranches 0 = .ok (.iconst 0, 1) := by decide +kernel
theorem dX7_pendingBranches_1 : decode cX7_pendingBranches 1 = .ok (.istore_n 1, 1) := by decide +kernel
theorem dX7_pendingBranches_2 : decode cX7_pendingBranches 2 = .ok (.iconst 0, 1) := by decide +kernel
theorem dX7_pendingBranches_3 : decode cX7_pendingBranches 3 = .ok (.istore_n 2, 1) := by decide +kernel
theorem dX7_pendingBranches_4 : decode cX7_pendingBranches 4 = .ok (.iload_n 2, 1) := by decide +kernel
theorem dX7_pendingBranches_5 : decode cX7_pendingBranches 5 = .ok (.aload_n 0, 1) := by decide +kernel
theorem dX7_pendingBranches_6 : decode cX7_pendingBranches 6 = .ok (.getfield 7, 3) := by decide +kernel
theorem dX7_pendingBranches_9 : decode cX7_pendingBranches 9 = .ok (.sipush 369, 3) := by decide +kernel
theorem dX7_pendingBranches_12 : decode cX7_pendingBranches 12 = .ok (.iaload, 1) := by decide +kernel
theorem dX7_pendingBranches_13 : decode cX7_pendingBranches 13 = .ok (.if_icmp .ge 40, 3) := by decide +kernel
theorem dX7_pendingBranches_16 : decode cX7_pendingBranches 16 = .ok (.iload_n 1, 1) := by decide +kernel
theorem dX7_pendingBranches_17 : decode cX7_pendingBranches 17 = .ok (.aload_n 0, 1) := by decide +kernel
theorem dX7_pendingBranches_18 : decode cX7_pendingBranches 18 = .ok (.getfield 7, 3) := by decide +kernel
theorem dX7_pendingBranches_21 : decode cX7_pendingBranches 21 = .ok (.aload_n 0, 1) := by decide +kernel
theorem dX7_pendingBranches_22 : decode cX7_pendingBranches 22 = .ok (.getfield 7, 3) := by decide +kernel
theorem dX7_pendingBranches_25 : decode cX7_pendingBranches 25 = .ok (.sipush 370, 3) := by decide +kernel
theorem dX7_pendingBranches_28 : decode cX7_pendingBranches 28 = .ok (.iload_n 2, 1) := by decide +kernel
theorem dX7_pendingBranches_29 : decode cX7_pendingBranches 29 = .ok (.iadd, 1) := by decide +kernel
theorem dX7_pendingBranches_30 : decode cX7_pendingBranches 30 = .ok (.iaload, 1) := by decide +kernel
theorem dX7_pendingBranches_31 : decode cX7_pendingBranches 31 = .ok (.iconst 0, 1) := by decide +kernel
theorem dX7_pendingBranches_32 : decode cX7_pendingBranches 32 = .ok (.invokestatic 28, 3) := by decide +kernel
theorem dX7_pendingBranches_35 : decode cX7_pendingBranches 35 = .ok (.iaload, 1) := by decide +kernel
theorem dX7_pendingBranches_36 : decode cX7_pendingBranches 36 = .ok (.iconst 2, 1) := by decide +kernel
theorem dX7_pendingBranches_37 : decode cX7_pendingBranches 37 = .ok (.if_icmp .ne 7, 3) := by decide +kernel
theorem dX7_pendingBranches_40 : decode cX7_pendingBranches 40 = .ok (.iconst 1, 1) := by decide +kernel
theorem dX7_pendingBranches_41 : decode cX7_pendingBranches 41 = .ok (.goto 4, 3) := by decide +kernel
theorem dX7_pendingBranches_44 : decode cX7_pendingBranches 44 = .ok (.iconst 0, 1) := by decide +kernel
theorem dX7_pendingBranches_45 : decode cX7_pendingBranches 45 = .ok (.iadd, 1) := by decide +kernel
theorem dX7_pendingBranches_46 : decode cX7_pendingBranches 46 = .ok (.istore_n 1, 1) := by decide +kernel
theorem dX7_pendingBranches_47 : decode cX7_pendingBranches 47 = .ok (.iinc 2 1, 3) := by decide +kernel
theorem dX7_pendingBranches_50 : decode cX7_pendingBranches 50 = .ok (.goto (-46), 3) := by decide +kernel
theorem dX7_pendingBranches_53 : decode cX7_pendingBranches 53 = .ok (.iload_n 1, 1) := by decide +kernel
theorem dX7_pendingBranches_54 : decode cX7_pendingBranches 54 = .ok (.ireturn, 1) := by decide +kernel
set_option maxRecDepth 20000 in
theorem ggX7_adds_X7_pendingBranches : GoodIn wsX7_adds wsX7_pendingBranches := goodIn_r _ [6, 1, 7, 8, 5, 9, 29, 30, 31, 32, 33, 34, 35, 36, 37, 38, 39, 40, 41, 42] (by decide +kernel) (by decide +kernel)
set_option maxRecDepth 20000 in
theorem gX7_adds_X7_pendingBranches : GoodIn wsX7_adds (wsV RX7 71 RX7 yX7_pendingBranches wsX7_pendingBranches) := goodIn_app (goodIn_of _ (by decide +kernel)) ggX7_adds_X7_pendingBranches
set_option maxRecDepth 20000 in
theorem ggX7_adds_X7_stores : GoodIn wsX7_adds wsX7_stores := goodIn_r _ [13, 1, 14, 15, 16, 5, 17, 18, 19, 20, 21, 22, 23, 24, 25, 26, 27, 28, 29, 30, 31, 32, 33, 34, 35, 36, 37, 38, 39, 40, 41, 42] (by decide +kernel) (by decide +kernel)
set_option maxRecDepth 20000 in
theorem gX7_adds_X7_stores : GoodIn wsX7_adds (wsV RX7 74 RX7 yX7_stores wsX7_stores) := goodIn_app (goodIn_of _ (by decide +kernel)) ggX7_adds_X7_stores
theorem dX7_adds_0 : decode cX7_adds 0 = .ok (.aload_n 0, 1) := by decide +kernel
theorem dX7_adds_1 : decode cX7_adds 1 = .ok (.getfield 7, 3) := by decide +kernel
