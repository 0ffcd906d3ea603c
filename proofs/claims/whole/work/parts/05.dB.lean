theorem dX4_init_0 : decode cX4_init 0 = .ok (.aload_n 0, 1) := by decide +kernel
theorem dX4_init_1 : decode cX4_init 1 = .ok (.invokespecial 3, 3) := by decide +kernel
theorem dX4_init_4 : decode cX4_init 4 = .ok (.aload_n 0, 1) := by decide +kernel
theorem dX4_init_5 : decode cX4_init 5 = .ok (.bipush 48, 2) := by decide +kernel
theorem dX4_init_7 : decode cX4_init 7 = .ok (.newarray .int, 2) := by decide +kernel
theorem dX4_init_9 : decode cX4_init 9 = .ok (.putfield 9, 3) := by decide +kernel
theorem dX4_init_12 : decode cX4_init 12 = .ok (.aload_n 0, 1) := by decide +kernel
theorem dX4_init_13 : decode cX4_init 13 = .ok (.bipush 48, 2) := by decide +kernel
theorem dX4_init_15 : decode cX4_init 15 = .ok (.newarray .int, 2) := by decide +kernel
theorem dX4_init_17 : decode cX4_init 17 = .ok (.putfield 15, 3) := by decide +kernel
theorem dX4_init_20 : decode cX4_init 20 = .ok (.aload_n 0, 1) := by decide +kernel
theorem dX4_init_21 : decode cX4_init 21 = .ok (.bipush 48, 2) := by decide +kernel
theorem dX4_init_23 : decode cX4_init 23 = .ok (.newarray .int, 2) := by decide +kernel
theorem dX4_init_25 : decode cX4_init 25 = .ok (.putfield 18, 3) := by decide +kernel
theorem dX4_init_28 : decode cX4_init 28 = .ok (.aload_n 0, 1) := by decide +kernel
theorem dX4_init_29 : decode cX4_init 29 = .ok (.bipush 48, 2) := by decide +kernel
theorem dX4_init_31 : decode cX4_init 31 = .ok (.newarray .int, 2) := by decide +kernel
theorem dX4_init_33 : decode cX4_init 33 = .ok (.putfield 21, 3) := by decide +kernel
theorem dX4_init_36 : decode cX4_init 36 = .ok (.aload_n 0, 1) := by decide +kernel
theorem dX4_init_37 : decode cX4_init 37 = .ok (.bipush 48, 2) := by decide +kernel
theorem dX4_init_39 : decode cX4_init 39 = .ok (.newarray .int, 2) := by decide +kernel
theorem dX4_init_41 : decode cX4_init 41 = .ok (.putfield 24, 3) := by decide +kernel
theorem dX4_init_44 : decode cX4_init 44 = .ok (.aload_n 0, 1) := by decide +kernel
theorem dX4_init_45 : decode cX4_init 45 = .ok (.bipush 48, 2) := by decide +kernel
theorem dX4_init_47 : decode cX4_init 47 = .ok (.newarray .int, 2) := by decide +kernel
theorem dX4_init_49 : decode cX4_init 49 = .ok (.putfield 27, 3) := by decide +kernel
theorem dX4_init_52 : decode cX4_init 52 = .ok (.iconst 0, 1) := by decide +kernel
theorem dX4_init_53 : decode cX4_init 53 = .ok (.istore_n 1, 1) := by decide +kernel
theorem dX4_init_54 : decode cX4_init 54 = .ok (.iload_n 1, 1) := by decide +kernel
theorem dX4_init_55 : decode cX4_init 55 = .ok (.bipush 48, 2) := by decide +kernel
theorem dX4_init_57 : decode cX4_init 57 = .ok (.if_icmp .ge 23, 3) := by decide +kernel
theorem dX4_init_60 : decode cX4_init 60 = .ok (.aload_n 0, 1) := by decide +kernel
theorem dX4_init_61 : decode cX4_init 61 = .ok (.getfield 21, 3) := by decide +kernel
theorem dX4_init_64 : decode cX4_init 64 = .ok (.iload_n 1, 1) := by decide +kernel
theorem dX4_init_65 : decode cX4_init 65 = .ok (.iconst 1, 1) := by decide +kernel
theorem dX4_init_66 : decode cX4_init 66 = .ok (.iastore, 1) := by decide +kernel
theorem dX4_init_67 : decode cX4_init 67 = .ok (.aload_n 0, 1) := by decide +kernel
theorem dX4_init_68 : decode cX4_init 68 = .ok (.getfield 27, 3) := by decide +kernel
theorem dX4_init_71 : decode cX4_init 71 = .ok (.iload_n 1, 1) := by decide +kernel
theorem dX4_init_72 : decode cX4_init 72 = .ok (.iconst 1, 1) := by decide +kernel
theorem dX4_init_73 : decode cX4_init 73 = .ok (.iastore, 1) := by decide +kernel
theorem dX4_init_74 : decode cX4_init 74 = .ok (.iinc 1 1, 3) := by decide +kernel
theorem dX4_init_77 : decode cX4_init 77 = .ok (.goto (-23), 3) := by decide +kernel
theorem dX4_init_80 : decode cX4_init 80 = .ok (.return_, 1) := by decide +kernel
theorem dX4_copyFrom_0 : decode cX4_copyFrom 0 = .ok (.aload_n 1, 1) := by decide +kernel
theorem dX4_copyFrom_1 : decode cX4_copyFrom 1 = .ok (.getfield 9, 3) := by decide +kernel
theorem dX4_copyFrom_4 : decode cX4_copyFrom 4 = .ok (.iconst 0, 1) := by decide +kernel
theorem dX4_copyFrom_5 : decode cX4_copyFrom 5 = .ok (.aload_n 0, 1) := by decide +kernel
theorem dX4_copyFrom_6 : decode cX4_copyFrom 6 = .ok (.getfield 9, 3) := by decide +kernel
theorem dX4_copyFrom_9 : decode cX4_copyFrom 9 = .ok (.iconst 0, 1) := by decide +kernel
theorem dX4_copyFrom_10 : decode cX4_copyFrom 10 = .ok (.bipush 48, 2) := by decide +kernel
theorem dX4_copyFrom_12 : decode cX4_copyFrom 12 = .ok (.invokestatic 30, 3) := by decide +kernel
theorem dX4_copyFrom_15 : decode cX4_copyFrom 15 = .ok (.aload_n 1, 1) := by decide +kernel
theorem dX4_copyFrom_16 : decode cX4_copyFrom 16 = .ok (.getfield 15, 3) := by decide +kernel
theorem dX4_copyFrom_19 : decode cX4_copyFrom 19 = .ok (.iconst 0, 1) := by decide +kernel
theorem dX4_copyFrom_20 : decode cX4_copyFrom 20 = .ok (.aload_n 0, 1) := by decide +kernel
theorem dX4_copyFrom_21 : decode cX4_copyFrom 21 = .ok (.getfield 15, 3) := by decide +kernel
theorem dX4_copyFrom_24 : decode cX4_copyFrom 24 = .ok (.iconst 0, 1) := by decide +kernel
theorem dX4_copyFrom_25 : decode cX4_copyFrom 25 = .ok (.bipush 48, 2) := by decide +kernel
theorem dX4_copyFrom_27 : decode cX4_copyFrom 27 = .ok (.invokestatic 30, 3) := by decide +kernel
theorem dX4_copyFrom_30 : decode cX4_copyFrom 30 = .ok (.aload_n 1, 1) := by decide +kernel
theorem dX4_copyFrom_31 : decode cX4_copyFrom 31 = .ok (.getfield 18, 3) := by decide +kernel
theorem dX4_copyFrom_34 : decode cX4_copyFrom 34 = .ok (.iconst 0, 1) := by decide +kernel
theorem dX4_copyFrom_35 : decode cX4_copyFrom 35 = .ok (.aload_n 0, 1) := by decide +kernel
theorem dX4_copyFrom_36 : decode cX4_copyFrom 36 = .ok (.getfield 18, 3) := by decide +kernel
theorem dX4_copyFrom_39 : decode cX4_copyFrom 39 = .ok (.iconst 0, 1) := by decide +kernel
theorem dX4_copyFrom_40 : decode cX4_copyFrom 40 = .ok (.bipush 48, 2) := by decide +kernel
theorem dX4_copyFrom_42 : decode cX4_copyFrom 42 = .ok (.invokestatic 30, 3) := by decide +kernel
theorem dX4_copyFrom_45 : decode cX4_copyFrom 45 = .ok (.aload_n 1, 1) := by decide +kernel
theorem dX4_copyFrom_46 : decode cX4_copyFrom 46 = .ok (.getfield 21, 3) := by decide +kernel
theorem dX4_copyFrom_49 : decode cX4_copyFrom 49 = .ok (.iconst 0, 1) := by decide +kernel
theorem dX4_copyFrom_50 : decode cX4_copyFrom 50 = .ok (.aload_n 0, 1) := by decide +kernel
theorem dX4_copyFrom_51 : decode cX4_copyFrom 51 = .ok (.getfield 21, 3) := by decide +kernel
theorem dX4_copyFrom_54 : decode cX4_copyFrom 54 = .ok (.iconst 0, 1) := by decide +kernel
theorem dX4_copyFrom_55 : decode cX4_copyFrom 55 = .ok (.bipush 48, 2) := by decide +kernel
theorem dX4_copyFrom_57 : decode cX4_copyFrom 57 = .ok (.invokestatic 30, 3) := by decide +kernel
theorem dX4_copyFrom_60 : decode cX4_copyFrom 60 = .ok (.aload_n 1, 1) := by decide +kernel
theorem dX4_copyFrom_61 : decode cX4_copyFrom 61 = .ok (.getfield 24, 3) := by decide +kernel
theorem dX4_copyFrom_64 : decode cX4_copyFrom 64 = .ok (.iconst 0, 1) := by decide +kernel
theorem dX4_copyFrom_65 : decode cX4_copyFrom 65 = .ok (.aload_n 0, 1) := by decide +kernel
theorem dX4_copyFrom_66 : decode cX4_copyFrom 66 = .ok (.getfield 24, 3) := by decide +kernel
theorem dX4_copyFrom_69 : decode cX4_copyFrom 69 = .ok (.iconst 0, 1) := by decide +kernel
theorem dX4_copyFrom_70 : decode cX4_copyFrom 70 = .ok (.bipush 48, 2) := by decide +kernel
theorem dX4_copyFrom_72 : decode cX4_copyFrom 72 = .ok (.invokestatic 30, 3) := by decide +kernel
theorem dX4_copyFrom_75 : decode cX4_copyFrom 75 = .ok (.aload_n 1, 1) := by decide +kernel
theorem dX4_copyFrom_76 : decode cX4_copyFrom 76 = .ok (.getfield 27, 3) := by decide +kernel
theorem dX4_copyFrom_79 : decode cX4_copyFrom 79 = .ok (.iconst 0, 1) := by decide +kernel
theorem dX4_copyFrom_80 : decode cX4_copyFrom 80 = .ok (.aload_n 0, 1) := by decide +kernel
theorem dX4_copyFrom_81 : decode cX4_copyFrom 81 = .ok (.getfield 27, 3) := by decide +kernel
theorem dX4_copyFrom_84 : decode cX4_copyFrom 84 = .ok (.iconst 0, 1) := by decide +kernel
theorem dX4_copyFrom_85 : decode cX4_copyFrom 85 = .ok (.bipush 48, 2) := by decide +kernel
theorem dX4_copyFrom_87 : decode cX4_copyFrom 87 = .ok (.invokestatic 30, 3) := by decide +kernel
theorem dX4_copyFrom_90 : decode cX4_copyFrom 90 = .ok (.aload_n 0, 1) := by decide +kernel
theorem dX4_copyFrom_91 : decode cX4_copyFrom 91 = .ok (.aload_n 1, 1) := by decide +kernel
theorem dX4_copyFrom_92 : decode cX4_copyFrom 92 = .ok (.getfield 36, 3) := by decide +kernel
theorem dX4_copyFrom_95 : decode cX4_copyFrom 95 = .ok (.putfield 36, 3) := by decide +kernel
theorem dX4_copyFrom_98 : decode cX4_copyFrom 98 = .ok (.return_, 1) := by decide +kernel
theorem dX4_replacePattern_0 : decode cX4_replacePattern 0 = .ok (.aload_n 0, 1) := by decide +kernel
theorem dX4_replacePattern_1 : decode cX4_replacePattern 1 = .ok (.getfield 24, 3) := by decide +kernel
theorem dX4_replacePattern_4 : decode cX4_replacePattern 4 = .ok (.iload_n 1, 1) := by decide +kernel
theorem dX4_replacePattern_5 : decode cX4_replacePattern 5 = .ok (.iaload, 1) := by decide +kernel
theorem dX4_replacePattern_6 : decode cX4_replacePattern 6 = .ok (.istore 4, 2) := by decide +kernel
theorem dX4_replacePattern_8 : decode cX4_replacePattern 8 = .ok (.aload_n 0, 1) := by decide +kernel
theorem dX4_replacePattern_9 : decode cX4_replacePattern 9 = .ok (.getfield 18, 3) := by decide +kernel
theorem dX4_replacePattern_12 : decode cX4_replacePattern 12 = .ok (.iload_n 1, 1) := by decide +kernel
theorem dX4_replacePattern_13 : decode cX4_replacePattern 13 = .ok (.iload_n 2, 1) := by decide +kernel
theorem dX4_replacePattern_14 : decode cX4_replacePattern 14 = .ok (.iastore, 1) := by decide +kernel
theorem dX4_replacePattern_15 : decode cX4_replacePattern 15 = .ok (.aload_n 0, 1) := by decide +kernel
theorem dX4_replacePattern_16 : decode cX4_replacePattern 16 = .ok (.getfield 21, 3) := by decide +kernel
theorem dX4_replacePattern_19 : decode cX4_replacePattern 19 = .ok (.iload_n 1, 1) := by decide +kernel
theorem dX4_replacePattern_20 : decode cX4_replacePattern 20 = .ok (.iload_n 3, 1) := by decide +kernel
theorem dX4_replacePattern_21 : decode cX4_replacePattern 21 = .ok (.iastore, 1) := by decide +kernel
theorem dX4_replacePattern_22 : decode cX4_replacePattern 22 = .ok (.aload_n 0, 1) := by decide +kernel
theorem dX4_replacePattern_23 : decode cX4_replacePattern 23 = .ok (.getfield 24, 3) := by decide +kernel
theorem dX4_replacePattern_26 : decode cX4_replacePattern 26 = .ok (.iload_n 1, 1) := by decide +kernel
theorem dX4_replacePattern_27 : decode cX4_replacePattern 27 = .ok (.iconst 0, 1) := by decide +kernel
theorem dX4_replacePattern_28 : decode cX4_replacePattern 28 = .ok (.iastore, 1) := by decide +kernel
theorem dX4_replacePattern_29 : decode cX4_replacePattern 29 = .ok (.iload 4, 2) := by decide +kernel
theorem dX4_replacePattern_31 : decode cX4_replacePattern 31 = .ok (.ireturn, 1) := by decide +kernel
theorem dX4_successor_0 : decode cX4_successor 0 = .ok (.aload_n 0, 1) := by decide +kernel
theorem dX4_successor_1 : decode cX4_successor 1 = .ok (.getfield 9, 3) := by decide +kernel
theorem dX4_successor_4 : decode cX4_successor 4 = .ok (.iload_n 1, 1) := by decide +kernel
theorem dX4_successor_5 : decode cX4_successor 5 = .ok (.iaload, 1) := by decide +kernel
theorem dX4_successor_6 : decode cX4_successor 6 = .ok (.istore_n 3, 1) := by decide +kernel
theorem dX4_successor_7 : decode cX4_successor 7 = .ok (.iload_n 3, 1) := by decide +kernel
theorem dX4_successor_8 : decode cX4_successor 8 = .ok (.iconst 1, 1) := by decide +kernel
theorem dX4_successor_9 : decode cX4_successor 9 = .ok (.if_icmp .eq 12, 3) := by decide +kernel
theorem dX4_successor_12 : decode cX4_successor 12 = .ok (.iload_n 3, 1) := by decide +kernel
theorem dX4_successor_13 : decode cX4_successor 13 = .ok (.iconst 2, 1) := by decide +kernel
theorem dX4_successor_14 : decode cX4_successor 14 = .ok (.if_icmp .ne 11, 3) := by decide +kernel
theorem dX4_successor_17 : decode cX4_successor 17 = .ok (.iload_n 2, 1) := by decide +kernel
theorem dX4_successor_18 : decode cX4_successor 18 = .ok (.ifCond .eq 7, 3) := by decide +kernel
theorem dX4_successor_21 : decode cX4_successor 21 = .ok (.iconst 1, 1) := by decide +kernel
theorem dX4_successor_22 : decode cX4_successor 22 = .ok (.goto 4, 3) := by decide +kernel
theorem dX4_successor_25 : decode cX4_successor 25 = .ok (.iconst 0, 1) := by decide +kernel
theorem dX4_successor_26 : decode cX4_successor 26 = .ok (.istore 4, 2) := by decide +kernel
theorem dX4_successor_28 : decode cX4_successor 28 = .ok (.iload 4, 2) := by decide +kernel
theorem dX4_successor_30 : decode cX4_successor 30 = .ok (.ifCond .eq 12, 3) := by decide +kernel
theorem dX4_successor_33 : decode cX4_successor 33 = .ok (.aload_n 0, 1) := by decide +kernel
theorem dX4_successor_34 : decode cX4_successor 34 = .ok (.getfield 15, 3) := by decide +kernel
theorem dX4_successor_37 : decode cX4_successor 37 = .ok (.iload_n 1, 1) := by decide +kernel
theorem dX4_successor_38 : decode cX4_successor 38 = .ok (.iaload, 1) := by decide +kernel
theorem dX4_successor_39 : decode cX4_successor 39 = .ok (.goto 9, 3) := by decide +kernel
theorem dX4_successor_42 : decode cX4_successor 42 = .ok (.iload_n 1, 1) := by decide +kernel
theorem dX4_successor_43 : decode cX4_successor 43 = .ok (.iconst 1, 1) := by decide +kernel
theorem dX4_successor_44 : decode cX4_successor 44 = .ok (.iadd, 1) := by decide +kernel
theorem dX4_successor_45 : decode cX4_successor 45 = .ok (.bipush 48, 2) := by decide +kernel
theorem dX4_successor_47 : decode cX4_successor 47 = .ok (.irem, 1) := by decide +kernel
theorem dX4_successor_48 : decode cX4_successor 48 = .ok (.ireturn, 1) := by decide +kernel
theorem dX4_predictsTaken_0 : decode cX4_predictsTaken 0 = .ok (.aload_n 0, 1) := by decide +kernel
theorem dX4_predictsTaken_1 : decode cX4_predictsTaken 1 = .ok (.getfield 9, 3) := by decide +kernel
theorem dX4_predictsTaken_4 : decode cX4_predictsTaken 4 = .ok (.iload_n 1, 1) := by decide +kernel
theorem dX4_predictsTaken_5 : decode cX4_predictsTaken 5 = .ok (.iaload, 1) := by decide +kernel
theorem dX4_predictsTaken_6 : decode cX4_predictsTaken 6 = .ok (.iconst 2, 1) := by decide +kernel
theorem dX4_predictsTaken_7 : decode cX4_predictsTaken 7 = .ok (.if_icmp .ne 17, 3) := by decide +kernel
theorem dX4_predictsTaken_10 : decode cX4_predictsTaken 10 = .ok (.aload_n 0, 1) := by decide +kernel
theorem dX4_predictsTaken_11 : decode cX4_predictsTaken 11 = .ok (.getfield 27, 3) := by decide +kernel
theorem dX4_predictsTaken_14 : decode cX4_predictsTaken 14 = .ok (.iload_n 1, 1) := by decide +kernel
theorem dX4_predictsTaken_15 : decode cX4_predictsTaken 15 = .ok (.iaload, 1) := by decide +kernel
theorem dX4_predictsTaken_16 : decode cX4_predictsTaken 16 = .ok (.iconst 2, 1) := by decide +kernel
theorem dX4_predictsTaken_17 : decode cX4_predictsTaken 17 = .ok (.if_icmp .lt 7, 3) := by decide +kernel
theorem dX4_predictsTaken_20 : decode cX4_predictsTaken 20 = .ok (.iconst 1, 1) := by decide +kernel
theorem dX4_predictsTaken_21 : decode cX4_predictsTaken 21 = .ok (.goto 4, 3) := by decide +kernel
theorem dX4_predictsTaken_24 : decode cX4_predictsTaken 24 = .ok (.iconst 0, 1) := by decide +kernel
theorem dX4_predictsTaken_25 : decode cX4_predictsTaken 25 = .ok (.ireturn, 1) := by decide +kernel
set_option maxRecDepth 20000 in
theorem ggX4_predictedSuccessor_X4_predictsTaken : GoodIn wsX4_predictedSuccessor wsX4_predictsTaken := goodIn_r _ [5, 6, 7, 13, 14, 15, 16, 17, 18, 19] (by decide +kernel) (by decide +kernel)
set_option maxRecDepth 20000 in
theorem gX4_predictedSuccessor_X4_predictsTaken : GoodIn wsX4_predictedSuccessor (wsV RX4 40 RX4 yX4_predictsTaken wsX4_predictsTaken) := goodIn_app (goodIn_of _ (by decide +kernel)) ggX4_predictedSuccessor_X4_predictsTaken
set_option maxRecDepth 20000 in
theorem ggX4_predictedSuccessor_X4_successor : GoodIn wsX4_predictedSuccessor wsX4_successor := goodIn_r _ [11, 6, 12, 13, 14, 15, 16, 17, 18, 19] (by decide +kernel) (by decide +kernel)
set_option maxRecDepth 20000 in
theorem gX4_predictedSuccessor_X4_successor : GoodIn wsX4_predictedSuccessor (wsV RX4 44 RX4 yX4_successor wsX4_successor) := goodIn_app (goodIn_of _ (by decide +kernel)) ggX4_predictedSuccessor_X4_successor
theorem dX4_predictedSuccessor_0 : decode cX4_predictedSuccessor 0 = .ok (.aload_n 0, 1) := by decide +kernel
theorem dX4_predictedSuccessor_1 : decode cX4_predictedSuccessor 1 = .ok (.iload_n 1, 1) := by decide +kernel
theorem dX4_predictedSuccessor_2 : decode cX4_predictedSuccessor 2 = .ok (.aload_n 0, 1) := by decide +kernel
theorem dX4_predictedSuccessor_3 : decode cX4_predictedSuccessor 3 = .ok (.iload_n 1, 1) := by decide +kernel
theorem dX4_predictedSuccessor_4 : decode cX4_predictedSuccessor 4 = .ok (.invokevirtual 40, 3) := by decide +kernel
theorem dX4_predictedSuccessor_7 : decode cX4_predictedSuccessor 7 = .ok (.invokevirtual 44, 3) := by decide +kernel
theorem dX4_predictedSuccessor_10 : decode cX4_predictedSuccessor 10 = .ok (.ireturn, 1) := by decide +kernel
set_option maxRecDepth 20000 in
theorem ggX4_step_X4_decide : GoodIn wsX4_step wsX4_decide := goodIn_r _ [7, 8, 9, 10, 11, 17, 18, 19, 20, 21, 22, 23] (by decide +kernel) (by decide +kernel)
set_option maxRecDepth 20000 in
theorem gX4_step_X4_decide : GoodIn wsX4_step (wsV RX4 48 RX4 yX4_decide wsX4_decide) := goodIn_app (goodIn_of _ (by decide +kernel)) ggX4_step_X4_decide
set_option maxRecDepth 20000 in
theorem ggX4_step_X4_successor : GoodIn wsX4_step wsX4_successor := goodIn_r _ [15, 2, 16, 17, 18, 19, 20, 21, 22, 23] (by decide +kernel) (by decide +kernel)
set_option maxRecDepth 20000 in
theorem gX4_step_X4_successor : GoodIn wsX4_step (wsV RX4 44 RX4 yX4_successor wsX4_successor) := goodIn_app (goodIn_of _ (by decide +kernel)) ggX4_step_X4_successor
theorem dX4_step_0 : decode cX4_step 0 = .ok (.aload_n 0, 1) := by decide +kernel
theorem dX4_step_1 : decode cX4_step 1 = .ok (.getfield 36, 3) := by decide +kernel
theorem dX4_step_4 : decode cX4_step 4 = .ok (.istore_n 1, 1) := by decide +kernel
theorem dX4_step_5 : decode cX4_step 5 = .ok (.aload_n 0, 1) := by decide +kernel
theorem dX4_step_6 : decode cX4_step 6 = .ok (.getfield 9, 3) := by decide +kernel
theorem dX4_step_9 : decode cX4_step 9 = .ok (.iload_n 1, 1) := by decide +kernel
theorem dX4_step_10 : decode cX4_step 10 = .ok (.iaload, 1) := by decide +kernel
theorem dX4_step_11 : decode cX4_step 11 = .ok (.iconst 2, 1) := by decide +kernel
theorem dX4_step_12 : decode cX4_step 12 = .ok (.if_icmp .ne 15, 3) := by decide +kernel
theorem dX4_step_15 : decode cX4_step 15 = .ok (.aload_n 0, 1) := by decide +kernel
theorem dX4_step_16 : decode cX4_step 16 = .ok (.iload_n 1, 1) := by decide +kernel
theorem dX4_step_17 : decode cX4_step 17 = .ok (.invokevirtual 48, 3) := by decide +kernel
theorem dX4_step_20 : decode cX4_step 20 = .ok (.ifCond .eq 7, 3) := by decide +kernel
theorem dX4_step_23 : decode cX4_step 23 = .ok (.iconst 1, 1) := by decide +kernel
theorem dX4_step_24 : decode cX4_step 24 = .ok (.goto 4, 3) := by decide +kernel
theorem dX4_step_27 : decode cX4_step 27 = .ok (.iconst 0, 1) := by decide +kernel
theorem dX4_step_28 : decode cX4_step 28 = .ok (.istore_n 2, 1) := by decide +kernel
theorem dX4_step_29 : decode cX4_step 29 = .ok (.aload_n 0, 1) := by decide +kernel
theorem dX4_step_30 : decode cX4_step 30 = .ok (.aload_n 0, 1) := by decide +kernel
theorem dX4_step_31 : decode cX4_step 31 = .ok (.iload_n 1, 1) := by decide +kernel
theorem dX4_step_32 : decode cX4_step 32 = .ok (.iload_n 2, 1) := by decide +kernel
theorem dX4_step_33 : decode cX4_step 33 = .ok (.invokevirtual 44, 3) := by decide +kernel
theorem dX4_step_36 : decode cX4_step 36 = .ok (.putfield 36, 3) := by decide +kernel
theorem dX4_step_39 : decode cX4_step 39 = .ok (.iload_n 2, 1) := by decide +kernel
theorem dX4_step_40 : decode cX4_step 40 = .ok (.ireturn, 1) := by decide +kernel
theorem dX4_decide_0 : decode cX4_decide 0 = .ok (.aload_n 0, 1) := by decide +kernel
theorem dX4_decide_1 : decode cX4_decide 1 = .ok (.getfield 21, 3) := by decide +kernel
theorem dX4_decide_4 : decode cX4_decide 4 = .ok (.iload_n 1, 1) := by decide +kernel
theorem dX4_decide_5 : decode cX4_decide 5 = .ok (.iaload, 1) := by decide +kernel
theorem dX4_decide_6 : decode cX4_decide 6 = .ok (.istore_n 2, 1) := by decide +kernel
theorem dX4_decide_7 : decode cX4_decide 7 = .ok (.iload_n 2, 1) := by decide +kernel
theorem dX4_decide_8 : decode cX4_decide 8 = .ok (.ifCond .le 14, 3) := by decide +kernel
theorem dX4_decide_11 : decode cX4_decide 11 = .ok (.aload_n 0, 1) := by decide +kernel
theorem dX4_decide_12 : decode cX4_decide 12 = .ok (.getfield 24, 3) := by decide +kernel
theorem dX4_decide_15 : decode cX4_decide 15 = .ok (.iload_n 1, 1) := by decide +kernel
theorem dX4_decide_16 : decode cX4_decide 16 = .ok (.iaload, 1) := by decide +kernel
theorem dX4_decide_17 : decode cX4_decide 17 = .ok (.iload_n 2, 1) := by decide +kernel
theorem dX4_decide_18 : decode cX4_decide 18 = .ok (.irem, 1) := by decide +kernel
theorem dX4_decide_19 : decode cX4_decide 19 = .ok (.goto 4, 3) := by decide +kernel
theorem dX4_decide_22 : decode cX4_decide 22 = .ok (.iconst 0, 1) := by decide +kernel
theorem dX4_decide_23 : decode cX4_decide 23 = .ok (.istore_n 3, 1) := by decide +kernel
theorem dX4_decide_24 : decode cX4_decide 24 = .ok (.aload_n 0, 1) := by decide +kernel
theorem dX4_decide_25 : decode cX4_decide 25 = .ok (.getfield 18, 3) := by decide +kernel
theorem dX4_decide_28 : decode cX4_decide 28 = .ok (.iload_n 1, 1) := by decide +kernel
theorem dX4_decide_29 : decode cX4_decide 29 = .ok (.iaload, 1) := by decide +kernel
theorem dX4_decide_30 : decode cX4_decide 30 = .ok (.iload_n 3, 1) := by decide +kernel
theorem dX4_decide_31 : decode cX4_decide 31 = .ok (.ishr, 1) := by decide +kernel
theorem dX4_decide_32 : decode cX4_decide 32 = .ok (.iconst 1, 1) := by decide +kernel
theorem dX4_decide_33 : decode cX4_decide 33 = .ok (.iand, 1) := by decide +kernel
theorem dX4_decide_34 : decode cX4_decide 34 = .ok (.iconst 1, 1) := by decide +kernel
theorem dX4_decide_35 : decode cX4_decide 35 = .ok (.if_icmp .ne 7, 3) := by decide +kernel
theorem dX4_decide_38 : decode cX4_decide 38 = .ok (.iconst 1, 1) := by decide +kernel
theorem dX4_decide_39 : decode cX4_decide 39 = .ok (.goto 4, 3) := by decide +kernel
theorem dX4_decide_42 : decode cX4_decide 42 = .ok (.iconst 0, 1) := by decide +kernel
theorem dX4_decide_43 : decode cX4_decide 43 = .ok (.istore 4, 2) := by decide +kernel
theorem dX4_decide_45 : decode cX4_decide 45 = .ok (.aload_n 0, 1) := by decide +kernel
theorem dX4_decide_46 : decode cX4_decide 46 = .ok (.getfield 24, 3) := by decide +kernel
theorem dX4_decide_49 : decode cX4_decide 49 = .ok (.iload_n 1, 1) := by decide +kernel
theorem dX4_decide_50 : decode cX4_decide 50 = .ok (.dup2, 1) := by decide +kernel
theorem dX4_decide_51 : decode cX4_decide 51 = .ok (.iaload, 1) := by decide +kernel
theorem dX4_decide_52 : decode cX4_decide 52 = .ok (.iconst 1, 1) := by decide +kernel
theorem dX4_decide_53 : decode cX4_decide 53 = .ok (.iadd, 1) := by decide +kernel
theorem dX4_decide_54 : decode cX4_decide 54 = .ok (.iastore, 1) := by decide +kernel
theorem dX4_decide_55 : decode cX4_decide 55 = .ok (.iload 4, 2) := by decide +kernel
theorem dX4_decide_57 : decode cX4_decide 57 = .ok (.ifCond .eq 26, 3) := by decide +kernel
theorem dX4_decide_60 : decode cX4_decide 60 = .ok (.aload_n 0, 1) := by decide +kernel
theorem dX4_decide_61 : decode cX4_decide 61 = .ok (.getfield 27, 3) := by decide +kernel
theorem dX4_decide_64 : decode cX4_decide 64 = .ok (.iload_n 1, 1) := by decide +kernel
theorem dX4_decide_65 : decode cX4_decide 65 = .ok (.iaload, 1) := by decide +kernel
theorem dX4_decide_66 : decode cX4_decide 66 = .ok (.iconst 3, 1) := by decide +kernel
theorem dX4_decide_67 : decode cX4_decide 67 = .ok (.if_icmp .ge 16, 3) := by decide +kernel
theorem dX4_decide_70 : decode cX4_decide 70 = .ok (.aload_n 0, 1) := by decide +kernel
theorem dX4_decide_71 : decode cX4_decide 71 = .ok (.getfield 27, 3) := by decide +kernel
theorem dX4_decide_74 : decode cX4_decide 74 = .ok (.iload_n 1, 1) := by decide +kernel
theorem dX4_decide_75 : decode cX4_decide 75 = .ok (.dup2, 1) := by decide +kernel
theorem dX4_decide_76 : decode cX4_decide 76 = .ok (.iaload, 1) := by decide +kernel
theorem dX4_decide_77 : decode cX4_decide 77 = .ok (.iconst 1, 1) := by decide +kernel
theorem dX4_decide_78 : decode cX4_decide 78 = .ok (.iadd, 1) := by decide +kernel
theorem dX4_decide_79 : decode cX4_decide 79 = .ok (.iastore, 1) := by decide +kernel
theorem dX4_decide_80 : decode cX4_decide 80 = .ok (.goto 27, 3) := by decide +kernel
theorem dX4_decide_83 : decode cX4_decide 83 = .ok (.iload 4, 2) := by decide +kernel
theorem dX4_decide_85 : decode cX4_decide 85 = .ok (.ifCond .ne 22, 3) := by decide +kernel
theorem dX4_decide_88 : decode cX4_decide 88 = .ok (.aload_n 0, 1) := by decide +kernel
theorem dX4_decide_89 : decode cX4_decide 89 = .ok (.getfield 27, 3) := by decide +kernel
theorem dX4_decide_92 : decode cX4_decide 92 = .ok (.iload_n 1, 1) := by decide +kernel
theorem dX4_decide_93 : decode cX4_decide 93 = .ok (.iaload, 1) := by decide +kernel
theorem dX4_decide_94 : decode cX4_decide 94 = .ok (.ifCond .le 13, 3) := by decide +kernel
theorem dX4_decide_97 : decode cX4_decide 97 = .ok (.aload_n 0, 1) := by decide +kernel
theorem dX4_decide_98 : decode cX4_decide 98 = .ok (.getfield 27, 3) := by decide +kernel
theorem dX4_decide_101 : decode cX4_decide 101 = .ok (.iload_n 1, 1) := by decide +kernel
theorem dX4_decide_102 : decode cX4_decide 102 = .ok (.dup2, 1) := by decide +kernel
theorem dX4_decide_103 : decode cX4_decide 103 = .ok (.iaload, 1) := by decide +kernel
theorem dX4_decide_104 : decode cX4_decide 104 = .ok (.iconst 1, 1) := by decide +kernel
theorem dX4_decide_105 : decode cX4_decide 105 = .ok (.isub, 1) := by decide +kernel
theorem dX4_decide_106 : decode cX4_decide 106 = .ok (.iastore, 1) := by decide +kernel
theorem dX4_decide_107 : decode cX4_decide 107 = .ok (.iload 4, 2) := by decide +kernel
theorem dX4_decide_109 : decode cX4_decide 109 = .ok (.ireturn, 1) := by decide +kernel
theorem dX5_init_0 : decode cX5_init 0 = .ok (.aload_n 0, 1) := by decide +kernel
theorem dX5_init_1 : decode cX5_init 1 = .ok (.invokespecial 3, 3) := by decide +kernel
theorem dX5_init_4 : decode cX5_init 4 = .ok (.aload_n 0, 1) := by decide +kernel
theorem dX5_init_5 : decode cX5_init 5 = .ok (.bipush 80, 2) := by decide +kernel
theorem dX5_init_7 : decode cX5_init 7 = .ok (.newarray .int, 2) := by decide +kernel
theorem dX5_init_9 : decode cX5_init 9 = .ok (.putfield 9, 3) := by decide +kernel
theorem dX5_init_12 : decode cX5_init 12 = .ok (.return_, 1) := by decide +kernel
theorem dX5_add_0 : decode cX5_add 0 = .ok (.aload_n 0, 1) := by decide +kernel
theorem dX5_add_1 : decode cX5_add 1 = .ok (.getfield 15, 3) := by decide +kernel
theorem dX5_add_4 : decode cX5_add 4 = .ok (.bipush 80, 2) := by decide +kernel
theorem dX5_add_6 : decode cX5_add 6 = .ok (.if_icmp .lt 5, 3) := by decide +kernel
theorem dX5_add_9 : decode cX5_add 9 = .ok (.iconst 0, 1) := by decide +kernel
theorem dX5_add_10 : decode cX5_add 10 = .ok (.ireturn, 1) := by decide +kernel
theorem dX5_add_11 : decode cX5_add 11 = .ok (.aload_n 0, 1) := by decide +kernel
theorem dX5_add_12 : decode cX5_add 12 = .ok (.getfield 9, 3) := by decide +kernel
theorem dX5_add_15 : decode cX5_add 15 = .ok (.aload_n 0, 1) := by decide +kernel
theorem dX5_add_16 : decode cX5_add 16 = .ok (.getfield 15, 3) := by decide +kernel
theorem dX5_add_19 : decode cX5_add 19 = .ok (.iload_n 1, 1) := by decide +kernel
theorem dX5_add_20 : decode cX5_add 20 = .ok (.iastore, 1) := by decide +kernel
theorem dX5_add_21 : decode cX5_add 21 = .ok (.aload_n 0, 1) := by decide +kernel
theorem dX5_add_22 : decode cX5_add 22 = .ok (.dup, 1) := by decide +kernel
theorem dX5_add_23 : decode cX5_add 23 = .ok (.getfield 15, 3) := by decide +kernel
theorem dX5_add_26 : decode cX5_add 26 = .ok (.iconst 1, 1) := by decide +kernel
theorem dX5_add_27 : decode cX5_add 27 = .ok (.iadd, 1) := by decide +kernel
theorem dX5_add_28 : decode cX5_add 28 = .ok (.putfield 15, 3) := by decide +kernel
theorem dX5_add_31 : decode cX5_add 31 = .ok (.iconst 1, 1) := by decide +kernel
theorem dX5_add_32 : decode cX5_add 32 = .ok (.ireturn, 1) := by decide +kernel
theorem dX5_rewind_0 : decode cX5_rewind 0 = .ok (.aload_n 0, 1) := by decide +kernel
theorem dX5_rewind_1 : decode cX5_rewind 1 = .ok (.iconst 0, 1) := by decide +kernel
theorem dX5_rewind_2 : decode cX5_rewind 2 = .ok (.putfield 19, 3) := by decide +kernel
theorem dX5_rewind_5 : decode cX5_rewind 5 = .ok (.return_, 1) := by decide +kernel
set_option maxRecDepth 20000 in
theorem ggX5_firstError_X5_rewind : GoodIn wsX5_firstError wsX5_rewind := goodIn_r _ [7, 1, 37, 38, 39, 40, 41, 42, 43] (by decide +kernel) (by decide +kernel)
set_option maxRecDepth 20000 in
theorem gX5_firstError_X5_rewind : GoodIn wsX5_firstError (wsV RX5 22 RX5 yX5_rewind wsX5_rewind) := goodIn_app (goodIn_of _ (by decide +kernel)) ggX5_firstError_X5_rewind
set_option maxRecDepth 20000 in
theorem ggX5_firstError_X5_readNext : GoodIn wsX5_firstError wsX5_readNext := goodIn_r _ [11, 1, 12, 13, 14, 15, 16, 17, 6, 18, 2, 19, 20, 21, 22, 23, 24, 25, 26, 27, 28, 29, 30, 31, 32, 33, 34, 35, 36, 37, 38, 39, 40, 41, 42, 43] (by decide +kernel) (by decide +kernel)
set_option maxRecDepth 20000 in
theorem gX5_firstError_X5_readNext : GoodIn wsX5_firstError (wsV RX5 25 RX5 yX5_readNext wsX5_readNext) := goodIn_app (goodIn_of _ (by decide +kernel)) ggX5_firstError_X5_readNext
theorem dX5_firstError_0 : decode cX5_firstError 0 = .ok (.aload_n 0, 1) := by decide +kernel
theorem dX5_firstError_1 : decode cX5_firstError 1 = .ok (.invokevirtual 22, 3) := by decide +kernel
theorem dX5_firstError_4 : decode cX5_firstError 4 = .ok (.bipush 80, 2) := by decide +kernel
theorem dX5_firstError_6 : decode cX5_firstError 6 = .ok (.istore_n 1, 1) := by decide +kernel
theorem dX5_firstError_7 : decode cX5_firstError 7 = .ok (.iload_n 1, 1) := by decide +kernel
theorem dX5_firstError_8 : decode cX5_firstError 8 = .ok (.ifCond .le 29, 3) := by decide +kernel
theorem dX5_firstError_11 : decode cX5_firstError 11 = .ok (.aload_n 0, 1) := by decide +kernel
theorem dX5_firstError_12 : decode cX5_firstError 12 = .ok (.invokevirtual 25, 3) := by decide +kernel
theorem dX5_firstError_15 : decode cX5_firstError 15 = .ok (.ifCond .eq 22, 3) := by decide +kernel
theorem dX5_firstError_18 : decode cX5_firstError 18 = .ok (.aload_n 0, 1) := by decide +kernel
theorem dX5_firstError_19 : decode cX5_firstError 19 = .ok (.getfield 19, 3) := by decide +kernel
theorem dX5_firstError_22 : decode cX5_firstError 22 = .ok (.aload_n 0, 1) := by decide +kernel
theorem dX5_firstError_23 : decode cX5_firstError 23 = .ok (.getfield 15, 3) := by decide +kernel
theorem dX5_firstError_26 : decode cX5_firstError 26 = .ok (.if_icmp .ne 5, 3) := by decide +kernel
theorem dX5_firstError_29 : decode cX5_firstError 29 = .ok (.iconst (-1), 1) := by decide +kernel
theorem dX5_firstError_30 : decode cX5_firstError 30 = .ok (.ireturn, 1) := by decide +kernel
theorem dX5_firstError_31 : decode cX5_firstError 31 = .ok (.iinc 1 (-1), 3) := by decide +kernel
theorem dX5_firstError_34 : decode cX5_firstError 34 = .ok (.goto (-27), 3) := by decide +kernel
theorem dX5_firstError_37 : decode cX5_firstError 37 = .ok (.aload_n 0, 1) := by decide +kernel
theorem dX5_firstError_38 : decode cX5_firstError 38 = .ok (.getfield 19, 3) := by decide +kernel
theorem dX5_firstError_41 : decode cX5_firstError 41 = .ok (.ireturn, 1) := by decide +kernel
set_option maxRecDepth 20000 in
theorem ggX5_readNext_X5_here : GoodIn wsX5_readNext wsX5_here := goodIn_r _ [9, 1, 10, 11, 29, 30, 31, 32, 33, 34, 35] (by decide +kernel) (by decide +kernel)
set_option maxRecDepth 20000 in
theorem gX5_readNext_X5_here : GoodIn wsX5_readNext (wsV RX5 29 RX5 yX5_here wsX5_here) := goodIn_app (goodIn_of _ (by decide +kernel)) ggX5_readNext_X5_here
set_option maxRecDepth 20000 in
theorem ggX5_readNext_X5_readNumber : GoodIn wsX5_readNext wsX5_readNumber := goodIn_r _ [15, 3, 1, 16, 17, 18, 8, 19, 5, 6, 7, 9, 10, 11, 29, 30, 31, 32, 33, 34, 35] (by decide +kernel) (by decide +kernel)
set_option maxRecDepth 20000 in
theorem gX5_readNext_X5_readNumber : GoodIn wsX5_readNext (wsV RX5 36 RX5 yX5_readNumber wsX5_readNumber) := goodIn_app (goodIn_of _ (by decide +kernel)) ggX5_readNext_X5_readNumber
set_option maxRecDepth 20000 in
theorem ggX5_readNext_X5_readOperation : GoodIn wsX5_readNext wsX5_readOperation := goodIn_r _ [23, 2, 1, 5, 6, 7, 8, 9, 10, 11, 12, 13, 14, 15, 3, 16, 17, 18, 19, 24, 25, 26, 27, 28, 29, 30, 31, 32, 33, 34, 35] (by decide +kernel) (by decide +kernel)
set_option maxRecDepth 20000 in
theorem gX5_readNext_X5_readOperation : GoodIn wsX5_readNext (wsV RX5 46 RX5 yX5_readOperation wsX5_readOperation) := goodIn_app (goodIn_of _ (by decide +kernel)) ggX5_readNext_X5_readOperation
theorem dX5_readNext_0 : decode cX5_readNext 0 = .ok (.aload_n 0, 1) := by decide +kernel
theorem dX5_readNext_1 : decode cX5_readNext 1 = .ok (.getfield 19, 3) := by decide +kernel
theorem dX5_readNext_4 : decode cX5_readNext 4 = .ok (.ifCond .le 24, 3) := by decide +kernel
theorem dX5_readNext_7 : decode cX5_readNext 7 = .ok (.aload_n 0, 1) := by decide +kernel
theorem dX5_readNext_8 : decode cX5_readNext 8 = .ok (.invokevirtual 29, 3) := by decide +kernel
theorem dX5_readNext_11 : decode cX5_readNext 11 = .ok (.bipush 59, 2) := by decide +kernel
theorem dX5_readNext_13 : decode cX5_readNext 13 = .ok (.if_icmp .eq 5, 3) := by decide +kernel
theorem dX5_readNext_16 : decode cX5_readNext 16 = .ok (.iconst 0, 1) := by decide +kernel
theorem dX5_readNext_17 : decode cX5_readNext 17 = .ok (.ireturn, 1) := by decide +kernel
theorem dX5_readNext_18 : decode cX5_readNext 18 = .ok (.aload_n 0, 1) := by decide +kernel
theorem dX5_readNext_19 : decode cX5_readNext 19 = .ok (.dup, 1) := by decide +kernel
theorem dX5_readNext_20 : decode cX5_readNext 20 = .ok (.getfield 19, 3) := by decide +kernel
theorem dX5_readNext_23 : decode cX5_readNext 23 = .ok (.iconst 1, 1) := by decide +kernel
theorem dX5_readNext_24 : decode cX5_readNext 24 = .ok (.iadd, 1) := by decide +kernel
theorem dX5_readNext_25 : decode cX5_readNext 25 = .ok (.putfield 19, 3) := by decide +kernel
theorem dX5_readNext_28 : decode cX5_readNext 28 = .ok (.aload_n 0, 1) := by decide +kernel
theorem dX5_readNext_29 : decode cX5_readNext 29 = .ok (.invokevirtual 29, 3) := by decide +kernel
theorem dX5_readNext_32 : decode cX5_readNext 32 = .ok (.bipush 114, 2) := by decide +kernel
theorem dX5_readNext_34 : decode cX5_readNext 34 = .ok (.if_icmp .ne 27, 3) := by decide +kernel
theorem dX5_readNext_37 : decode cX5_readNext 37 = .ok (.aload_n 0, 1) := by decide +kernel
theorem dX5_readNext_38 : decode cX5_readNext 38 = .ok (.bipush 114, 2) := by decide +kernel
theorem dX5_readNext_40 : decode cX5_readNext 40 = .ok (.putfield 33, 3) := by decide +kernel
theorem dX5_readNext_43 : decode cX5_readNext 43 = .ok (.aload_n 0, 1) := by decide +kernel
theorem dX5_readNext_44 : decode cX5_readNext 44 = .ok (.dup, 1) := by decide +kernel
theorem dX5_readNext_45 : decode cX5_readNext 45 = .ok (.getfield 19, 3) := by decide +kernel
theorem dX5_readNext_48 : decode cX5_readNext 48 = .ok (.iconst 1, 1) := by decide +kernel
theorem dX5_readNext_49 : decode cX5_readNext 49 = .ok (.iadd, 1) := by decide +kernel
theorem dX5_readNext_50 : decode cX5_readNext 50 = .ok (.putfield 19, 3) := by decide +kernel
theorem dX5_readNext_53 : decode cX5_readNext 53 = .ok (.aload_n 0, 1) := by decide +kernel
theorem dX5_readNext_54 : decode cX5_readNext 54 = .ok (.iconst 1, 1) := by decide +kernel
theorem dX5_readNext_55 : decode cX5_readNext 55 = .ok (.bipush 99, 2) := by decide +kernel
theorem dX5_readNext_57 : decode cX5_readNext 57 = .ok (.invokevirtual 36, 3) := by decide +kernel
theorem dX5_readNext_60 : decode cX5_readNext 60 = .ok (.ireturn, 1) := by decide +kernel
theorem dX5_readNext_61 : decode cX5_readNext 61 = .ok (.aload_n 0, 1) := by decide +kernel
theorem dX5_readNext_62 : decode cX5_readNext 62 = .ok (.iconst 0, 1) := by decide +kernel
theorem dX5_readNext_63 : decode cX5_readNext 63 = .ok (.bipush 47, 2) := by decide +kernel
theorem dX5_readNext_65 : decode cX5_readNext 65 = .ok (.invokevirtual 36, 3) := by decide +kernel
theorem dX5_readNext_68 : decode cX5_readNext 68 = .ok (.ifCond .ne 5, 3) := by decide +kernel
theorem dX5_readNext_71 : decode cX5_readNext 71 = .ok (.iconst 0, 1) := by decide +kernel
theorem dX5_readNext_72 : decode cX5_readNext 72 = .ok (.ireturn, 1) := by decide +kernel
theorem dX5_readNext_73 : decode cX5_readNext 73 = .ok (.aload_n 0, 1) := by decide +kernel
theorem dX5_readNext_74 : decode cX5_readNext 74 = .ok (.aload_n 0, 1) := by decide +kernel
theorem dX5_readNext_75 : decode cX5_readNext 75 = .ok (.getfield 40, 3) := by decide +kernel
theorem dX5_readNext_78 : decode cX5_readNext 78 = .ok (.putfield 43, 3) := by decide +kernel
theorem dX5_readNext_81 : decode cX5_readNext 81 = .ok (.aload_n 0, 1) := by decide +kernel
theorem dX5_readNext_82 : decode cX5_readNext 82 = .ok (.invokevirtual 46, 3) := by decide +kernel
theorem dX5_readNext_85 : decode cX5_readNext 85 = .ok (.ireturn, 1) := by decide +kernel
set_option maxRecDepth 20000 in
theorem ggX5_readOperation_X5_here : GoodIn wsX5_readOperation wsX5_here := goodIn_r _ [7, 2, 8, 9, 24, 25, 26, 27, 28, 29, 30] (by decide +kernel) (by decide +kernel)
set_option maxRecDepth 20000 in
theorem gX5_readOperation_X5_here : GoodIn wsX5_readOperation (wsV RX5 29 RX5 yX5_here wsX5_here) := goodIn_app (goodIn_of _ (by decide +kernel)) ggX5_readOperation_X5_here
set_option maxRecDepth 20000 in
theorem ggX5_readOperation_X5_readNumber : GoodIn wsX5_readOperation wsX5_readNumber := goodIn_r _ [13, 14, 2, 15, 16, 17, 6, 18, 3, 4, 5, 7, 8, 9, 24, 25, 26, 27, 28, 29, 30] (by decide +kernel) (by decide +kernel)
set_option maxRecDepth 20000 in
theorem gX5_readOperation_X5_readNumber : GoodIn wsX5_readOperation (wsV RX5 36 RX5 yX5_readNumber wsX5_readNumber) := goodIn_app (goodIn_of _ (by decide +kernel)) ggX5_readOperation_X5_readNumber
set_option maxRecDepth 20000 in
theorem ggX5_readOperation_X5_readPattern : GoodIn wsX5_readOperation wsX5_readPattern := goodIn_r _ [22, 14, 23, 2, 3, 4, 5, 6, 7, 8, 9, 24, 25, 26, 27, 28, 29, 30] (by decide +kernel) (by decide +kernel)
set_option maxRecDepth 20000 in
theorem gX5_readOperation_X5_readPattern : GoodIn wsX5_readOperation (wsV RX5 49 RX5 yX5_readPattern wsX5_readPattern) := goodIn_app (goodIn_of _ (by decide +kernel)) ggX5_readOperation_X5_readPattern
theorem dX5_readOperation_0 : decode cX5_readOperation 0 = .ok (.aload_n 0, 1) := by decide +kernel
theorem dX5_readOperation_1 : decode cX5_readOperation 1 = .ok (.aload_n 0, 1) := by decide +kernel
theorem dX5_readOperation_2 : decode cX5_readOperation 2 = .ok (.invokevirtual 29, 3) := by decide +kernel
theorem dX5_readOperation_5 : decode cX5_readOperation 5 = .ok (.putfield 33, 3) := by decide +kernel
theorem dX5_readOperation_8 : decode cX5_readOperation 8 = .ok (.aload_n 0, 1) := by decide +kernel
theorem dX5_readOperation_9 : decode cX5_readOperation 9 = .ok (.getfield 33, 3) := by decide +kernel
theorem dX5_readOperation_12 : decode cX5_readOperation 12 = .ok (.lookupswitch 89 #[(46, 44), (98, 56), (106, 56), (112, 74)], 44) := by decide +kernel
theorem dX5_readOperation_56 : decode cX5_readOperation 56 = .ok (.aload_n 0, 1) := by decide +kernel
theorem dX5_readOperation_57 : decode cX5_readOperation 57 = .ok (.dup, 1) := by decide +kernel
theorem dX5_readOperation_58 : decode cX5_readOperation 58 = .ok (.getfield 19, 3) := by decide +kernel
theorem dX5_readOperation_61 : decode cX5_readOperation 61 = .ok (.iconst 1, 1) := by decide +kernel
theorem dX5_readOperation_62 : decode cX5_readOperation 62 = .ok (.iadd, 1) := by decide +kernel
theorem dX5_readOperation_63 : decode cX5_readOperation 63 = .ok (.putfield 19, 3) := by decide +kernel
theorem dX5_readOperation_66 : decode cX5_readOperation 66 = .ok (.iconst 1, 1) := by decide +kernel
theorem dX5_readOperation_67 : decode cX5_readOperation 67 = .ok (.ireturn, 1) := by decide +kernel
theorem dX5_readOperation_68 : decode cX5_readOperation 68 = .ok (.aload_n 0, 1) := by decide +kernel
theorem dX5_readOperation_69 : decode cX5_readOperation 69 = .ok (.dup, 1) := by decide +kernel
theorem dX5_readOperation_70 : decode cX5_readOperation 70 = .ok (.getfield 19, 3) := by decide +kernel
theorem dX5_readOperation_73 : decode cX5_readOperation 73 = .ok (.iconst 1, 1) := by decide +kernel
theorem dX5_readOperation_74 : decode cX5_readOperation 74 = .ok (.iadd, 1) := by decide +kernel
theorem dX5_readOperation_75 : decode cX5_readOperation 75 = .ok (.putfield 19, 3) := by decide +kernel
theorem dX5_readOperation_78 : decode cX5_readOperation 78 = .ok (.aload_n 0, 1) := by decide +kernel
theorem dX5_readOperation_79 : decode cX5_readOperation 79 = .ok (.iconst 0, 1) := by decide +kernel
theorem dX5_readOperation_80 : decode cX5_readOperation 80 = .ok (.bipush 47, 2) := by decide +kernel
theorem dX5_readOperation_82 : decode cX5_readOperation 82 = .ok (.invokevirtual 36, 3) := by decide +kernel
theorem dX5_readOperation_85 : decode cX5_readOperation 85 = .ok (.ireturn, 1) := by decide +kernel
theorem dX5_readOperation_86 : decode cX5_readOperation 86 = .ok (.aload_n 0, 1) := by decide +kernel
theorem dX5_readOperation_87 : decode cX5_readOperation 87 = .ok (.dup, 1) := by decide +kernel
theorem dX5_readOperation_88 : decode cX5_readOperation 88 = .ok (.getfield 19, 3) := by decide +kernel
theorem dX5_readOperation_91 : decode cX5_readOperation 91 = .ok (.iconst 1, 1) := by decide +kernel
theorem dX5_readOperation_92 : decode cX5_readOperation 92 = .ok (.iadd, 1) := by decide +kernel
theorem dX5_readOperation_93 : decode cX5_readOperation 93 = .ok (.putfield 19, 3) := by decide +kernel
theorem dX5_readOperation_96 : decode cX5_readOperation 96 = .ok (.aload_n 0, 1) := by decide +kernel
theorem dX5_readOperation_97 : decode cX5_readOperation 97 = .ok (.invokevirtual 49, 3) := by decide +kernel
theorem dX5_readOperation_100 : decode cX5_readOperation 100 = .ok (.ireturn, 1) := by decide +kernel
theorem dX5_readOperation_101 : decode cX5_readOperation 101 = .ok (.iconst 0, 1) := by decide +kernel
theorem dX5_readOperation_102 : decode cX5_readOperation 102 = .ok (.ireturn, 1) := by decide +kernel
set_option maxRecDepth 20000 in
theorem ggX5_readNumber_X5_digitHere : GoodIn wsX5_readNumber wsX5_digitHere := goodIn_r _ [7, 8, 9, 10, 6, 11, 2, 12, 13, 14, 15, 16, 17, 18, 19, 20] (by decide +kernel) (by decide +kernel)
set_option maxRecDepth 20000 in
theorem gX5_readNumber_X5_digitHere : GoodIn wsX5_readNumber (wsV RX5 52 RX5 yX5_digitHere wsX5_digitHere) := goodIn_app (goodIn_of _ (by decide +kernel)) ggX5_readNumber_X5_digitHere
theorem dX5_readNumber_0 : decode cX5_readNumber 0 = .ok (.aload_n 0, 1) := by decide +kernel
theorem dX5_readNumber_1 : decode cX5_readNumber 1 = .ok (.invokevirtual 52, 3) := by decide +kernel
theorem dX5_readNumber_4 : decode cX5_readNumber 4 = .ok (.istore_n 3, 1) := by decide +kernel
theorem dX5_readNumber_5 : decode cX5_readNumber 5 = .ok (.iload_n 3, 1) := by decide +kernel
theorem dX5_readNumber_6 : decode cX5_readNumber 6 = .ok (.iload_n 1, 1) := by decide +kernel
theorem dX5_readNumber_7 : decode cX5_readNumber 7 = .ok (.if_icmp .ge 5, 3) := by decide +kernel
theorem dX5_readNumber_10 : decode cX5_readNumber 10 = .ok (.iconst 0, 1) := by decide +kernel
theorem dX5_readNumber_11 : decode cX5_readNumber 11 = .ok (.ireturn, 1) := by decide +kernel
theorem dX5_readNumber_12 : decode cX5_readNumber 12 = .ok (.aload_n 0, 1) := by decide +kernel
theorem dX5_readNumber_13 : decode cX5_readNumber 13 = .ok (.iload_n 3, 1) := by decide +kernel
theorem dX5_readNumber_14 : decode cX5_readNumber 14 = .ok (.putfield 40, 3) := by decide +kernel
theorem dX5_readNumber_17 : decode cX5_readNumber 17 = .ok (.aload_n 0, 1) := by decide +kernel
theorem dX5_readNumber_18 : decode cX5_readNumber 18 = .ok (.dup, 1) := by decide +kernel
theorem dX5_readNumber_19 : decode cX5_readNumber 19 = .ok (.getfield 19, 3) := by decide +kernel
theorem dX5_readNumber_22 : decode cX5_readNumber 22 = .ok (.iconst 1, 1) := by decide +kernel
theorem dX5_readNumber_23 : decode cX5_readNumber 23 = .ok (.iadd, 1) := by decide +kernel
theorem dX5_readNumber_24 : decode cX5_readNumber 24 = .ok (.putfield 19, 3) := by decide +kernel
theorem dX5_readNumber_27 : decode cX5_readNumber 27 = .ok (.aload_n 0, 1) := by decide +kernel
theorem dX5_readNumber_28 : decode cX5_readNumber 28 = .ok (.invokevirtual 52, 3) := by decide +kernel
theorem dX5_readNumber_31 : decode cX5_readNumber 31 = .ok (.istore 4, 2) := by decide +kernel
theorem dX5_readNumber_33 : decode cX5_readNumber 33 = .ok (.iload_n 3, 1) := by decide +kernel
theorem dX5_readNumber_34 : decode cX5_readNumber 34 = .ok (.ifCond .le 41, 3) := by decide +kernel
theorem dX5_readNumber_37 : decode cX5_readNumber 37 = .ok (.iload 4, 2) := by decide +kernel
theorem dX5_readNumber_39 : decode cX5_readNumber 39 = .ok (.iconst (-1), 1) := by decide +kernel
theorem dX5_readNumber_40 : decode cX5_readNumber 40 = .ok (.if_icmp .eq 35, 3) := by decide +kernel
theorem dX5_readNumber_43 : decode cX5_readNumber 43 = .ok (.iload_n 3, 1) := by decide +kernel
theorem dX5_readNumber_44 : decode cX5_readNumber 44 = .ok (.bipush 10, 2) := by decide +kernel
theorem dX5_readNumber_46 : decode cX5_readNumber 46 = .ok (.imul, 1) := by decide +kernel
theorem dX5_readNumber_47 : decode cX5_readNumber 47 = .ok (.iload 4, 2) := by decide +kernel
theorem dX5_readNumber_49 : decode cX5_readNumber 49 = .ok (.iadd, 1) := by decide +kernel
theorem dX5_readNumber_50 : decode cX5_readNumber 50 = .ok (.iload_n 2, 1) := by decide +kernel
theorem dX5_readNumber_51 : decode cX5_readNumber 51 = .ok (.if_icmp .gt 24, 3) := by decide +kernel
theorem dX5_readNumber_54 : decode cX5_readNumber 54 = .ok (.aload_n 0, 1) := by decide +kernel
theorem dX5_readNumber_55 : decode cX5_readNumber 55 = .ok (.iload_n 3, 1) := by decide +kernel
theorem dX5_readNumber_56 : decode cX5_readNumber 56 = .ok (.bipush 10, 2) := by decide +kernel
theorem dX5_readNumber_58 : decode cX5_readNumber 58 = .ok (.imul, 1) := by decide +kernel
theorem dX5_readNumber_59 : decode cX5_readNumber 59 = .ok (.iload 4, 2) := by decide +kernel
theorem dX5_readNumber_61 : decode cX5_readNumber 61 = .ok (.iadd, 1) := by decide +kernel
theorem dX5_readNumber_62 : decode cX5_readNumber 62 = .ok (.putfield 40, 3) := by decide +kernel
theorem dX5_readNumber_65 : decode cX5_readNumber 65 = .ok (.aload_n 0, 1) := by decide +kernel
theorem dX5_readNumber_66 : decode cX5_readNumber 66 = .ok (.dup, 1) := by decide +kernel
theorem dX5_readNumber_67 : decode cX5_readNumber 67 = .ok (.getfield 19, 3) := by decide +kernel
theorem dX5_readNumber_70 : decode cX5_readNumber 70 = .ok (.iconst 1, 1) := by decide +kernel
theorem dX5_readNumber_71 : decode cX5_readNumber 71 = .ok (.iadd, 1) := by decide +kernel
theorem dX5_readNumber_72 : decode cX5_readNumber 72 = .ok (.putfield 19, 3) := by decide +kernel
theorem dX5_readNumber_75 : decode cX5_readNumber 75 = .ok (.iconst 1, 1) := by decide +kernel
theorem dX5_readNumber_76 : decode cX5_readNumber 76 = .ok (.ireturn, 1) := by decide +kernel
set_option maxRecDepth 20000 in
theorem ggX5_readPattern_X5_here : GoodIn wsX5_readPattern wsX5_here := goodIn_r _ [8, 3, 9, 10, 11, 12, 13, 14, 15, 16, 17] (by decide +kernel) (by decide +kernel)
set_option maxRecDepth 20000 in
theorem gX5_readPattern_X5_here : GoodIn wsX5_readPattern (wsV RX5 29 RX5 yX5_here wsX5_here) := goodIn_app (goodIn_of _ (by decide +kernel)) ggX5_readPattern_X5_here
theorem dX5_readPattern_0 : decode cX5_readPattern 0 = .ok (.aload_n 0, 1) := by decide +kernel
theorem dX5_readPattern_1 : decode cX5_readPattern 1 = .ok (.iconst 0, 1) := by decide +kernel
theorem dX5_readPattern_2 : decode cX5_readPattern 2 = .ok (.putfield 40, 3) := by decide +kernel
theorem dX5_readPattern_5 : decode cX5_readPattern 5 = .ok (.aload_n 0, 1) := by decide +kernel
theorem dX5_readPattern_6 : decode cX5_readPattern 6 = .ok (.iconst 0, 1) := by decide +kernel
theorem dX5_readPattern_7 : decode cX5_readPattern 7 = .ok (.putfield 55, 3) := by decide +kernel
theorem dX5_readPattern_10 : decode cX5_readPattern 10 = .ok (.iconst 0, 1) := by decide +kernel
theorem dX5_readPattern_11 : decode cX5_readPattern 11 = .ok (.istore_n 1, 1) := by decide +kernel
theorem dX5_readPattern_12 : decode cX5_readPattern 12 = .ok (.iload_n 1, 1) := by decide +kernel
theorem dX5_readPattern_13 : decode cX5_readPattern 13 = .ok (.bipush 8, 2) := by decide +kernel
theorem dX5_readPattern_15 : decode cX5_readPattern 15 = .ok (.if_icmp .ge 61, 3) := by decide +kernel
theorem dX5_readPattern_18 : decode cX5_readPattern 18 = .ok (.aload_n 0, 1) := by decide +kernel
theorem dX5_readPattern_19 : decode cX5_readPattern 19 = .ok (.invokevirtual 29, 3) := by decide +kernel
theorem dX5_readPattern_22 : decode cX5_readPattern 22 = .ok (.istore_n 2, 1) := by decide +kernel
theorem dX5_readPattern_23 : decode cX5_readPattern 23 = .ok (.iload_n 2, 1) := by decide +kernel
theorem dX5_readPattern_24 : decode cX5_readPattern 24 = .ok (.bipush 48, 2) := by decide +kernel
theorem dX5_readPattern_26 : decode cX5_readPattern 26 = .ok (.if_icmp .eq 12, 3) := by decide +kernel
theorem dX5_readPattern_29 : decode cX5_readPattern 29 = .ok (.iload_n 2, 1) := by decide +kernel
theorem dX5_readPattern_30 : decode cX5_readPattern 30 = .ok (.bipush 49, 2) := by decide +kernel
theorem dX5_readPattern_32 : decode cX5_readPattern 32 = .ok (.if_icmp .eq 6, 3) := by decide +kernel
theorem dX5_readPattern_35 : decode cX5_readPattern 35 = .ok (.goto 41, 3) := by decide +kernel
theorem dX5_readPattern_38 : decode cX5_readPattern 38 = .ok (.aload_n 0, 1) := by decide +kernel
theorem dX5_readPattern_39 : decode cX5_readPattern 39 = .ok (.dup, 1) := by decide +kernel
theorem dX5_readPattern_40 : decode cX5_readPattern 40 = .ok (.getfield 40, 3) := by decide +kernel
theorem dX5_readPattern_43 : decode cX5_readPattern 43 = .ok (.iload_n 2, 1) := by decide +kernel
theorem dX5_readPattern_44 : decode cX5_readPattern 44 = .ok (.bipush 48, 2) := by decide +kernel
theorem dX5_readPattern_46 : decode cX5_readPattern 46 = .ok (.isub, 1) := by decide +kernel
theorem dX5_readPattern_47 : decode cX5_readPattern 47 = .ok (.iload_n 1, 1) := by decide +kernel
theorem dX5_readPattern_48 : decode cX5_readPattern 48 = .ok (.ishl, 1) := by decide +kernel
theorem dX5_readPattern_49 : decode cX5_readPattern 49 = .ok (.ior, 1) := by decide +kernel
theorem dX5_readPattern_50 : decode cX5_readPattern 50 = .ok (.putfield 40, 3) := by decide +kernel
theorem dX5_readPattern_53 : decode cX5_readPattern 53 = .ok (.aload_n 0, 1) := by decide +kernel
theorem dX5_readPattern_54 : decode cX5_readPattern 54 = .ok (.iload_n 1, 1) := by decide +kernel
theorem dX5_readPattern_55 : decode cX5_readPattern 55 = .ok (.iconst 1, 1) := by decide +kernel
theorem dX5_readPattern_56 : decode cX5_readPattern 56 = .ok (.iadd, 1) := by decide +kernel
theorem dX5_readPattern_57 : decode cX5_readPattern 57 = .ok (.putfield 55, 3) := by decide +kernel
theorem dX5_readPattern_60 : decode cX5_readPattern 60 = .ok (.aload_n 0, 1) := by decide +kernel
theorem dX5_readPattern_61 : decode cX5_readPattern 61 = .ok (.dup, 1) := by decide +kernel
theorem dX5_readPattern_62 : decode cX5_readPattern 62 = .ok (.getfield 19, 3) := by decide +kernel
theorem dX5_readPattern_65 : decode cX5_readPattern 65 = .ok (.iconst 1, 1) := by decide +kernel
theorem dX5_readPattern_66 : decode cX5_readPattern 66 = .ok (.iadd, 1) := by decide +kernel
theorem dX5_readPattern_67 : decode cX5_readPattern 67 = .ok (.putfield 19, 3) := by decide +kernel
theorem dX5_readPattern_70 : decode cX5_readPattern 70 = .ok (.iinc 1 1, 3) := by decide +kernel
theorem dX5_readPattern_73 : decode cX5_readPattern 73 = .ok (.goto (-61), 3) := by decide +kernel
theorem dX5_readPattern_76 : decode cX5_readPattern 76 = .ok (.aload_n 0, 1) := by decide +kernel
theorem dX5_readPattern_77 : decode cX5_readPattern 77 = .ok (.getfield 55, 3) := by decide +kernel
theorem dX5_readPattern_80 : decode cX5_readPattern 80 = .ok (.ifCond .le 7, 3) := by decide +kernel
theorem dX5_readPattern_83 : decode cX5_readPattern 83 = .ok (.iconst 1, 1) := by decide +kernel
theorem dX5_readPattern_84 : decode cX5_readPattern 84 = .ok (.goto 4, 3) := by decide +kernel
theorem dX5_readPattern_87 : decode cX5_readPattern 87 = .ok (.iconst 0, 1) := by decide +kernel
theorem dX5_readPattern_88 : decode cX5_readPattern 88 = .ok (.ireturn, 1) := by decide +kernel
set_option maxRecDepth 20000 in
theorem ggX5_digitHere_X5_here : GoodIn wsX5_digitHere wsX5_here := goodIn_r _ [5, 6, 7, 8, 9, 10, 11, 12, 13, 14, 15] (by decide +kernel) (by decide +kernel)
set_option maxRecDepth 20000 in
theorem gX5_digitHere_X5_here : GoodIn wsX5_digitHere (wsV RX5 29 RX5 yX5_here wsX5_here) := goodIn_app (goodIn_of _ (by decide +kernel)) ggX5_digitHere_X5_here
theorem dX5_digitHere_0 : decode cX5_digitHere 0 = .ok (.aload_n 0, 1) := by decide +kernel
theorem dX5_digitHere_1 : decode cX5_digitHere 1 = .ok (.invokevirtual 29, 3) := by decide +kernel
theorem dX5_digitHere_4 : decode cX5_digitHere 4 = .ok (.istore_n 1, 1) := by decide +kernel
theorem dX5_digitHere_5 : decode cX5_digitHere 5 = .ok (.iload_n 1, 1) := by decide +kernel
theorem dX5_digitHere_6 : decode cX5_digitHere 6 = .ok (.bipush 48, 2) := by decide +kernel
theorem dX5_digitHere_8 : decode cX5_digitHere 8 = .ok (.if_icmp .lt 16, 3) := by decide +kernel
theorem dX5_digitHere_11 : decode cX5_digitHere 11 = .ok (.iload_n 1, 1) := by decide +kernel
theorem dX5_digitHere_12 : decode cX5_digitHere 12 = .ok (.bipush 57, 2) := by decide +kernel
theorem dX5_digitHere_14 : decode cX5_digitHere 14 = .ok (.if_icmp .gt 10, 3) := by decide +kernel
theorem dX5_digitHere_17 : decode cX5_digitHere 17 = .ok (.iload_n 1, 1) := by decide +kernel
theorem dX5_digitHere_18 : decode cX5_digitHere 18 = .ok (.bipush 48, 2) := by decide +kernel
theorem dX5_digitHere_20 : decode cX5_digitHere 20 = .ok (.isub, 1) := by decide +kernel
theorem dX5_digitHere_21 : decode cX5_digitHere 21 = .ok (.goto 4, 3) := by decide +kernel
theorem dX5_digitHere_24 : decode cX5_digitHere 24 = .ok (.iconst (-1), 1) := by decide +kernel
theorem dX5_digitHere_25 : decode cX5_digitHere 25 = .ok (.ireturn, 1) := by decide +kernel
theorem dX5_here_0 : decode cX5_here 0 = .ok (.aload_n 0, 1) := by decide +kernel
theorem dX5_here_1 : decode cX5_here 1 = .ok (.getfield 19, 3) := by decide +kernel
theorem dX5_here_4 : decode cX5_here 4 = .ok (.aload_n 0, 1) := by decide +kernel
theorem dX5_here_5 : decode cX5_here 5 = .ok (.getfield 15, 3) := by decide +kernel
theorem dX5_here_8 : decode cX5_here 8 = .ok (.if_icmp .ge 15, 3) := by decide +kernel
theorem dX5_here_11 : decode cX5_here 11 = .ok (.aload_n 0, 1) := by decide +kernel
theorem dX5_here_12 : decode cX5_here 12 = .ok (.getfield 9, 3) := by decide +kernel
theorem dX5_here_15 : decode cX5_here 15 = .ok (.aload_n 0, 1) := by decide +kernel
