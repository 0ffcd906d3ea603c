theorem dX5_here_16 : decode cX5_here 16 = .ok (.getfield 19, 3) := by decide +kernel
theorem dX5_here_19 : decode cX5_here 19 = .ok (.iaload, 1) := by decide +kernel
theorem dX5_here_20 : decode cX5_here 20 = .ok (.goto 4, 3) := by decide +kernel
theorem dX5_here_23 : decode cX5_here 23 = .ok (.iconst (-1), 1) := by decide +kernel
theorem dX5_here_24 : decode cX5_here 24 = .ok (.ireturn, 1) := by decide +kernel
set_option maxRecDepth 20000 in
theorem ggX6_init_X3_init : GoodIn wsX6_init wsX3_init := goodIn_r _ [25, 26, 2, 3, 27, 21, 22, 28, 29, 30, 31, 32, 33, 34, 35, 36, 37, 38, 39, 40, 41, 42, 43, 44, 45, 46, 47, 48, 49, 50, 98, 99, 100, 101, 102, 103, 104, 66, 67, 68, 69, 70, 71, 72, 73, 74, 75, 76, 105, 106, 107, 108, 109, 110, 111] (by decide +kernel) (by decide +kernel)
set_option maxRecDepth 20000 in
theorem gX6_init_X3_init_n11 : GoodIn wsX6_init (wsX3_init) := ggX6_init_X3_init
set_option maxRecDepth 20000 in
theorem ggX6_init_X2_init : GoodIn wsX6_init wsX2_init := goodIn_r _ [52, 53, 2, 3, 54, 55, 5, 6, 24, 25, 26, 27, 21, 22, 28, 29, 30, 31, 32, 33, 34, 35, 36, 37, 38, 39, 40, 41, 42, 43, 44, 45, 46, 47, 48, 49, 50, 82, 83, 84, 66, 67, 68, 69, 70, 71, 72, 73, 74, 75, 76, 98, 99, 100, 101, 102, 103, 104, 105, 106, 107, 108, 109, 110, 111] (by decide +kernel) (by decide +kernel)
set_option maxRecDepth 20000 in
theorem gX6_init_X2_init_n18 : GoodIn wsX6_init (wsX2_init) := ggX6_init_X2_init
set_option maxRecDepth 20000 in
theorem ggX6_init_X5_init : GoodIn wsX6_init wsX5_init := goodIn_r _ [57, 58, 2, 3, 33, 59, 85, 86, 87, 88, 89, 90, 91] (by decide +kernel) (by decide +kernel)
set_option maxRecDepth 20000 in
theorem gX6_init_X5_init_n25 : GoodIn wsX6_init (wsX5_init) := ggX6_init_X5_init
set_option maxRecDepth 20000 in
theorem ggX6_init_X1_init : GoodIn wsX6_init wsX1_init := goodIn_r _ [61, 62, 2, 3, 33, 63, 64, 65, 92, 93, 94, 95, 96, 97] (by decide +kernel) (by decide +kernel)
set_option maxRecDepth 20000 in
theorem gX6_init_X1_init_n32 : GoodIn wsX6_init (wsX1_init) := ggX6_init_X1_init
set_option maxRecDepth 20000 in
theorem ggX6_init_X4_init : GoodIn wsX6_init wsX4_init := goodIn_r _ [36, 37, 2, 3, 33, 38, 39, 40, 41, 42, 43, 98, 99, 100, 101, 102, 103, 104] (by decide +kernel) (by decide +kernel)
set_option maxRecDepth 20000 in
theorem gX6_init_X4_init_n39 : GoodIn wsX6_init (wsX4_init) := ggX6_init_X4_init
theorem dX6_init_0 : decode cX6_init 0 = .ok (.aload_n 0, 1) := by decide +kernel
theorem dX6_init_1 : decode cX6_init 1 = .ok (.invokespecial 3, 3) := by decide +kernel
theorem dX6_init_4 : decode cX6_init 4 = .ok (.aload_n 0, 1) := by decide +kernel
theorem dX6_init_5 : decode cX6_init 5 = .ok (.new 9, 3) := by decide +kernel
theorem dX6_init_8 : decode cX6_init 8 = .ok (.dup, 1) := by decide +kernel
theorem dX6_init_9 : decode cX6_init 9 = .ok (.invokespecial 11, 3) := by decide +kernel
theorem dX6_init_12 : decode cX6_init 12 = .ok (.putfield 12, 3) := by decide +kernel
theorem dX6_init_15 : decode cX6_init 15 = .ok (.aload_n 0, 1) := by decide +kernel
theorem dX6_init_16 : decode cX6_init 16 = .ok (.new 16, 3) := by decide +kernel
theorem dX6_init_19 : decode cX6_init 19 = .ok (.dup, 1) := by decide +kernel
theorem dX6_init_20 : decode cX6_init 20 = .ok (.invokespecial 18, 3) := by decide +kernel
theorem dX6_init_23 : decode cX6_init 23 = .ok (.putfield 19, 3) := by decide +kernel
theorem dX6_init_26 : decode cX6_init 26 = .ok (.aload_n 0, 1) := by decide +kernel
theorem dX6_init_27 : decode cX6_init 27 = .ok (.new 23, 3) := by decide +kernel
theorem dX6_init_30 : decode cX6_init 30 = .ok (.dup, 1) := by decide +kernel
theorem dX6_init_31 : decode cX6_init 31 = .ok (.invokespecial 25, 3) := by decide +kernel
theorem dX6_init_34 : decode cX6_init 34 = .ok (.putfield 26, 3) := by decide +kernel
theorem dX6_init_37 : decode cX6_init 37 = .ok (.aload_n 0, 1) := by decide +kernel
theorem dX6_init_38 : decode cX6_init 38 = .ok (.new 30, 3) := by decide +kernel
theorem dX6_init_41 : decode cX6_init 41 = .ok (.dup, 1) := by decide +kernel
theorem dX6_init_42 : decode cX6_init 42 = .ok (.invokespecial 32, 3) := by decide +kernel
theorem dX6_init_45 : decode cX6_init 45 = .ok (.putfield 33, 3) := by decide +kernel
theorem dX6_init_48 : decode cX6_init 48 = .ok (.aload_n 0, 1) := by decide +kernel
theorem dX6_init_49 : decode cX6_init 49 = .ok (.new 37, 3) := by decide +kernel
theorem dX6_init_52 : decode cX6_init 52 = .ok (.dup, 1) := by decide +kernel
theorem dX6_init_53 : decode cX6_init 53 = .ok (.invokespecial 39, 3) := by decide +kernel
theorem dX6_init_56 : decode cX6_init 56 = .ok (.putfield 40, 3) := by decide +kernel
theorem dX6_init_59 : decode cX6_init 59 = .ok (.return_, 1) := by decide +kernel
set_option maxRecDepth 20000 in
theorem ggX6_write_X6_requireAddress : GoodIn wsX6_write wsX6_requireAddress := goodIn_ca (goodIn_r _ [8, 9, 10] (by decide +kernel) (by decide +kernel)) (goodIn_sub (fun _ h => List.mem_cons_of_mem _ (List.mem_append_right _ h)) (by decide +kernel))
set_option maxRecDepth 20000 in
theorem gX6_write_X6_requireAddress : GoodIn wsX6_write (va_wsS RX6 44 yX6_requireAddress wsX6_requireAddress) := goodIn_app (goodIn_of _ (by decide +kernel)) ggX6_write_X6_requireAddress
set_option maxRecDepth 20000 in
theorem ggX6_write_X2_save : GoodIn wsX6_write wsX2_save := goodIn_r _ [14, 15, 16, 17, 18, 19, 20, 21, 22, 23, 24, 25, 26, 27, 28, 29, 30, 31, 32, 33, 34, 35, 36, 37, 38, 39, 40, 41, 42, 43, 44, 45, 46, 47, 48, 49, 50, 51, 52, 53, 54, 55, 56, 57, 58, 59, 60, 80, 81, 82, 83, 84, 85, 86, 87, 88, 89, 90, 91, 92, 93, 94, 95, 96, 97, 98, 99, 100, 101, 102, 103, 104, 105, 106, 107] (by decide +kernel) (by decide +kernel)
set_option maxRecDepth 20000 in
theorem gX6_write_X2_save_n55 : GoodIn wsX6_write (wsX2_save) := ggX6_write_X2_save
set_option maxRecDepth 20000 in
theorem ggX6_write_X3_put : GoodIn wsX6_write wsX3_put := goodIn_r _ [63, 22, 29, 23, 64, 65, 66, 19, 67, 24, 68, 50, 69, 70, 55, 60, 71, 72, 73, 74, 53, 83, 84, 85, 86, 87, 88, 89, 90, 91, 92, 93, 94, 95, 96, 97, 98, 99, 100, 101, 102, 103, 104, 105, 106, 107] (by decide +kernel) (by decide +kernel)
set_option maxRecDepth 20000 in
theorem gX6_write_X3_put_n59 : GoodIn wsX6_write (wsX3_put) := ggX6_write_X3_put
theorem dX6_write_0 : decode cX6_write 0 = .ok (.iload_n 1, 1) := by decide +kernel
theorem dX6_write_1 : decode cX6_write 1 = .ok (.invokestatic 44, 3) := by decide +kernel
theorem dX6_write_4 : decode cX6_write 4 = .ok (.iload_n 3, 1) := by decide +kernel
theorem dX6_write_5 : decode cX6_write 5 = .ok (.invokestatic 44, 3) := by decide +kernel
theorem dX6_write_8 : decode cX6_write 8 = .ok (.iload_n 2, 1) := by decide +kernel
theorem dX6_write_9 : decode cX6_write 9 = .ok (.ifCond .eq 23, 3) := by decide +kernel
theorem dX6_write_12 : decode cX6_write 12 = .ok (.iload_n 2, 1) := by decide +kernel
theorem dX6_write_13 : decode cX6_write 13 = .ok (.iconst 1, 1) := by decide +kernel
theorem dX6_write_14 : decode cX6_write 14 = .ok (.if_icmp .eq 18, 3) := by decide +kernel
theorem dX6_write_17 : decode cX6_write 17 = .ok (.iload_n 2, 1) := by decide +kernel
theorem dX6_write_18 : decode cX6_write 18 = .ok (.iconst 2, 1) := by decide +kernel
theorem dX6_write_19 : decode cX6_write 19 = .ok (.if_icmp .eq 13, 3) := by decide +kernel
theorem dX6_write_22 : decode cX6_write 22 = .ok (.new 48, 3) := by decide +kernel
theorem dX6_write_25 : decode cX6_write 25 = .ok (.dup, 1) := by decide +kernel
theorem dX6_write_26 : decode cX6_write 26 = .ok (.ldc 50, 2) := by decide +kernel
theorem dX6_write_28 : decode cX6_write 28 = .ok (.invokespecial 52, 3) := by decide +kernel
theorem dX6_write_31 : decode cX6_write 31 = .ok (.athrow, 1) := by decide +kernel
theorem dX6_write_32 : decode cX6_write 32 = .ok (.aload_n 0, 1) := by decide +kernel
theorem dX6_write_33 : decode cX6_write 33 = .ok (.getfield 19, 3) := by decide +kernel
theorem dX6_write_36 : decode cX6_write 36 = .ok (.aload_n 0, 1) := by decide +kernel
theorem dX6_write_37 : decode cX6_write 37 = .ok (.getfield 12, 3) := by decide +kernel
theorem dX6_write_40 : decode cX6_write 40 = .ok (.invokevirtual 55, 3) := by decide +kernel
theorem dX6_write_43 : decode cX6_write 43 = .ok (.aload_n 0, 1) := by decide +kernel
theorem dX6_write_44 : decode cX6_write 44 = .ok (.getfield 12, 3) := by decide +kernel
theorem dX6_write_47 : decode cX6_write 47 = .ok (.iload_n 1, 1) := by decide +kernel
theorem dX6_write_48 : decode cX6_write 48 = .ok (.iload_n 2, 1) := by decide +kernel
theorem dX6_write_49 : decode cX6_write 49 = .ok (.iload_n 3, 1) := by decide +kernel
theorem dX6_write_50 : decode cX6_write 50 = .ok (.invokevirtual 59, 3) := by decide +kernel
theorem dX6_write_53 : decode cX6_write 53 = .ok (.ireturn, 1) := by decide +kernel
set_option maxRecDepth 20000 in
theorem ggX6_setPattern_X6_requireAddress : GoodIn wsX6_setPattern wsX6_requireAddress := goodIn_ca (goodIn_r _ [8, 9, 10] (by decide +kernel) (by decide +kernel)) (goodIn_sub (fun _ h => List.mem_cons_of_mem _ (List.mem_append_right _ h)) (by decide +kernel))
set_option maxRecDepth 20000 in
theorem gX6_setPattern_X6_requireAddress : GoodIn wsX6_setPattern (va_wsS RX6 44 yX6_requireAddress wsX6_requireAddress) := goodIn_app (goodIn_of _ (by decide +kernel)) ggX6_setPattern_X6_requireAddress
set_option maxRecDepth 20000 in
theorem ggX6_setPattern_X2_save : GoodIn wsX6_setPattern wsX2_save := goodIn_r _ [14, 15, 16, 17, 18, 19, 20, 21, 22, 23, 24, 25, 26, 27, 28, 29, 30, 31, 32, 33, 34, 35, 36, 37, 38, 39, 40, 41, 42, 43, 44, 45, 46, 47, 48, 49, 50, 51, 52, 53, 54, 55, 56, 57, 58, 59, 60, 80, 81, 82, 69, 70, 71, 72, 73, 74, 75, 76, 77, 78, 79, 83, 84, 85, 86, 87, 88, 89, 90, 91, 92, 93, 94, 95, 96] (by decide +kernel) (by decide +kernel)
set_option maxRecDepth 20000 in
theorem gX6_setPattern_X2_save_n55 : GoodIn wsX6_setPattern (wsX2_save) := ggX6_setPattern_X2_save
set_option maxRecDepth 20000 in
theorem ggX6_setPattern_X4_replacePattern : GoodIn wsX6_setPattern wsX4_replacePattern := goodIn_r _ [63, 46, 44, 45, 83, 84, 85, 86, 87, 88, 89] (by decide +kernel) (by decide +kernel)
set_option maxRecDepth 20000 in
theorem gX6_setPattern_X4_replacePattern_n70 : GoodIn wsX6_setPattern (wsX4_replacePattern) := ggX6_setPattern_X4_replacePattern
theorem dX6_setPattern_0 : decode cX6_setPattern 0 = .ok (.iload_n 1, 1) := by decide +kernel
theorem dX6_setPattern_1 : decode cX6_setPattern 1 = .ok (.invokestatic 44, 3) := by decide +kernel
theorem dX6_setPattern_4 : decode cX6_setPattern 4 = .ok (.iload_n 3, 1) := by decide +kernel
theorem dX6_setPattern_5 : decode cX6_setPattern 5 = .ok (.iconst 1, 1) := by decide +kernel
theorem dX6_setPattern_6 : decode cX6_setPattern 6 = .ok (.if_icmp .lt 9, 3) := by decide +kernel
theorem dX6_setPattern_9 : decode cX6_setPattern 9 = .ok (.iload_n 3, 1) := by decide +kernel
theorem dX6_setPattern_10 : decode cX6_setPattern 10 = .ok (.bipush 8, 2) := by decide +kernel
theorem dX6_setPattern_12 : decode cX6_setPattern 12 = .ok (.if_icmp .le 13, 3) := by decide +kernel
theorem dX6_setPattern_15 : decode cX6_setPattern 15 = .ok (.new 48, 3) := by decide +kernel
theorem dX6_setPattern_18 : decode cX6_setPattern 18 = .ok (.dup, 1) := by decide +kernel
theorem dX6_setPattern_19 : decode cX6_setPattern 19 = .ok (.ldc 63, 2) := by decide +kernel
theorem dX6_setPattern_21 : decode cX6_setPattern 21 = .ok (.invokespecial 52, 3) := by decide +kernel
theorem dX6_setPattern_24 : decode cX6_setPattern 24 = .ok (.athrow, 1) := by decide +kernel
theorem dX6_setPattern_25 : decode cX6_setPattern 25 = .ok (.iload_n 2, 1) := by decide +kernel
theorem dX6_setPattern_26 : decode cX6_setPattern 26 = .ok (.ifCond .lt 10, 3) := by decide +kernel
theorem dX6_setPattern_29 : decode cX6_setPattern 29 = .ok (.iload_n 2, 1) := by decide +kernel
theorem dX6_setPattern_30 : decode cX6_setPattern 30 = .ok (.iconst 1, 1) := by decide +kernel
theorem dX6_setPattern_31 : decode cX6_setPattern 31 = .ok (.iload_n 3, 1) := by decide +kernel
theorem dX6_setPattern_32 : decode cX6_setPattern 32 = .ok (.ishl, 1) := by decide +kernel
theorem dX6_setPattern_33 : decode cX6_setPattern 33 = .ok (.if_icmp .lt 13, 3) := by decide +kernel
theorem dX6_setPattern_36 : decode cX6_setPattern 36 = .ok (.new 48, 3) := by decide +kernel
theorem dX6_setPattern_39 : decode cX6_setPattern 39 = .ok (.dup, 1) := by decide +kernel
theorem dX6_setPattern_40 : decode cX6_setPattern 40 = .ok (.ldc 65, 2) := by decide +kernel
theorem dX6_setPattern_42 : decode cX6_setPattern 42 = .ok (.invokespecial 52, 3) := by decide +kernel
theorem dX6_setPattern_45 : decode cX6_setPattern 45 = .ok (.athrow, 1) := by decide +kernel
theorem dX6_setPattern_46 : decode cX6_setPattern 46 = .ok (.aload_n 0, 1) := by decide +kernel
theorem dX6_setPattern_47 : decode cX6_setPattern 47 = .ok (.getfield 19, 3) := by decide +kernel
theorem dX6_setPattern_50 : decode cX6_setPattern 50 = .ok (.aload_n 0, 1) := by decide +kernel
theorem dX6_setPattern_51 : decode cX6_setPattern 51 = .ok (.getfield 12, 3) := by decide +kernel
theorem dX6_setPattern_54 : decode cX6_setPattern 54 = .ok (.invokevirtual 55, 3) := by decide +kernel
theorem dX6_setPattern_57 : decode cX6_setPattern 57 = .ok (.aload_n 0, 1) := by decide +kernel
theorem dX6_setPattern_58 : decode cX6_setPattern 58 = .ok (.getfield 12, 3) := by decide +kernel
theorem dX6_setPattern_61 : decode cX6_setPattern 61 = .ok (.getfield 67, 3) := by decide +kernel
theorem dX6_setPattern_64 : decode cX6_setPattern 64 = .ok (.iload_n 1, 1) := by decide +kernel
theorem dX6_setPattern_65 : decode cX6_setPattern 65 = .ok (.iload_n 2, 1) := by decide +kernel
theorem dX6_setPattern_66 : decode cX6_setPattern 66 = .ok (.iload_n 3, 1) := by decide +kernel
theorem dX6_setPattern_67 : decode cX6_setPattern 67 = .ok (.invokevirtual 70, 3) := by decide +kernel
theorem dX6_setPattern_70 : decode cX6_setPattern 70 = .ok (.ireturn, 1) := by decide +kernel
set_option maxRecDepth 20000 in
theorem ggX6_jumpTo_X6_requireAddress : GoodIn wsX6_jumpTo wsX6_requireAddress := goodIn_ca (goodIn_r _ [6, 7, 8] (by decide +kernel) (by decide +kernel)) (goodIn_sub (fun _ h => List.mem_cons_of_mem _ (List.mem_append_right _ h)) (by decide +kernel))
set_option maxRecDepth 20000 in
theorem gX6_jumpTo_X6_requireAddress : GoodIn wsX6_jumpTo (va_wsS RX6 44 yX6_requireAddress wsX6_requireAddress) := goodIn_app (goodIn_of _ (by decide +kernel)) ggX6_jumpTo_X6_requireAddress
set_option maxRecDepth 20000 in
theorem ggX6_jumpTo_X2_save : GoodIn wsX6_jumpTo wsX2_save := goodIn_r _ [12, 13, 14, 15, 16, 17, 18, 19, 20, 21, 22, 23, 24, 25, 26, 27, 28, 29, 30, 31, 32, 33, 34, 35, 36, 37, 38, 39, 40, 41, 42, 43, 44, 45, 46, 47, 48, 49, 50, 51, 52, 53, 54, 55, 56, 57, 58, 67, 68, 69, 70, 71, 72, 73, 74, 75, 76, 77, 78, 79, 80, 81, 82, 83, 84, 85, 86, 87, 88, 89, 90, 91, 92, 93, 94] (by decide +kernel) (by decide +kernel)
set_option maxRecDepth 20000 in
theorem gX6_jumpTo_X2_save_n55 : GoodIn wsX6_jumpTo (wsX2_save) := ggX6_jumpTo_X2_save
set_option maxRecDepth 20000 in
theorem ggX6_jumpTo_X3_moveTo : GoodIn wsX6_jumpTo wsX3_moveTo := goodIn_r _ [61, 20, 27, 70, 71, 72, 73, 74, 75, 76, 77, 78, 79, 80, 81, 82, 83, 84, 85, 86, 87] (by decide +kernel) (by decide +kernel)
set_option maxRecDepth 20000 in
theorem gX6_jumpTo_X3_moveTo_n73 : GoodIn wsX6_jumpTo (wsX3_moveTo) := ggX6_jumpTo_X3_moveTo
theorem dX6_jumpTo_0 : decode cX6_jumpTo 0 = .ok (.iload_n 1, 1) := by decide +kernel
theorem dX6_jumpTo_1 : decode cX6_jumpTo 1 = .ok (.invokestatic 44, 3) := by decide +kernel
theorem dX6_jumpTo_4 : decode cX6_jumpTo 4 = .ok (.aload_n 0, 1) := by decide +kernel
theorem dX6_jumpTo_5 : decode cX6_jumpTo 5 = .ok (.getfield 19, 3) := by decide +kernel
theorem dX6_jumpTo_8 : decode cX6_jumpTo 8 = .ok (.aload_n 0, 1) := by decide +kernel
theorem dX6_jumpTo_9 : decode cX6_jumpTo 9 = .ok (.getfield 12, 3) := by decide +kernel
theorem dX6_jumpTo_12 : decode cX6_jumpTo 12 = .ok (.invokevirtual 55, 3) := by decide +kernel
theorem dX6_jumpTo_15 : decode cX6_jumpTo 15 = .ok (.aload_n 0, 1) := by decide +kernel
theorem dX6_jumpTo_16 : decode cX6_jumpTo 16 = .ok (.getfield 12, 3) := by decide +kernel
theorem dX6_jumpTo_19 : decode cX6_jumpTo 19 = .ok (.iload_n 1, 1) := by decide +kernel
theorem dX6_jumpTo_20 : decode cX6_jumpTo 20 = .ok (.invokevirtual 73, 3) := by decide +kernel
theorem dX6_jumpTo_23 : decode cX6_jumpTo 23 = .ok (.ireturn, 1) := by decide +kernel
set_option maxRecDepth 20000 in
theorem ggX6_run_X2_save : GoodIn wsX6_run wsX2_save := goodIn_r _ [9, 10, 11, 12, 13, 14, 15, 16, 17, 18, 19, 20, 21, 22, 23, 24, 25, 26, 27, 28, 29, 30, 31, 32, 33, 34, 35, 36, 37, 38, 39, 40, 41, 42, 43, 44, 45, 46, 47, 48, 49, 50, 51, 52, 53, 54, 55, 136, 137, 138, 139, 140, 141, 142, 143, 144, 145, 146, 147, 148, 149, 150, 151, 152, 153, 154, 155, 156, 157, 158, 159, 160, 161, 162, 163] (by decide +kernel) (by decide +kernel)
set_option maxRecDepth 20000 in
theorem gX6_run_X2_save_n55 : GoodIn wsX6_run (wsX2_save) := ggX6_run_X2_save
set_option maxRecDepth 20000 in
theorem ggX6_run_X3_runFetches : GoodIn wsX6_run wsX3_runFetches := goodIn_r _ [58, 27, 17, 18, 59, 60, 61, 62, 63, 64, 65, 66, 21, 22, 23, 67, 68, 45, 69, 70, 71, 72, 50, 48, 73, 74, 75, 76, 33, 77, 78, 79, 80, 81, 82, 36, 42, 83, 84, 85, 86, 38, 87, 88, 89, 90, 91, 92, 93, 52, 51, 94, 95, 96, 97, 98, 99, 100, 101, 43, 102, 103, 104, 105, 40, 41, 39, 106, 107, 108, 14, 109, 25, 26, 28, 29, 30, 31, 110, 111, 112, 113, 24, 19, 114, 115, 116, 117, 118, 119, 120, 54, 49, 53, 121, 122, 123, 124, 125, 126, 127, 128, 129, 130, 139, 140, 141, 142, 143, 144, 145, 146, 147, 148, 149, 164, 165, 166, 167, 168, 169, 150, 151, 152, 153, 154, 155, 156, 157, 158, 159, 160, 161, 162, 163] (by decide +kernel) (by decide +kernel)
set_option maxRecDepth 20000 in
theorem gX6_run_X3_runFetches_n79 : GoodIn wsX6_run (wsX3_runFetches) := ggX6_run_X3_runFetches
theorem dX6_run_0 : decode cX6_run 0 = .ok (.iload_n 1, 1) := by decide +kernel
theorem dX6_run_1 : decode cX6_run 1 = .ok (.iconst 1, 1) := by decide +kernel
theorem dX6_run_2 : decode cX6_run 2 = .ok (.if_icmp .lt 9, 3) := by decide +kernel
theorem dX6_run_5 : decode cX6_run 5 = .ok (.iload_n 1, 1) := by decide +kernel
theorem dX6_run_6 : decode cX6_run 6 = .ok (.bipush 99, 2) := by decide +kernel
theorem dX6_run_8 : decode cX6_run 8 = .ok (.if_icmp .le 13, 3) := by decide +kernel
theorem dX6_run_11 : decode cX6_run 11 = .ok (.new 48, 3) := by decide +kernel
theorem dX6_run_14 : decode cX6_run 14 = .ok (.dup, 1) := by decide +kernel
theorem dX6_run_15 : decode cX6_run 15 = .ok (.ldc 77, 2) := by decide +kernel
theorem dX6_run_17 : decode cX6_run 17 = .ok (.invokespecial 52, 3) := by decide +kernel
theorem dX6_run_20 : decode cX6_run 20 = .ok (.athrow, 1) := by decide +kernel
theorem dX6_run_21 : decode cX6_run 21 = .ok (.aload_n 0, 1) := by decide +kernel
theorem dX6_run_22 : decode cX6_run 22 = .ok (.getfield 19, 3) := by decide +kernel
theorem dX6_run_25 : decode cX6_run 25 = .ok (.aload_n 0, 1) := by decide +kernel
theorem dX6_run_26 : decode cX6_run 26 = .ok (.getfield 12, 3) := by decide +kernel
theorem dX6_run_29 : decode cX6_run 29 = .ok (.invokevirtual 55, 3) := by decide +kernel
theorem dX6_run_32 : decode cX6_run 32 = .ok (.aload_n 0, 1) := by decide +kernel
theorem dX6_run_33 : decode cX6_run 33 = .ok (.getfield 12, 3) := by decide +kernel
theorem dX6_run_36 : decode cX6_run 36 = .ok (.iload_n 1, 1) := by decide +kernel
theorem dX6_run_37 : decode cX6_run 37 = .ok (.aload_n 0, 1) := by decide +kernel
theorem dX6_run_38 : decode cX6_run 38 = .ok (.getfield 33, 3) := by decide +kernel
theorem dX6_run_41 : decode cX6_run 41 = .ok (.invokevirtual 79, 3) := by decide +kernel
theorem dX6_run_44 : decode cX6_run 44 = .ok (.ireturn, 1) := by decide +kernel
set_option maxRecDepth 20000 in
theorem ggX6_flush_X2_save : GoodIn wsX6_flush wsX2_save := goodIn_r _ [6, 7, 8, 9, 10, 11, 12, 13, 14, 15, 16, 17, 18, 19, 20, 21, 22, 23, 24, 25, 26, 27, 28, 29, 30, 31, 32, 33, 34, 35, 36, 37, 38, 39, 40, 41, 42, 43, 44, 45, 46, 47, 48, 49, 50, 51, 52, 68, 69, 70, 71, 72, 73, 74, 75, 76, 77, 78, 79, 80, 81, 82, 83, 84, 85, 86, 87, 88, 89, 90, 91, 92, 93, 94, 95] (by decide +kernel) (by decide +kernel)
set_option maxRecDepth 20000 in
theorem gX6_flush_X2_save_n55 : GoodIn wsX6_flush (wsX2_save) := ggX6_flush_X2_save
set_option maxRecDepth 20000 in
theorem ggX6_flush_X3_dropAll : GoodIn wsX6_flush wsX3_dropAll := goodIn_r _ [55, 21, 15, 56, 42, 57, 58, 47, 52, 59, 60, 61, 62, 71, 72, 73, 74, 75, 76, 77, 78, 79, 80, 81, 89, 90, 91, 92, 93, 94, 95] (by decide +kernel) (by decide +kernel)
set_option maxRecDepth 20000 in
theorem gX6_flush_X3_dropAll_n83 : GoodIn wsX6_flush (wsX3_dropAll) := ggX6_flush_X3_dropAll
theorem dX6_flush_0 : decode cX6_flush 0 = .ok (.aload_n 0, 1) := by decide +kernel
theorem dX6_flush_1 : decode cX6_flush 1 = .ok (.getfield 19, 3) := by decide +kernel
theorem dX6_flush_4 : decode cX6_flush 4 = .ok (.aload_n 0, 1) := by decide +kernel
theorem dX6_flush_5 : decode cX6_flush 5 = .ok (.getfield 12, 3) := by decide +kernel
theorem dX6_flush_8 : decode cX6_flush 8 = .ok (.invokevirtual 55, 3) := by decide +kernel
theorem dX6_flush_11 : decode cX6_flush 11 = .ok (.aload_n 0, 1) := by decide +kernel
theorem dX6_flush_12 : decode cX6_flush 12 = .ok (.getfield 12, 3) := by decide +kernel
theorem dX6_flush_15 : decode cX6_flush 15 = .ok (.invokevirtual 83, 3) := by decide +kernel
theorem dX6_flush_18 : decode cX6_flush 18 = .ok (.ireturn, 1) := by decide +kernel
set_option maxRecDepth 20000 in
theorem ggX6_appendText_X5_add : GoodIn wsX6_appendText wsX5_add := goodIn_r _ [9, 10, 11, 17, 18, 19, 20, 21, 22, 23] (by decide +kernel) (by decide +kernel)
set_option maxRecDepth 20000 in
theorem gX6_appendText_X5_add_n89 : GoodIn wsX6_appendText (wsX5_add) := ggX6_appendText_X5_add
theorem dX6_appendText_0 : decode cX6_appendText 0 = .ok (.iload_n 1, 1) := by decide +kernel
theorem dX6_appendText_1 : decode cX6_appendText 1 = .ok (.bipush 32, 2) := by decide +kernel
theorem dX6_appendText_3 : decode cX6_appendText 3 = .ok (.if_icmp .lt 9, 3) := by decide +kernel
theorem dX6_appendText_6 : decode cX6_appendText 6 = .ok (.iload_n 1, 1) := by decide +kernel
theorem dX6_appendText_7 : decode cX6_appendText 7 = .ok (.bipush 126, 2) := by decide +kernel
theorem dX6_appendText_9 : decode cX6_appendText 9 = .ok (.if_icmp .le 13, 3) := by decide +kernel
theorem dX6_appendText_12 : decode cX6_appendText 12 = .ok (.new 48, 3) := by decide +kernel
theorem dX6_appendText_15 : decode cX6_appendText 15 = .ok (.dup, 1) := by decide +kernel
theorem dX6_appendText_16 : decode cX6_appendText 16 = .ok (.ldc 87, 2) := by decide +kernel
theorem dX6_appendText_18 : decode cX6_appendText 18 = .ok (.invokespecial 52, 3) := by decide +kernel
theorem dX6_appendText_21 : decode cX6_appendText 21 = .ok (.athrow, 1) := by decide +kernel
theorem dX6_appendText_22 : decode cX6_appendText 22 = .ok (.aload_n 0, 1) := by decide +kernel
theorem dX6_appendText_23 : decode cX6_appendText 23 = .ok (.getfield 26, 3) := by decide +kernel
theorem dX6_appendText_26 : decode cX6_appendText 26 = .ok (.iload_n 1, 1) := by decide +kernel
theorem dX6_appendText_27 : decode cX6_appendText 27 = .ok (.invokevirtual 89, 3) := by decide +kernel
theorem dX6_appendText_30 : decode cX6_appendText 30 = .ok (.ifCond .ne 13, 3) := by decide +kernel
theorem dX6_appendText_33 : decode cX6_appendText 33 = .ok (.new 93, 3) := by decide +kernel
theorem dX6_appendText_36 : decode cX6_appendText 36 = .ok (.dup, 1) := by decide +kernel
theorem dX6_appendText_37 : decode cX6_appendText 37 = .ok (.ldc 95, 2) := by decide +kernel
theorem dX6_appendText_39 : decode cX6_appendText 39 = .ok (.invokespecial 97, 3) := by decide +kernel
theorem dX6_appendText_42 : decode cX6_appendText 42 = .ok (.athrow, 1) := by decide +kernel
theorem dX6_appendText_43 : decode cX6_appendText 43 = .ok (.aload_n 0, 1) := by decide +kernel
theorem dX6_appendText_44 : decode cX6_appendText 44 = .ok (.getfield 26, 3) := by decide +kernel
theorem dX6_appendText_47 : decode cX6_appendText 47 = .ok (.getfield 98, 3) := by decide +kernel
theorem dX6_appendText_50 : decode cX6_appendText 50 = .ok (.ireturn, 1) := by decide +kernel
theorem dX6_clearText_0 : decode cX6_clearText 0 = .ok (.aload_n 0, 1) := by decide +kernel
theorem dX6_clearText_1 : decode cX6_clearText 1 = .ok (.getfield 26, 3) := by decide +kernel
theorem dX6_clearText_4 : decode cX6_clearText 4 = .ok (.getfield 98, 3) := by decide +kernel
theorem dX6_clearText_7 : decode cX6_clearText 7 = .ok (.istore_n 1, 1) := by decide +kernel
theorem dX6_clearText_8 : decode cX6_clearText 8 = .ok (.aload_n 0, 1) := by decide +kernel
theorem dX6_clearText_9 : decode cX6_clearText 9 = .ok (.getfield 26, 3) := by decide +kernel
theorem dX6_clearText_12 : decode cX6_clearText 12 = .ok (.iconst 0, 1) := by decide +kernel
theorem dX6_clearText_13 : decode cX6_clearText 13 = .ok (.putfield 98, 3) := by decide +kernel
theorem dX6_clearText_16 : decode cX6_clearText 16 = .ok (.iload_n 1, 1) := by decide +kernel
theorem dX6_clearText_17 : decode cX6_clearText 17 = .ok (.ireturn, 1) := by decide +kernel
set_option maxRecDepth 20000 in
theorem ggX6_errorPosition_X5_firstError : GoodIn wsX6_errorPosition wsX5_firstError := goodIn_r _ [5, 6, 7, 8, 9, 10, 3, 11, 12, 13, 14, 15, 16, 17, 18, 19, 20, 21, 22, 23, 24, 25, 26, 27, 28, 29, 30, 31, 32, 33, 34, 35, 36, 37, 38, 39, 40, 46, 47, 48, 49, 50, 51, 52] (by decide +kernel) (by decide +kernel)
set_option maxRecDepth 20000 in
theorem gX6_errorPosition_X5_firstError_n102 : GoodIn wsX6_errorPosition (wsX5_firstError) := ggX6_errorPosition_X5_firstError
theorem dX6_errorPosition_0 : decode cX6_errorPosition 0 = .ok (.aload_n 0, 1) := by decide +kernel
theorem dX6_errorPosition_1 : decode cX6_errorPosition 1 = .ok (.getfield 26, 3) := by decide +kernel
theorem dX6_errorPosition_4 : decode cX6_errorPosition 4 = .ok (.invokevirtual 102, 3) := by decide +kernel
theorem dX6_errorPosition_7 : decode cX6_errorPosition 7 = .ok (.ireturn, 1) := by decide +kernel
set_option maxRecDepth 20000 in
theorem ggX6_runText_X5_firstError : GoodIn wsX6_runText wsX5_firstError := goodIn_r _ [9, 10, 11, 12, 13, 14, 7, 15, 16, 17, 18, 19, 20, 21, 22, 23, 24, 25, 26, 27, 28, 29, 30, 31, 32, 33, 34, 35, 36, 37, 38, 39, 40, 41, 42, 43, 44, 198, 199, 200, 201, 202, 203, 204] (by decide +kernel) (by decide +kernel)
set_option maxRecDepth 20000 in
theorem gX6_runText_X5_firstError_n102 : GoodIn wsX6_runText (wsX5_firstError) := ggX6_runText_X5_firstError
set_option maxRecDepth 20000 in
theorem ggX6_runText_X2_save : GoodIn wsX6_runText wsX2_save := goodIn_r _ [48, 49, 50, 51, 52, 53, 54, 55, 56, 57, 58, 59, 60, 61, 62, 63, 64, 65, 66, 67, 68, 69, 70, 71, 72, 73, 74, 75, 76, 77, 78, 79, 80, 81, 82, 83, 84, 85, 86, 87, 88, 89, 90, 91, 92, 93, 94, 205, 206, 207, 208, 209, 210, 211, 212, 213, 214, 215, 216, 217, 218, 219, 220, 221, 222, 223, 224, 225, 226, 227, 228, 229, 230, 231, 232] (by decide +kernel) (by decide +kernel)
set_option maxRecDepth 20000 in
theorem gX6_runText_X2_save_n55 : GoodIn wsX6_runText (wsX2_save) := ggX6_runText_X2_save
set_option maxRecDepth 20000 in
theorem ggX6_runText_X5_rewind : GoodIn wsX6_runText wsX5_rewind := goodIn_r _ [15, 10, 198, 199, 200, 201, 202, 203, 204] (by decide +kernel) (by decide +kernel)
set_option maxRecDepth 20000 in
theorem gX6_runText_X5_rewind_n107 : GoodIn wsX6_runText (wsX5_rewind) := ggX6_runText_X5_rewind
set_option maxRecDepth 20000 in
theorem ggX6_runText_X5_readNext : GoodIn wsX6_runText wsX5_readNext := goodIn_r _ [19, 10, 20, 21, 22, 23, 24, 25, 7, 26, 11, 27, 28, 29, 30, 31, 32, 33, 34, 35, 36, 37, 38, 39, 40, 41, 42, 43, 44, 198, 199, 200, 201, 202, 203, 204] (by decide +kernel) (by decide +kernel)
set_option maxRecDepth 20000 in
theorem gX6_runText_X5_readNext_n110 : GoodIn wsX6_runText (wsX5_readNext) := ggX6_runText_X5_readNext
set_option maxRecDepth 20000 in
theorem ggX6_runText_X6_perform : GoodIn wsX6_runText wsX6_perform := goodIn_r _ [99, 3, 5, 100, 101, 53, 102, 103, 66, 56, 57, 104, 105, 106, 107, 108, 109, 110, 111, 60, 61, 62, 112, 113, 84, 114, 115, 116, 117, 89, 87, 118, 119, 120, 121, 72, 122, 123, 124, 125, 126, 127, 75, 81, 128, 129, 130, 131, 77, 132, 133, 134, 135, 136, 137, 138, 91, 90, 139, 140, 141, 142, 143, 144, 145, 146, 82, 147, 148, 149, 150, 79, 80, 78, 151, 152, 153, 154, 64, 65, 67, 68, 69, 70, 155, 156, 157, 158, 63, 58, 159, 160, 161, 162, 163, 164, 165, 93, 88, 92, 166, 167, 168, 169, 170, 171, 172, 173, 174, 175, 176, 177, 178, 179, 180, 181, 182, 183, 184, 185, 186, 187, 188, 94, 189, 190, 191, 192, 193, 194, 195, 196, 197, 198, 199, 200, 201, 202, 203, 204, 208, 209, 210, 211, 212, 213, 214, 215, 216, 217, 218, 233, 234, 235, 236, 237, 238, 219, 220, 221, 222, 223, 224, 225, 226, 227, 228, 229, 230, 231, 232] (by decide +kernel) (by decide +kernel)
set_option maxRecDepth 20000 in
theorem gX6_runText_X6_perform : GoodIn wsX6_runText (wsV RX6 114 RX6 yX6_perform wsX6_perform) := goodIn_app (goodIn_of _ (by decide +kernel)) ggX6_runText_X6_perform
theorem dX6_runText_0 : decode cX6_runText 0 = .ok (.aload_n 0, 1) := by decide +kernel
theorem dX6_runText_1 : decode cX6_runText 1 = .ok (.getfield 26, 3) := by decide +kernel
theorem dX6_runText_4 : decode cX6_runText 4 = .ok (.invokevirtual 102, 3) := by decide +kernel
theorem dX6_runText_7 : decode cX6_runText 7 = .ok (.iconst (-1), 1) := by decide +kernel
theorem dX6_runText_8 : decode cX6_runText 8 = .ok (.if_icmp .eq 13, 3) := by decide +kernel
theorem dX6_runText_11 : decode cX6_runText 11 = .ok (.new 93, 3) := by decide +kernel
theorem dX6_runText_14 : decode cX6_runText 14 = .ok (.dup, 1) := by decide +kernel
theorem dX6_runText_15 : decode cX6_runText 15 = .ok (.ldc 105, 2) := by decide +kernel
theorem dX6_runText_17 : decode cX6_runText 17 = .ok (.invokespecial 97, 3) := by decide +kernel
theorem dX6_runText_20 : decode cX6_runText 20 = .ok (.athrow, 1) := by decide +kernel
theorem dX6_runText_21 : decode cX6_runText 21 = .ok (.aload_n 0, 1) := by decide +kernel
theorem dX6_runText_22 : decode cX6_runText 22 = .ok (.getfield 19, 3) := by decide +kernel
theorem dX6_runText_25 : decode cX6_runText 25 = .ok (.aload_n 0, 1) := by decide +kernel
theorem dX6_runText_26 : decode cX6_runText 26 = .ok (.getfield 12, 3) := by decide +kernel
theorem dX6_runText_29 : decode cX6_runText 29 = .ok (.invokevirtual 55, 3) := by decide +kernel
theorem dX6_runText_32 : decode cX6_runText 32 = .ok (.iconst 0, 1) := by decide +kernel
theorem dX6_runText_33 : decode cX6_runText 33 = .ok (.istore_n 1, 1) := by decide +kernel
theorem dX6_runText_34 : decode cX6_runText 34 = .ok (.aload_n 0, 1) := by decide +kernel
theorem dX6_runText_35 : decode cX6_runText 35 = .ok (.getfield 26, 3) := by decide +kernel
theorem dX6_runText_38 : decode cX6_runText 38 = .ok (.invokevirtual 107, 3) := by decide +kernel
theorem dX6_runText_41 : decode cX6_runText 41 = .ok (.bipush 80, 2) := by decide +kernel
theorem dX6_runText_43 : decode cX6_runText 43 = .ok (.istore_n 2, 1) := by decide +kernel
theorem dX6_runText_44 : decode cX6_runText 44 = .ok (.iload_n 2, 1) := by decide +kernel
theorem dX6_runText_45 : decode cX6_runText 45 = .ok (.ifCond .le 26, 3) := by decide +kernel
theorem dX6_runText_48 : decode cX6_runText 48 = .ok (.aload_n 0, 1) := by decide +kernel
theorem dX6_runText_49 : decode cX6_runText 49 = .ok (.getfield 26, 3) := by decide +kernel
theorem dX6_runText_52 : decode cX6_runText 52 = .ok (.invokevirtual 110, 3) := by decide +kernel
theorem dX6_runText_55 : decode cX6_runText 55 = .ok (.ifCond .eq 16, 3) := by decide +kernel
theorem dX6_runText_58 : decode cX6_runText 58 = .ok (.iload_n 1, 1) := by decide +kernel
theorem dX6_runText_59 : decode cX6_runText 59 = .ok (.aload_n 0, 1) := by decide +kernel
theorem dX6_runText_60 : decode cX6_runText 60 = .ok (.invokevirtual 114, 3) := by decide +kernel
theorem dX6_runText_63 : decode cX6_runText 63 = .ok (.iadd, 1) := by decide +kernel
theorem dX6_runText_64 : decode cX6_runText 64 = .ok (.istore_n 1, 1) := by decide +kernel
theorem dX6_runText_65 : decode cX6_runText 65 = .ok (.iinc 2 (-1), 3) := by decide +kernel
theorem dX6_runText_68 : decode cX6_runText 68 = .ok (.goto (-24), 3) := by decide +kernel
theorem dX6_runText_71 : decode cX6_runText 71 = .ok (.iload_n 1, 1) := by decide +kernel
theorem dX6_runText_72 : decode cX6_runText 72 = .ok (.ireturn, 1) := by decide +kernel
set_option maxRecDepth 20000 in
theorem ggX6_undo_X2_restore : GoodIn wsX6_undo wsX2_restore := goodIn_r _ [8, 9, 10, 11, 12, 13, 14, 15, 16, 17, 18, 19, 20, 21, 22, 23, 24, 25, 26, 27, 28, 29, 30, 31, 32, 33, 34, 35, 36, 37, 38, 39, 40, 41, 42, 43, 44, 45, 46, 47, 48, 49, 50, 51, 52, 53, 54, 60, 61, 62, 63, 64, 65, 66, 67, 68, 69, 70, 71, 72, 73, 74, 75, 76, 77, 78, 79, 80, 81, 82, 83, 84, 85, 86, 87] (by decide +kernel) (by decide +kernel)
set_option maxRecDepth 20000 in
theorem gX6_undo_X2_restore_n122 : GoodIn wsX6_undo (wsX2_restore) := ggX6_undo_X2_restore
theorem dX6_undo_0 : decode cX6_undo 0 = .ok (.aload_n 0, 1) := by decide +kernel
theorem dX6_undo_1 : decode cX6_undo 1 = .ok (.getfield 19, 3) := by decide +kernel
theorem dX6_undo_4 : decode cX6_undo 4 = .ok (.getfield 117, 3) := by decide +kernel
theorem dX6_undo_7 : decode cX6_undo 7 = .ok (.ifCond .ne 13, 3) := by decide +kernel
theorem dX6_undo_10 : decode cX6_undo 10 = .ok (.new 93, 3) := by decide +kernel
theorem dX6_undo_13 : decode cX6_undo 13 = .ok (.dup, 1) := by decide +kernel
theorem dX6_undo_14 : decode cX6_undo 14 = .ok (.ldc 120, 2) := by decide +kernel
theorem dX6_undo_16 : decode cX6_undo 16 = .ok (.invokespecial 97, 3) := by decide +kernel
theorem dX6_undo_19 : decode cX6_undo 19 = .ok (.athrow, 1) := by decide +kernel
theorem dX6_undo_20 : decode cX6_undo 20 = .ok (.aload_n 0, 1) := by decide +kernel
theorem dX6_undo_21 : decode cX6_undo 21 = .ok (.getfield 19, 3) := by decide +kernel
theorem dX6_undo_24 : decode cX6_undo 24 = .ok (.aload_n 0, 1) := by decide +kernel
theorem dX6_undo_25 : decode cX6_undo 25 = .ok (.getfield 12, 3) := by decide +kernel
theorem dX6_undo_28 : decode cX6_undo 28 = .ok (.invokevirtual 122, 3) := by decide +kernel
theorem dX6_undo_31 : decode cX6_undo 31 = .ok (.aload_n 0, 1) := by decide +kernel
theorem dX6_undo_32 : decode cX6_undo 32 = .ok (.getfield 19, 3) := by decide +kernel
theorem dX6_undo_35 : decode cX6_undo 35 = .ok (.getfield 117, 3) := by decide +kernel
theorem dX6_undo_38 : decode cX6_undo 38 = .ok (.ireturn, 1) := by decide +kernel
set_option maxRecDepth 20000 in
theorem ggX6_instruction_X6_requireAddress : GoodIn wsX6_instruction wsX6_requireAddress := goodIn_ca (goodIn_r _ [7, 8, 9] (by decide +kernel) (by decide +kernel)) (goodIn_sub (fun _ h => List.mem_cons_of_mem _ (List.mem_append_right _ h)) (by decide +kernel))
set_option maxRecDepth 20000 in
theorem gX6_instruction_X6_requireAddress : GoodIn wsX6_instruction (va_wsS RX6 44 yX6_requireAddress wsX6_requireAddress) := goodIn_app (goodIn_of _ (by decide +kernel)) ggX6_instruction_X6_requireAddress
set_option maxRecDepth 20000 in
theorem ggX6_instruction_X4_predictedSuccessor : GoodIn wsX6_instruction wsX4_predictedSuccessor := goodIn_r _ [13, 14, 15, 16, 11, 17, 18, 19, 20, 21, 22, 23, 24, 41, 42, 43, 44, 45, 46, 47] (by decide +kernel) (by decide +kernel)
set_option maxRecDepth 20000 in
theorem gX6_instruction_X4_predictedSuccessor_n144 : GoodIn wsX6_instruction (wsX4_predictedSuccessor) := ggX6_instruction_X4_predictedSuccessor
theorem dX6_instruction_0 : decode cX6_instruction 0 = .ok (.iload_n 1, 1) := by decide +kernel
theorem dX6_instruction_1 : decode cX6_instruction 1 = .ok (.invokestatic 44, 3) := by decide +kernel
theorem dX6_instruction_4 : decode cX6_instruction 4 = .ok (.aload_n 0, 1) := by decide +kernel
theorem dX6_instruction_5 : decode cX6_instruction 5 = .ok (.getfield 12, 3) := by decide +kernel
theorem dX6_instruction_8 : decode cX6_instruction 8 = .ok (.getfield 67, 3) := by decide +kernel
theorem dX6_instruction_11 : decode cX6_instruction 11 = .ok (.astore_n 3, 1) := by decide +kernel
theorem dX6_instruction_12 : decode cX6_instruction 12 = .ok (.iload_n 2, 1) := by decide +kernel
theorem dX6_instruction_13 : decode cX6_instruction 13 = .ok (.tableswitch 104 0 6 #[43, 50, 70, 77, 84, 91, 98], 43) := by decide +kernel
theorem dX6_instruction_56 : decode cX6_instruction 56 = .ok (.aload_n 3, 1) := by decide +kernel
theorem dX6_instruction_57 : decode cX6_instruction 57 = .ok (.getfield 125, 3) := by decide +kernel
theorem dX6_instruction_60 : decode cX6_instruction 60 = .ok (.iload_n 1, 1) := by decide +kernel
theorem dX6_instruction_61 : decode cX6_instruction 61 = .ok (.iaload, 1) := by decide +kernel
theorem dX6_instruction_62 : decode cX6_instruction 62 = .ok (.ireturn, 1) := by decide +kernel
theorem dX6_instruction_63 : decode cX6_instruction 63 = .ok (.aload_n 3, 1) := by decide +kernel
theorem dX6_instruction_64 : decode cX6_instruction 64 = .ok (.getfield 125, 3) := by decide +kernel
theorem dX6_instruction_67 : decode cX6_instruction 67 = .ok (.iload_n 1, 1) := by decide +kernel
theorem dX6_instruction_68 : decode cX6_instruction 68 = .ok (.iaload, 1) := by decide +kernel
theorem dX6_instruction_69 : decode cX6_instruction 69 = .ok (.ifCond .ne 7, 3) := by decide +kernel
theorem dX6_instruction_72 : decode cX6_instruction 72 = .ok (.iconst (-1), 1) := by decide +kernel
theorem dX6_instruction_73 : decode cX6_instruction 73 = .ok (.goto 9, 3) := by decide +kernel
theorem dX6_instruction_76 : decode cX6_instruction 76 = .ok (.aload_n 3, 1) := by decide +kernel
theorem dX6_instruction_77 : decode cX6_instruction 77 = .ok (.getfield 129, 3) := by decide +kernel
theorem dX6_instruction_80 : decode cX6_instruction 80 = .ok (.iload_n 1, 1) := by decide +kernel
theorem dX6_instruction_81 : decode cX6_instruction 81 = .ok (.iaload, 1) := by decide +kernel
theorem dX6_instruction_82 : decode cX6_instruction 82 = .ok (.ireturn, 1) := by decide +kernel
theorem dX6_instruction_83 : decode cX6_instruction 83 = .ok (.aload_n 3, 1) := by decide +kernel
theorem dX6_instruction_84 : decode cX6_instruction 84 = .ok (.getfield 132, 3) := by decide +kernel
theorem dX6_instruction_87 : decode cX6_instruction 87 = .ok (.iload_n 1, 1) := by decide +kernel
theorem dX6_instruction_88 : decode cX6_instruction 88 = .ok (.iaload, 1) := by decide +kernel
theorem dX6_instruction_89 : decode cX6_instruction 89 = .ok (.ireturn, 1) := by decide +kernel
theorem dX6_instruction_90 : decode cX6_instruction 90 = .ok (.aload_n 3, 1) := by decide +kernel
theorem dX6_instruction_91 : decode cX6_instruction 91 = .ok (.getfield 135, 3) := by decide +kernel
theorem dX6_instruction_94 : decode cX6_instruction 94 = .ok (.iload_n 1, 1) := by decide +kernel
theorem dX6_instruction_95 : decode cX6_instruction 95 = .ok (.iaload, 1) := by decide +kernel
theorem dX6_instruction_96 : decode cX6_instruction 96 = .ok (.ireturn, 1) := by decide +kernel
theorem dX6_instruction_97 : decode cX6_instruction 97 = .ok (.aload_n 3, 1) := by decide +kernel
theorem dX6_instruction_98 : decode cX6_instruction 98 = .ok (.getfield 138, 3) := by decide +kernel
theorem dX6_instruction_101 : decode cX6_instruction 101 = .ok (.iload_n 1, 1) := by decide +kernel
theorem dX6_instruction_102 : decode cX6_instruction 102 = .ok (.iaload, 1) := by decide +kernel
theorem dX6_instruction_103 : decode cX6_instruction 103 = .ok (.ireturn, 1) := by decide +kernel
theorem dX6_instruction_104 : decode cX6_instruction 104 = .ok (.aload_n 3, 1) := by decide +kernel
theorem dX6_instruction_105 : decode cX6_instruction 105 = .ok (.getfield 141, 3) := by decide +kernel
theorem dX6_instruction_108 : decode cX6_instruction 108 = .ok (.iload_n 1, 1) := by decide +kernel
theorem dX6_instruction_109 : decode cX6_instruction 109 = .ok (.iaload, 1) := by decide +kernel
theorem dX6_instruction_110 : decode cX6_instruction 110 = .ok (.ireturn, 1) := by decide +kernel
theorem dX6_instruction_111 : decode cX6_instruction 111 = .ok (.aload_n 3, 1) := by decide +kernel
theorem dX6_instruction_112 : decode cX6_instruction 112 = .ok (.iload_n 1, 1) := by decide +kernel
theorem dX6_instruction_113 : decode cX6_instruction 113 = .ok (.invokevirtual 144, 3) := by decide +kernel
theorem dX6_instruction_116 : decode cX6_instruction 116 = .ok (.ireturn, 1) := by decide +kernel
theorem dX6_instruction_117 : decode cX6_instruction 117 = .ok (.new 48, 3) := by decide +kernel
theorem dX6_instruction_120 : decode cX6_instruction 120 = .ok (.dup, 1) := by decide +kernel
theorem dX6_instruction_121 : decode cX6_instruction 121 = .ok (.ldc 147, 2) := by decide +kernel
theorem dX6_instruction_123 : decode cX6_instruction 123 = .ok (.invokespecial 52, 3) := by decide +kernel
theorem dX6_instruction_126 : decode cX6_instruction 126 = .ok (.athrow, 1) := by decide +kernel
theorem dX6_programCounter_0 : decode cX6_programCounter 0 = .ok (.aload_n 0, 1) := by decide +kernel
theorem dX6_programCounter_1 : decode cX6_programCounter 1 = .ok (.getfield 12, 3) := by decide +kernel
theorem dX6_programCounter_4 : decode cX6_programCounter 4 = .ok (.getfield 67, 3) := by decide +kernel
theorem dX6_programCounter_7 : decode cX6_programCounter 7 = .ok (.getfield 149, 3) := by decide +kernel
theorem dX6_programCounter_10 : decode cX6_programCounter 10 = .ok (.ireturn, 1) := by decide +kernel
set_option maxRecDepth 20000 in
theorem ggX6_willExecute_X4_copyFrom : GoodIn wsX6_willExecute wsX4_copyFrom := goodIn_r _ [8, 9, 10, 11, 12, 13, 14, 15, 16, 17, 18, 19, 47, 48, 49, 50, 51, 52, 53] (by decide +kernel) (by decide +kernel)
set_option maxRecDepth 20000 in
theorem gX6_willExecute_X4_copyFrom_n157 : GoodIn wsX6_willExecute (wsX4_copyFrom) := ggX6_willExecute_X4_copyFrom
set_option maxRecDepth 20000 in
theorem ggX6_willExecute_X4_step : GoodIn wsX6_willExecute wsX4_step := goodIn_r _ [22, 19, 9, 23, 24, 25, 6, 26, 16, 17, 15, 18, 27, 28, 29, 30, 14, 47, 48, 49, 50, 51, 52, 53] (by decide +kernel) (by decide +kernel)
set_option maxRecDepth 20000 in
theorem gX6_willExecute_X4_step_n161 : GoodIn wsX6_willExecute (wsX4_step) := ggX6_willExecute_X4_step
theorem dX6_willExecute_0 : decode cX6_willExecute 0 = .ok (.iload_n 1, 1) := by decide +kernel
theorem dX6_willExecute_1 : decode cX6_willExecute 1 = .ok (.ifCond .lt 9, 3) := by decide +kernel
theorem dX6_willExecute_4 : decode cX6_willExecute 4 = .ok (.iload_n 1, 1) := by decide +kernel
theorem dX6_willExecute_5 : decode cX6_willExecute 5 = .ok (.bipush 100, 2) := by decide +kernel
theorem dX6_willExecute_7 : decode cX6_willExecute 7 = .ok (.if_icmp .lt 13, 3) := by decide +kernel
theorem dX6_willExecute_10 : decode cX6_willExecute 10 = .ok (.new 152, 3) := by decide +kernel
theorem dX6_willExecute_13 : decode cX6_willExecute 13 = .ok (.dup, 1) := by decide +kernel
theorem dX6_willExecute_14 : decode cX6_willExecute 14 = .ok (.ldc 154, 2) := by decide +kernel
theorem dX6_willExecute_16 : decode cX6_willExecute 16 = .ok (.invokespecial 156, 3) := by decide +kernel
theorem dX6_willExecute_19 : decode cX6_willExecute 19 = .ok (.athrow, 1) := by decide +kernel
theorem dX6_willExecute_20 : decode cX6_willExecute 20 = .ok (.aload_n 0, 1) := by decide +kernel
theorem dX6_willExecute_21 : decode cX6_willExecute 21 = .ok (.getfield 40, 3) := by decide +kernel
theorem dX6_willExecute_24 : decode cX6_willExecute 24 = .ok (.aload_n 0, 1) := by decide +kernel
theorem dX6_willExecute_25 : decode cX6_willExecute 25 = .ok (.getfield 12, 3) := by decide +kernel
theorem dX6_willExecute_28 : decode cX6_willExecute 28 = .ok (.getfield 67, 3) := by decide +kernel
theorem dX6_willExecute_31 : decode cX6_willExecute 31 = .ok (.invokevirtual 157, 3) := by decide +kernel
theorem dX6_willExecute_34 : decode cX6_willExecute 34 = .ok (.iconst 0, 1) := by decide +kernel
theorem dX6_willExecute_35 : decode cX6_willExecute 35 = .ok (.istore_n 2, 1) := by decide +kernel
theorem dX6_willExecute_36 : decode cX6_willExecute 36 = .ok (.iload_n 2, 1) := by decide +kernel
theorem dX6_willExecute_37 : decode cX6_willExecute 37 = .ok (.iload_n 1, 1) := by decide +kernel
theorem dX6_willExecute_38 : decode cX6_willExecute 38 = .ok (.if_icmp .ge 17, 3) := by decide +kernel
theorem dX6_willExecute_41 : decode cX6_willExecute 41 = .ok (.aload_n 0, 1) := by decide +kernel
theorem dX6_willExecute_42 : decode cX6_willExecute 42 = .ok (.getfield 40, 3) := by decide +kernel
theorem dX6_willExecute_45 : decode cX6_willExecute 45 = .ok (.invokevirtual 161, 3) := by decide +kernel
theorem dX6_willExecute_48 : decode cX6_willExecute 48 = .ok (.pop, 1) := by decide +kernel
theorem dX6_willExecute_49 : decode cX6_willExecute 49 = .ok (.iinc 2 1, 3) := by decide +kernel
theorem dX6_willExecute_52 : decode cX6_willExecute 52 = .ok (.goto (-16), 3) := by decide +kernel
theorem dX6_willExecute_55 : decode cX6_willExecute 55 = .ok (.aload_n 0, 1) := by decide +kernel
theorem dX6_willExecute_56 : decode cX6_willExecute 56 = .ok (.getfield 40, 3) := by decide +kernel
theorem dX6_willExecute_59 : decode cX6_willExecute 59 = .ok (.getfield 149, 3) := by decide +kernel
theorem dX6_willExecute_62 : decode cX6_willExecute 62 = .ok (.ireturn, 1) := by decide +kernel
set_option maxRecDepth 20000 in
theorem ggX6_line_X0_usableSize : GoodIn wsX6_line wsX0_usableSize := goodIn_r _ [9, 10, 11, 12, 13, 14, 15, 16, 17, 18, 19, 20, 21, 22, 23, 24, 25, 26, 46, 47, 48, 49, 50, 51, 52, 53, 54, 55, 56, 57, 58, 59] (by decide +kernel) (by decide +kernel)
set_option maxRecDepth 20000 in
theorem gX6_line_X0_usableSize_n177 : GoodIn wsX6_line (wsX0_usableSize) := ggX6_line_X0_usableSize
set_option maxRecDepth 20000 in
theorem ggX6_line_X0_addressAt : GoodIn wsX6_line wsX0_addressAt := goodIn_r _ [29, 11, 10, 46, 47, 48, 49, 50, 51, 52] (by decide +kernel) (by decide +kernel)
set_option maxRecDepth 20000 in
theorem gX6_line_X0_addressAt_n184 : GoodIn wsX6_line (wsX0_addressAt) := ggX6_line_X0_addressAt
theorem dX6_line_0 : decode cX6_line 0 = .ok (.iload_n 1, 1) := by decide +kernel
theorem dX6_line_1 : decode cX6_line 1 = .ok (.ifCond .lt 17, 3) := by decide +kernel
theorem dX6_line_4 : decode cX6_line 4 = .ok (.iload_n 1, 1) := by decide +kernel
theorem dX6_line_5 : decode cX6_line 5 = .ok (.iconst 4, 1) := by decide +kernel
theorem dX6_line_6 : decode cX6_line 6 = .ok (.if_icmp .ge 12, 3) := by decide +kernel
theorem dX6_line_9 : decode cX6_line 9 = .ok (.iload_n 2, 1) := by decide +kernel
theorem dX6_line_10 : decode cX6_line 10 = .ok (.ifCond .lt 8, 3) := by decide +kernel
theorem dX6_line_13 : decode cX6_line 13 = .ok (.iload_n 2, 1) := by decide +kernel
theorem dX6_line_14 : decode cX6_line 14 = .ok (.iconst 2, 1) := by decide +kernel
theorem dX6_line_15 : decode cX6_line 15 = .ok (.if_icmp .lt 13, 3) := by decide +kernel
theorem dX6_line_18 : decode cX6_line 18 = .ok (.new 152, 3) := by decide +kernel
theorem dX6_line_21 : decode cX6_line 21 = .ok (.dup, 1) := by decide +kernel
theorem dX6_line_22 : decode cX6_line 22 = .ok (.ldc 164, 2) := by decide +kernel
theorem dX6_line_24 : decode cX6_line 24 = .ok (.invokespecial 156, 3) := by decide +kernel
theorem dX6_line_27 : decode cX6_line 27 = .ok (.athrow, 1) := by decide +kernel
theorem dX6_line_28 : decode cX6_line 28 = .ok (.iload_n 3, 1) := by decide +kernel
theorem dX6_line_29 : decode cX6_line 29 = .ok (.ifCond .lt 9, 3) := by decide +kernel
theorem dX6_line_32 : decode cX6_line 32 = .ok (.iload_n 3, 1) := by decide +kernel
theorem dX6_line_33 : decode cX6_line 33 = .ok (.bipush 10, 2) := by decide +kernel
theorem dX6_line_35 : decode cX6_line 35 = .ok (.if_icmp .le 13, 3) := by decide +kernel
theorem dX6_line_38 : decode cX6_line 38 = .ok (.new 48, 3) := by decide +kernel
theorem dX6_line_41 : decode cX6_line 41 = .ok (.dup, 1) := by decide +kernel
theorem dX6_line_42 : decode cX6_line 42 = .ok (.ldc 166, 2) := by decide +kernel
theorem dX6_line_44 : decode cX6_line 44 = .ok (.invokespecial 52, 3) := by decide +kernel
theorem dX6_line_47 : decode cX6_line 47 = .ok (.athrow, 1) := by decide +kernel
theorem dX6_line_48 : decode cX6_line 48 = .ok (.aload_n 0, 1) := by decide +kernel
theorem dX6_line_49 : decode cX6_line 49 = .ok (.getfield 12, 3) := by decide +kernel
theorem dX6_line_52 : decode cX6_line 52 = .ok (.getfield 168, 3) := by decide +kernel
theorem dX6_line_55 : decode cX6_line 55 = .ok (.astore 4, 2) := by decide +kernel
theorem dX6_line_57 : decode cX6_line 57 = .ok (.iload_n 1, 1) := by decide +kernel
theorem dX6_line_58 : decode cX6_line 58 = .ok (.iconst 2, 1) := by decide +kernel
theorem dX6_line_59 : decode cX6_line 59 = .ok (.imul, 1) := by decide +kernel
theorem dX6_line_60 : decode cX6_line 60 = .ok (.iload_n 2, 1) := by decide +kernel
theorem dX6_line_61 : decode cX6_line 61 = .ok (.iadd, 1) := by decide +kernel
theorem dX6_line_62 : decode cX6_line 62 = .ok (.istore 5, 2) := by decide +kernel
theorem dX6_line_64 : decode cX6_line 64 = .ok (.aload 4, 2) := by decide +kernel
theorem dX6_line_66 : decode cX6_line 66 = .ok (.getfield 172, 3) := by decide +kernel
theorem dX6_line_69 : decode cX6_line 69 = .ok (.iload 5, 2) := by decide +kernel
theorem dX6_line_71 : decode cX6_line 71 = .ok (.iaload, 1) := by decide +kernel
theorem dX6_line_72 : decode cX6_line 72 = .ok (.ifCond .ne 5, 3) := by decide +kernel
theorem dX6_line_75 : decode cX6_line 75 = .ok (.iconst (-1), 1) := by decide +kernel
theorem dX6_line_76 : decode cX6_line 76 = .ok (.ireturn, 1) := by decide +kernel
theorem dX6_line_77 : decode cX6_line 77 = .ok (.iload_n 3, 1) := by decide +kernel
theorem dX6_line_78 : decode cX6_line 78 = .ok (.tableswitch 59 0 2 #[26, 35, 50], 26) := by decide +kernel
theorem dX6_line_104 : decode cX6_line 104 = .ok (.aload 4, 2) := by decide +kernel
theorem dX6_line_106 : decode cX6_line 106 = .ok (.getfield 172, 3) := by decide +kernel
theorem dX6_line_109 : decode cX6_line 109 = .ok (.iload 5, 2) := by decide +kernel
theorem dX6_line_111 : decode cX6_line 111 = .ok (.iaload, 1) := by decide +kernel
theorem dX6_line_112 : decode cX6_line 112 = .ok (.ireturn, 1) := by decide +kernel
theorem dX6_line_113 : decode cX6_line 113 = .ok (.aload 4, 2) := by decide +kernel
theorem dX6_line_115 : decode cX6_line 115 = .ok (.iload 5, 2) := by decide +kernel
theorem dX6_line_117 : decode cX6_line 117 = .ok (.aload_n 0, 1) := by decide +kernel
theorem dX6_line_118 : decode cX6_line 118 = .ok (.getfield 12, 3) := by decide +kernel
theorem dX6_line_121 : decode cX6_line 121 = .ok (.getfield 67, 3) := by decide +kernel
theorem dX6_line_124 : decode cX6_line 124 = .ok (.invokevirtual 177, 3) := by decide +kernel
theorem dX6_line_127 : decode cX6_line 127 = .ok (.ireturn, 1) := by decide +kernel
theorem dX6_line_128 : decode cX6_line 128 = .ok (.aload 4, 2) := by decide +kernel
theorem dX6_line_130 : decode cX6_line 130 = .ok (.getfield 181, 3) := by decide +kernel
theorem dX6_line_133 : decode cX6_line 133 = .ok (.iload 5, 2) := by decide +kernel
theorem dX6_line_135 : decode cX6_line 135 = .ok (.iaload, 1) := by decide +kernel
theorem dX6_line_136 : decode cX6_line 136 = .ok (.ireturn, 1) := by decide +kernel
theorem dX6_line_137 : decode cX6_line 137 = .ok (.aload 4, 2) := by decide +kernel
theorem dX6_line_139 : decode cX6_line 139 = .ok (.iload 5, 2) := by decide +kernel
theorem dX6_line_141 : decode cX6_line 141 = .ok (.iload_n 3, 1) := by decide +kernel
theorem dX6_line_142 : decode cX6_line 142 = .ok (.iconst 3, 1) := by decide +kernel
theorem dX6_line_143 : decode cX6_line 143 = .ok (.isub, 1) := by decide +kernel
theorem dX6_line_144 : decode cX6_line 144 = .ok (.invokevirtual 184, 3) := by decide +kernel
theorem dX6_line_147 : decode cX6_line 147 = .ok (.ireturn, 1) := by decide +kernel
set_option maxRecDepth 20000 in
theorem ggX6_pending_X3_pendingAt : GoodIn wsX6_pending wsX3_pendingAt := goodIn_r _ [7, 8, 9, 15, 16, 17, 18, 19, 20, 21, 22, 23, 24, 25] (by decide +kernel) (by decide +kernel)
set_option maxRecDepth 20000 in
theorem gX6_pending_X3_pendingAt_n190 : GoodIn wsX6_pending (wsX3_pendingAt) := ggX6_pending_X3_pendingAt
theorem dX6_pending_0 : decode cX6_pending 0 = .ok (.iload_n 1, 1) := by decide +kernel
theorem dX6_pending_1 : decode cX6_pending 1 = .ok (.ifCond .ge 13, 3) := by decide +kernel
theorem dX6_pending_4 : decode cX6_pending 4 = .ok (.new 152, 3) := by decide +kernel
theorem dX6_pending_7 : decode cX6_pending 7 = .ok (.dup, 1) := by decide +kernel
theorem dX6_pending_8 : decode cX6_pending 8 = .ok (.ldc 188, 2) := by decide +kernel
theorem dX6_pending_10 : decode cX6_pending 10 = .ok (.invokespecial 156, 3) := by decide +kernel
theorem dX6_pending_13 : decode cX6_pending 13 = .ok (.athrow, 1) := by decide +kernel
theorem dX6_pending_14 : decode cX6_pending 14 = .ok (.aload_n 0, 1) := by decide +kernel
theorem dX6_pending_15 : decode cX6_pending 15 = .ok (.getfield 12, 3) := by decide +kernel
theorem dX6_pending_18 : decode cX6_pending 18 = .ok (.iload_n 1, 1) := by decide +kernel
theorem dX6_pending_19 : decode cX6_pending 19 = .ok (.invokevirtual 190, 3) := by decide +kernel
theorem dX6_pending_22 : decode cX6_pending 22 = .ok (.ireturn, 1) := by decide +kernel
set_option maxRecDepth 20000 in
theorem ggX6_lines_X0_filled : GoodIn wsX6_lines wsX0_filled := goodIn_r _ [5, 6, 23, 24, 25, 26, 27, 28, 29] (by decide +kernel) (by decide +kernel)
set_option maxRecDepth 20000 in
theorem gX6_lines_X0_filled_n193 : GoodIn wsX6_lines (wsX0_filled) := ggX6_lines_X0_filled
theorem dX6_lines_0 : decode cX6_lines 0 = .ok (.aload_n 0, 1) := by decide +kernel
theorem dX6_lines_1 : decode cX6_lines 1 = .ok (.getfield 12, 3) := by decide +kernel
theorem dX6_lines_4 : decode cX6_lines 4 = .ok (.getfield 168, 3) := by decide +kernel
theorem dX6_lines_7 : decode cX6_lines 7 = .ok (.invokevirtual 193, 3) := by decide +kernel
theorem dX6_lines_10 : decode cX6_lines 10 = .ok (.ireturn, 1) := by decide +kernel
set_option maxRecDepth 20000 in
theorem ggX6_linesWith_X6_requireAddress : GoodIn wsX6_linesWith wsX6_requireAddress := goodIn_ca (goodIn_r _ [5, 6, 7] (by decide +kernel) (by decide +kernel)) (goodIn_sub (fun _ h => List.mem_cons_of_mem _ (List.mem_append_right _ h)) (by decide +kernel))
set_option maxRecDepth 20000 in
theorem gX6_linesWith_X6_requireAddress : GoodIn wsX6_linesWith (va_wsS RX6 44 yX6_requireAddress wsX6_requireAddress) := goodIn_app (goodIn_of _ (by decide +kernel)) ggX6_linesWith_X6_requireAddress
set_option maxRecDepth 20000 in
theorem ggX6_linesWith_X0_holding : GoodIn wsX6_linesWith wsX0_holding := goodIn_r _ [11, 12, 13, 14, 9, 15, 16, 17, 34, 35, 36, 37, 38, 39, 40] (by decide +kernel) (by decide +kernel)
set_option maxRecDepth 20000 in
theorem gX6_linesWith_X0_holding_n196 : GoodIn wsX6_linesWith (wsX0_holding) := ggX6_linesWith_X0_holding
theorem dX6_linesWith_0 : decode cX6_linesWith 0 = .ok (.iload_n 1, 1) := by decide +kernel
theorem dX6_linesWith_1 : decode cX6_linesWith 1 = .ok (.invokestatic 44, 3) := by decide +kernel
theorem dX6_linesWith_4 : decode cX6_linesWith 4 = .ok (.aload_n 0, 1) := by decide +kernel
theorem dX6_linesWith_5 : decode cX6_linesWith 5 = .ok (.getfield 12, 3) := by decide +kernel
theorem dX6_linesWith_8 : decode cX6_linesWith 8 = .ok (.getfield 168, 3) := by decide +kernel
theorem dX6_linesWith_11 : decode cX6_linesWith 11 = .ok (.iload_n 1, 1) := by decide +kernel
theorem dX6_linesWith_12 : decode cX6_linesWith 12 = .ok (.invokevirtual 196, 3) := by decide +kernel
theorem dX6_linesWith_15 : decode cX6_linesWith 15 = .ok (.ireturn, 1) := by decide +kernel
set_option maxRecDepth 20000 in
theorem ggX6_nextFetch_X1_choose : GoodIn wsX6_nextFetch wsX1_choose := goodIn_r _ [9, 10, 11, 12, 13, 14, 15, 16, 17, 18, 19, 20, 21, 22, 23, 24, 25, 26, 27, 28, 29, 30, 31, 32, 33, 34, 35, 36, 37, 38, 39, 40, 41, 42, 43, 44, 45, 46, 7, 47, 90, 91, 92, 93, 94, 95, 96, 84, 85, 86, 87, 88, 89, 97, 98, 99, 100, 101, 102, 103] (by decide +kernel) (by decide +kernel)
set_option maxRecDepth 20000 in
theorem gX6_nextFetch_X1_choose_n201 : GoodIn wsX6_nextFetch (wsX1_choose) := ggX6_nextFetch_X1_choose
set_option maxRecDepth 20000 in
theorem ggX6_nextFetch_X4_copyFrom : GoodIn wsX6_nextFetch wsX4_copyFrom := goodIn_r _ [50, 37, 51, 14, 15, 16, 43, 52, 53, 54, 38, 55, 90, 91, 92, 93, 94, 95, 96] (by decide +kernel) (by decide +kernel)
set_option maxRecDepth 20000 in
theorem gX6_nextFetch_X4_copyFrom_n157 : GoodIn wsX6_nextFetch (wsX4_copyFrom) := ggX6_nextFetch_X4_copyFrom
set_option maxRecDepth 20000 in
theorem ggX6_nextFetch_X1_execute : GoodIn wsX6_nextFetch wsX1_execute := goodIn_r _ [58, 59, 60, 11, 12, 17, 61, 30, 62, 63, 55, 37, 64, 65, 66, 67, 53, 54, 52, 38, 39, 40, 41, 42, 43, 84, 85, 86, 87, 88, 89, 90, 91, 92, 93, 94, 95, 96] (by decide +kernel) (by decide +kernel)
set_option maxRecDepth 20000 in
theorem gX6_nextFetch_X1_execute_n209 : GoodIn wsX6_nextFetch (wsX1_execute) := ggX6_nextFetch_X1_execute
theorem dX6_nextFetch_0 : decode cX6_nextFetch 0 = .ok (.iload_n 1, 1) := by decide +kernel
theorem dX6_nextFetch_1 : decode cX6_nextFetch 1 = .ok (.ifCond .lt 8, 3) := by decide +kernel
theorem dX6_nextFetch_4 : decode cX6_nextFetch 4 = .ok (.iload_n 1, 1) := by decide +kernel
theorem dX6_nextFetch_5 : decode cX6_nextFetch 5 = .ok (.iconst 3, 1) := by decide +kernel
theorem dX6_nextFetch_6 : decode cX6_nextFetch 6 = .ok (.if_icmp .le 13, 3) := by decide +kernel
theorem dX6_nextFetch_9 : decode cX6_nextFetch 9 = .ok (.new 48, 3) := by decide +kernel
theorem dX6_nextFetch_12 : decode cX6_nextFetch 12 = .ok (.dup, 1) := by decide +kernel
theorem dX6_nextFetch_13 : decode cX6_nextFetch 13 = .ok (.ldc 199, 2) := by decide +kernel
theorem dX6_nextFetch_15 : decode cX6_nextFetch 15 = .ok (.invokespecial 52, 3) := by decide +kernel
theorem dX6_nextFetch_18 : decode cX6_nextFetch 18 = .ok (.athrow, 1) := by decide +kernel
theorem dX6_nextFetch_19 : decode cX6_nextFetch 19 = .ok (.aload_n 0, 1) := by decide +kernel
theorem dX6_nextFetch_20 : decode cX6_nextFetch 20 = .ok (.getfield 33, 3) := by decide +kernel
theorem dX6_nextFetch_23 : decode cX6_nextFetch 23 = .ok (.aload_n 0, 1) := by decide +kernel
theorem dX6_nextFetch_24 : decode cX6_nextFetch 24 = .ok (.getfield 12, 3) := by decide +kernel
theorem dX6_nextFetch_27 : decode cX6_nextFetch 27 = .ok (.getfield 67, 3) := by decide +kernel
theorem dX6_nextFetch_30 : decode cX6_nextFetch 30 = .ok (.aload_n 0, 1) := by decide +kernel
theorem dX6_nextFetch_31 : decode cX6_nextFetch 31 = .ok (.getfield 12, 3) := by decide +kernel
theorem dX6_nextFetch_34 : decode cX6_nextFetch 34 = .ok (.getfield 168, 3) := by decide +kernel
theorem dX6_nextFetch_37 : decode cX6_nextFetch 37 = .ok (.invokevirtual 201, 3) := by decide +kernel
theorem dX6_nextFetch_40 : decode cX6_nextFetch 40 = .ok (.iload_n 1, 1) := by decide +kernel
theorem dX6_nextFetch_41 : decode cX6_nextFetch 41 = .ok (.ifCond .ne 28, 3) := by decide +kernel
theorem dX6_nextFetch_44 : decode cX6_nextFetch 44 = .ok (.aload_n 0, 1) := by decide +kernel
theorem dX6_nextFetch_45 : decode cX6_nextFetch 45 = .ok (.getfield 33, 3) := by decide +kernel
theorem dX6_nextFetch_48 : decode cX6_nextFetch 48 = .ok (.getfield 205, 3) := by decide +kernel
theorem dX6_nextFetch_51 : decode cX6_nextFetch 51 = .ok (.iconst (-1), 1) := by decide +kernel
theorem dX6_nextFetch_52 : decode cX6_nextFetch 52 = .ok (.if_icmp .ne 7, 3) := by decide +kernel
theorem dX6_nextFetch_55 : decode cX6_nextFetch 55 = .ok (.iconst (-1), 1) := by decide +kernel
theorem dX6_nextFetch_56 : decode cX6_nextFetch 56 = .ok (.goto 12, 3) := by decide +kernel
theorem dX6_nextFetch_59 : decode cX6_nextFetch 59 = .ok (.aload_n 0, 1) := by decide +kernel
theorem dX6_nextFetch_60 : decode cX6_nextFetch 60 = .ok (.getfield 33, 3) := by decide +kernel
theorem dX6_nextFetch_63 : decode cX6_nextFetch 63 = .ok (.getfield 205, 3) := by decide +kernel
theorem dX6_nextFetch_66 : decode cX6_nextFetch 66 = .ok (.iconst 2, 1) := by decide +kernel
theorem dX6_nextFetch_67 : decode cX6_nextFetch 67 = .ok (.irem, 1) := by decide +kernel
theorem dX6_nextFetch_68 : decode cX6_nextFetch 68 = .ok (.ireturn, 1) := by decide +kernel
theorem dX6_nextFetch_69 : decode cX6_nextFetch 69 = .ok (.iload_n 1, 1) := by decide +kernel
theorem dX6_nextFetch_70 : decode cX6_nextFetch 70 = .ok (.iconst 1, 1) := by decide +kernel
theorem dX6_nextFetch_71 : decode cX6_nextFetch 71 = .ok (.if_icmp .ne 11, 3) := by decide +kernel
theorem dX6_nextFetch_74 : decode cX6_nextFetch 74 = .ok (.aload_n 0, 1) := by decide +kernel
theorem dX6_nextFetch_75 : decode cX6_nextFetch 75 = .ok (.getfield 33, 3) := by decide +kernel
theorem dX6_nextFetch_78 : decode cX6_nextFetch 78 = .ok (.getfield 208, 3) := by decide +kernel
theorem dX6_nextFetch_81 : decode cX6_nextFetch 81 = .ok (.ireturn, 1) := by decide +kernel
theorem dX6_nextFetch_82 : decode cX6_nextFetch 82 = .ok (.aload_n 0, 1) := by decide +kernel
theorem dX6_nextFetch_83 : decode cX6_nextFetch 83 = .ok (.getfield 40, 3) := by decide +kernel
theorem dX6_nextFetch_86 : decode cX6_nextFetch 86 = .ok (.aload_n 0, 1) := by decide +kernel
theorem dX6_nextFetch_87 : decode cX6_nextFetch 87 = .ok (.getfield 12, 3) := by decide +kernel
theorem dX6_nextFetch_90 : decode cX6_nextFetch 90 = .ok (.getfield 67, 3) := by decide +kernel
theorem dX6_nextFetch_93 : decode cX6_nextFetch 93 = .ok (.invokevirtual 157, 3) := by decide +kernel
theorem dX6_nextFetch_96 : decode cX6_nextFetch 96 = .ok (.aload_n 0, 1) := by decide +kernel
theorem dX6_nextFetch_97 : decode cX6_nextFetch 97 = .ok (.getfield 33, 3) := by decide +kernel
theorem dX6_nextFetch_100 : decode cX6_nextFetch 100 = .ok (.aload_n 0, 1) := by decide +kernel
theorem dX6_nextFetch_101 : decode cX6_nextFetch 101 = .ok (.getfield 40, 3) := by decide +kernel
theorem dX6_nextFetch_104 : decode cX6_nextFetch 104 = .ok (.invokevirtual 209, 3) := by decide +kernel
theorem dX6_nextFetch_107 : decode cX6_nextFetch 107 = .ok (.iload_n 1, 1) := by decide +kernel
theorem dX6_nextFetch_108 : decode cX6_nextFetch 108 = .ok (.iconst 2, 1) := by decide +kernel
theorem dX6_nextFetch_109 : decode cX6_nextFetch 109 = .ok (.if_icmp .ne 13, 3) := by decide +kernel
theorem dX6_nextFetch_112 : decode cX6_nextFetch 112 = .ok (.aload_n 0, 1) := by decide +kernel
theorem dX6_nextFetch_113 : decode cX6_nextFetch 113 = .ok (.getfield 33, 3) := by decide +kernel
theorem dX6_nextFetch_116 : decode cX6_nextFetch 116 = .ok (.getfield 212, 3) := by decide +kernel
theorem dX6_nextFetch_119 : decode cX6_nextFetch 119 = .ok (.goto 10, 3) := by decide +kernel
theorem dX6_nextFetch_122 : decode cX6_nextFetch 122 = .ok (.aload_n 0, 1) := by decide +kernel
theorem dX6_nextFetch_123 : decode cX6_nextFetch 123 = .ok (.getfield 33, 3) := by decide +kernel
theorem dX6_nextFetch_126 : decode cX6_nextFetch 126 = .ok (.getfield 215, 3) := by decide +kernel
theorem dX6_nextFetch_129 : decode cX6_nextFetch 129 = .ok (.ireturn, 1) := by decide +kernel
set_option maxRecDepth 20000 in
theorem ggX6_wouldFetch_X1_choose : GoodIn wsX6_wouldFetch wsX1_choose := goodIn_r _ [8, 9, 10, 11, 12, 13, 14, 15, 16, 17, 18, 19, 20, 21, 22, 23, 24, 25, 26, 27, 28, 29, 30, 31, 32, 33, 34, 35, 36, 37, 38, 39, 40, 41, 42, 43, 44, 45, 6, 46, 69, 70, 71, 72, 73, 74, 75, 63, 64, 65, 66, 67, 68, 76, 77, 78, 79, 80, 81, 82] (by decide +kernel) (by decide +kernel)
set_option maxRecDepth 20000 in
theorem gX6_wouldFetch_X1_choose_n201 : GoodIn wsX6_wouldFetch (wsX1_choose) := ggX6_wouldFetch_X1_choose
theorem dX6_wouldFetch_0 : decode cX6_wouldFetch 0 = .ok (.iload_n 1, 1) := by decide +kernel
theorem dX6_wouldFetch_1 : decode cX6_wouldFetch 1 = .ok (.ifCond .ge 13, 3) := by decide +kernel
theorem dX6_wouldFetch_4 : decode cX6_wouldFetch 4 = .ok (.new 152, 3) := by decide +kernel
theorem dX6_wouldFetch_7 : decode cX6_wouldFetch 7 = .ok (.dup, 1) := by decide +kernel
theorem dX6_wouldFetch_8 : decode cX6_wouldFetch 8 = .ok (.ldc 188, 2) := by decide +kernel
theorem dX6_wouldFetch_10 : decode cX6_wouldFetch 10 = .ok (.invokespecial 156, 3) := by decide +kernel
theorem dX6_wouldFetch_13 : decode cX6_wouldFetch 13 = .ok (.athrow, 1) := by decide +kernel
theorem dX6_wouldFetch_14 : decode cX6_wouldFetch 14 = .ok (.aload_n 0, 1) := by decide +kernel
theorem dX6_wouldFetch_15 : decode cX6_wouldFetch 15 = .ok (.getfield 33, 3) := by decide +kernel
theorem dX6_wouldFetch_18 : decode cX6_wouldFetch 18 = .ok (.aload_n 0, 1) := by decide +kernel
theorem dX6_wouldFetch_19 : decode cX6_wouldFetch 19 = .ok (.getfield 12, 3) := by decide +kernel
theorem dX6_wouldFetch_22 : decode cX6_wouldFetch 22 = .ok (.getfield 67, 3) := by decide +kernel
theorem dX6_wouldFetch_25 : decode cX6_wouldFetch 25 = .ok (.aload_n 0, 1) := by decide +kernel
theorem dX6_wouldFetch_26 : decode cX6_wouldFetch 26 = .ok (.getfield 12, 3) := by decide +kernel
theorem dX6_wouldFetch_29 : decode cX6_wouldFetch 29 = .ok (.getfield 168, 3) := by decide +kernel
theorem dX6_wouldFetch_32 : decode cX6_wouldFetch 32 = .ok (.invokevirtual 201, 3) := by decide +kernel
theorem dX6_wouldFetch_35 : decode cX6_wouldFetch 35 = .ok (.iload_n 1, 1) := by decide +kernel
theorem dX6_wouldFetch_36 : decode cX6_wouldFetch 36 = .ok (.aload_n 0, 1) := by decide +kernel
theorem dX6_wouldFetch_37 : decode cX6_wouldFetch 37 = .ok (.getfield 33, 3) := by decide +kernel
theorem dX6_wouldFetch_40 : decode cX6_wouldFetch 40 = .ok (.getfield 208, 3) := by decide +kernel
theorem dX6_wouldFetch_43 : decode cX6_wouldFetch 43 = .ok (.if_icmp .ge 15, 3) := by decide +kernel
theorem dX6_wouldFetch_46 : decode cX6_wouldFetch 46 = .ok (.aload_n 0, 1) := by decide +kernel
theorem dX6_wouldFetch_47 : decode cX6_wouldFetch 47 = .ok (.getfield 33, 3) := by decide +kernel
theorem dX6_wouldFetch_50 : decode cX6_wouldFetch 50 = .ok (.getfield 218, 3) := by decide +kernel
theorem dX6_wouldFetch_53 : decode cX6_wouldFetch 53 = .ok (.iload_n 1, 1) := by decide +kernel
theorem dX6_wouldFetch_54 : decode cX6_wouldFetch 54 = .ok (.iaload, 1) := by decide +kernel
theorem dX6_wouldFetch_55 : decode cX6_wouldFetch 55 = .ok (.goto 4, 3) := by decide +kernel
theorem dX6_wouldFetch_58 : decode cX6_wouldFetch 58 = .ok (.iconst (-1), 1) := by decide +kernel
theorem dX6_wouldFetch_59 : decode cX6_wouldFetch 59 = .ok (.ireturn, 1) := by decide +kernel
theorem dX6_count_0 : decode cX6_count 0 = .ok (.iload_n 1, 1) := by decide +kernel
theorem dX6_count_1 : decode cX6_count 1 = .ok (.tableswitch 144 0 9 #[55, 63, 71, 79, 87, 95, 103, 111, 122, 133], 55) := by decide +kernel
theorem dX6_count_56 : decode cX6_count 56 = .ok (.aload_n 0, 1) := by decide +kernel
theorem dX6_count_57 : decode cX6_count 57 = .ok (.getfield 12, 3) := by decide +kernel
theorem dX6_count_60 : decode cX6_count 60 = .ok (.getfield 221, 3) := by decide +kernel
theorem dX6_count_63 : decode cX6_count 63 = .ok (.ireturn, 1) := by decide +kernel
theorem dX6_count_64 : decode cX6_count 64 = .ok (.aload_n 0, 1) := by decide +kernel
theorem dX6_count_65 : decode cX6_count 65 = .ok (.getfield 12, 3) := by decide +kernel
theorem dX6_count_68 : decode cX6_count 68 = .ok (.getfield 224, 3) := by decide +kernel
theorem dX6_count_71 : decode cX6_count 71 = .ok (.ireturn, 1) := by decide +kernel
theorem dX6_count_72 : decode cX6_count 72 = .ok (.aload_n 0, 1) := by decide +kernel
theorem dX6_count_73 : decode cX6_count 73 = .ok (.getfield 12, 3) := by decide +kernel
theorem dX6_count_76 : decode cX6_count 76 = .ok (.getfield 227, 3) := by decide +kernel
theorem dX6_count_79 : decode cX6_count 79 = .ok (.ireturn, 1) := by decide +kernel
theorem dX6_count_80 : decode cX6_count 80 = .ok (.aload_n 0, 1) := by decide +kernel
theorem dX6_count_81 : decode cX6_count 81 = .ok (.getfield 12, 3) := by decide +kernel
theorem dX6_count_84 : decode cX6_count 84 = .ok (.getfield 228, 3) := by decide +kernel
theorem dX6_count_87 : decode cX6_count 87 = .ok (.ireturn, 1) := by decide +kernel
theorem dX6_count_88 : decode cX6_count 88 = .ok (.aload_n 0, 1) := by decide +kernel
theorem dX6_count_89 : decode cX6_count 89 = .ok (.getfield 12, 3) := by decide +kernel
theorem dX6_count_92 : decode cX6_count 92 = .ok (.getfield 231, 3) := by decide +kernel
theorem dX6_count_95 : decode cX6_count 95 = .ok (.ireturn, 1) := by decide +kernel
theorem dX6_count_96 : decode cX6_count 96 = .ok (.aload_n 0, 1) := by decide +kernel
theorem dX6_count_97 : decode cX6_count 97 = .ok (.getfield 12, 3) := by decide +kernel
theorem dX6_count_100 : decode cX6_count 100 = .ok (.getfield 232, 3) := by decide +kernel
theorem dX6_count_103 : decode cX6_count 103 = .ok (.ireturn, 1) := by decide +kernel
theorem dX6_count_104 : decode cX6_count 104 = .ok (.aload_n 0, 1) := by decide +kernel
theorem dX6_count_105 : decode cX6_count 105 = .ok (.getfield 12, 3) := by decide +kernel
theorem dX6_count_108 : decode cX6_count 108 = .ok (.getfield 235, 3) := by decide +kernel
theorem dX6_count_111 : decode cX6_count 111 = .ok (.ireturn, 1) := by decide +kernel
theorem dX6_count_112 : decode cX6_count 112 = .ok (.aload_n 0, 1) := by decide +kernel
theorem dX6_count_113 : decode cX6_count 113 = .ok (.getfield 12, 3) := by decide +kernel
theorem dX6_count_116 : decode cX6_count 116 = .ok (.getfield 168, 3) := by decide +kernel
theorem dX6_count_119 : decode cX6_count 119 = .ok (.getfield 238, 3) := by decide +kernel
theorem dX6_count_122 : decode cX6_count 122 = .ok (.ireturn, 1) := by decide +kernel
theorem dX6_count_123 : decode cX6_count 123 = .ok (.aload_n 0, 1) := by decide +kernel
theorem dX6_count_124 : decode cX6_count 124 = .ok (.getfield 12, 3) := by decide +kernel
theorem dX6_count_127 : decode cX6_count 127 = .ok (.getfield 168, 3) := by decide +kernel
theorem dX6_count_130 : decode cX6_count 130 = .ok (.getfield 240, 3) := by decide +kernel
theorem dX6_count_133 : decode cX6_count 133 = .ok (.ireturn, 1) := by decide +kernel
theorem dX6_count_134 : decode cX6_count 134 = .ok (.aload_n 0, 1) := by decide +kernel
theorem dX6_count_135 : decode cX6_count 135 = .ok (.getfield 12, 3) := by decide +kernel
theorem dX6_count_138 : decode cX6_count 138 = .ok (.getfield 168, 3) := by decide +kernel
theorem dX6_count_141 : decode cX6_count 141 = .ok (.getfield 243, 3) := by decide +kernel
theorem dX6_count_144 : decode cX6_count 144 = .ok (.ireturn, 1) := by decide +kernel
theorem dX6_count_145 : decode cX6_count 145 = .ok (.new 48, 3) := by decide +kernel
theorem dX6_count_148 : decode cX6_count 148 = .ok (.dup, 1) := by decide +kernel
theorem dX6_count_149 : decode cX6_count 149 = .ok (.ldc 246, 2) := by decide +kernel
theorem dX6_count_151 : decode cX6_count 151 = .ok (.invokespecial 52, 3) := by decide +kernel
theorem dX6_count_154 : decode cX6_count 154 = .ok (.athrow, 1) := by decide +kernel
theorem dX6_rate_0 : decode cX6_rate 0 = .ok (.aload_n 0, 1) := by decide +kernel
theorem dX6_rate_1 : decode cX6_rate 1 = .ok (.getfield 12, 3) := by decide +kernel
theorem dX6_rate_4 : decode cX6_rate 4 = .ok (.getfield 221, 3) := by decide +kernel
theorem dX6_rate_7 : decode cX6_rate 7 = .ok (.ifCond .ne 7, 3) := by decide +kernel
theorem dX6_rate_10 : decode cX6_rate 10 = .ok (.dconst 0, 1) := by decide +kernel
theorem dX6_rate_11 : decode cX6_rate 11 = .ok (.goto 20, 3) := by decide +kernel
theorem dX6_rate_14 : decode cX6_rate 14 = .ok (.aload_n 0, 1) := by decide +kernel
theorem dX6_rate_15 : decode cX6_rate 15 = .ok (.getfield 12, 3) := by decide +kernel
theorem dX6_rate_18 : decode cX6_rate 18 = .ok (.getfield 227, 3) := by decide +kernel
theorem dX6_rate_21 : decode cX6_rate 21 = .ok (.i2d, 1) := by decide +kernel
theorem dX6_rate_22 : decode cX6_rate 22 = .ok (.aload_n 0, 1) := by decide +kernel
theorem dX6_rate_23 : decode cX6_rate 23 = .ok (.getfield 12, 3) := by decide +kernel
theorem dX6_rate_26 : decode cX6_rate 26 = .ok (.getfield 221, 3) := by decide +kernel
theorem dX6_rate_29 : decode cX6_rate 29 = .ok (.i2d, 1) := by decide +kernel
theorem dX6_rate_30 : decode cX6_rate 30 = .ok (.ddiv, 1) := by decide +kernel
theorem dX6_rate_31 : decode cX6_rate 31 = .ok (.dreturn, 1) := by decide +kernel
theorem dX6_savedStates_0 : decode cX6_savedStates 0 = .ok (.aload_n 0, 1) := by decide +kernel
theorem dX6_savedStates_1 : decode cX6_savedStates 1 = .ok (.getfield 19, 3) := by decide +kernel
theorem dX6_savedStates_4 : decode cX6_savedStates 4 = .ok (.getfield 117, 3) := by decide +kernel
theorem dX6_savedStates_7 : decode cX6_savedStates 7 = .ok (.ireturn, 1) := by decide +kernel
theorem dX6_textLength_0 : decode cX6_textLength 0 = .ok (.aload_n 0, 1) := by decide +kernel
theorem dX6_textLength_1 : decode cX6_textLength 1 = .ok (.getfield 26, 3) := by decide +kernel
theorem dX6_textLength_4 : decode cX6_textLength 4 = .ok (.getfield 98, 3) := by decide +kernel
theorem dX6_textLength_7 : decode cX6_textLength 7 = .ok (.ireturn, 1) := by decide +kernel
theorem dX6_requireAddress_0 : decode cX6_requireAddress 0 = .ok (.iload_n 0, 1) := by decide +kernel
theorem dX6_requireAddress_1 : decode cX6_requireAddress 1 = .ok (.ifCond .lt 9, 3) := by decide +kernel
theorem dX6_requireAddress_4 : decode cX6_requireAddress 4 = .ok (.iload_n 0, 1) := by decide +kernel
theorem dX6_requireAddress_5 : decode cX6_requireAddress 5 = .ok (.bipush 48, 2) := by decide +kernel
theorem dX6_requireAddress_7 : decode cX6_requireAddress 7 = .ok (.if_icmp .lt 13, 3) := by decide +kernel
theorem dX6_requireAddress_10 : decode cX6_requireAddress 10 = .ok (.new 152, 3) := by decide +kernel
theorem dX6_requireAddress_13 : decode cX6_requireAddress 13 = .ok (.dup, 1) := by decide +kernel
theorem dX6_requireAddress_14 : decode cX6_requireAddress 14 = .ok (.ldc 248, 2) := by decide +kernel
theorem dX6_requireAddress_16 : decode cX6_requireAddress 16 = .ok (.invokespecial 156, 3) := by decide +kernel
theorem dX6_requireAddress_19 : decode cX6_requireAddress 19 = .ok (.athrow, 1) := by decide +kernel
theorem dX6_requireAddress_20 : decode cX6_requireAddress 20 = .ok (.return_, 1) := by decide +kernel
set_option maxRecDepth 20000 in
theorem ggX6_perform_X3_runFetches : GoodIn wsX6_perform wsX3_runFetches := goodIn_r _ [7, 8, 9, 10, 11, 12, 13, 14, 15, 16, 17, 18, 19, 20, 21, 22, 23, 24, 25, 26, 27, 28, 29, 30, 31, 32, 33, 34, 35, 36, 37, 38, 39, 40, 41, 42, 43, 44, 45, 46, 47, 48, 49, 50, 51, 52, 53, 54, 55, 56, 57, 58, 59, 60, 61, 62, 63, 64, 65, 66, 67, 68, 69, 70, 71, 72, 73, 74, 75, 76, 5, 77, 78, 79, 80, 81, 82, 83, 84, 85, 86, 87, 88, 89, 90, 91, 92, 93, 94, 95, 96, 97, 98, 99, 100, 101, 102, 103, 104, 105, 106, 107, 108, 109, 140, 141, 142, 143, 144, 145, 146, 147, 148, 149, 150, 151, 152, 153, 154, 155, 156, 157, 158, 159, 160, 161, 162, 163, 164, 165, 166, 167, 168, 169, 170] (by decide +kernel) (by decide +kernel)
set_option maxRecDepth 20000 in
theorem gX6_perform_X3_runFetches_n79 : GoodIn wsX6_perform (wsX3_runFetches) := ggX6_perform_X3_runFetches
set_option maxRecDepth 20000 in
theorem ggX6_perform_X4_replacePattern : GoodIn wsX6_perform wsX4_replacePattern := goodIn_r _ [112, 72, 73, 71, 157, 158, 159, 160, 161, 162, 163] (by decide +kernel) (by decide +kernel)
set_option maxRecDepth 20000 in
theorem gX6_perform_X4_replacePattern_n70 : GoodIn wsX6_perform (wsX4_replacePattern) := ggX6_perform_X4_replacePattern
set_option maxRecDepth 20000 in
theorem ggX6_perform_X3_put : GoodIn wsX6_perform wsX3_put := goodIn_r _ [115, 9, 88, 10, 116, 117, 118, 5, 119, 89, 120, 24, 121, 122, 29, 123, 124, 125, 126, 127, 30, 140, 141, 142, 143, 144, 145, 146, 147, 148, 149, 150, 157, 158, 159, 160, 161, 162, 163, 164, 165, 166, 167, 168, 169, 170] (by decide +kernel) (by decide +kernel)
set_option maxRecDepth 20000 in
theorem gX6_perform_X3_put_n59 : GoodIn wsX6_perform (wsX3_put) := ggX6_perform_X3_put
theorem dX6_perform_0 : decode cX6_perform 0 = .ok (.aload_n 0, 1) := by decide +kernel
theorem dX6_perform_1 : decode cX6_perform 1 = .ok (.getfield 26, 3) := by decide +kernel
theorem dX6_perform_4 : decode cX6_perform 4 = .ok (.getfield 250, 3) := by decide +kernel
theorem dX6_perform_7 : decode cX6_perform 7 = .ok (.lookupswitch 144 #[(98, 119), (106, 94), (112, 60), (114, 41)], 41) := by decide +kernel
theorem dX6_perform_48 : decode cX6_perform 48 = .ok (.aload_n 0, 1) := by decide +kernel
theorem dX6_perform_49 : decode cX6_perform 49 = .ok (.getfield 12, 3) := by decide +kernel
theorem dX6_perform_52 : decode cX6_perform 52 = .ok (.aload_n 0, 1) := by decide +kernel
theorem dX6_perform_53 : decode cX6_perform 53 = .ok (.getfield 26, 3) := by decide +kernel
theorem dX6_perform_56 : decode cX6_perform 56 = .ok (.getfield 253, 3) := by decide +kernel
theorem dX6_perform_59 : decode cX6_perform 59 = .ok (.aload_n 0, 1) := by decide +kernel
theorem dX6_perform_60 : decode cX6_perform 60 = .ok (.getfield 33, 3) := by decide +kernel
theorem dX6_perform_63 : decode cX6_perform 63 = .ok (.invokevirtual 79, 3) := by decide +kernel
theorem dX6_perform_66 : decode cX6_perform 66 = .ok (.ireturn, 1) := by decide +kernel
theorem dX6_perform_67 : decode cX6_perform 67 = .ok (.aload_n 0, 1) := by decide +kernel
theorem dX6_perform_68 : decode cX6_perform 68 = .ok (.getfield 12, 3) := by decide +kernel
theorem dX6_perform_71 : decode cX6_perform 71 = .ok (.getfield 67, 3) := by decide +kernel
theorem dX6_perform_74 : decode cX6_perform 74 = .ok (.aload_n 0, 1) := by decide +kernel
theorem dX6_perform_75 : decode cX6_perform 75 = .ok (.getfield 26, 3) := by decide +kernel
theorem dX6_perform_78 : decode cX6_perform 78 = .ok (.getfield 256, 3) := by decide +kernel
theorem dX6_perform_81 : decode cX6_perform 81 = .ok (.aload_n 0, 1) := by decide +kernel
theorem dX6_perform_82 : decode cX6_perform 82 = .ok (.getfield 26, 3) := by decide +kernel
theorem dX6_perform_85 : decode cX6_perform 85 = .ok (.getfield 253, 3) := by decide +kernel
theorem dX6_perform_88 : decode cX6_perform 88 = .ok (.aload_n 0, 1) := by decide +kernel
theorem dX6_perform_89 : decode cX6_perform 89 = .ok (.getfield 26, 3) := by decide +kernel
theorem dX6_perform_92 : decode cX6_perform 92 = .ok (.getfield 259, 3) := by decide +kernel
theorem dX6_perform_95 : decode cX6_perform 95 = .ok (.invokevirtual 70, 3) := by decide +kernel
theorem dX6_perform_98 : decode cX6_perform 98 = .ok (.pop, 1) := by decide +kernel
theorem dX6_perform_99 : decode cX6_perform 99 = .ok (.iconst 0, 1) := by decide +kernel
theorem dX6_perform_100 : decode cX6_perform 100 = .ok (.ireturn, 1) := by decide +kernel
theorem dX6_perform_101 : decode cX6_perform 101 = .ok (.aload_n 0, 1) := by decide +kernel
theorem dX6_perform_102 : decode cX6_perform 102 = .ok (.getfield 12, 3) := by decide +kernel
theorem dX6_perform_105 : decode cX6_perform 105 = .ok (.aload_n 0, 1) := by decide +kernel
theorem dX6_perform_106 : decode cX6_perform 106 = .ok (.getfield 26, 3) := by decide +kernel
theorem dX6_perform_109 : decode cX6_perform 109 = .ok (.getfield 256, 3) := by decide +kernel
theorem dX6_perform_112 : decode cX6_perform 112 = .ok (.iconst 1, 1) := by decide +kernel
theorem dX6_perform_113 : decode cX6_perform 113 = .ok (.aload_n 0, 1) := by decide +kernel
theorem dX6_perform_114 : decode cX6_perform 114 = .ok (.getfield 26, 3) := by decide +kernel
theorem dX6_perform_117 : decode cX6_perform 117 = .ok (.getfield 253, 3) := by decide +kernel
theorem dX6_perform_120 : decode cX6_perform 120 = .ok (.invokevirtual 59, 3) := by decide +kernel
theorem dX6_perform_123 : decode cX6_perform 123 = .ok (.pop, 1) := by decide +kernel
theorem dX6_perform_124 : decode cX6_perform 124 = .ok (.iconst 0, 1) := by decide +kernel
theorem dX6_perform_125 : decode cX6_perform 125 = .ok (.ireturn, 1) := by decide +kernel
theorem dX6_perform_126 : decode cX6_perform 126 = .ok (.aload_n 0, 1) := by decide +kernel
theorem dX6_perform_127 : decode cX6_perform 127 = .ok (.getfield 12, 3) := by decide +kernel
theorem dX6_perform_130 : decode cX6_perform 130 = .ok (.aload_n 0, 1) := by decide +kernel
theorem dX6_perform_131 : decode cX6_perform 131 = .ok (.getfield 26, 3) := by decide +kernel
theorem dX6_perform_134 : decode cX6_perform 134 = .ok (.getfield 256, 3) := by decide +kernel
theorem dX6_perform_137 : decode cX6_perform 137 = .ok (.iconst 2, 1) := by decide +kernel
theorem dX6_perform_138 : decode cX6_perform 138 = .ok (.aload_n 0, 1) := by decide +kernel
theorem dX6_perform_139 : decode cX6_perform 139 = .ok (.getfield 26, 3) := by decide +kernel
theorem dX6_perform_142 : decode cX6_perform 142 = .ok (.getfield 253, 3) := by decide +kernel
theorem dX6_perform_145 : decode cX6_perform 145 = .ok (.invokevirtual 59, 3) := by decide +kernel
theorem dX6_perform_148 : decode cX6_perform 148 = .ok (.pop, 1) := by decide +kernel
theorem dX6_perform_149 : decode cX6_perform 149 = .ok (.iconst 0, 1) := by decide +kernel
theorem dX6_perform_150 : decode cX6_perform 150 = .ok (.ireturn, 1) := by decide +kernel
theorem dX6_perform_151 : decode cX6_perform 151 = .ok (.aload_n 0, 1) := by decide +kernel
theorem dX6_perform_152 : decode cX6_perform 152 = .ok (.getfield 12, 3) := by decide +kernel
theorem dX6_perform_155 : decode cX6_perform 155 = .ok (.aload_n 0, 1) := by decide +kernel
theorem dX6_perform_156 : decode cX6_perform 156 = .ok (.getfield 26, 3) := by decide +kernel
theorem dX6_perform_159 : decode cX6_perform 159 = .ok (.getfield 256, 3) := by decide +kernel
theorem dX6_perform_162 : decode cX6_perform 162 = .ok (.iconst 0, 1) := by decide +kernel
theorem dX6_perform_163 : decode cX6_perform 163 = .ok (.iconst 0, 1) := by decide +kernel
theorem dX6_perform_164 : decode cX6_perform 164 = .ok (.invokevirtual 59, 3) := by decide +kernel
theorem dX6_perform_167 : decode cX6_perform 167 = .ok (.pop, 1) := by decide +kernel
theorem dX6_perform_168 : decode cX6_perform 168 = .ok (.iconst 0, 1) := by decide +kernel
