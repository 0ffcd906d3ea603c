theorem dX7_setPattern_0 : decode cX7_setPattern 0 = .ok (.iload_n 3, 1) := by decide +kernel
theorem dX7_setPattern_1 : decode cX7_setPattern 1 = .ok (.iconst 1, 1) := by decide +kernel
theorem dX7_setPattern_2 : decode cX7_setPattern 2 = .ok (.bipush 8, 2) := by decide +kernel
theorem dX7_setPattern_4 : decode cX7_setPattern 4 = .ok (.invokestatic 36, 3) := by decide +kernel
theorem dX7_setPattern_7 : decode cX7_setPattern 7 = .ok (.ifCond .eq 20, 3) := by decide +kernel
theorem dX7_setPattern_10 : decode cX7_setPattern 10 = .ok (.iload_n 2, 1) := by decide +kernel
theorem dX7_setPattern_11 : decode cX7_setPattern 11 = .ok (.iconst 0, 1) := by decide +kernel
theorem dX7_setPattern_12 : decode cX7_setPattern 12 = .ok (.iconst 1, 1) := by decide +kernel
theorem dX7_setPattern_13 : decode cX7_setPattern 13 = .ok (.iload_n 3, 1) := by decide +kernel
theorem dX7_setPattern_14 : decode cX7_setPattern 14 = .ok (.ishl, 1) := by decide +kernel
theorem dX7_setPattern_15 : decode cX7_setPattern 15 = .ok (.iconst 1, 1) := by decide +kernel
theorem dX7_setPattern_16 : decode cX7_setPattern 16 = .ok (.isub, 1) := by decide +kernel
theorem dX7_setPattern_17 : decode cX7_setPattern 17 = .ok (.invokestatic 36, 3) := by decide +kernel
theorem dX7_setPattern_20 : decode cX7_setPattern 20 = .ok (.ifCond .eq 7, 3) := by decide +kernel
theorem dX7_setPattern_23 : decode cX7_setPattern 23 = .ok (.iconst 1, 1) := by decide +kernel
theorem dX7_setPattern_24 : decode cX7_setPattern 24 = .ok (.goto 4, 3) := by decide +kernel
theorem dX7_setPattern_27 : decode cX7_setPattern 27 = .ok (.iconst 0, 1) := by decide +kernel
theorem dX7_setPattern_28 : decode cX7_setPattern 28 = .ok (.istore 4, 2) := by decide +kernel
theorem dX7_setPattern_30 : decode cX7_setPattern 30 = .ok (.aload_n 0, 1) := by decide +kernel
theorem dX7_setPattern_31 : decode cX7_setPattern 31 = .ok (.iload_n 1, 1) := by decide +kernel
theorem dX7_setPattern_32 : decode cX7_setPattern 32 = .ok (.invokestatic 113, 3) := by decide +kernel
theorem dX7_setPattern_35 : decode cX7_setPattern 35 = .ok (.ifCond .ne 7, 3) := by decide +kernel
theorem dX7_setPattern_38 : decode cX7_setPattern 38 = .ok (.iconst 1, 1) := by decide +kernel
theorem dX7_setPattern_39 : decode cX7_setPattern 39 = .ok (.goto 13, 3) := by decide +kernel
theorem dX7_setPattern_42 : decode cX7_setPattern 42 = .ok (.iload 4, 2) := by decide +kernel
theorem dX7_setPattern_44 : decode cX7_setPattern 44 = .ok (.ifCond .eq 7, 3) := by decide +kernel
theorem dX7_setPattern_47 : decode cX7_setPattern 47 = .ok (.iconst 0, 1) := by decide +kernel
theorem dX7_setPattern_48 : decode cX7_setPattern 48 = .ok (.goto 4, 3) := by decide +kernel
theorem dX7_setPattern_51 : decode cX7_setPattern 51 = .ok (.iconst 2, 1) := by decide +kernel
theorem dX7_setPattern_52 : decode cX7_setPattern 52 = .ok (.invokevirtual 116, 3) := by decide +kernel
theorem dX7_setPattern_55 : decode cX7_setPattern 55 = .ok (.ifCond .ne 5, 3) := by decide +kernel
theorem dX7_setPattern_58 : decode cX7_setPattern 58 = .ok (.iconst 0, 1) := by decide +kernel
theorem dX7_setPattern_59 : decode cX7_setPattern 59 = .ok (.ireturn, 1) := by decide +kernel
theorem dX7_setPattern_60 : decode cX7_setPattern 60 = .ok (.aload_n 0, 1) := by decide +kernel
theorem dX7_setPattern_61 : decode cX7_setPattern 61 = .ok (.invokevirtual 119, 3) := by decide +kernel
theorem dX7_setPattern_64 : decode cX7_setPattern 64 = .ok (.aload_n 0, 1) := by decide +kernel
theorem dX7_setPattern_65 : decode cX7_setPattern 65 = .ok (.iload_n 1, 1) := by decide +kernel
theorem dX7_setPattern_66 : decode cX7_setPattern 66 = .ok (.iload_n 2, 1) := by decide +kernel
theorem dX7_setPattern_67 : decode cX7_setPattern 67 = .ok (.iload_n 3, 1) := by decide +kernel
theorem dX7_setPattern_68 : decode cX7_setPattern 68 = .ok (.invokevirtual 126, 3) := by decide +kernel
theorem dX7_setPattern_71 : decode cX7_setPattern 71 = .ok (.ireturn, 1) := by decide +kernel
set_option maxRecDepth 20000 in
theorem ggX7_jumpTo_X7_isAddress : GoodIn wsX7_jumpTo wsX7_isAddress := goodIn_r _ [5, 6, 7, 4, 8] (by decide +kernel) (by decide +kernel)
set_option maxRecDepth 20000 in
theorem gX7_jumpTo_X7_isAddress : GoodIn wsX7_jumpTo (va_wsS RX7 113 yX7_isAddress wsX7_isAddress) := goodIn_app (goodIn_of _ (by decide +kernel)) ggX7_jumpTo_X7_isAddress
set_option maxRecDepth 20000 in
theorem ggX7_jumpTo_X7_holds : GoodIn wsX7_jumpTo wsX7_holds := goodIn_r _ [12, 13, 20, 21, 22, 23, 24, 25, 26, 27, 28, 29, 30, 31, 32, 33] (by decide +kernel) (by decide +kernel)
set_option maxRecDepth 20000 in
theorem gX7_jumpTo_X7_holds : GoodIn wsX7_jumpTo (wsV RX7 116 RX7 yX7_holds wsX7_holds) := goodIn_app (goodIn_of _ (by decide +kernel)) ggX7_jumpTo_X7_holds
set_option maxRecDepth 20000 in
theorem ggX7_jumpTo_X7_save : GoodIn wsX7_jumpTo wsX7_save := goodIn_r _ [17, 18, 19, 1, 20, 21, 22, 23, 24, 25, 26, 27, 28, 29, 30, 31, 32, 33] (by decide +kernel) (by decide +kernel)
set_option maxRecDepth 20000 in
theorem gX7_jumpTo_X7_save : GoodIn wsX7_jumpTo (wsV RX7 119 RX7 yX7_save wsX7_save) := goodIn_app (goodIn_of _ (by decide +kernel)) ggX7_jumpTo_X7_save
theorem dX7_jumpTo_0 : decode cX7_jumpTo 0 = .ok (.aload_n 0, 1) := by decide +kernel
theorem dX7_jumpTo_1 : decode cX7_jumpTo 1 = .ok (.iload_n 1, 1) := by decide +kernel
theorem dX7_jumpTo_2 : decode cX7_jumpTo 2 = .ok (.invokestatic 113, 3) := by decide +kernel
theorem dX7_jumpTo_5 : decode cX7_jumpTo 5 = .ok (.ifCond .eq 7, 3) := by decide +kernel
theorem dX7_jumpTo_8 : decode cX7_jumpTo 8 = .ok (.iconst 0, 1) := by decide +kernel
theorem dX7_jumpTo_9 : decode cX7_jumpTo 9 = .ok (.goto 4, 3) := by decide +kernel
theorem dX7_jumpTo_12 : decode cX7_jumpTo 12 = .ok (.iconst 1, 1) := by decide +kernel
theorem dX7_jumpTo_13 : decode cX7_jumpTo 13 = .ok (.invokevirtual 116, 3) := by decide +kernel
theorem dX7_jumpTo_16 : decode cX7_jumpTo 16 = .ok (.ifCond .ne 5, 3) := by decide +kernel
theorem dX7_jumpTo_19 : decode cX7_jumpTo 19 = .ok (.iconst 0, 1) := by decide +kernel
theorem dX7_jumpTo_20 : decode cX7_jumpTo 20 = .ok (.ireturn, 1) := by decide +kernel
theorem dX7_jumpTo_21 : decode cX7_jumpTo 21 = .ok (.aload_n 0, 1) := by decide +kernel
theorem dX7_jumpTo_22 : decode cX7_jumpTo 22 = .ok (.invokevirtual 119, 3) := by decide +kernel
theorem dX7_jumpTo_25 : decode cX7_jumpTo 25 = .ok (.aload_n 0, 1) := by decide +kernel
theorem dX7_jumpTo_26 : decode cX7_jumpTo 26 = .ok (.getfield 7, 3) := by decide +kernel
theorem dX7_jumpTo_29 : decode cX7_jumpTo 29 = .ok (.sipush 288, 3) := by decide +kernel
theorem dX7_jumpTo_32 : decode cX7_jumpTo 32 = .ok (.iaload, 1) := by decide +kernel
theorem dX7_jumpTo_33 : decode cX7_jumpTo 33 = .ok (.istore_n 2, 1) := by decide +kernel
theorem dX7_jumpTo_34 : decode cX7_jumpTo 34 = .ok (.aload_n 0, 1) := by decide +kernel
theorem dX7_jumpTo_35 : decode cX7_jumpTo 35 = .ok (.getfield 7, 3) := by decide +kernel
theorem dX7_jumpTo_38 : decode cX7_jumpTo 38 = .ok (.sipush 288, 3) := by decide +kernel
theorem dX7_jumpTo_41 : decode cX7_jumpTo 41 = .ok (.iload_n 1, 1) := by decide +kernel
theorem dX7_jumpTo_42 : decode cX7_jumpTo 42 = .ok (.iastore, 1) := by decide +kernel
theorem dX7_jumpTo_43 : decode cX7_jumpTo 43 = .ok (.aload_n 0, 1) := by decide +kernel
theorem dX7_jumpTo_44 : decode cX7_jumpTo 44 = .ok (.getfield 7, 3) := by decide +kernel
theorem dX7_jumpTo_47 : decode cX7_jumpTo 47 = .ok (.sipush 369, 3) := by decide +kernel
theorem dX7_jumpTo_50 : decode cX7_jumpTo 50 = .ok (.iconst 0, 1) := by decide +kernel
theorem dX7_jumpTo_51 : decode cX7_jumpTo 51 = .ok (.iastore, 1) := by decide +kernel
theorem dX7_jumpTo_52 : decode cX7_jumpTo 52 = .ok (.iload_n 2, 1) := by decide +kernel
theorem dX7_jumpTo_53 : decode cX7_jumpTo 53 = .ok (.ireturn, 1) := by decide +kernel
set_option maxRecDepth 20000 in
theorem ggX7_run_X7_in : GoodIn wsX7_run wsX7_in := goodIn_r _ [4] (by decide +kernel) (by decide +kernel)
set_option maxRecDepth 20000 in
theorem gX7_run_X7_in : GoodIn wsX7_run (va_wsS RX7 36 yX7_in wsX7_in) := goodIn_app (goodIn_of _ (by decide +kernel)) ggX7_run_X7_in
set_option maxRecDepth 20000 in
theorem ggX7_run_X7_holds : GoodIn wsX7_run wsX7_holds := goodIn_r _ [8, 9, 94, 95, 96, 97, 98, 99, 100, 101, 102, 103, 104, 105, 106, 107] (by decide +kernel) (by decide +kernel)
set_option maxRecDepth 20000 in
theorem gX7_run_X7_holds : GoodIn wsX7_run (wsV RX7 116 RX7 yX7_holds wsX7_holds) := goodIn_app (goodIn_of _ (by decide +kernel)) ggX7_run_X7_holds
set_option maxRecDepth 20000 in
theorem ggX7_run_X7_save : GoodIn wsX7_run wsX7_save := goodIn_r _ [13, 14, 15, 16, 94, 95, 96, 97, 98, 99, 100, 101, 102, 103, 104, 105, 106, 107] (by decide +kernel) (by decide +kernel)
set_option maxRecDepth 20000 in
theorem gX7_run_X7_save : GoodIn wsX7_run (wsV RX7 119 RX7 yX7_save wsX7_save) := goodIn_app (goodIn_of _ (by decide +kernel)) ggX7_run_X7_save
set_option maxRecDepth 20000 in
theorem ggX7_run_X7_runs : GoodIn wsX7_run wsX7_runs := goodIn_r _ [20, 21, 22, 23, 3, 24, 16, 25, 26, 27, 28, 29, 30, 31, 32, 33, 34, 35, 36, 37, 38, 39, 40, 41, 42, 43, 44, 45, 46, 47, 48, 49, 50, 51, 52, 53, 54, 55, 56, 57, 58, 59, 60, 61, 62, 63, 64, 65, 66, 67, 68, 69, 70, 71, 72, 73, 74, 75, 76, 77, 78, 79, 80, 81, 82, 83, 84, 85, 86, 87, 88, 89, 90, 91, 92, 93, 94, 95, 96, 97, 98, 99, 100, 101, 102, 103, 104, 105, 106, 107] (by decide +kernel) (by decide +kernel)
set_option maxRecDepth 20000 in
theorem gX7_run_X7_runs : GoodIn wsX7_run (wsV RX7 129 RX7 yX7_runs wsX7_runs) := goodIn_app (goodIn_of _ (by decide +kernel)) ggX7_run_X7_runs
theorem dX7_run_0 : decode cX7_run 0 = .ok (.aload_n 0, 1) := by decide +kernel
theorem dX7_run_1 : decode cX7_run 1 = .ok (.iload_n 1, 1) := by decide +kernel
theorem dX7_run_2 : decode cX7_run 2 = .ok (.iconst 1, 1) := by decide +kernel
theorem dX7_run_3 : decode cX7_run 3 = .ok (.bipush 99, 2) := by decide +kernel
theorem dX7_run_5 : decode cX7_run 5 = .ok (.invokestatic 36, 3) := by decide +kernel
theorem dX7_run_8 : decode cX7_run 8 = .ok (.ifCond .eq 7, 3) := by decide +kernel
theorem dX7_run_11 : decode cX7_run 11 = .ok (.iconst 0, 1) := by decide +kernel
theorem dX7_run_12 : decode cX7_run 12 = .ok (.goto 4, 3) := by decide +kernel
theorem dX7_run_15 : decode cX7_run 15 = .ok (.iconst 1, 1) := by decide +kernel
theorem dX7_run_16 : decode cX7_run 16 = .ok (.invokevirtual 116, 3) := by decide +kernel
theorem dX7_run_19 : decode cX7_run 19 = .ok (.ifCond .ne 5, 3) := by decide +kernel
theorem dX7_run_22 : decode cX7_run 22 = .ok (.iconst 0, 1) := by decide +kernel
theorem dX7_run_23 : decode cX7_run 23 = .ok (.ireturn, 1) := by decide +kernel
theorem dX7_run_24 : decode cX7_run 24 = .ok (.aload_n 0, 1) := by decide +kernel
theorem dX7_run_25 : decode cX7_run 25 = .ok (.invokevirtual 119, 3) := by decide +kernel
theorem dX7_run_28 : decode cX7_run 28 = .ok (.aload_n 0, 1) := by decide +kernel
theorem dX7_run_29 : decode cX7_run 29 = .ok (.iload_n 1, 1) := by decide +kernel
theorem dX7_run_30 : decode cX7_run 30 = .ok (.invokevirtual 129, 3) := by decide +kernel
theorem dX7_run_33 : decode cX7_run 33 = .ok (.ireturn, 1) := by decide +kernel
set_option maxRecDepth 20000 in
theorem ggX7_linesNow_X7_ofLine : GoodIn wsX7_linesNow wsX7_ofLine := goodIn_r _ [5] (by decide +kernel) (by decide +kernel)
set_option maxRecDepth 20000 in
theorem gX7_linesNow_X7_ofLine : GoodIn wsX7_linesNow (va_wsS RX7 55 yX7_ofLine wsX7_ofLine) := goodIn_app (goodIn_of _ (by decide +kernel)) ggX7_linesNow_X7_ofLine
theorem dX7_linesNow_0 : decode cX7_linesNow 0 = .ok (.iconst 0, 1) := by decide +kernel
theorem dX7_linesNow_1 : decode cX7_linesNow 1 = .ok (.istore_n 1, 1) := by decide +kernel
theorem dX7_linesNow_2 : decode cX7_linesNow 2 = .ok (.iconst 0, 1) := by decide +kernel
theorem dX7_linesNow_3 : decode cX7_linesNow 3 = .ok (.istore_n 2, 1) := by decide +kernel
theorem dX7_linesNow_4 : decode cX7_linesNow 4 = .ok (.iload_n 2, 1) := by decide +kernel
theorem dX7_linesNow_5 : decode cX7_linesNow 5 = .ok (.bipush 8, 2) := by decide +kernel
theorem dX7_linesNow_7 : decode cX7_linesNow 7 = .ok (.if_icmp .ge 30, 3) := by decide +kernel
theorem dX7_linesNow_10 : decode cX7_linesNow 10 = .ok (.iload_n 1, 1) := by decide +kernel
theorem dX7_linesNow_11 : decode cX7_linesNow 11 = .ok (.aload_n 0, 1) := by decide +kernel
theorem dX7_linesNow_12 : decode cX7_linesNow 12 = .ok (.getfield 7, 3) := by decide +kernel
theorem dX7_linesNow_15 : decode cX7_linesNow 15 = .ok (.iload_n 2, 1) := by decide +kernel
theorem dX7_linesNow_16 : decode cX7_linesNow 16 = .ok (.iconst 0, 1) := by decide +kernel
theorem dX7_linesNow_17 : decode cX7_linesNow 17 = .ok (.invokestatic 55, 3) := by decide +kernel
theorem dX7_linesNow_20 : decode cX7_linesNow 20 = .ok (.iaload, 1) := by decide +kernel
theorem dX7_linesNow_21 : decode cX7_linesNow 21 = .ok (.ifCond .le 7, 3) := by decide +kernel
theorem dX7_linesNow_24 : decode cX7_linesNow 24 = .ok (.iconst 1, 1) := by decide +kernel
theorem dX7_linesNow_25 : decode cX7_linesNow 25 = .ok (.goto 4, 3) := by decide +kernel
theorem dX7_linesNow_28 : decode cX7_linesNow 28 = .ok (.iconst 0, 1) := by decide +kernel
theorem dX7_linesNow_29 : decode cX7_linesNow 29 = .ok (.iadd, 1) := by decide +kernel
theorem dX7_linesNow_30 : decode cX7_linesNow 30 = .ok (.istore_n 1, 1) := by decide +kernel
theorem dX7_linesNow_31 : decode cX7_linesNow 31 = .ok (.iinc 2 1, 3) := by decide +kernel
theorem dX7_linesNow_34 : decode cX7_linesNow 34 = .ok (.goto (-30), 3) := by decide +kernel
theorem dX7_linesNow_37 : decode cX7_linesNow 37 = .ok (.iload_n 1, 1) := by decide +kernel
theorem dX7_linesNow_38 : decode cX7_linesNow 38 = .ok (.ireturn, 1) := by decide +kernel
set_option maxRecDepth 20000 in
theorem ggX7_flush_X7_save : GoodIn wsX7_flush wsX7_save := goodIn_r _ [7, 8, 9, 2, 21, 22, 23, 24, 25, 26, 27, 28, 29, 30, 31, 32, 33, 34] (by decide +kernel) (by decide +kernel)
set_option maxRecDepth 20000 in
theorem gX7_flush_X7_save : GoodIn wsX7_flush (wsV RX7 119 RX7 yX7_save wsX7_save) := goodIn_app (goodIn_of _ (by decide +kernel)) ggX7_flush_X7_save
set_option maxRecDepth 20000 in
theorem ggX7_flush_X7_linesNow : GoodIn wsX7_flush wsX7_linesNow := goodIn_r _ [13, 2, 14, 15, 6, 16, 21, 22, 23, 24, 25, 26, 27, 28, 29, 30, 31, 32, 33, 34] (by decide +kernel) (by decide +kernel)
set_option maxRecDepth 20000 in
theorem gX7_flush_X7_linesNow : GoodIn wsX7_flush (wsV RX7 132 RX7 yX7_linesNow wsX7_linesNow) := goodIn_app (goodIn_of _ (by decide +kernel)) ggX7_flush_X7_linesNow
set_option maxRecDepth 20000 in
theorem ggX7_flush_X7_empties : GoodIn wsX7_flush wsX7_empties := goodIn_r _ [20, 2, 14, 15, 6, 16, 21, 22, 23, 24, 25, 26, 27, 28, 29, 30, 31, 32, 33, 34] (by decide +kernel) (by decide +kernel)
set_option maxRecDepth 20000 in
theorem gX7_flush_X7_empties : GoodIn wsX7_flush (wsV RX7 110 RX7 yX7_empties wsX7_empties) := goodIn_app (goodIn_of _ (by decide +kernel)) ggX7_flush_X7_empties
theorem dX7_flush_0 : decode cX7_flush 0 = .ok (.aload_n 0, 1) := by decide +kernel
theorem dX7_flush_1 : decode cX7_flush 1 = .ok (.iconst 0, 1) := by decide +kernel
theorem dX7_flush_2 : decode cX7_flush 2 = .ok (.putfield 32, 3) := by decide +kernel
theorem dX7_flush_5 : decode cX7_flush 5 = .ok (.aload_n 0, 1) := by decide +kernel
theorem dX7_flush_6 : decode cX7_flush 6 = .ok (.invokevirtual 119, 3) := by decide +kernel
theorem dX7_flush_9 : decode cX7_flush 9 = .ok (.aload_n 0, 1) := by decide +kernel
theorem dX7_flush_10 : decode cX7_flush 10 = .ok (.invokevirtual 132, 3) := by decide +kernel
theorem dX7_flush_13 : decode cX7_flush 13 = .ok (.istore_n 1, 1) := by decide +kernel
theorem dX7_flush_14 : decode cX7_flush 14 = .ok (.iconst 0, 1) := by decide +kernel
theorem dX7_flush_15 : decode cX7_flush 15 = .ok (.istore_n 2, 1) := by decide +kernel
theorem dX7_flush_16 : decode cX7_flush 16 = .ok (.iload_n 2, 1) := by decide +kernel
theorem dX7_flush_17 : decode cX7_flush 17 = .ok (.bipush 8, 2) := by decide +kernel
theorem dX7_flush_19 : decode cX7_flush 19 = .ok (.if_icmp .ge 14, 3) := by decide +kernel
theorem dX7_flush_22 : decode cX7_flush 22 = .ok (.aload_n 0, 1) := by decide +kernel
theorem dX7_flush_23 : decode cX7_flush 23 = .ok (.iload_n 2, 1) := by decide +kernel
theorem dX7_flush_24 : decode cX7_flush 24 = .ok (.invokevirtual 110, 3) := by decide +kernel
theorem dX7_flush_27 : decode cX7_flush 27 = .ok (.iinc 2 1, 3) := by decide +kernel
theorem dX7_flush_30 : decode cX7_flush 30 = .ok (.goto (-14), 3) := by decide +kernel
theorem dX7_flush_33 : decode cX7_flush 33 = .ok (.aload_n 0, 1) := by decide +kernel
theorem dX7_flush_34 : decode cX7_flush 34 = .ok (.getfield 7, 3) := by decide +kernel
theorem dX7_flush_37 : decode cX7_flush 37 = .ok (.sipush 369, 3) := by decide +kernel
theorem dX7_flush_40 : decode cX7_flush 40 = .ok (.iconst 0, 1) := by decide +kernel
theorem dX7_flush_41 : decode cX7_flush 41 = .ok (.iastore, 1) := by decide +kernel
theorem dX7_flush_42 : decode cX7_flush 42 = .ok (.iload_n 1, 1) := by decide +kernel
theorem dX7_flush_43 : decode cX7_flush 43 = .ok (.ireturn, 1) := by decide +kernel
set_option maxRecDepth 20000 in
theorem ggX7_appendText_X7_in : GoodIn wsX7_appendText wsX7_in := goodIn_r _ [6] (by decide +kernel) (by decide +kernel)
set_option maxRecDepth 20000 in
theorem gX7_appendText_X7_in : GoodIn wsX7_appendText (va_wsS RX7 36 yX7_in wsX7_in) := goodIn_app (goodIn_of _ (by decide +kernel)) ggX7_appendText_X7_in
set_option maxRecDepth 20000 in
theorem ggX7_appendText_X7_holds : GoodIn wsX7_appendText wsX7_holds := goodIn_r _ [10, 11, 12, 13, 14, 15, 16, 17, 18, 19, 20, 21, 22, 23, 24, 25] (by decide +kernel) (by decide +kernel)
set_option maxRecDepth 20000 in
theorem gX7_appendText_X7_holds : GoodIn wsX7_appendText (wsV RX7 116 RX7 yX7_holds wsX7_holds) := goodIn_app (goodIn_of _ (by decide +kernel)) ggX7_appendText_X7_holds
theorem dX7_appendText_0 : decode cX7_appendText 0 = .ok (.aload_n 0, 1) := by decide +kernel
theorem dX7_appendText_1 : decode cX7_appendText 1 = .ok (.iload_n 1, 1) := by decide +kernel
theorem dX7_appendText_2 : decode cX7_appendText 2 = .ok (.bipush 32, 2) := by decide +kernel
theorem dX7_appendText_4 : decode cX7_appendText 4 = .ok (.bipush 126, 2) := by decide +kernel
theorem dX7_appendText_6 : decode cX7_appendText 6 = .ok (.invokestatic 36, 3) := by decide +kernel
theorem dX7_appendText_9 : decode cX7_appendText 9 = .ok (.ifCond .ne 7, 3) := by decide +kernel
theorem dX7_appendText_12 : decode cX7_appendText 12 = .ok (.iconst 1, 1) := by decide +kernel
theorem dX7_appendText_13 : decode cX7_appendText 13 = .ok (.goto 17, 3) := by decide +kernel
theorem dX7_appendText_16 : decode cX7_appendText 16 = .ok (.aload_n 0, 1) := by decide +kernel
theorem dX7_appendText_17 : decode cX7_appendText 17 = .ok (.getfield 135, 3) := by decide +kernel
theorem dX7_appendText_20 : decode cX7_appendText 20 = .ok (.bipush 80, 2) := by decide +kernel
theorem dX7_appendText_22 : decode cX7_appendText 22 = .ok (.if_icmp .ne 7, 3) := by decide +kernel
theorem dX7_appendText_25 : decode cX7_appendText 25 = .ok (.iconst 2, 1) := by decide +kernel
theorem dX7_appendText_26 : decode cX7_appendText 26 = .ok (.goto 4, 3) := by decide +kernel
theorem dX7_appendText_29 : decode cX7_appendText 29 = .ok (.iconst 0, 1) := by decide +kernel
theorem dX7_appendText_30 : decode cX7_appendText 30 = .ok (.invokevirtual 116, 3) := by decide +kernel
theorem dX7_appendText_33 : decode cX7_appendText 33 = .ok (.ifCond .ne 5, 3) := by decide +kernel
theorem dX7_appendText_36 : decode cX7_appendText 36 = .ok (.iconst 0, 1) := by decide +kernel
theorem dX7_appendText_37 : decode cX7_appendText 37 = .ok (.ireturn, 1) := by decide +kernel
theorem dX7_appendText_38 : decode cX7_appendText 38 = .ok (.aload_n 0, 1) := by decide +kernel
theorem dX7_appendText_39 : decode cX7_appendText 39 = .ok (.getfield 19, 3) := by decide +kernel
theorem dX7_appendText_42 : decode cX7_appendText 42 = .ok (.aload_n 0, 1) := by decide +kernel
theorem dX7_appendText_43 : decode cX7_appendText 43 = .ok (.getfield 135, 3) := by decide +kernel
theorem dX7_appendText_46 : decode cX7_appendText 46 = .ok (.iload_n 1, 1) := by decide +kernel
theorem dX7_appendText_47 : decode cX7_appendText 47 = .ok (.iastore, 1) := by decide +kernel
theorem dX7_appendText_48 : decode cX7_appendText 48 = .ok (.aload_n 0, 1) := by decide +kernel
theorem dX7_appendText_49 : decode cX7_appendText 49 = .ok (.dup, 1) := by decide +kernel
theorem dX7_appendText_50 : decode cX7_appendText 50 = .ok (.getfield 135, 3) := by decide +kernel
theorem dX7_appendText_53 : decode cX7_appendText 53 = .ok (.iconst 1, 1) := by decide +kernel
theorem dX7_appendText_54 : decode cX7_appendText 54 = .ok (.iadd, 1) := by decide +kernel
theorem dX7_appendText_55 : decode cX7_appendText 55 = .ok (.putfield 135, 3) := by decide +kernel
theorem dX7_appendText_58 : decode cX7_appendText 58 = .ok (.aload_n 0, 1) := by decide +kernel
theorem dX7_appendText_59 : decode cX7_appendText 59 = .ok (.getfield 135, 3) := by decide +kernel
theorem dX7_appendText_62 : decode cX7_appendText 62 = .ok (.ireturn, 1) := by decide +kernel
theorem dX7_clearText_0 : decode cX7_clearText 0 = .ok (.aload_n 0, 1) := by decide +kernel
theorem dX7_clearText_1 : decode cX7_clearText 1 = .ok (.iconst 0, 1) := by decide +kernel
theorem dX7_clearText_2 : decode cX7_clearText 2 = .ok (.putfield 32, 3) := by decide +kernel
theorem dX7_clearText_5 : decode cX7_clearText 5 = .ok (.aload_n 0, 1) := by decide +kernel
theorem dX7_clearText_6 : decode cX7_clearText 6 = .ok (.getfield 135, 3) := by decide +kernel
theorem dX7_clearText_9 : decode cX7_clearText 9 = .ok (.istore_n 1, 1) := by decide +kernel
theorem dX7_clearText_10 : decode cX7_clearText 10 = .ok (.aload_n 0, 1) := by decide +kernel
theorem dX7_clearText_11 : decode cX7_clearText 11 = .ok (.iconst 0, 1) := by decide +kernel
theorem dX7_clearText_12 : decode cX7_clearText 12 = .ok (.putfield 135, 3) := by decide +kernel
theorem dX7_clearText_15 : decode cX7_clearText 15 = .ok (.iload_n 1, 1) := by decide +kernel
theorem dX7_clearText_16 : decode cX7_clearText 16 = .ok (.ireturn, 1) := by decide +kernel
set_option maxRecDepth 20000 in
theorem ggX7_isNext_X7_in : GoodIn wsX7_isNext wsX7_in := goodIn_r _ [8] (by decide +kernel) (by decide +kernel)
set_option maxRecDepth 20000 in
theorem gX7_isNext_X7_in : GoodIn wsX7_isNext (va_wsS RX7 36 yX7_in wsX7_in) := goodIn_app (goodIn_of _ (by decide +kernel)) ggX7_isNext_X7_in
theorem dX7_isNext_0 : decode cX7_isNext 0 = .ok (.aload_n 0, 1) := by decide +kernel
theorem dX7_isNext_1 : decode cX7_isNext 1 = .ok (.getfield 138, 3) := by decide +kernel
theorem dX7_isNext_4 : decode cX7_isNext 4 = .ok (.ifCond .ne 35, 3) := by decide +kernel
theorem dX7_isNext_7 : decode cX7_isNext 7 = .ok (.aload_n 0, 1) := by decide +kernel
theorem dX7_isNext_8 : decode cX7_isNext 8 = .ok (.getfield 142, 3) := by decide +kernel
theorem dX7_isNext_11 : decode cX7_isNext 11 = .ok (.aload_n 0, 1) := by decide +kernel
theorem dX7_isNext_12 : decode cX7_isNext 12 = .ok (.getfield 135, 3) := by decide +kernel
theorem dX7_isNext_15 : decode cX7_isNext 15 = .ok (.if_icmp .ge 24, 3) := by decide +kernel
theorem dX7_isNext_18 : decode cX7_isNext 18 = .ok (.aload_n 0, 1) := by decide +kernel
theorem dX7_isNext_19 : decode cX7_isNext 19 = .ok (.getfield 19, 3) := by decide +kernel
theorem dX7_isNext_22 : decode cX7_isNext 22 = .ok (.aload_n 0, 1) := by decide +kernel
theorem dX7_isNext_23 : decode cX7_isNext 23 = .ok (.getfield 142, 3) := by decide +kernel
theorem dX7_isNext_26 : decode cX7_isNext 26 = .ok (.iaload, 1) := by decide +kernel
theorem dX7_isNext_27 : decode cX7_isNext 27 = .ok (.iload_n 1, 1) := by decide +kernel
theorem dX7_isNext_28 : decode cX7_isNext 28 = .ok (.iload_n 2, 1) := by decide +kernel
theorem dX7_isNext_29 : decode cX7_isNext 29 = .ok (.invokestatic 36, 3) := by decide +kernel
theorem dX7_isNext_32 : decode cX7_isNext 32 = .ok (.ifCond .eq 7, 3) := by decide +kernel
theorem dX7_isNext_35 : decode cX7_isNext 35 = .ok (.iconst 1, 1) := by decide +kernel
theorem dX7_isNext_36 : decode cX7_isNext 36 = .ok (.goto 4, 3) := by decide +kernel
theorem dX7_isNext_39 : decode cX7_isNext 39 = .ok (.iconst 0, 1) := by decide +kernel
theorem dX7_isNext_40 : decode cX7_isNext 40 = .ok (.ireturn, 1) := by decide +kernel
set_option maxRecDepth 20000 in
theorem ggX7_takes_X7_isNext : GoodIn wsX7_takes wsX7_isNext := goodIn_r _ [8, 3, 2, 9, 1, 10, 11, 7, 12, 13, 14, 15, 16, 17, 18, 19, 20, 21, 22, 23, 24, 25, 26] (by decide +kernel) (by decide +kernel)
set_option maxRecDepth 20000 in
theorem gX7_takes_X7_isNext : GoodIn wsX7_takes (wsV RX7 145 RX7 yX7_isNext wsX7_isNext) := goodIn_app (goodIn_of _ (by decide +kernel)) ggX7_takes_X7_isNext
theorem dX7_takes_0 : decode cX7_takes 0 = .ok (.aload_n 0, 1) := by decide +kernel
theorem dX7_takes_1 : decode cX7_takes 1 = .ok (.iload_n 1, 1) := by decide +kernel
theorem dX7_takes_2 : decode cX7_takes 2 = .ok (.iload_n 2, 1) := by decide +kernel
theorem dX7_takes_3 : decode cX7_takes 3 = .ok (.invokevirtual 145, 3) := by decide +kernel
theorem dX7_takes_6 : decode cX7_takes 6 = .ok (.istore_n 3, 1) := by decide +kernel
theorem dX7_takes_7 : decode cX7_takes 7 = .ok (.iload_n 3, 1) := by decide +kernel
theorem dX7_takes_8 : decode cX7_takes 8 = .ok (.ifCond .eq 17, 3) := by decide +kernel
theorem dX7_takes_11 : decode cX7_takes 11 = .ok (.aload_n 0, 1) := by decide +kernel
theorem dX7_takes_12 : decode cX7_takes 12 = .ok (.getfield 19, 3) := by decide +kernel
theorem dX7_takes_15 : decode cX7_takes 15 = .ok (.aload_n 0, 1) := by decide +kernel
theorem dX7_takes_16 : decode cX7_takes 16 = .ok (.getfield 142, 3) := by decide +kernel
theorem dX7_takes_19 : decode cX7_takes 19 = .ok (.iaload, 1) := by decide +kernel
theorem dX7_takes_20 : decode cX7_takes 20 = .ok (.iload_n 1, 1) := by decide +kernel
theorem dX7_takes_21 : decode cX7_takes 21 = .ok (.isub, 1) := by decide +kernel
theorem dX7_takes_22 : decode cX7_takes 22 = .ok (.goto 4, 3) := by decide +kernel
theorem dX7_takes_25 : decode cX7_takes 25 = .ok (.iconst 0, 1) := by decide +kernel
theorem dX7_takes_26 : decode cX7_takes 26 = .ok (.istore 4, 2) := by decide +kernel
theorem dX7_takes_28 : decode cX7_takes 28 = .ok (.aload_n 0, 1) := by decide +kernel
theorem dX7_takes_29 : decode cX7_takes 29 = .ok (.dup, 1) := by decide +kernel
theorem dX7_takes_30 : decode cX7_takes 30 = .ok (.getfield 142, 3) := by decide +kernel
theorem dX7_takes_33 : decode cX7_takes 33 = .ok (.iload_n 3, 1) := by decide +kernel
theorem dX7_takes_34 : decode cX7_takes 34 = .ok (.ifCond .eq 7, 3) := by decide +kernel
theorem dX7_takes_37 : decode cX7_takes 37 = .ok (.iconst 1, 1) := by decide +kernel
theorem dX7_takes_38 : decode cX7_takes 38 = .ok (.goto 4, 3) := by decide +kernel
theorem dX7_takes_41 : decode cX7_takes 41 = .ok (.iconst 0, 1) := by decide +kernel
theorem dX7_takes_42 : decode cX7_takes 42 = .ok (.iadd, 1) := by decide +kernel
theorem dX7_takes_43 : decode cX7_takes 43 = .ok (.putfield 142, 3) := by decide +kernel
theorem dX7_takes_46 : decode cX7_takes 46 = .ok (.aload_n 0, 1) := by decide +kernel
theorem dX7_takes_47 : decode cX7_takes 47 = .ok (.aload_n 0, 1) := by decide +kernel
theorem dX7_takes_48 : decode cX7_takes 48 = .ok (.getfield 138, 3) := by decide +kernel
theorem dX7_takes_51 : decode cX7_takes 51 = .ok (.ifCond .ne 7, 3) := by decide +kernel
theorem dX7_takes_54 : decode cX7_takes 54 = .ok (.iload_n 3, 1) := by decide +kernel
theorem dX7_takes_55 : decode cX7_takes 55 = .ok (.ifCond .ne 7, 3) := by decide +kernel
theorem dX7_takes_58 : decode cX7_takes 58 = .ok (.iconst 1, 1) := by decide +kernel
theorem dX7_takes_59 : decode cX7_takes 59 = .ok (.goto 4, 3) := by decide +kernel
theorem dX7_takes_62 : decode cX7_takes 62 = .ok (.iconst 0, 1) := by decide +kernel
theorem dX7_takes_63 : decode cX7_takes 63 = .ok (.putfield 138, 3) := by decide +kernel
theorem dX7_takes_66 : decode cX7_takes 66 = .ok (.iload 4, 2) := by decide +kernel
theorem dX7_takes_68 : decode cX7_takes 68 = .ok (.ireturn, 1) := by decide +kernel
set_option maxRecDepth 20000 in
theorem ggX7_number_X7_takes : GoodIn wsX7_number wsX7_takes := goodIn_r _ [7, 1, 2, 8, 9, 10, 11, 6, 12, 13, 14, 15, 16, 17, 18, 19, 20, 21, 22, 23, 24, 25, 26, 27, 28, 29, 30] (by decide +kernel) (by decide +kernel)
set_option maxRecDepth 20000 in
theorem gX7_number_X7_takes : GoodIn wsX7_number (wsV RX7 148 RX7 yX7_takes wsX7_takes) := goodIn_app (goodIn_of _ (by decide +kernel)) ggX7_number_X7_takes
set_option maxRecDepth 20000 in
theorem ggX7_number_X7_isNext : GoodIn wsX7_number wsX7_isNext := goodIn_r _ [12, 8, 2, 13, 1, 14, 15, 6, 16, 17, 18, 19, 20, 21, 22, 23, 24, 25, 26, 27, 28, 29, 30] (by decide +kernel) (by decide +kernel)
set_option maxRecDepth 20000 in
theorem gX7_number_X7_isNext : GoodIn wsX7_number (wsV RX7 145 RX7 yX7_isNext wsX7_isNext) := goodIn_app (goodIn_of _ (by decide +kernel)) ggX7_number_X7_isNext
theorem dX7_number_0 : decode cX7_number 0 = .ok (.iload_n 1, 1) := by decide +kernel
theorem dX7_number_1 : decode cX7_number 1 = .ok (.aload_n 0, 1) := by decide +kernel
theorem dX7_number_2 : decode cX7_number 2 = .ok (.bipush 48, 2) := by decide +kernel
theorem dX7_number_4 : decode cX7_number 4 = .ok (.iload_n 1, 1) := by decide +kernel
theorem dX7_number_5 : decode cX7_number 5 = .ok (.iadd, 1) := by decide +kernel
theorem dX7_number_6 : decode cX7_number 6 = .ok (.bipush 57, 2) := by decide +kernel
theorem dX7_number_8 : decode cX7_number 8 = .ok (.invokevirtual 148, 3) := by decide +kernel
theorem dX7_number_11 : decode cX7_number 11 = .ok (.iadd, 1) := by decide +kernel
theorem dX7_number_12 : decode cX7_number 12 = .ok (.istore_n 3, 1) := by decide +kernel
theorem dX7_number_13 : decode cX7_number 13 = .ok (.iload_n 3, 1) := by decide +kernel
theorem dX7_number_14 : decode cX7_number 14 = .ok (.ifCond .le 66, 3) := by decide +kernel
theorem dX7_number_17 : decode cX7_number 17 = .ok (.aload_n 0, 1) := by decide +kernel
theorem dX7_number_18 : decode cX7_number 18 = .ok (.bipush 48, 2) := by decide +kernel
theorem dX7_number_20 : decode cX7_number 20 = .ok (.bipush 57, 2) := by decide +kernel
theorem dX7_number_22 : decode cX7_number 22 = .ok (.invokevirtual 145, 3) := by decide +kernel
theorem dX7_number_25 : decode cX7_number 25 = .ok (.ifCond .eq 55, 3) := by decide +kernel
theorem dX7_number_28 : decode cX7_number 28 = .ok (.bipush 10, 2) := by decide +kernel
theorem dX7_number_30 : decode cX7_number 30 = .ok (.iload_n 3, 1) := by decide +kernel
theorem dX7_number_31 : decode cX7_number 31 = .ok (.imul, 1) := by decide +kernel
theorem dX7_number_32 : decode cX7_number 32 = .ok (.aload_n 0, 1) := by decide +kernel
theorem dX7_number_33 : decode cX7_number 33 = .ok (.getfield 19, 3) := by decide +kernel
theorem dX7_number_36 : decode cX7_number 36 = .ok (.aload_n 0, 1) := by decide +kernel
theorem dX7_number_37 : decode cX7_number 37 = .ok (.getfield 142, 3) := by decide +kernel
theorem dX7_number_40 : decode cX7_number 40 = .ok (.iaload, 1) := by decide +kernel
theorem dX7_number_41 : decode cX7_number 41 = .ok (.iadd, 1) := by decide +kernel
theorem dX7_number_42 : decode cX7_number 42 = .ok (.bipush 48, 2) := by decide +kernel
theorem dX7_number_44 : decode cX7_number 44 = .ok (.isub, 1) := by decide +kernel
theorem dX7_number_45 : decode cX7_number 45 = .ok (.iload_n 2, 1) := by decide +kernel
theorem dX7_number_46 : decode cX7_number 46 = .ok (.if_icmp .gt 34, 3) := by decide +kernel
theorem dX7_number_49 : decode cX7_number 49 = .ok (.bipush 10, 2) := by decide +kernel
theorem dX7_number_51 : decode cX7_number 51 = .ok (.iload_n 3, 1) := by decide +kernel
theorem dX7_number_52 : decode cX7_number 52 = .ok (.imul, 1) := by decide +kernel
theorem dX7_number_53 : decode cX7_number 53 = .ok (.aload_n 0, 1) := by decide +kernel
theorem dX7_number_54 : decode cX7_number 54 = .ok (.getfield 19, 3) := by decide +kernel
theorem dX7_number_57 : decode cX7_number 57 = .ok (.aload_n 0, 1) := by decide +kernel
theorem dX7_number_58 : decode cX7_number 58 = .ok (.getfield 142, 3) := by decide +kernel
theorem dX7_number_61 : decode cX7_number 61 = .ok (.iaload, 1) := by decide +kernel
theorem dX7_number_62 : decode cX7_number 62 = .ok (.iadd, 1) := by decide +kernel
theorem dX7_number_63 : decode cX7_number 63 = .ok (.bipush 48, 2) := by decide +kernel
theorem dX7_number_65 : decode cX7_number 65 = .ok (.isub, 1) := by decide +kernel
theorem dX7_number_66 : decode cX7_number 66 = .ok (.istore_n 3, 1) := by decide +kernel
theorem dX7_number_67 : decode cX7_number 67 = .ok (.aload_n 0, 1) := by decide +kernel
theorem dX7_number_68 : decode cX7_number 68 = .ok (.dup, 1) := by decide +kernel
theorem dX7_number_69 : decode cX7_number 69 = .ok (.getfield 142, 3) := by decide +kernel
theorem dX7_number_72 : decode cX7_number 72 = .ok (.iconst 1, 1) := by decide +kernel
theorem dX7_number_73 : decode cX7_number 73 = .ok (.iadd, 1) := by decide +kernel
theorem dX7_number_74 : decode cX7_number 74 = .ok (.putfield 142, 3) := by decide +kernel
theorem dX7_number_77 : decode cX7_number 77 = .ok (.goto (-64), 3) := by decide +kernel
theorem dX7_number_80 : decode cX7_number 80 = .ok (.iload_n 3, 1) := by decide +kernel
theorem dX7_number_81 : decode cX7_number 81 = .ok (.ireturn, 1) := by decide +kernel
set_option maxRecDepth 20000 in
theorem ggX7_readPattern_X7_isNext : GoodIn wsX7_readPattern wsX7_isNext := goodIn_r _ [6, 1, 7, 8, 9, 10, 11, 5, 12, 25, 26, 27, 28, 29, 30, 31, 32, 33, 34, 35, 36, 37, 38] (by decide +kernel) (by decide +kernel)
set_option maxRecDepth 20000 in
theorem gX7_readPattern_X7_isNext : GoodIn wsX7_readPattern (wsV RX7 145 RX7 yX7_isNext wsX7_isNext) := goodIn_app (goodIn_of _ (by decide +kernel)) ggX7_readPattern_X7_isNext
set_option maxRecDepth 20000 in
theorem ggX7_readPattern_X7_takes : GoodIn wsX7_readPattern wsX7_takes := goodIn_r _ [16, 9, 7, 1, 2, 3, 4, 5, 6, 8, 10, 11, 12, 25, 26, 27, 28, 29, 30, 31, 32, 33, 34, 35, 36, 37, 38] (by decide +kernel) (by decide +kernel)
set_option maxRecDepth 20000 in
theorem gX7_readPattern_X7_takes : GoodIn wsX7_readPattern (wsV RX7 148 RX7 yX7_takes wsX7_takes) := goodIn_app (goodIn_of _ (by decide +kernel)) ggX7_readPattern_X7_takes
set_option maxRecDepth 20000 in
theorem ggX7_readPattern_X7_patterns : GoodIn wsX7_readPattern wsX7_patterns := goodIn_r _ [20, 21, 22, 23, 5, 24, 25, 26, 27, 28, 29, 30, 31, 32, 33, 34, 35, 36, 37, 38] (by decide +kernel) (by decide +kernel)
set_option maxRecDepth 20000 in
theorem gX7_readPattern_X7_patterns : GoodIn wsX7_readPattern (wsV RX7 126 RX7 yX7_patterns wsX7_patterns) := goodIn_app (goodIn_of _ (by decide +kernel)) ggX7_readPattern_X7_patterns
theorem dX7_readPattern_0 : decode cX7_readPattern 0 = .ok (.iconst 0, 1) := by decide +kernel
theorem dX7_readPattern_1 : decode cX7_readPattern 1 = .ok (.istore_n 3, 1) := by decide +kernel
theorem dX7_readPattern_2 : decode cX7_readPattern 2 = .ok (.iconst 0, 1) := by decide +kernel
theorem dX7_readPattern_3 : decode cX7_readPattern 3 = .ok (.istore 4, 2) := by decide +kernel
theorem dX7_readPattern_5 : decode cX7_readPattern 5 = .ok (.iload 4, 2) := by decide +kernel
theorem dX7_readPattern_7 : decode cX7_readPattern 7 = .ok (.ifCond .ne 10, 3) := by decide +kernel
theorem dX7_readPattern_10 : decode cX7_readPattern 10 = .ok (.aload_n 0, 1) := by decide +kernel
theorem dX7_readPattern_11 : decode cX7_readPattern 11 = .ok (.getfield 138, 3) := by decide +kernel
theorem dX7_readPattern_14 : decode cX7_readPattern 14 = .ok (.ifCond .eq 21, 3) := by decide +kernel
theorem dX7_readPattern_17 : decode cX7_readPattern 17 = .ok (.iload 4, 2) := by decide +kernel
theorem dX7_readPattern_19 : decode cX7_readPattern 19 = .ok (.bipush 8, 2) := by decide +kernel
theorem dX7_readPattern_21 : decode cX7_readPattern 21 = .ok (.if_icmp .ge 34, 3) := by decide +kernel
theorem dX7_readPattern_24 : decode cX7_readPattern 24 = .ok (.aload_n 0, 1) := by decide +kernel
theorem dX7_readPattern_25 : decode cX7_readPattern 25 = .ok (.bipush 48, 2) := by decide +kernel
theorem dX7_readPattern_27 : decode cX7_readPattern 27 = .ok (.bipush 49, 2) := by decide +kernel
theorem dX7_readPattern_29 : decode cX7_readPattern 29 = .ok (.invokevirtual 145, 3) := by decide +kernel
theorem dX7_readPattern_32 : decode cX7_readPattern 32 = .ok (.ifCond .eq 23, 3) := by decide +kernel
theorem dX7_readPattern_35 : decode cX7_readPattern 35 = .ok (.iload_n 3, 1) := by decide +kernel
theorem dX7_readPattern_36 : decode cX7_readPattern 36 = .ok (.aload_n 0, 1) := by decide +kernel
theorem dX7_readPattern_37 : decode cX7_readPattern 37 = .ok (.bipush 48, 2) := by decide +kernel
theorem dX7_readPattern_39 : decode cX7_readPattern 39 = .ok (.bipush 49, 2) := by decide +kernel
theorem dX7_readPattern_41 : decode cX7_readPattern 41 = .ok (.invokevirtual 148, 3) := by decide +kernel
theorem dX7_readPattern_44 : decode cX7_readPattern 44 = .ok (.iload 4, 2) := by decide +kernel
theorem dX7_readPattern_46 : decode cX7_readPattern 46 = .ok (.ishl, 1) := by decide +kernel
theorem dX7_readPattern_47 : decode cX7_readPattern 47 = .ok (.ior, 1) := by decide +kernel
theorem dX7_readPattern_48 : decode cX7_readPattern 48 = .ok (.istore_n 3, 1) := by decide +kernel
theorem dX7_readPattern_49 : decode cX7_readPattern 49 = .ok (.iinc 4 1, 3) := by decide +kernel
theorem dX7_readPattern_52 : decode cX7_readPattern 52 = .ok (.goto (-47), 3) := by decide +kernel
theorem dX7_readPattern_55 : decode cX7_readPattern 55 = .ok (.iload_n 2, 1) := by decide +kernel
theorem dX7_readPattern_56 : decode cX7_readPattern 56 = .ok (.ifCond .eq 14, 3) := by decide +kernel
theorem dX7_readPattern_59 : decode cX7_readPattern 59 = .ok (.aload_n 0, 1) := by decide +kernel
theorem dX7_readPattern_60 : decode cX7_readPattern 60 = .ok (.iload_n 1, 1) := by decide +kernel
theorem dX7_readPattern_61 : decode cX7_readPattern 61 = .ok (.iload_n 3, 1) := by decide +kernel
theorem dX7_readPattern_62 : decode cX7_readPattern 62 = .ok (.iload 4, 2) := by decide +kernel
theorem dX7_readPattern_64 : decode cX7_readPattern 64 = .ok (.invokevirtual 126, 3) := by decide +kernel
theorem dX7_readPattern_67 : decode cX7_readPattern 67 = .ok (.goto 4, 3) := by decide +kernel
theorem dX7_readPattern_70 : decode cX7_readPattern 70 = .ok (.iconst 0, 1) := by decide +kernel
theorem dX7_readPattern_71 : decode cX7_readPattern 71 = .ok (.istore 5, 2) := by decide +kernel
theorem dX7_readPattern_73 : decode cX7_readPattern 73 = .ok (.return_, 1) := by decide +kernel
set_option maxRecDepth 20000 in
theorem ggX7_readInstruction_X7_number : GoodIn wsX7_readInstruction wsX7_number := goodIn_r _ [8, 1, 2, 9, 10, 11, 7, 12, 3, 13, 14, 15, 16, 17, 18, 19, 20, 48, 49, 50, 51, 52, 53, 54, 55, 56, 57, 58, 59, 60, 61] (by decide +kernel) (by decide +kernel)
set_option maxRecDepth 20000 in
theorem gX7_readInstruction_X7_number : GoodIn wsX7_readInstruction (wsV RX7 151 RX7 yX7_number wsX7_number) := goodIn_app (goodIn_of _ (by decide +kernel)) ggX7_readInstruction_X7_number
set_option maxRecDepth 20000 in
theorem ggX7_readInstruction_X7_isNext : GoodIn wsX7_readInstruction wsX7_isNext := goodIn_r _ [16, 3, 2, 17, 1, 18, 19, 7, 20, 48, 49, 50, 51, 52, 53, 54, 55, 56, 57, 58, 59, 60, 61] (by decide +kernel) (by decide +kernel)
set_option maxRecDepth 20000 in
theorem gX7_readInstruction_X7_isNext : GoodIn wsX7_readInstruction (wsV RX7 145 RX7 yX7_isNext wsX7_isNext) := goodIn_app (goodIn_of _ (by decide +kernel)) ggX7_readInstruction_X7_isNext
set_option maxRecDepth 20000 in
theorem ggX7_readInstruction_X7_readPattern : GoodIn wsX7_readInstruction wsX7_readPattern := goodIn_r _ [24, 3, 13, 14, 15, 7, 16, 2, 17, 1, 18, 19, 20, 9, 10, 11, 12, 25, 26, 27, 28, 29, 30, 31, 32, 48, 49, 50, 51, 52, 53, 54, 55, 56, 57, 58, 59, 60, 61] (by decide +kernel) (by decide +kernel)
set_option maxRecDepth 20000 in
theorem gX7_readInstruction_X7_readPattern : GoodIn wsX7_readInstruction (wsV RX7 154 RX7 yX7_readPattern wsX7_readPattern) := goodIn_app (goodIn_of _ (by decide +kernel)) ggX7_readInstruction_X7_readPattern
set_option maxRecDepth 20000 in
theorem ggX7_readInstruction_X7_writes : GoodIn wsX7_readInstruction wsX7_writes := goodIn_r _ [36, 29, 37, 38, 39, 7, 40, 41, 42, 43, 44, 45, 46, 47, 30, 31, 32, 48, 49, 50, 51, 52, 53, 54, 55, 56, 57, 58, 59, 60, 61] (by decide +kernel) (by decide +kernel)
set_option maxRecDepth 20000 in
theorem gX7_readInstruction_X7_writes : GoodIn wsX7_readInstruction (wsV RX7 122 RX7 yX7_writes wsX7_writes) := goodIn_app (goodIn_of _ (by decide +kernel)) ggX7_readInstruction_X7_writes
theorem dX7_readInstruction_0 : decode cX7_readInstruction 0 = .ok (.aload_n 0, 1) := by decide +kernel
theorem dX7_readInstruction_1 : decode cX7_readInstruction 1 = .ok (.iconst 0, 1) := by decide +kernel
theorem dX7_readInstruction_2 : decode cX7_readInstruction 2 = .ok (.bipush 47, 2) := by decide +kernel
theorem dX7_readInstruction_4 : decode cX7_readInstruction 4 = .ok (.invokevirtual 151, 3) := by decide +kernel
theorem dX7_readInstruction_7 : decode cX7_readInstruction 7 = .ok (.istore_n 2, 1) := by decide +kernel
theorem dX7_readInstruction_8 : decode cX7_readInstruction 8 = .ok (.aload_n 0, 1) := by decide +kernel
theorem dX7_readInstruction_9 : decode cX7_readInstruction 9 = .ok (.bipush 46, 2) := by decide +kernel
theorem dX7_readInstruction_11 : decode cX7_readInstruction 11 = .ok (.bipush 46, 2) := by decide +kernel
theorem dX7_readInstruction_13 : decode cX7_readInstruction 13 = .ok (.invokevirtual 145, 3) := by decide +kernel
theorem dX7_readInstruction_16 : decode cX7_readInstruction 16 = .ok (.ifCond .ne 36, 3) := by decide +kernel
theorem dX7_readInstruction_19 : decode cX7_readInstruction 19 = .ok (.aload_n 0, 1) := by decide +kernel
theorem dX7_readInstruction_20 : decode cX7_readInstruction 20 = .ok (.bipush 106, 2) := by decide +kernel
theorem dX7_readInstruction_22 : decode cX7_readInstruction 22 = .ok (.bipush 106, 2) := by decide +kernel
theorem dX7_readInstruction_24 : decode cX7_readInstruction 24 = .ok (.invokevirtual 145, 3) := by decide +kernel
theorem dX7_readInstruction_27 : decode cX7_readInstruction 27 = .ok (.ifCond .ne 25, 3) := by decide +kernel
theorem dX7_readInstruction_30 : decode cX7_readInstruction 30 = .ok (.aload_n 0, 1) := by decide +kernel
theorem dX7_readInstruction_31 : decode cX7_readInstruction 31 = .ok (.bipush 98, 2) := by decide +kernel
theorem dX7_readInstruction_33 : decode cX7_readInstruction 33 = .ok (.bipush 98, 2) := by decide +kernel
theorem dX7_readInstruction_35 : decode cX7_readInstruction 35 = .ok (.invokevirtual 145, 3) := by decide +kernel
theorem dX7_readInstruction_38 : decode cX7_readInstruction 38 = .ok (.ifCond .ne 14, 3) := by decide +kernel
theorem dX7_readInstruction_41 : decode cX7_readInstruction 41 = .ok (.aload_n 0, 1) := by decide +kernel
theorem dX7_readInstruction_42 : decode cX7_readInstruction 42 = .ok (.bipush 112, 2) := by decide +kernel
theorem dX7_readInstruction_44 : decode cX7_readInstruction 44 = .ok (.bipush 112, 2) := by decide +kernel
theorem dX7_readInstruction_46 : decode cX7_readInstruction 46 = .ok (.invokevirtual 145, 3) := by decide +kernel
theorem dX7_readInstruction_49 : decode cX7_readInstruction 49 = .ok (.ifCond .eq 15, 3) := by decide +kernel
theorem dX7_readInstruction_52 : decode cX7_readInstruction 52 = .ok (.aload_n 0, 1) := by decide +kernel
theorem dX7_readInstruction_53 : decode cX7_readInstruction 53 = .ok (.getfield 19, 3) := by decide +kernel
theorem dX7_readInstruction_56 : decode cX7_readInstruction 56 = .ok (.aload_n 0, 1) := by decide +kernel
theorem dX7_readInstruction_57 : decode cX7_readInstruction 57 = .ok (.getfield 142, 3) := by decide +kernel
theorem dX7_readInstruction_60 : decode cX7_readInstruction 60 = .ok (.iaload, 1) := by decide +kernel
theorem dX7_readInstruction_61 : decode cX7_readInstruction 61 = .ok (.goto 4, 3) := by decide +kernel
theorem dX7_readInstruction_64 : decode cX7_readInstruction 64 = .ok (.iconst 0, 1) := by decide +kernel
theorem dX7_readInstruction_65 : decode cX7_readInstruction 65 = .ok (.istore_n 3, 1) := by decide +kernel
theorem dX7_readInstruction_66 : decode cX7_readInstruction 66 = .ok (.aload_n 0, 1) := by decide +kernel
theorem dX7_readInstruction_67 : decode cX7_readInstruction 67 = .ok (.aload_n 0, 1) := by decide +kernel
theorem dX7_readInstruction_68 : decode cX7_readInstruction 68 = .ok (.getfield 138, 3) := by decide +kernel
theorem dX7_readInstruction_71 : decode cX7_readInstruction 71 = .ok (.ifCond .ne 7, 3) := by decide +kernel
theorem dX7_readInstruction_74 : decode cX7_readInstruction 74 = .ok (.iload_n 3, 1) := by decide +kernel
theorem dX7_readInstruction_75 : decode cX7_readInstruction 75 = .ok (.ifCond .ne 7, 3) := by decide +kernel
theorem dX7_readInstruction_78 : decode cX7_readInstruction 78 = .ok (.iconst 1, 1) := by decide +kernel
theorem dX7_readInstruction_79 : decode cX7_readInstruction 79 = .ok (.goto 4, 3) := by decide +kernel
theorem dX7_readInstruction_82 : decode cX7_readInstruction 82 = .ok (.iconst 0, 1) := by decide +kernel
theorem dX7_readInstruction_83 : decode cX7_readInstruction 83 = .ok (.putfield 138, 3) := by decide +kernel
theorem dX7_readInstruction_86 : decode cX7_readInstruction 86 = .ok (.aload_n 0, 1) := by decide +kernel
theorem dX7_readInstruction_87 : decode cX7_readInstruction 87 = .ok (.dup, 1) := by decide +kernel
theorem dX7_readInstruction_88 : decode cX7_readInstruction 88 = .ok (.getfield 142, 3) := by decide +kernel
theorem dX7_readInstruction_91 : decode cX7_readInstruction 91 = .ok (.aload_n 0, 1) := by decide +kernel
theorem dX7_readInstruction_92 : decode cX7_readInstruction 92 = .ok (.getfield 138, 3) := by decide +kernel
theorem dX7_readInstruction_95 : decode cX7_readInstruction 95 = .ok (.ifCond .eq 7, 3) := by decide +kernel
theorem dX7_readInstruction_98 : decode cX7_readInstruction 98 = .ok (.iconst 0, 1) := by decide +kernel
theorem dX7_readInstruction_99 : decode cX7_readInstruction 99 = .ok (.goto 4, 3) := by decide +kernel
theorem dX7_readInstruction_102 : decode cX7_readInstruction 102 = .ok (.iconst 1, 1) := by decide +kernel
theorem dX7_readInstruction_103 : decode cX7_readInstruction 103 = .ok (.iadd, 1) := by decide +kernel
theorem dX7_readInstruction_104 : decode cX7_readInstruction 104 = .ok (.putfield 142, 3) := by decide +kernel
theorem dX7_readInstruction_107 : decode cX7_readInstruction 107 = .ok (.iload_n 3, 1) := by decide +kernel
theorem dX7_readInstruction_108 : decode cX7_readInstruction 108 = .ok (.bipush 112, 2) := by decide +kernel
theorem dX7_readInstruction_110 : decode cX7_readInstruction 110 = .ok (.if_icmp .ne 10, 3) := by decide +kernel
theorem dX7_readInstruction_113 : decode cX7_readInstruction 113 = .ok (.aload_n 0, 1) := by decide +kernel
theorem dX7_readInstruction_114 : decode cX7_readInstruction 114 = .ok (.iload_n 2, 1) := by decide +kernel
theorem dX7_readInstruction_115 : decode cX7_readInstruction 115 = .ok (.iload_n 1, 1) := by decide +kernel
theorem dX7_readInstruction_116 : decode cX7_readInstruction 116 = .ok (.invokevirtual 154, 3) := by decide +kernel
theorem dX7_readInstruction_119 : decode cX7_readInstruction 119 = .ok (.return_, 1) := by decide +kernel
theorem dX7_readInstruction_120 : decode cX7_readInstruction 120 = .ok (.iload_n 3, 1) := by decide +kernel
theorem dX7_readInstruction_121 : decode cX7_readInstruction 121 = .ok (.bipush 46, 2) := by decide +kernel
theorem dX7_readInstruction_123 : decode cX7_readInstruction 123 = .ok (.if_icmp .ne 7, 3) := by decide +kernel
theorem dX7_readInstruction_126 : decode cX7_readInstruction 126 = .ok (.iconst 0, 1) := by decide +kernel
theorem dX7_readInstruction_127 : decode cX7_readInstruction 127 = .ok (.goto 10, 3) := by decide +kernel
theorem dX7_readInstruction_130 : decode cX7_readInstruction 130 = .ok (.aload_n 0, 1) := by decide +kernel
theorem dX7_readInstruction_131 : decode cX7_readInstruction 131 = .ok (.iconst 0, 1) := by decide +kernel
theorem dX7_readInstruction_132 : decode cX7_readInstruction 132 = .ok (.bipush 47, 2) := by decide +kernel
theorem dX7_readInstruction_134 : decode cX7_readInstruction 134 = .ok (.invokevirtual 151, 3) := by decide +kernel
theorem dX7_readInstruction_137 : decode cX7_readInstruction 137 = .ok (.istore 4, 2) := by decide +kernel
theorem dX7_readInstruction_139 : decode cX7_readInstruction 139 = .ok (.iload_n 1, 1) := by decide +kernel
theorem dX7_readInstruction_140 : decode cX7_readInstruction 140 = .ok (.ifCond .eq 34, 3) := by decide +kernel
theorem dX7_readInstruction_143 : decode cX7_readInstruction 143 = .ok (.aload_n 0, 1) := by decide +kernel
theorem dX7_readInstruction_144 : decode cX7_readInstruction 144 = .ok (.iload_n 2, 1) := by decide +kernel
theorem dX7_readInstruction_145 : decode cX7_readInstruction 145 = .ok (.iload_n 3, 1) := by decide +kernel
theorem dX7_readInstruction_146 : decode cX7_readInstruction 146 = .ok (.bipush 46, 2) := by decide +kernel
theorem dX7_readInstruction_148 : decode cX7_readInstruction 148 = .ok (.if_icmp .ne 7, 3) := by decide +kernel
theorem dX7_readInstruction_151 : decode cX7_readInstruction 151 = .ok (.iconst 0, 1) := by decide +kernel
theorem dX7_readInstruction_152 : decode cX7_readInstruction 152 = .ok (.goto 14, 3) := by decide +kernel
theorem dX7_readInstruction_155 : decode cX7_readInstruction 155 = .ok (.iload_n 3, 1) := by decide +kernel
theorem dX7_readInstruction_156 : decode cX7_readInstruction 156 = .ok (.bipush 106, 2) := by decide +kernel
theorem dX7_readInstruction_158 : decode cX7_readInstruction 158 = .ok (.if_icmp .ne 7, 3) := by decide +kernel
theorem dX7_readInstruction_161 : decode cX7_readInstruction 161 = .ok (.iconst 1, 1) := by decide +kernel
theorem dX7_readInstruction_162 : decode cX7_readInstruction 162 = .ok (.goto 4, 3) := by decide +kernel
theorem dX7_readInstruction_165 : decode cX7_readInstruction 165 = .ok (.iconst 2, 1) := by decide +kernel
theorem dX7_readInstruction_166 : decode cX7_readInstruction 166 = .ok (.iload 4, 2) := by decide +kernel
theorem dX7_readInstruction_168 : decode cX7_readInstruction 168 = .ok (.invokevirtual 122, 3) := by decide +kernel
theorem dX7_readInstruction_171 : decode cX7_readInstruction 171 = .ok (.goto 4, 3) := by decide +kernel
theorem dX7_readInstruction_174 : decode cX7_readInstruction 174 = .ok (.iconst 0, 1) := by decide +kernel
theorem dX7_readInstruction_175 : decode cX7_readInstruction 175 = .ok (.istore 5, 2) := by decide +kernel
theorem dX7_readInstruction_177 : decode cX7_readInstruction 177 = .ok (.return_, 1) := by decide +kernel
set_option maxRecDepth 20000 in
theorem ggX7_readCommand_X7_isNext : GoodIn wsX7_readCommand wsX7_isNext := goodIn_r _ [7, 8, 1, 9, 10, 11, 12, 6, 13, 124, 125, 126, 127, 128, 129, 130, 131, 132, 133, 134, 135, 136, 137] (by decide +kernel) (by decide +kernel)
set_option maxRecDepth 20000 in
theorem gX7_readCommand_X7_isNext : GoodIn wsX7_readCommand (wsV RX7 145 RX7 yX7_isNext wsX7_isNext) := goodIn_app (goodIn_of _ (by decide +kernel)) ggX7_readCommand_X7_isNext
set_option maxRecDepth 20000 in
theorem ggX7_readCommand_X7_readInstruction : GoodIn wsX7_readCommand wsX7_readInstruction := goodIn_r _ [17, 10, 1, 8, 18, 19, 20, 6, 21, 22, 23, 24, 25, 3, 4, 5, 7, 9, 11, 12, 13, 26, 27, 28, 29, 30, 31, 32, 33, 34, 35, 36, 37, 38, 39, 40, 41, 42, 43, 44, 45, 46, 47, 48, 49, 50, 51, 52, 124, 125, 126, 127, 128, 129, 130, 131, 132, 133, 134, 135, 136, 137] (by decide +kernel) (by decide +kernel)
set_option maxRecDepth 20000 in
theorem gX7_readCommand_X7_readInstruction : GoodIn wsX7_readCommand (wsV RX7 158 RX7 yX7_readInstruction wsX7_readInstruction) := goodIn_app (goodIn_of _ (by decide +kernel)) ggX7_readCommand_X7_readInstruction
set_option maxRecDepth 20000 in
theorem ggX7_readCommand_X7_number : GoodIn wsX7_readCommand wsX7_number := goodIn_r _ [21, 10, 1, 22, 23, 24, 6, 25, 8, 3, 4, 5, 7, 9, 11, 12, 13, 124, 125, 126, 127, 128, 129, 130, 131, 132, 133, 134, 135, 136, 137] (by decide +kernel) (by decide +kernel)
set_option maxRecDepth 20000 in
theorem gX7_readCommand_X7_number : GoodIn wsX7_readCommand (wsV RX7 151 RX7 yX7_number wsX7_number) := goodIn_app (goodIn_of _ (by decide +kernel)) ggX7_readCommand_X7_number
set_option maxRecDepth 20000 in
theorem ggX7_readCommand_X7_runs : GoodIn wsX7_readCommand wsX7_runs := goodIn_r _ [56, 57, 58, 59, 6, 60, 34, 61, 62, 63, 64, 65, 66, 67, 68, 46, 47, 48, 69, 70, 71, 72, 73, 74, 75, 76, 77, 78, 79, 80, 35, 36, 37, 81, 82, 83, 84, 85, 86, 87, 88, 89, 90, 91, 92, 93, 94, 95, 96, 97, 98, 99, 100, 101, 102, 103, 104, 105, 106, 107, 108, 109, 110, 111, 112, 113, 114, 115, 116, 117, 118, 119, 120, 121, 122, 123, 124, 125, 126, 127, 128, 129, 130, 131, 132, 133, 134, 135, 136, 137] (by decide +kernel) (by decide +kernel)
set_option maxRecDepth 20000 in
theorem gX7_readCommand_X7_runs : GoodIn wsX7_readCommand (wsV RX7 129 RX7 yX7_runs wsX7_runs) := goodIn_app (goodIn_of _ (by decide +kernel)) ggX7_readCommand_X7_runs
theorem dX7_readCommand_0 : decode cX7_readCommand 0 = .ok (.aload_n 0, 1) := by decide +kernel
theorem dX7_readCommand_1 : decode cX7_readCommand 1 = .ok (.bipush 114, 2) := by decide +kernel
theorem dX7_readCommand_3 : decode cX7_readCommand 3 = .ok (.bipush 114, 2) := by decide +kernel
theorem dX7_readCommand_5 : decode cX7_readCommand 5 = .ok (.invokevirtual 145, 3) := by decide +kernel
theorem dX7_readCommand_8 : decode cX7_readCommand 8 = .ok (.ifCond .ne 9, 3) := by decide +kernel
theorem dX7_readCommand_11 : decode cX7_readCommand 11 = .ok (.aload_n 0, 1) := by decide +kernel
theorem dX7_readCommand_12 : decode cX7_readCommand 12 = .ok (.iload_n 1, 1) := by decide +kernel
theorem dX7_readCommand_13 : decode cX7_readCommand 13 = .ok (.invokevirtual 158, 3) := by decide +kernel
theorem dX7_readCommand_16 : decode cX7_readCommand 16 = .ok (.return_, 1) := by decide +kernel
theorem dX7_readCommand_17 : decode cX7_readCommand 17 = .ok (.aload_n 0, 1) := by decide +kernel
theorem dX7_readCommand_18 : decode cX7_readCommand 18 = .ok (.dup, 1) := by decide +kernel
theorem dX7_readCommand_19 : decode cX7_readCommand 19 = .ok (.getfield 142, 3) := by decide +kernel
theorem dX7_readCommand_22 : decode cX7_readCommand 22 = .ok (.iconst 1, 1) := by decide +kernel
theorem dX7_readCommand_23 : decode cX7_readCommand 23 = .ok (.iadd, 1) := by decide +kernel
theorem dX7_readCommand_24 : decode cX7_readCommand 24 = .ok (.putfield 142, 3) := by decide +kernel
theorem dX7_readCommand_27 : decode cX7_readCommand 27 = .ok (.aload_n 0, 1) := by decide +kernel
theorem dX7_readCommand_28 : decode cX7_readCommand 28 = .ok (.iconst 1, 1) := by decide +kernel
theorem dX7_readCommand_29 : decode cX7_readCommand 29 = .ok (.bipush 99, 2) := by decide +kernel
theorem dX7_readCommand_31 : decode cX7_readCommand 31 = .ok (.invokevirtual 151, 3) := by decide +kernel
theorem dX7_readCommand_34 : decode cX7_readCommand 34 = .ok (.istore_n 2, 1) := by decide +kernel
theorem dX7_readCommand_35 : decode cX7_readCommand 35 = .ok (.aload_n 0, 1) := by decide +kernel
theorem dX7_readCommand_36 : decode cX7_readCommand 36 = .ok (.dup, 1) := by decide +kernel
theorem dX7_readCommand_37 : decode cX7_readCommand 37 = .ok (.getfield 162, 3) := by decide +kernel
theorem dX7_readCommand_40 : decode cX7_readCommand 40 = .ok (.iload_n 1, 1) := by decide +kernel
theorem dX7_readCommand_41 : decode cX7_readCommand 41 = .ok (.ifCond .eq 11, 3) := by decide +kernel
theorem dX7_readCommand_44 : decode cX7_readCommand 44 = .ok (.aload_n 0, 1) := by decide +kernel
theorem dX7_readCommand_45 : decode cX7_readCommand 45 = .ok (.iload_n 2, 1) := by decide +kernel
theorem dX7_readCommand_46 : decode cX7_readCommand 46 = .ok (.invokevirtual 129, 3) := by decide +kernel
theorem dX7_readCommand_49 : decode cX7_readCommand 49 = .ok (.goto 4, 3) := by decide +kernel
theorem dX7_readCommand_52 : decode cX7_readCommand 52 = .ok (.iconst 0, 1) := by decide +kernel
theorem dX7_readCommand_53 : decode cX7_readCommand 53 = .ok (.iadd, 1) := by decide +kernel
theorem dX7_readCommand_54 : decode cX7_readCommand 54 = .ok (.putfield 162, 3) := by decide +kernel
theorem dX7_readCommand_57 : decode cX7_readCommand 57 = .ok (.return_, 1) := by decide +kernel
set_option maxRecDepth 20000 in
theorem ggX7_reads_X7_readCommand : GoodIn wsX7_reads wsX7_readCommand := goodIn_r _ [9, 1, 3, 10, 11, 12, 8, 13, 2, 4, 14, 15, 16, 17, 18, 19, 20, 21, 22, 23, 24, 25, 26, 27, 28, 29, 30, 31, 32, 33, 34, 35, 36, 37, 38, 39, 40, 41, 42, 43, 44, 45, 46, 47, 48, 49, 50, 51, 52, 53, 54, 55, 56, 57, 58, 59, 60, 61, 62, 63, 64, 65, 66, 67, 68, 69, 70, 71, 72, 73, 74, 75, 76, 77, 78, 79, 80, 81, 82, 83, 84, 85, 86, 87, 88, 89, 90, 91, 92, 93, 94, 95, 96, 97, 98, 99, 100, 101, 102, 103, 104, 105, 106, 107, 108, 109, 110, 111, 112, 113, 114, 115, 116, 117, 118, 119, 120, 121, 122, 123, 124, 125, 126, 127, 128, 129, 130, 131, 132, 133, 134, 135, 136, 137, 138, 139, 140, 141] (by decide +kernel) (by decide +kernel)
set_option maxRecDepth 20000 in
theorem gX7_reads_X7_readCommand : GoodIn wsX7_reads (wsV RX7 165 RX7 yX7_readCommand wsX7_readCommand) := goodIn_app (goodIn_of _ (by decide +kernel)) ggX7_reads_X7_readCommand
set_option maxRecDepth 20000 in
theorem ggX7_reads_X7_takes : GoodIn wsX7_reads wsX7_takes := goodIn_r _ [29, 14, 1, 2, 10, 11, 12, 8, 13, 4, 15, 16, 17, 128, 129, 130, 131, 132, 133, 134, 135, 136, 137, 138, 139, 140, 141] (by decide +kernel) (by decide +kernel)
set_option maxRecDepth 20000 in
theorem gX7_reads_X7_takes : GoodIn wsX7_reads (wsV RX7 148 RX7 yX7_takes wsX7_takes) := goodIn_app (goodIn_of _ (by decide +kernel)) ggX7_reads_X7_takes
theorem dX7_reads_0 : decode cX7_reads 0 = .ok (.aload_n 0, 1) := by decide +kernel
theorem dX7_reads_1 : decode cX7_reads 1 = .ok (.iconst 0, 1) := by decide +kernel
theorem dX7_reads_2 : decode cX7_reads 2 = .ok (.putfield 142, 3) := by decide +kernel
theorem dX7_reads_5 : decode cX7_reads 5 = .ok (.aload_n 0, 1) := by decide +kernel
theorem dX7_reads_6 : decode cX7_reads 6 = .ok (.iconst 0, 1) := by decide +kernel
theorem dX7_reads_7 : decode cX7_reads 7 = .ok (.putfield 138, 3) := by decide +kernel
theorem dX7_reads_10 : decode cX7_reads 10 = .ok (.aload_n 0, 1) := by decide +kernel
theorem dX7_reads_11 : decode cX7_reads 11 = .ok (.iconst 0, 1) := by decide +kernel
theorem dX7_reads_12 : decode cX7_reads 12 = .ok (.putfield 162, 3) := by decide +kernel
theorem dX7_reads_15 : decode cX7_reads 15 = .ok (.iconst 1, 1) := by decide +kernel
theorem dX7_reads_16 : decode cX7_reads 16 = .ok (.istore_n 2, 1) := by decide +kernel
theorem dX7_reads_17 : decode cX7_reads 17 = .ok (.iload_n 2, 1) := by decide +kernel
theorem dX7_reads_18 : decode cX7_reads 18 = .ok (.ifCond .eq 61, 3) := by decide +kernel
theorem dX7_reads_21 : decode cX7_reads 21 = .ok (.aload_n 0, 1) := by decide +kernel
theorem dX7_reads_22 : decode cX7_reads 22 = .ok (.iload_n 1, 1) := by decide +kernel
theorem dX7_reads_23 : decode cX7_reads 23 = .ok (.invokevirtual 165, 3) := by decide +kernel
theorem dX7_reads_26 : decode cX7_reads 26 = .ok (.aload_n 0, 1) := by decide +kernel
theorem dX7_reads_27 : decode cX7_reads 27 = .ok (.getfield 138, 3) := by decide +kernel
theorem dX7_reads_30 : decode cX7_reads 30 = .ok (.ifCond .ne 18, 3) := by decide +kernel
theorem dX7_reads_33 : decode cX7_reads 33 = .ok (.aload_n 0, 1) := by decide +kernel
theorem dX7_reads_34 : decode cX7_reads 34 = .ok (.getfield 142, 3) := by decide +kernel
theorem dX7_reads_37 : decode cX7_reads 37 = .ok (.aload_n 0, 1) := by decide +kernel
theorem dX7_reads_38 : decode cX7_reads 38 = .ok (.getfield 135, 3) := by decide +kernel
theorem dX7_reads_41 : decode cX7_reads 41 = .ok (.if_icmp .ge 7, 3) := by decide +kernel
theorem dX7_reads_44 : decode cX7_reads 44 = .ok (.iconst 1, 1) := by decide +kernel
theorem dX7_reads_45 : decode cX7_reads 45 = .ok (.goto 4, 3) := by decide +kernel
theorem dX7_reads_48 : decode cX7_reads 48 = .ok (.iconst 0, 1) := by decide +kernel
theorem dX7_reads_49 : decode cX7_reads 49 = .ok (.istore_n 2, 1) := by decide +kernel
theorem dX7_reads_50 : decode cX7_reads 50 = .ok (.iload_n 2, 1) := by decide +kernel
theorem dX7_reads_51 : decode cX7_reads 51 = .ok (.ifCond .eq (-34), 3) := by decide +kernel
theorem dX7_reads_54 : decode cX7_reads 54 = .ok (.aload_n 0, 1) := by decide +kernel
theorem dX7_reads_55 : decode cX7_reads 55 = .ok (.bipush 59, 2) := by decide +kernel
theorem dX7_reads_57 : decode cX7_reads 57 = .ok (.bipush 59, 2) := by decide +kernel
theorem dX7_reads_59 : decode cX7_reads 59 = .ok (.invokevirtual 148, 3) := by decide +kernel
theorem dX7_reads_62 : decode cX7_reads 62 = .ok (.istore_n 3, 1) := by decide +kernel
theorem dX7_reads_63 : decode cX7_reads 63 = .ok (.aload_n 0, 1) := by decide +kernel
theorem dX7_reads_64 : decode cX7_reads 64 = .ok (.getfield 138, 3) := by decide +kernel
theorem dX7_reads_67 : decode cX7_reads 67 = .ok (.ifCond .ne 7, 3) := by decide +kernel
theorem dX7_reads_70 : decode cX7_reads 70 = .ok (.iconst 1, 1) := by decide +kernel
theorem dX7_reads_71 : decode cX7_reads 71 = .ok (.goto 4, 3) := by decide +kernel
theorem dX7_reads_74 : decode cX7_reads 74 = .ok (.iconst 0, 1) := by decide +kernel
theorem dX7_reads_75 : decode cX7_reads 75 = .ok (.istore_n 2, 1) := by decide +kernel
theorem dX7_reads_76 : decode cX7_reads 76 = .ok (.goto (-59), 3) := by decide +kernel
theorem dX7_reads_79 : decode cX7_reads 79 = .ok (.return_, 1) := by decide +kernel
set_option maxRecDepth 20000 in
theorem ggX7_errorPosition_X7_reads : GoodIn wsX7_errorPosition wsX7_reads := goodIn_r _ [8, 3, 2, 9, 10, 11, 12, 13, 7, 14, 15, 16, 17, 18, 19, 20, 21, 22, 23, 24, 25, 26, 27, 28, 29, 30, 31, 32, 33, 34, 35, 36, 37, 38, 39, 40, 41, 42, 43, 44, 45, 46, 47, 48, 49, 50, 51, 52, 53, 54, 55, 56, 57, 58, 59, 60, 61, 62, 63, 64, 65, 66, 67, 68, 69, 70, 71, 72, 73, 74, 75, 76, 77, 78, 79, 80, 81, 82, 83, 84, 85, 86, 87, 88, 89, 90, 91, 92, 93, 94, 95, 96, 97, 98, 99, 100, 101, 102, 103, 104, 105, 106, 107, 108, 109, 110, 111, 112, 113, 114, 115, 116, 117, 118, 119, 120, 121, 122, 123, 124, 125, 126, 127, 128, 129, 130, 131, 132, 133, 134, 135, 136, 137, 138, 139, 140, 141, 142, 143, 144, 145, 146] (by decide +kernel) (by decide +kernel)
set_option maxRecDepth 20000 in
theorem gX7_errorPosition_X7_reads : GoodIn wsX7_errorPosition (wsV RX7 168 RX7 yX7_reads wsX7_reads) := goodIn_app (goodIn_of _ (by decide +kernel)) ggX7_errorPosition_X7_reads
theorem dX7_errorPosition_0 : decode cX7_errorPosition 0 = .ok (.aload_n 0, 1) := by decide +kernel
theorem dX7_errorPosition_1 : decode cX7_errorPosition 1 = .ok (.iconst 0, 1) := by decide +kernel
theorem dX7_errorPosition_2 : decode cX7_errorPosition 2 = .ok (.putfield 32, 3) := by decide +kernel
theorem dX7_errorPosition_5 : decode cX7_errorPosition 5 = .ok (.aload_n 0, 1) := by decide +kernel
theorem dX7_errorPosition_6 : decode cX7_errorPosition 6 = .ok (.iconst 0, 1) := by decide +kernel
theorem dX7_errorPosition_7 : decode cX7_errorPosition 7 = .ok (.invokevirtual 168, 3) := by decide +kernel
theorem dX7_errorPosition_10 : decode cX7_errorPosition 10 = .ok (.aload_n 0, 1) := by decide +kernel
theorem dX7_errorPosition_11 : decode cX7_errorPosition 11 = .ok (.getfield 138, 3) := by decide +kernel
theorem dX7_errorPosition_14 : decode cX7_errorPosition 14 = .ok (.ifCond .eq 10, 3) := by decide +kernel
theorem dX7_errorPosition_17 : decode cX7_errorPosition 17 = .ok (.aload_n 0, 1) := by decide +kernel
theorem dX7_errorPosition_18 : decode cX7_errorPosition 18 = .ok (.getfield 142, 3) := by decide +kernel
theorem dX7_errorPosition_21 : decode cX7_errorPosition 21 = .ok (.goto 4, 3) := by decide +kernel
theorem dX7_errorPosition_24 : decode cX7_errorPosition 24 = .ok (.iconst (-1), 1) := by decide +kernel
theorem dX7_errorPosition_25 : decode cX7_errorPosition 25 = .ok (.ireturn, 1) := by decide +kernel
set_option maxRecDepth 20000 in
theorem ggX7_runText_X7_reads : GoodIn wsX7_runText wsX7_reads := goodIn_r _ [7, 8, 1, 2, 9, 10, 11, 12, 6, 13, 14, 15, 16, 17, 18, 19, 20, 21, 22, 23, 24, 25, 26, 27, 28, 29, 30, 31, 32, 33, 34, 35, 36, 37, 38, 39, 40, 41, 42, 43, 44, 45, 46, 47, 48, 49, 50, 51, 52, 53, 54, 55, 56, 57, 58, 59, 60, 61, 62, 63, 64, 65, 66, 67, 68, 69, 70, 71, 72, 73, 74, 75, 76, 77, 78, 79, 80, 81, 82, 83, 84, 85, 86, 87, 88, 89, 90, 91, 92, 93, 94, 95, 96, 97, 98, 99, 100, 101, 102, 103, 104, 105, 106, 107, 108, 109, 110, 111, 112, 113, 114, 115, 116, 117, 118, 119, 120, 121, 122, 123, 124, 125, 126, 127, 128, 129, 130, 131, 143, 144, 145, 146, 147, 148, 149, 150, 151, 152, 153, 154, 155, 156] (by decide +kernel) (by decide +kernel)
set_option maxRecDepth 20000 in
theorem gX7_runText_X7_reads : GoodIn wsX7_runText (wsV RX7 168 RX7 yX7_reads wsX7_reads) := goodIn_app (goodIn_of _ (by decide +kernel)) ggX7_runText_X7_reads
set_option maxRecDepth 20000 in
theorem ggX7_runText_X7_holds : GoodIn wsX7_runText wsX7_holds := goodIn_r _ [135, 136, 143, 144, 145, 146, 147, 148, 149, 150, 151, 152, 153, 154, 155, 156] (by decide +kernel) (by decide +kernel)
set_option maxRecDepth 20000 in
theorem gX7_runText_X7_holds : GoodIn wsX7_runText (wsV RX7 116 RX7 yX7_holds wsX7_holds) := goodIn_app (goodIn_of _ (by decide +kernel)) ggX7_runText_X7_holds
set_option maxRecDepth 20000 in
theorem ggX7_runText_X7_save : GoodIn wsX7_runText wsX7_save := goodIn_r _ [140, 141, 142, 42, 143, 144, 145, 146, 147, 148, 149, 150, 151, 152, 153, 154, 155, 156] (by decide +kernel) (by decide +kernel)
set_option maxRecDepth 20000 in
theorem gX7_runText_X7_save : GoodIn wsX7_runText (wsV RX7 119 RX7 yX7_save wsX7_save) := goodIn_app (goodIn_of _ (by decide +kernel)) ggX7_runText_X7_save
theorem dX7_runText_0 : decode cX7_runText 0 = .ok (.aload_n 0, 1) := by decide +kernel
theorem dX7_runText_1 : decode cX7_runText 1 = .ok (.iconst 0, 1) := by decide +kernel
theorem dX7_runText_2 : decode cX7_runText 2 = .ok (.invokevirtual 168, 3) := by decide +kernel
theorem dX7_runText_5 : decode cX7_runText 5 = .ok (.aload_n 0, 1) := by decide +kernel
theorem dX7_runText_6 : decode cX7_runText 6 = .ok (.aload_n 0, 1) := by decide +kernel
theorem dX7_runText_7 : decode cX7_runText 7 = .ok (.getfield 138, 3) := by decide +kernel
theorem dX7_runText_10 : decode cX7_runText 10 = .ok (.ifCond .eq 7, 3) := by decide +kernel
theorem dX7_runText_13 : decode cX7_runText 13 = .ok (.iconst 1, 1) := by decide +kernel
theorem dX7_runText_14 : decode cX7_runText 14 = .ok (.goto 4, 3) := by decide +kernel
theorem dX7_runText_17 : decode cX7_runText 17 = .ok (.iconst 0, 1) := by decide +kernel
theorem dX7_runText_18 : decode cX7_runText 18 = .ok (.invokevirtual 116, 3) := by decide +kernel
theorem dX7_runText_21 : decode cX7_runText 21 = .ok (.ifCond .ne 5, 3) := by decide +kernel
theorem dX7_runText_24 : decode cX7_runText 24 = .ok (.iconst 0, 1) := by decide +kernel
theorem dX7_runText_25 : decode cX7_runText 25 = .ok (.ireturn, 1) := by decide +kernel
theorem dX7_runText_26 : decode cX7_runText 26 = .ok (.aload_n 0, 1) := by decide +kernel
theorem dX7_runText_27 : decode cX7_runText 27 = .ok (.invokevirtual 119, 3) := by decide +kernel
theorem dX7_runText_30 : decode cX7_runText 30 = .ok (.aload_n 0, 1) := by decide +kernel
theorem dX7_runText_31 : decode cX7_runText 31 = .ok (.iconst 1, 1) := by decide +kernel
theorem dX7_runText_32 : decode cX7_runText 32 = .ok (.invokevirtual 168, 3) := by decide +kernel
theorem dX7_runText_35 : decode cX7_runText 35 = .ok (.aload_n 0, 1) := by decide +kernel
theorem dX7_runText_36 : decode cX7_runText 36 = .ok (.getfield 162, 3) := by decide +kernel
theorem dX7_runText_39 : decode cX7_runText 39 = .ok (.ireturn, 1) := by decide +kernel
set_option maxRecDepth 20000 in
theorem ggX7_undo_X7_holds : GoodIn wsX7_undo wsX7_holds := goodIn_r _ [8, 9, 10, 11, 12, 13, 14, 15, 16, 17, 18, 19, 20, 21, 22, 23] (by decide +kernel) (by decide +kernel)
set_option maxRecDepth 20000 in
theorem gX7_undo_X7_holds : GoodIn wsX7_undo (wsV RX7 116 RX7 yX7_holds wsX7_holds) := goodIn_app (goodIn_of _ (by decide +kernel)) ggX7_undo_X7_holds
theorem dX7_undo_0 : decode cX7_undo 0 = .ok (.aload_n 0, 1) := by decide +kernel
theorem dX7_undo_1 : decode cX7_undo 1 = .ok (.aload_n 0, 1) := by decide +kernel
theorem dX7_undo_2 : decode cX7_undo 2 = .ok (.getfield 40, 3) := by decide +kernel
theorem dX7_undo_5 : decode cX7_undo 5 = .ok (.ifCond .le 7, 3) := by decide +kernel
theorem dX7_undo_8 : decode cX7_undo 8 = .ok (.iconst 0, 1) := by decide +kernel
theorem dX7_undo_9 : decode cX7_undo 9 = .ok (.goto 4, 3) := by decide +kernel
theorem dX7_undo_12 : decode cX7_undo 12 = .ok (.iconst 1, 1) := by decide +kernel
theorem dX7_undo_13 : decode cX7_undo 13 = .ok (.invokevirtual 116, 3) := by decide +kernel
theorem dX7_undo_16 : decode cX7_undo 16 = .ok (.ifCond .ne 5, 3) := by decide +kernel
theorem dX7_undo_19 : decode cX7_undo 19 = .ok (.iconst 0, 1) := by decide +kernel
theorem dX7_undo_20 : decode cX7_undo 20 = .ok (.ireturn, 1) := by decide +kernel
theorem dX7_undo_21 : decode cX7_undo 21 = .ok (.aload_n 0, 1) := by decide +kernel
theorem dX7_undo_22 : decode cX7_undo 22 = .ok (.dup, 1) := by decide +kernel
theorem dX7_undo_23 : decode cX7_undo 23 = .ok (.getfield 40, 3) := by decide +kernel
theorem dX7_undo_26 : decode cX7_undo 26 = .ok (.iconst 1, 1) := by decide +kernel
theorem dX7_undo_27 : decode cX7_undo 27 = .ok (.isub, 1) := by decide +kernel
theorem dX7_undo_28 : decode cX7_undo 28 = .ok (.putfield 40, 3) := by decide +kernel
theorem dX7_undo_31 : decode cX7_undo 31 = .ok (.iconst 0, 1) := by decide +kernel
theorem dX7_undo_32 : decode cX7_undo 32 = .ok (.istore_n 1, 1) := by decide +kernel
theorem dX7_undo_33 : decode cX7_undo 33 = .ok (.iload_n 1, 1) := by decide +kernel
theorem dX7_undo_34 : decode cX7_undo 34 = .ok (.sipush 389, 3) := by decide +kernel
theorem dX7_undo_37 : decode cX7_undo 37 = .ok (.if_icmp .ge 30, 3) := by decide +kernel
theorem dX7_undo_40 : decode cX7_undo 40 = .ok (.aload_n 0, 1) := by decide +kernel
theorem dX7_undo_41 : decode cX7_undo 41 = .ok (.getfield 7, 3) := by decide +kernel
theorem dX7_undo_44 : decode cX7_undo 44 = .ok (.iload_n 1, 1) := by decide +kernel
theorem dX7_undo_45 : decode cX7_undo 45 = .ok (.aload_n 0, 1) := by decide +kernel
theorem dX7_undo_46 : decode cX7_undo 46 = .ok (.getfield 16, 3) := by decide +kernel
theorem dX7_undo_49 : decode cX7_undo 49 = .ok (.sipush 389, 3) := by decide +kernel
theorem dX7_undo_52 : decode cX7_undo 52 = .ok (.aload_n 0, 1) := by decide +kernel
theorem dX7_undo_53 : decode cX7_undo 53 = .ok (.getfield 40, 3) := by decide +kernel
theorem dX7_undo_56 : decode cX7_undo 56 = .ok (.imul, 1) := by decide +kernel
theorem dX7_undo_57 : decode cX7_undo 57 = .ok (.iload_n 1, 1) := by decide +kernel
theorem dX7_undo_58 : decode cX7_undo 58 = .ok (.iadd, 1) := by decide +kernel
theorem dX7_undo_59 : decode cX7_undo 59 = .ok (.iaload, 1) := by decide +kernel
theorem dX7_undo_60 : decode cX7_undo 60 = .ok (.iastore, 1) := by decide +kernel
theorem dX7_undo_61 : decode cX7_undo 61 = .ok (.iinc 1 1, 3) := by decide +kernel
theorem dX7_undo_64 : decode cX7_undo 64 = .ok (.goto (-31), 3) := by decide +kernel
theorem dX7_undo_67 : decode cX7_undo 67 = .ok (.aload_n 0, 1) := by decide +kernel
theorem dX7_undo_68 : decode cX7_undo 68 = .ok (.getfield 40, 3) := by decide +kernel
theorem dX7_undo_71 : decode cX7_undo 71 = .ok (.ireturn, 1) := by decide +kernel
set_option maxRecDepth 20000 in
theorem ggX7_partOf_X7_of : GoodIn wsX7_partOf wsX7_of := goodIn_r _ [5] (by decide +kernel) (by decide +kernel)
set_option maxRecDepth 20000 in
theorem gX7_partOf_X7_of : GoodIn wsX7_partOf (va_wsS RX7 28 yX7_of wsX7_of) := goodIn_app (goodIn_of _ (by decide +kernel)) ggX7_partOf_X7_of
set_option maxRecDepth 20000 in
theorem ggX7_partOf_X7_predictedSuccessor : GoodIn wsX7_partOf wsX7_predictedSuccessor := goodIn_r _ [9, 10, 11, 12, 4, 13, 1, 2, 3, 5, 14, 15, 16, 17, 18, 19, 20, 21, 22, 23, 24, 25, 26, 27, 28, 29, 30, 31, 32, 33, 34] (by decide +kernel) (by decide +kernel)
set_option maxRecDepth 20000 in
theorem gX7_partOf_X7_predictedSuccessor : GoodIn wsX7_partOf (wsV RX7 58 RX7 yX7_predictedSuccessor wsX7_predictedSuccessor) := goodIn_app (goodIn_of _ (by decide +kernel)) ggX7_partOf_X7_predictedSuccessor
theorem dX7_partOf_0 : decode cX7_partOf 0 = .ok (.iload_n 2, 1) := by decide +kernel
theorem dX7_partOf_1 : decode cX7_partOf 1 = .ok (.tableswitch 122 0 5 #[39, 50, 78, 89, 100, 111], 39) := by decide +kernel
theorem dX7_partOf_40 : decode cX7_partOf 40 = .ok (.aload_n 0, 1) := by decide +kernel
theorem dX7_partOf_41 : decode cX7_partOf 41 = .ok (.getfield 7, 3) := by decide +kernel
theorem dX7_partOf_44 : decode cX7_partOf 44 = .ok (.iload_n 1, 1) := by decide +kernel
theorem dX7_partOf_45 : decode cX7_partOf 45 = .ok (.iconst 0, 1) := by decide +kernel
theorem dX7_partOf_46 : decode cX7_partOf 46 = .ok (.invokestatic 28, 3) := by decide +kernel
theorem dX7_partOf_49 : decode cX7_partOf 49 = .ok (.iaload, 1) := by decide +kernel
theorem dX7_partOf_50 : decode cX7_partOf 50 = .ok (.ireturn, 1) := by decide +kernel
theorem dX7_partOf_51 : decode cX7_partOf 51 = .ok (.aload_n 0, 1) := by decide +kernel
theorem dX7_partOf_52 : decode cX7_partOf 52 = .ok (.getfield 7, 3) := by decide +kernel
theorem dX7_partOf_55 : decode cX7_partOf 55 = .ok (.iload_n 1, 1) := by decide +kernel
theorem dX7_partOf_56 : decode cX7_partOf 56 = .ok (.iconst 0, 1) := by decide +kernel
theorem dX7_partOf_57 : decode cX7_partOf 57 = .ok (.invokestatic 28, 3) := by decide +kernel
theorem dX7_partOf_60 : decode cX7_partOf 60 = .ok (.iaload, 1) := by decide +kernel
theorem dX7_partOf_61 : decode cX7_partOf 61 = .ok (.ifCond .ne 7, 3) := by decide +kernel
theorem dX7_partOf_64 : decode cX7_partOf 64 = .ok (.iconst (-1), 1) := by decide +kernel
theorem dX7_partOf_65 : decode cX7_partOf 65 = .ok (.goto 13, 3) := by decide +kernel
theorem dX7_partOf_68 : decode cX7_partOf 68 = .ok (.aload_n 0, 1) := by decide +kernel
theorem dX7_partOf_69 : decode cX7_partOf 69 = .ok (.getfield 7, 3) := by decide +kernel
theorem dX7_partOf_72 : decode cX7_partOf 72 = .ok (.iload_n 1, 1) := by decide +kernel
theorem dX7_partOf_73 : decode cX7_partOf 73 = .ok (.iconst 1, 1) := by decide +kernel
theorem dX7_partOf_74 : decode cX7_partOf 74 = .ok (.invokestatic 28, 3) := by decide +kernel
theorem dX7_partOf_77 : decode cX7_partOf 77 = .ok (.iaload, 1) := by decide +kernel
theorem dX7_partOf_78 : decode cX7_partOf 78 = .ok (.ireturn, 1) := by decide +kernel
theorem dX7_partOf_79 : decode cX7_partOf 79 = .ok (.aload_n 0, 1) := by decide +kernel
theorem dX7_partOf_80 : decode cX7_partOf 80 = .ok (.getfield 7, 3) := by decide +kernel
theorem dX7_partOf_83 : decode cX7_partOf 83 = .ok (.iload_n 1, 1) := by decide +kernel
theorem dX7_partOf_84 : decode cX7_partOf 84 = .ok (.iconst 4, 1) := by decide +kernel
theorem dX7_partOf_85 : decode cX7_partOf 85 = .ok (.invokestatic 28, 3) := by decide +kernel
theorem dX7_partOf_88 : decode cX7_partOf 88 = .ok (.iaload, 1) := by decide +kernel
theorem dX7_partOf_89 : decode cX7_partOf 89 = .ok (.ireturn, 1) := by decide +kernel
theorem dX7_partOf_90 : decode cX7_partOf 90 = .ok (.aload_n 0, 1) := by decide +kernel
theorem dX7_partOf_91 : decode cX7_partOf 91 = .ok (.getfield 7, 3) := by decide +kernel
theorem dX7_partOf_94 : decode cX7_partOf 94 = .ok (.iload_n 1, 1) := by decide +kernel
theorem dX7_partOf_95 : decode cX7_partOf 95 = .ok (.iconst 3, 1) := by decide +kernel
theorem dX7_partOf_96 : decode cX7_partOf 96 = .ok (.invokestatic 28, 3) := by decide +kernel
theorem dX7_partOf_99 : decode cX7_partOf 99 = .ok (.iaload, 1) := by decide +kernel
theorem dX7_partOf_100 : decode cX7_partOf 100 = .ok (.ireturn, 1) := by decide +kernel
theorem dX7_partOf_101 : decode cX7_partOf 101 = .ok (.aload_n 0, 1) := by decide +kernel
theorem dX7_partOf_102 : decode cX7_partOf 102 = .ok (.getfield 7, 3) := by decide +kernel
theorem dX7_partOf_105 : decode cX7_partOf 105 = .ok (.iload_n 1, 1) := by decide +kernel
theorem dX7_partOf_106 : decode cX7_partOf 106 = .ok (.iconst 2, 1) := by decide +kernel
theorem dX7_partOf_107 : decode cX7_partOf 107 = .ok (.invokestatic 28, 3) := by decide +kernel
theorem dX7_partOf_110 : decode cX7_partOf 110 = .ok (.iaload, 1) := by decide +kernel
theorem dX7_partOf_111 : decode cX7_partOf 111 = .ok (.ireturn, 1) := by decide +kernel
theorem dX7_partOf_112 : decode cX7_partOf 112 = .ok (.aload_n 0, 1) := by decide +kernel
theorem dX7_partOf_113 : decode cX7_partOf 113 = .ok (.getfield 7, 3) := by decide +kernel
theorem dX7_partOf_116 : decode cX7_partOf 116 = .ok (.iload_n 1, 1) := by decide +kernel
theorem dX7_partOf_117 : decode cX7_partOf 117 = .ok (.iconst 5, 1) := by decide +kernel
theorem dX7_partOf_118 : decode cX7_partOf 118 = .ok (.invokestatic 28, 3) := by decide +kernel
theorem dX7_partOf_121 : decode cX7_partOf 121 = .ok (.iaload, 1) := by decide +kernel
theorem dX7_partOf_122 : decode cX7_partOf 122 = .ok (.ireturn, 1) := by decide +kernel
theorem dX7_partOf_123 : decode cX7_partOf 123 = .ok (.aload_n 0, 1) := by decide +kernel
theorem dX7_partOf_124 : decode cX7_partOf 124 = .ok (.iload_n 1, 1) := by decide +kernel
theorem dX7_partOf_125 : decode cX7_partOf 125 = .ok (.invokevirtual 58, 3) := by decide +kernel
theorem dX7_partOf_128 : decode cX7_partOf 128 = .ok (.ireturn, 1) := by decide +kernel
set_option maxRecDepth 20000 in
theorem ggX7_instruction_X7_isAddress : GoodIn wsX7_instruction wsX7_isAddress := goodIn_r _ [4, 5, 6, 3, 7] (by decide +kernel) (by decide +kernel)
set_option maxRecDepth 20000 in
theorem gX7_instruction_X7_isAddress : GoodIn wsX7_instruction (va_wsS RX7 113 yX7_isAddress wsX7_isAddress) := goodIn_app (goodIn_of _ (by decide +kernel)) ggX7_instruction_X7_isAddress
set_option maxRecDepth 20000 in
theorem ggX7_instruction_X7_in : GoodIn wsX7_instruction wsX7_in := goodIn_r _ [7] (by decide +kernel) (by decide +kernel)
set_option maxRecDepth 20000 in
theorem gX7_instruction_X7_in : GoodIn wsX7_instruction (va_wsS RX7 36 yX7_in wsX7_in) := goodIn_app (goodIn_of _ (by decide +kernel)) ggX7_instruction_X7_in
set_option maxRecDepth 20000 in
theorem ggX7_instruction_X7_holds : GoodIn wsX7_instruction wsX7_holds := goodIn_r _ [11, 12, 36, 37, 38, 39, 40, 41, 42, 43, 44, 45, 46, 47, 48, 49] (by decide +kernel) (by decide +kernel)
set_option maxRecDepth 20000 in
theorem gX7_instruction_X7_holds : GoodIn wsX7_instruction (wsV RX7 116 RX7 yX7_holds wsX7_holds) := goodIn_app (goodIn_of _ (by decide +kernel)) ggX7_instruction_X7_holds
set_option maxRecDepth 20000 in
theorem ggX7_instruction_X7_partOf : GoodIn wsX7_instruction wsX7_partOf := goodIn_r _ [16, 17, 18, 19, 3, 20, 21, 22, 23, 24, 25, 26, 27, 28, 29, 30, 31, 32, 33, 34, 35, 36, 37, 38, 39, 40, 41, 42, 43, 44, 45, 46, 47, 48, 49] (by decide +kernel) (by decide +kernel)
set_option maxRecDepth 20000 in
theorem gX7_instruction_X7_partOf : GoodIn wsX7_instruction (wsV RX7 171 RX7 yX7_partOf wsX7_partOf) := goodIn_app (goodIn_of _ (by decide +kernel)) ggX7_instruction_X7_partOf
theorem dX7_instruction_0 : decode cX7_instruction 0 = .ok (.aload_n 0, 1) := by decide +kernel
theorem dX7_instruction_1 : decode cX7_instruction 1 = .ok (.iload_n 1, 1) := by decide +kernel
theorem dX7_instruction_2 : decode cX7_instruction 2 = .ok (.invokestatic 113, 3) := by decide +kernel
theorem dX7_instruction_5 : decode cX7_instruction 5 = .ok (.ifCond .ne 7, 3) := by decide +kernel
theorem dX7_instruction_8 : decode cX7_instruction 8 = .ok (.iconst 1, 1) := by decide +kernel
theorem dX7_instruction_9 : decode cX7_instruction 9 = .ok (.goto 18, 3) := by decide +kernel
theorem dX7_instruction_12 : decode cX7_instruction 12 = .ok (.iload_n 2, 1) := by decide +kernel
theorem dX7_instruction_13 : decode cX7_instruction 13 = .ok (.iconst 0, 1) := by decide +kernel
theorem dX7_instruction_14 : decode cX7_instruction 14 = .ok (.bipush 6, 2) := by decide +kernel
theorem dX7_instruction_16 : decode cX7_instruction 16 = .ok (.invokestatic 36, 3) := by decide +kernel
theorem dX7_instruction_19 : decode cX7_instruction 19 = .ok (.ifCond .eq 7, 3) := by decide +kernel
theorem dX7_instruction_22 : decode cX7_instruction 22 = .ok (.iconst 0, 1) := by decide +kernel
theorem dX7_instruction_23 : decode cX7_instruction 23 = .ok (.goto 4, 3) := by decide +kernel
theorem dX7_instruction_26 : decode cX7_instruction 26 = .ok (.iconst 2, 1) := by decide +kernel
theorem dX7_instruction_27 : decode cX7_instruction 27 = .ok (.invokevirtual 116, 3) := by decide +kernel
theorem dX7_instruction_30 : decode cX7_instruction 30 = .ok (.ifCond .eq 12, 3) := by decide +kernel
theorem dX7_instruction_33 : decode cX7_instruction 33 = .ok (.aload_n 0, 1) := by decide +kernel
theorem dX7_instruction_34 : decode cX7_instruction 34 = .ok (.iload_n 1, 1) := by decide +kernel
theorem dX7_instruction_35 : decode cX7_instruction 35 = .ok (.iload_n 2, 1) := by decide +kernel
theorem dX7_instruction_36 : decode cX7_instruction 36 = .ok (.invokevirtual 171, 3) := by decide +kernel
theorem dX7_instruction_39 : decode cX7_instruction 39 = .ok (.goto 4, 3) := by decide +kernel
theorem dX7_instruction_42 : decode cX7_instruction 42 = .ok (.iconst 0, 1) := by decide +kernel
theorem dX7_instruction_43 : decode cX7_instruction 43 = .ok (.ireturn, 1) := by decide +kernel
theorem dX7_programCounter_0 : decode cX7_programCounter 0 = .ok (.aload_n 0, 1) := by decide +kernel
theorem dX7_programCounter_1 : decode cX7_programCounter 1 = .ok (.iconst 0, 1) := by decide +kernel
theorem dX7_programCounter_2 : decode cX7_programCounter 2 = .ok (.putfield 32, 3) := by decide +kernel
theorem dX7_programCounter_5 : decode cX7_programCounter 5 = .ok (.aload_n 0, 1) := by decide +kernel
theorem dX7_programCounter_6 : decode cX7_programCounter 6 = .ok (.getfield 7, 3) := by decide +kernel
theorem dX7_programCounter_9 : decode cX7_programCounter 9 = .ok (.sipush 288, 3) := by decide +kernel
theorem dX7_programCounter_12 : decode cX7_programCounter 12 = .ok (.iaload, 1) := by decide +kernel
theorem dX7_programCounter_13 : decode cX7_programCounter 13 = .ok (.ireturn, 1) := by decide +kernel
set_option maxRecDepth 20000 in
theorem ggX7_executedBehind_X7_putAside : GoodIn wsX7_executedBehind wsX7_putAside := goodIn_r _ [6, 7, 1, 26, 27, 28, 29, 30, 31, 32, 33, 34, 35, 36, 37, 38, 39] (by decide +kernel) (by decide +kernel)
set_option maxRecDepth 20000 in
theorem gX7_executedBehind_X7_putAside : GoodIn wsX7_executedBehind (wsV RX7 174 RX7 yX7_putAside wsX7_putAside) := goodIn_app (goodIn_of _ (by decide +kernel)) ggX7_executedBehind_X7_putAside
set_option maxRecDepth 20000 in
theorem ggX7_executedBehind_X7_isTakenNow : GoodIn wsX7_executedBehind wsX7_isTakenNow := goodIn_r _ [11, 1, 12, 13, 5, 14, 26, 27, 28, 29, 30, 31, 32, 33, 34, 35, 36, 37, 38, 39] (by decide +kernel) (by decide +kernel)
set_option maxRecDepth 20000 in
theorem gX7_executedBehind_X7_isTakenNow : GoodIn wsX7_executedBehind (wsV RX7 90 RX7 yX7_isTakenNow wsX7_isTakenNow) := goodIn_app (goodIn_of _ (by decide +kernel)) ggX7_executedBehind_X7_isTakenNow
set_option maxRecDepth 20000 in
theorem ggX7_executedBehind_X7_successor : GoodIn wsX7_executedBehind wsX7_successor := goodIn_r _ [18, 1, 12, 13, 5, 14, 19, 20, 21, 26, 27, 28, 29, 30, 31, 32, 33, 34, 35, 36, 37, 38, 39] (by decide +kernel) (by decide +kernel)
set_option maxRecDepth 20000 in
theorem gX7_executedBehind_X7_successor : GoodIn wsX7_executedBehind (wsV RX7 51 RX7 yX7_successor wsX7_successor) := goodIn_app (goodIn_of _ (by decide +kernel)) ggX7_executedBehind_X7_successor
set_option maxRecDepth 20000 in
theorem ggX7_executedBehind_X7_of : GoodIn wsX7_executedBehind wsX7_of := goodIn_r _ [14] (by decide +kernel) (by decide +kernel)
set_option maxRecDepth 20000 in
theorem gX7_executedBehind_X7_of : GoodIn wsX7_executedBehind (va_wsS RX7 28 yX7_of wsX7_of) := goodIn_app (goodIn_of _ (by decide +kernel)) ggX7_executedBehind_X7_of
set_option maxRecDepth 20000 in
theorem ggX7_executedBehind_X7_putBack : GoodIn wsX7_executedBehind wsX7_putBack := goodIn_r _ [25, 1, 7, 26, 27, 28, 29, 30, 31, 32, 33, 34, 35, 36, 37, 38, 39] (by decide +kernel) (by decide +kernel)
set_option maxRecDepth 20000 in
theorem gX7_executedBehind_X7_putBack : GoodIn wsX7_executedBehind (wsV RX7 177 RX7 yX7_putBack wsX7_putBack) := goodIn_app (goodIn_of _ (by decide +kernel)) ggX7_executedBehind_X7_putBack
theorem dX7_executedBehind_0 : decode cX7_executedBehind 0 = .ok (.aload_n 0, 1) := by decide +kernel
theorem dX7_executedBehind_1 : decode cX7_executedBehind 1 = .ok (.invokevirtual 174, 3) := by decide +kernel
theorem dX7_executedBehind_4 : decode cX7_executedBehind 4 = .ok (.iconst 0, 1) := by decide +kernel
theorem dX7_executedBehind_5 : decode cX7_executedBehind 5 = .ok (.istore_n 2, 1) := by decide +kernel
theorem dX7_executedBehind_6 : decode cX7_executedBehind 6 = .ok (.iload_n 2, 1) := by decide +kernel
theorem dX7_executedBehind_7 : decode cX7_executedBehind 7 = .ok (.iload_n 1, 1) := by decide +kernel
theorem dX7_executedBehind_8 : decode cX7_executedBehind 8 = .ok (.if_icmp .ge 68, 3) := by decide +kernel
theorem dX7_executedBehind_11 : decode cX7_executedBehind 11 = .ok (.aload_n 0, 1) := by decide +kernel
theorem dX7_executedBehind_12 : decode cX7_executedBehind 12 = .ok (.getfield 7, 3) := by decide +kernel
theorem dX7_executedBehind_15 : decode cX7_executedBehind 15 = .ok (.sipush 288, 3) := by decide +kernel
theorem dX7_executedBehind_18 : decode cX7_executedBehind 18 = .ok (.iaload, 1) := by decide +kernel
theorem dX7_executedBehind_19 : decode cX7_executedBehind 19 = .ok (.istore_n 3, 1) := by decide +kernel
theorem dX7_executedBehind_20 : decode cX7_executedBehind 20 = .ok (.aload_n 0, 1) := by decide +kernel
theorem dX7_executedBehind_21 : decode cX7_executedBehind 21 = .ok (.getfield 7, 3) := by decide +kernel
theorem dX7_executedBehind_24 : decode cX7_executedBehind 24 = .ok (.sipush 288, 3) := by decide +kernel
theorem dX7_executedBehind_27 : decode cX7_executedBehind 27 = .ok (.aload_n 0, 1) := by decide +kernel
theorem dX7_executedBehind_28 : decode cX7_executedBehind 28 = .ok (.iload_n 3, 1) := by decide +kernel
theorem dX7_executedBehind_29 : decode cX7_executedBehind 29 = .ok (.aload_n 0, 1) := by decide +kernel
theorem dX7_executedBehind_30 : decode cX7_executedBehind 30 = .ok (.iload_n 3, 1) := by decide +kernel
theorem dX7_executedBehind_31 : decode cX7_executedBehind 31 = .ok (.invokevirtual 90, 3) := by decide +kernel
theorem dX7_executedBehind_34 : decode cX7_executedBehind 34 = .ok (.invokevirtual 51, 3) := by decide +kernel
theorem dX7_executedBehind_37 : decode cX7_executedBehind 37 = .ok (.iastore, 1) := by decide +kernel
theorem dX7_executedBehind_38 : decode cX7_executedBehind 38 = .ok (.aload_n 0, 1) := by decide +kernel
theorem dX7_executedBehind_39 : decode cX7_executedBehind 39 = .ok (.getfield 7, 3) := by decide +kernel
theorem dX7_executedBehind_42 : decode cX7_executedBehind 42 = .ok (.iload_n 3, 1) := by decide +kernel
theorem dX7_executedBehind_43 : decode cX7_executedBehind 43 = .ok (.iconst 4, 1) := by decide +kernel
theorem dX7_executedBehind_44 : decode cX7_executedBehind 44 = .ok (.invokestatic 28, 3) := by decide +kernel
theorem dX7_executedBehind_47 : decode cX7_executedBehind 47 = .ok (.dup2, 1) := by decide +kernel
theorem dX7_executedBehind_48 : decode cX7_executedBehind 48 = .ok (.iaload, 1) := by decide +kernel
theorem dX7_executedBehind_49 : decode cX7_executedBehind 49 = .ok (.aload_n 0, 1) := by decide +kernel
theorem dX7_executedBehind_50 : decode cX7_executedBehind 50 = .ok (.getfield 7, 3) := by decide +kernel
theorem dX7_executedBehind_53 : decode cX7_executedBehind 53 = .ok (.iload_n 3, 1) := by decide +kernel
theorem dX7_executedBehind_54 : decode cX7_executedBehind 54 = .ok (.iconst 0, 1) := by decide +kernel
theorem dX7_executedBehind_55 : decode cX7_executedBehind 55 = .ok (.invokestatic 28, 3) := by decide +kernel
theorem dX7_executedBehind_58 : decode cX7_executedBehind 58 = .ok (.iaload, 1) := by decide +kernel
theorem dX7_executedBehind_59 : decode cX7_executedBehind 59 = .ok (.iconst 2, 1) := by decide +kernel
theorem dX7_executedBehind_60 : decode cX7_executedBehind 60 = .ok (.if_icmp .ne 7, 3) := by decide +kernel
theorem dX7_executedBehind_63 : decode cX7_executedBehind 63 = .ok (.iconst 1, 1) := by decide +kernel
theorem dX7_executedBehind_64 : decode cX7_executedBehind 64 = .ok (.goto 4, 3) := by decide +kernel
theorem dX7_executedBehind_67 : decode cX7_executedBehind 67 = .ok (.iconst 0, 1) := by decide +kernel
theorem dX7_executedBehind_68 : decode cX7_executedBehind 68 = .ok (.iadd, 1) := by decide +kernel
theorem dX7_executedBehind_69 : decode cX7_executedBehind 69 = .ok (.iastore, 1) := by decide +kernel
theorem dX7_executedBehind_70 : decode cX7_executedBehind 70 = .ok (.iinc 2 1, 3) := by decide +kernel
theorem dX7_executedBehind_73 : decode cX7_executedBehind 73 = .ok (.goto (-67), 3) := by decide +kernel
theorem dX7_executedBehind_76 : decode cX7_executedBehind 76 = .ok (.aload_n 0, 1) := by decide +kernel
theorem dX7_executedBehind_77 : decode cX7_executedBehind 77 = .ok (.getfield 7, 3) := by decide +kernel
theorem dX7_executedBehind_80 : decode cX7_executedBehind 80 = .ok (.sipush 288, 3) := by decide +kernel
theorem dX7_executedBehind_83 : decode cX7_executedBehind 83 = .ok (.iaload, 1) := by decide +kernel
theorem dX7_executedBehind_84 : decode cX7_executedBehind 84 = .ok (.istore_n 2, 1) := by decide +kernel
theorem dX7_executedBehind_85 : decode cX7_executedBehind 85 = .ok (.aload_n 0, 1) := by decide +kernel
theorem dX7_executedBehind_86 : decode cX7_executedBehind 86 = .ok (.invokevirtual 177, 3) := by decide +kernel
theorem dX7_executedBehind_89 : decode cX7_executedBehind 89 = .ok (.iload_n 2, 1) := by decide +kernel
theorem dX7_executedBehind_90 : decode cX7_executedBehind 90 = .ok (.ireturn, 1) := by decide +kernel
set_option maxRecDepth 20000 in
theorem ggX7_willExecute_X7_in : GoodIn wsX7_willExecute wsX7_in := goodIn_r _ [4] (by decide +kernel) (by decide +kernel)
set_option maxRecDepth 20000 in
theorem gX7_willExecute_X7_in : GoodIn wsX7_willExecute (va_wsS RX7 36 yX7_in wsX7_in) := goodIn_app (goodIn_of _ (by decide +kernel)) ggX7_willExecute_X7_in
set_option maxRecDepth 20000 in
theorem ggX7_willExecute_X7_holds : GoodIn wsX7_willExecute wsX7_holds := goodIn_r _ [8, 9, 38, 39, 40, 41, 42, 43, 44, 45, 46, 47, 48, 49, 50, 51] (by decide +kernel) (by decide +kernel)
set_option maxRecDepth 20000 in
theorem gX7_willExecute_X7_holds : GoodIn wsX7_willExecute (wsV RX7 116 RX7 yX7_holds wsX7_holds) := goodIn_app (goodIn_of _ (by decide +kernel)) ggX7_willExecute_X7_holds
set_option maxRecDepth 20000 in
theorem ggX7_willExecute_X7_executedBehind : GoodIn wsX7_willExecute wsX7_executedBehind := goodIn_r _ [13, 14, 15, 16, 17, 3, 18, 19, 20, 21, 22, 23, 24, 25, 26, 27, 28, 29, 30, 31, 32, 33, 34, 35, 36, 37, 38, 39, 40, 41, 42, 43, 44, 45, 46, 47, 48, 49, 50, 51] (by decide +kernel) (by decide +kernel)
set_option maxRecDepth 20000 in
theorem gX7_willExecute_X7_executedBehind : GoodIn wsX7_willExecute (wsV RX7 180 RX7 yX7_executedBehind wsX7_executedBehind) := goodIn_app (goodIn_of _ (by decide +kernel)) ggX7_willExecute_X7_executedBehind
theorem dX7_willExecute_0 : decode cX7_willExecute 0 = .ok (.aload_n 0, 1) := by decide +kernel
theorem dX7_willExecute_1 : decode cX7_willExecute 1 = .ok (.iload_n 1, 1) := by decide +kernel
theorem dX7_willExecute_2 : decode cX7_willExecute 2 = .ok (.iconst 0, 1) := by decide +kernel
theorem dX7_willExecute_3 : decode cX7_willExecute 3 = .ok (.bipush 99, 2) := by decide +kernel
theorem dX7_willExecute_5 : decode cX7_willExecute 5 = .ok (.invokestatic 36, 3) := by decide +kernel
theorem dX7_willExecute_8 : decode cX7_willExecute 8 = .ok (.ifCond .eq 7, 3) := by decide +kernel
theorem dX7_willExecute_11 : decode cX7_willExecute 11 = .ok (.iconst 0, 1) := by decide +kernel
theorem dX7_willExecute_12 : decode cX7_willExecute 12 = .ok (.goto 4, 3) := by decide +kernel
theorem dX7_willExecute_15 : decode cX7_willExecute 15 = .ok (.iconst 1, 1) := by decide +kernel
theorem dX7_willExecute_16 : decode cX7_willExecute 16 = .ok (.invokevirtual 116, 3) := by decide +kernel
theorem dX7_willExecute_19 : decode cX7_willExecute 19 = .ok (.ifCond .eq 11, 3) := by decide +kernel
theorem dX7_willExecute_22 : decode cX7_willExecute 22 = .ok (.aload_n 0, 1) := by decide +kernel
theorem dX7_willExecute_23 : decode cX7_willExecute 23 = .ok (.iload_n 1, 1) := by decide +kernel
theorem dX7_willExecute_24 : decode cX7_willExecute 24 = .ok (.invokevirtual 180, 3) := by decide +kernel
theorem dX7_willExecute_27 : decode cX7_willExecute 27 = .ok (.goto 4, 3) := by decide +kernel
theorem dX7_willExecute_30 : decode cX7_willExecute 30 = .ok (.iconst 0, 1) := by decide +kernel
theorem dX7_willExecute_31 : decode cX7_willExecute 31 = .ok (.ireturn, 1) := by decide +kernel
set_option maxRecDepth 20000 in
theorem ggX7_ofOne_X7_ofLine : GoodIn wsX7_ofOne wsX7_ofLine := goodIn_r _ [5] (by decide +kernel) (by decide +kernel)
set_option maxRecDepth 20000 in
theorem gX7_ofOne_X7_ofLine : GoodIn wsX7_ofOne (va_wsS RX7 55 yX7_ofLine wsX7_ofLine) := goodIn_app (goodIn_of _ (by decide +kernel)) ggX7_ofOne_X7_ofLine
set_option maxRecDepth 20000 in
theorem ggX7_ofOne_X7_usable : GoodIn wsX7_ofOne wsX7_usable := goodIn_r _ [9, 1, 2, 3, 4, 5, 10, 11, 12, 13, 14, 15, 16, 17, 18, 19, 20, 21, 22, 23, 24, 25, 26, 27, 28, 29, 30, 31, 32, 33, 34, 35, 36, 37, 38, 39, 40, 41] (by decide +kernel) (by decide +kernel)
set_option maxRecDepth 20000 in
theorem gX7_ofOne_X7_usable : GoodIn wsX7_ofOne (wsV RX7 80 RX7 yX7_usable wsX7_usable) := goodIn_app (goodIn_of _ (by decide +kernel)) ggX7_ofOne_X7_usable
theorem dX7_ofOne_0 : decode cX7_ofOne 0 = .ok (.aload_n 0, 1) := by decide +kernel
theorem dX7_ofOne_1 : decode cX7_ofOne 1 = .ok (.getfield 7, 3) := by decide +kernel
theorem dX7_ofOne_4 : decode cX7_ofOne 4 = .ok (.iload_n 1, 1) := by decide +kernel
theorem dX7_ofOne_5 : decode cX7_ofOne 5 = .ok (.iconst 0, 1) := by decide +kernel
theorem dX7_ofOne_6 : decode cX7_ofOne 6 = .ok (.invokestatic 55, 3) := by decide +kernel
theorem dX7_ofOne_9 : decode cX7_ofOne 9 = .ok (.iaload, 1) := by decide +kernel
theorem dX7_ofOne_10 : decode cX7_ofOne 10 = .ok (.ifCond .eq 19, 3) := by decide +kernel
theorem dX7_ofOne_13 : decode cX7_ofOne 13 = .ok (.iload_n 2, 1) := by decide +kernel
theorem dX7_ofOne_14 : decode cX7_ofOne 14 = .ok (.iconst 3, 1) := by decide +kernel
theorem dX7_ofOne_15 : decode cX7_ofOne 15 = .ok (.isub, 1) := by decide +kernel
theorem dX7_ofOne_16 : decode cX7_ofOne 16 = .ok (.aload_n 0, 1) := by decide +kernel
theorem dX7_ofOne_17 : decode cX7_ofOne 17 = .ok (.getfield 7, 3) := by decide +kernel
theorem dX7_ofOne_20 : decode cX7_ofOne 20 = .ok (.iload_n 1, 1) := by decide +kernel
theorem dX7_ofOne_21 : decode cX7_ofOne 21 = .ok (.iconst 0, 1) := by decide +kernel
theorem dX7_ofOne_22 : decode cX7_ofOne 22 = .ok (.invokestatic 55, 3) := by decide +kernel
theorem dX7_ofOne_25 : decode cX7_ofOne 25 = .ok (.iaload, 1) := by decide +kernel
theorem dX7_ofOne_26 : decode cX7_ofOne 26 = .ok (.if_icmp .lt 5, 3) := by decide +kernel
theorem dX7_ofOne_29 : decode cX7_ofOne 29 = .ok (.iconst (-1), 1) := by decide +kernel
theorem dX7_ofOne_30 : decode cX7_ofOne 30 = .ok (.ireturn, 1) := by decide +kernel
theorem dX7_ofOne_31 : decode cX7_ofOne 31 = .ok (.iload_n 2, 1) := by decide +kernel
theorem dX7_ofOne_32 : decode cX7_ofOne 32 = .ok (.ifCond .ne 16, 3) := by decide +kernel
theorem dX7_ofOne_35 : decode cX7_ofOne 35 = .ok (.aload_n 0, 1) := by decide +kernel
theorem dX7_ofOne_36 : decode cX7_ofOne 36 = .ok (.getfield 7, 3) := by decide +kernel
theorem dX7_ofOne_39 : decode cX7_ofOne 39 = .ok (.iload_n 1, 1) := by decide +kernel
theorem dX7_ofOne_40 : decode cX7_ofOne 40 = .ok (.iconst 0, 1) := by decide +kernel
theorem dX7_ofOne_41 : decode cX7_ofOne 41 = .ok (.invokestatic 55, 3) := by decide +kernel
theorem dX7_ofOne_44 : decode cX7_ofOne 44 = .ok (.iaload, 1) := by decide +kernel
theorem dX7_ofOne_45 : decode cX7_ofOne 45 = .ok (.goto 48, 3) := by decide +kernel
theorem dX7_ofOne_48 : decode cX7_ofOne 48 = .ok (.iload_n 2, 1) := by decide +kernel
theorem dX7_ofOne_49 : decode cX7_ofOne 49 = .ok (.iconst 1, 1) := by decide +kernel
theorem dX7_ofOne_50 : decode cX7_ofOne 50 = .ok (.if_icmp .ne 11, 3) := by decide +kernel
theorem dX7_ofOne_53 : decode cX7_ofOne 53 = .ok (.aload_n 0, 1) := by decide +kernel
theorem dX7_ofOne_54 : decode cX7_ofOne 54 = .ok (.iload_n 1, 1) := by decide +kernel
theorem dX7_ofOne_55 : decode cX7_ofOne 55 = .ok (.invokevirtual 80, 3) := by decide +kernel
theorem dX7_ofOne_58 : decode cX7_ofOne 58 = .ok (.goto 35, 3) := by decide +kernel
theorem dX7_ofOne_61 : decode cX7_ofOne 61 = .ok (.iload_n 2, 1) := by decide +kernel
theorem dX7_ofOne_62 : decode cX7_ofOne 62 = .ok (.iconst 2, 1) := by decide +kernel
theorem dX7_ofOne_63 : decode cX7_ofOne 63 = .ok (.if_icmp .ne 16, 3) := by decide +kernel
theorem dX7_ofOne_66 : decode cX7_ofOne 66 = .ok (.aload_n 0, 1) := by decide +kernel
theorem dX7_ofOne_67 : decode cX7_ofOne 67 = .ok (.getfield 7, 3) := by decide +kernel
theorem dX7_ofOne_70 : decode cX7_ofOne 70 = .ok (.iload_n 1, 1) := by decide +kernel
theorem dX7_ofOne_71 : decode cX7_ofOne 71 = .ok (.iconst 1, 1) := by decide +kernel
theorem dX7_ofOne_72 : decode cX7_ofOne 72 = .ok (.invokestatic 55, 3) := by decide +kernel
theorem dX7_ofOne_75 : decode cX7_ofOne 75 = .ok (.iaload, 1) := by decide +kernel
theorem dX7_ofOne_76 : decode cX7_ofOne 76 = .ok (.goto 17, 3) := by decide +kernel
theorem dX7_ofOne_79 : decode cX7_ofOne 79 = .ok (.aload_n 0, 1) := by decide +kernel
theorem dX7_ofOne_80 : decode cX7_ofOne 80 = .ok (.getfield 7, 3) := by decide +kernel
theorem dX7_ofOne_83 : decode cX7_ofOne 83 = .ok (.iload_n 1, 1) := by decide +kernel
theorem dX7_ofOne_84 : decode cX7_ofOne 84 = .ok (.iconst 2, 1) := by decide +kernel
theorem dX7_ofOne_85 : decode cX7_ofOne 85 = .ok (.iload_n 2, 1) := by decide +kernel
theorem dX7_ofOne_86 : decode cX7_ofOne 86 = .ok (.iadd, 1) := by decide +kernel
theorem dX7_ofOne_87 : decode cX7_ofOne 87 = .ok (.iconst 3, 1) := by decide +kernel
theorem dX7_ofOne_88 : decode cX7_ofOne 88 = .ok (.isub, 1) := by decide +kernel
theorem dX7_ofOne_89 : decode cX7_ofOne 89 = .ok (.invokestatic 55, 3) := by decide +kernel
theorem dX7_ofOne_92 : decode cX7_ofOne 92 = .ok (.iaload, 1) := by decide +kernel
theorem dX7_ofOne_93 : decode cX7_ofOne 93 = .ok (.ireturn, 1) := by decide +kernel
set_option maxRecDepth 20000 in
theorem ggX7_line_X7_in : GoodIn wsX7_line wsX7_in := goodIn_r _ [4] (by decide +kernel) (by decide +kernel)
set_option maxRecDepth 20000 in
theorem gX7_line_X7_in : GoodIn wsX7_line (va_wsS RX7 36 yX7_in wsX7_in) := goodIn_app (goodIn_of _ (by decide +kernel)) ggX7_line_X7_in
set_option maxRecDepth 20000 in
theorem ggX7_line_X7_holds : GoodIn wsX7_line wsX7_holds := goodIn_r _ [8, 9, 40, 41, 42, 43, 44, 45, 46, 47, 48, 49, 50, 51, 52, 53] (by decide +kernel) (by decide +kernel)
set_option maxRecDepth 20000 in
theorem gX7_line_X7_holds : GoodIn wsX7_line (wsV RX7 116 RX7 yX7_holds wsX7_holds) := goodIn_app (goodIn_of _ (by decide +kernel)) ggX7_line_X7_holds
set_option maxRecDepth 20000 in
theorem ggX7_line_X7_ofOne : GoodIn wsX7_line wsX7_ofOne := goodIn_r _ [13, 14, 15, 16, 3, 17, 18, 19, 20, 21, 22, 23, 24, 25, 26, 27, 28, 29, 30, 31, 32, 33, 34, 35, 36, 37, 38, 39, 40, 41, 42, 43, 44, 45, 46, 47, 48, 49, 50, 51, 52, 53] (by decide +kernel) (by decide +kernel)
set_option maxRecDepth 20000 in
theorem gX7_line_X7_ofOne : GoodIn wsX7_line (wsV RX7 183 RX7 yX7_ofOne wsX7_ofOne) := goodIn_app (goodIn_of _ (by decide +kernel)) ggX7_line_X7_ofOne
theorem dX7_line_0 : decode cX7_line 0 = .ok (.iload_n 1, 1) := by decide +kernel
theorem dX7_line_1 : decode cX7_line 1 = .ok (.iconst 0, 1) := by decide +kernel
theorem dX7_line_2 : decode cX7_line 2 = .ok (.iconst 3, 1) := by decide +kernel
theorem dX7_line_3 : decode cX7_line 3 = .ok (.invokestatic 36, 3) := by decide +kernel
theorem dX7_line_6 : decode cX7_line 6 = .ok (.ifCond .eq 16, 3) := by decide +kernel
theorem dX7_line_9 : decode cX7_line 9 = .ok (.iload_n 2, 1) := by decide +kernel
theorem dX7_line_10 : decode cX7_line 10 = .ok (.iconst 0, 1) := by decide +kernel
theorem dX7_line_11 : decode cX7_line 11 = .ok (.iconst 1, 1) := by decide +kernel
theorem dX7_line_12 : decode cX7_line 12 = .ok (.invokestatic 36, 3) := by decide +kernel
theorem dX7_line_15 : decode cX7_line 15 = .ok (.ifCond .eq 7, 3) := by decide +kernel
theorem dX7_line_18 : decode cX7_line 18 = .ok (.iconst 1, 1) := by decide +kernel
theorem dX7_line_19 : decode cX7_line 19 = .ok (.goto 4, 3) := by decide +kernel
theorem dX7_line_22 : decode cX7_line 22 = .ok (.iconst 0, 1) := by decide +kernel
theorem dX7_line_23 : decode cX7_line 23 = .ok (.istore 4, 2) := by decide +kernel
theorem dX7_line_25 : decode cX7_line 25 = .ok (.aload_n 0, 1) := by decide +kernel
theorem dX7_line_26 : decode cX7_line 26 = .ok (.iload 4, 2) := by decide +kernel
theorem dX7_line_28 : decode cX7_line 28 = .ok (.ifCond .ne 7, 3) := by decide +kernel
theorem dX7_line_31 : decode cX7_line 31 = .ok (.iconst 1, 1) := by decide +kernel
theorem dX7_line_32 : decode cX7_line 32 = .ok (.goto 18, 3) := by decide +kernel
theorem dX7_line_35 : decode cX7_line 35 = .ok (.iload_n 3, 1) := by decide +kernel
theorem dX7_line_36 : decode cX7_line 36 = .ok (.iconst 0, 1) := by decide +kernel
theorem dX7_line_37 : decode cX7_line 37 = .ok (.bipush 10, 2) := by decide +kernel
theorem dX7_line_39 : decode cX7_line 39 = .ok (.invokestatic 36, 3) := by decide +kernel
theorem dX7_line_42 : decode cX7_line 42 = .ok (.ifCond .eq 7, 3) := by decide +kernel
theorem dX7_line_45 : decode cX7_line 45 = .ok (.iconst 0, 1) := by decide +kernel
theorem dX7_line_46 : decode cX7_line 46 = .ok (.goto 4, 3) := by decide +kernel
theorem dX7_line_49 : decode cX7_line 49 = .ok (.iconst 2, 1) := by decide +kernel
theorem dX7_line_50 : decode cX7_line 50 = .ok (.invokevirtual 116, 3) := by decide +kernel
theorem dX7_line_53 : decode cX7_line 53 = .ok (.ifCond .eq 16, 3) := by decide +kernel
theorem dX7_line_56 : decode cX7_line 56 = .ok (.aload_n 0, 1) := by decide +kernel
theorem dX7_line_57 : decode cX7_line 57 = .ok (.iconst 2, 1) := by decide +kernel
theorem dX7_line_58 : decode cX7_line 58 = .ok (.iload_n 1, 1) := by decide +kernel
theorem dX7_line_59 : decode cX7_line 59 = .ok (.imul, 1) := by decide +kernel
theorem dX7_line_60 : decode cX7_line 60 = .ok (.iload_n 2, 1) := by decide +kernel
theorem dX7_line_61 : decode cX7_line 61 = .ok (.iadd, 1) := by decide +kernel
theorem dX7_line_62 : decode cX7_line 62 = .ok (.iload_n 3, 1) := by decide +kernel
theorem dX7_line_63 : decode cX7_line 63 = .ok (.invokevirtual 183, 3) := by decide +kernel
theorem dX7_line_66 : decode cX7_line 66 = .ok (.goto 4, 3) := by decide +kernel
theorem dX7_line_69 : decode cX7_line 69 = .ok (.iconst 0, 1) := by decide +kernel
theorem dX7_line_70 : decode cX7_line 70 = .ok (.ireturn, 1) := by decide +kernel
set_option maxRecDepth 20000 in
theorem ggX7_pending_X7_holds : GoodIn wsX7_pending wsX7_holds := goodIn_r _ [6, 7, 8, 9, 10, 11, 12, 13, 14, 15, 16, 17, 18, 19, 20, 21] (by decide +kernel) (by decide +kernel)
set_option maxRecDepth 20000 in
theorem gX7_pending_X7_holds : GoodIn wsX7_pending (wsV RX7 116 RX7 yX7_holds wsX7_holds) := goodIn_app (goodIn_of _ (by decide +kernel)) ggX7_pending_X7_holds
theorem dX7_pending_0 : decode cX7_pending 0 = .ok (.aload_n 0, 1) := by decide +kernel
theorem dX7_pending_1 : decode cX7_pending 1 = .ok (.iload_n 1, 1) := by decide +kernel
theorem dX7_pending_2 : decode cX7_pending 2 = .ok (.ifCond .ge 7, 3) := by decide +kernel
theorem dX7_pending_5 : decode cX7_pending 5 = .ok (.iconst 1, 1) := by decide +kernel
theorem dX7_pending_6 : decode cX7_pending 6 = .ok (.goto 4, 3) := by decide +kernel
theorem dX7_pending_9 : decode cX7_pending 9 = .ok (.iconst 0, 1) := by decide +kernel
theorem dX7_pending_10 : decode cX7_pending 10 = .ok (.invokevirtual 116, 3) := by decide +kernel
theorem dX7_pending_13 : decode cX7_pending 13 = .ok (.ifCond .ne 5, 3) := by decide +kernel
theorem dX7_pending_16 : decode cX7_pending 16 = .ok (.iconst 0, 1) := by decide +kernel
theorem dX7_pending_17 : decode cX7_pending 17 = .ok (.ireturn, 1) := by decide +kernel
theorem dX7_pending_18 : decode cX7_pending 18 = .ok (.iload_n 1, 1) := by decide +kernel
theorem dX7_pending_19 : decode cX7_pending 19 = .ok (.aload_n 0, 1) := by decide +kernel
theorem dX7_pending_20 : decode cX7_pending 20 = .ok (.getfield 7, 3) := by decide +kernel
theorem dX7_pending_23 : decode cX7_pending 23 = .ok (.sipush 369, 3) := by decide +kernel
theorem dX7_pending_26 : decode cX7_pending 26 = .ok (.iaload, 1) := by decide +kernel
theorem dX7_pending_27 : decode cX7_pending 27 = .ok (.if_icmp .ge 16, 3) := by decide +kernel
theorem dX7_pending_30 : decode cX7_pending 30 = .ok (.aload_n 0, 1) := by decide +kernel
theorem dX7_pending_31 : decode cX7_pending 31 = .ok (.getfield 7, 3) := by decide +kernel
theorem dX7_pending_34 : decode cX7_pending 34 = .ok (.sipush 370, 3) := by decide +kernel
theorem dX7_pending_37 : decode cX7_pending 37 = .ok (.iload_n 1, 1) := by decide +kernel
theorem dX7_pending_38 : decode cX7_pending 38 = .ok (.iadd, 1) := by decide +kernel
theorem dX7_pending_39 : decode cX7_pending 39 = .ok (.iaload, 1) := by decide +kernel
theorem dX7_pending_40 : decode cX7_pending 40 = .ok (.goto 4, 3) := by decide +kernel
theorem dX7_pending_43 : decode cX7_pending 43 = .ok (.iconst (-1), 1) := by decide +kernel
theorem dX7_pending_44 : decode cX7_pending 44 = .ok (.ireturn, 1) := by decide +kernel
set_option maxRecDepth 20000 in
theorem ggX7_lines_X7_linesNow : GoodIn wsX7_lines wsX7_linesNow := goodIn_r _ [6, 7, 8, 9, 5, 10, 11, 12, 13, 14, 15, 16, 17, 18, 19, 20, 21, 22, 23, 24] (by decide +kernel) (by decide +kernel)
set_option maxRecDepth 20000 in
theorem gX7_lines_X7_linesNow : GoodIn wsX7_lines (wsV RX7 132 RX7 yX7_linesNow wsX7_linesNow) := goodIn_app (goodIn_of _ (by decide +kernel)) ggX7_lines_X7_linesNow
theorem dX7_lines_0 : decode cX7_lines 0 = .ok (.aload_n 0, 1) := by decide +kernel
theorem dX7_lines_1 : decode cX7_lines 1 = .ok (.iconst 0, 1) := by decide +kernel
theorem dX7_lines_2 : decode cX7_lines 2 = .ok (.putfield 32, 3) := by decide +kernel
theorem dX7_lines_5 : decode cX7_lines 5 = .ok (.aload_n 0, 1) := by decide +kernel
theorem dX7_lines_6 : decode cX7_lines 6 = .ok (.invokevirtual 132, 3) := by decide +kernel
theorem dX7_lines_9 : decode cX7_lines 9 = .ok (.ireturn, 1) := by decide +kernel
set_option maxRecDepth 20000 in
theorem ggX7_linesWith_X7_isAddress : GoodIn wsX7_linesWith wsX7_isAddress := goodIn_r _ [4, 5, 6, 3, 7] (by decide +kernel) (by decide +kernel)
set_option maxRecDepth 20000 in
theorem gX7_linesWith_X7_isAddress : GoodIn wsX7_linesWith (va_wsS RX7 113 yX7_isAddress wsX7_isAddress) := goodIn_app (goodIn_of _ (by decide +kernel)) ggX7_linesWith_X7_isAddress
set_option maxRecDepth 20000 in
theorem ggX7_linesWith_X7_holds : GoodIn wsX7_linesWith wsX7_holds := goodIn_r _ [11, 12, 21, 22, 23, 24, 25, 26, 27, 28, 29, 30, 31, 32, 33, 34] (by decide +kernel) (by decide +kernel)
set_option maxRecDepth 20000 in
theorem gX7_linesWith_X7_holds : GoodIn wsX7_linesWith (wsV RX7 116 RX7 yX7_holds wsX7_holds) := goodIn_app (goodIn_of _ (by decide +kernel)) ggX7_linesWith_X7_holds
set_option maxRecDepth 20000 in
theorem ggX7_linesWith_X7_contains : GoodIn wsX7_linesWith wsX7_contains := goodIn_r _ [16, 17, 18, 19, 3, 20, 21, 22, 23, 24, 25, 26, 27, 28, 29, 30, 31, 32, 33, 34] (by decide +kernel) (by decide +kernel)
set_option maxRecDepth 20000 in
theorem gX7_linesWith_X7_contains : GoodIn wsX7_linesWith (wsV RX7 106 RX7 yX7_contains wsX7_contains) := goodIn_app (goodIn_of _ (by decide +kernel)) ggX7_linesWith_X7_contains
theorem dX7_linesWith_0 : decode cX7_linesWith 0 = .ok (.aload_n 0, 1) := by decide +kernel
theorem dX7_linesWith_1 : decode cX7_linesWith 1 = .ok (.iload_n 1, 1) := by decide +kernel
theorem dX7_linesWith_2 : decode cX7_linesWith 2 = .ok (.invokestatic 113, 3) := by decide +kernel
theorem dX7_linesWith_5 : decode cX7_linesWith 5 = .ok (.ifCond .eq 7, 3) := by decide +kernel
theorem dX7_linesWith_8 : decode cX7_linesWith 8 = .ok (.iconst 0, 1) := by decide +kernel
theorem dX7_linesWith_9 : decode cX7_linesWith 9 = .ok (.goto 4, 3) := by decide +kernel
theorem dX7_linesWith_12 : decode cX7_linesWith 12 = .ok (.iconst 1, 1) := by decide +kernel
theorem dX7_linesWith_13 : decode cX7_linesWith 13 = .ok (.invokevirtual 116, 3) := by decide +kernel
theorem dX7_linesWith_16 : decode cX7_linesWith 16 = .ok (.ifCond .ne 5, 3) := by decide +kernel
theorem dX7_linesWith_19 : decode cX7_linesWith 19 = .ok (.iconst 0, 1) := by decide +kernel
theorem dX7_linesWith_20 : decode cX7_linesWith 20 = .ok (.ireturn, 1) := by decide +kernel
theorem dX7_linesWith_21 : decode cX7_linesWith 21 = .ok (.iconst 0, 1) := by decide +kernel
theorem dX7_linesWith_22 : decode cX7_linesWith 22 = .ok (.istore_n 2, 1) := by decide +kernel
theorem dX7_linesWith_23 : decode cX7_linesWith 23 = .ok (.iconst 0, 1) := by decide +kernel
theorem dX7_linesWith_24 : decode cX7_linesWith 24 = .ok (.istore_n 3, 1) := by decide +kernel
theorem dX7_linesWith_25 : decode cX7_linesWith 25 = .ok (.iload_n 3, 1) := by decide +kernel
theorem dX7_linesWith_26 : decode cX7_linesWith 26 = .ok (.bipush 8, 2) := by decide +kernel
theorem dX7_linesWith_28 : decode cX7_linesWith 28 = .ok (.if_icmp .ge 26, 3) := by decide +kernel
theorem dX7_linesWith_31 : decode cX7_linesWith 31 = .ok (.iload_n 2, 1) := by decide +kernel
theorem dX7_linesWith_32 : decode cX7_linesWith 32 = .ok (.aload_n 0, 1) := by decide +kernel
theorem dX7_linesWith_33 : decode cX7_linesWith 33 = .ok (.iload_n 3, 1) := by decide +kernel
theorem dX7_linesWith_34 : decode cX7_linesWith 34 = .ok (.iload_n 1, 1) := by decide +kernel
theorem dX7_linesWith_35 : decode cX7_linesWith 35 = .ok (.invokevirtual 106, 3) := by decide +kernel
theorem dX7_linesWith_38 : decode cX7_linesWith 38 = .ok (.ifCond .eq 7, 3) := by decide +kernel
theorem dX7_linesWith_41 : decode cX7_linesWith 41 = .ok (.iconst 1, 1) := by decide +kernel
theorem dX7_linesWith_42 : decode cX7_linesWith 42 = .ok (.goto 4, 3) := by decide +kernel
theorem dX7_linesWith_45 : decode cX7_linesWith 45 = .ok (.iconst 0, 1) := by decide +kernel
theorem dX7_linesWith_46 : decode cX7_linesWith 46 = .ok (.iadd, 1) := by decide +kernel
theorem dX7_linesWith_47 : decode cX7_linesWith 47 = .ok (.istore_n 2, 1) := by decide +kernel
theorem dX7_linesWith_48 : decode cX7_linesWith 48 = .ok (.iinc 3 1, 3) := by decide +kernel
theorem dX7_linesWith_51 : decode cX7_linesWith 51 = .ok (.goto (-26), 3) := by decide +kernel
theorem dX7_linesWith_54 : decode cX7_linesWith 54 = .ok (.iload_n 2, 1) := by decide +kernel
theorem dX7_linesWith_55 : decode cX7_linesWith 55 = .ok (.ireturn, 1) := by decide +kernel
set_option maxRecDepth 20000 in
theorem ggX7_wouldBe_X7_putAside : GoodIn wsX7_wouldBe wsX7_putAside := goodIn_r _ [9, 2, 1, 85, 86, 87, 88, 89, 90, 91, 92, 93, 94, 95, 96, 97, 98] (by decide +kernel) (by decide +kernel)
set_option maxRecDepth 20000 in
theorem gX7_wouldBe_X7_putAside : GoodIn wsX7_wouldBe (wsV RX7 174 RX7 yX7_putAside wsX7_putAside) := goodIn_app (goodIn_of _ (by decide +kernel)) ggX7_wouldBe_X7_putAside
set_option maxRecDepth 20000 in
theorem ggX7_wouldBe_X7_fetches : GoodIn wsX7_wouldBe wsX7_fetches := goodIn_r _ [13, 1, 3, 4, 14, 15, 16, 17, 18, 8, 19, 20, 21, 22, 23, 24, 25, 26, 27, 28, 29, 30, 31, 32, 33, 34, 35, 36, 37, 38, 39, 40, 41, 42, 43, 44, 45, 46, 47, 48, 49, 50, 51, 52, 53, 54, 55, 56, 57, 58, 59, 60, 61, 62, 63, 64, 65, 66, 67, 68, 69, 70, 71, 72, 73, 74, 75, 76, 77, 78, 79, 80, 85, 86, 87, 88, 89, 90, 91, 92, 93, 94, 95, 96, 97, 98] (by decide +kernel) (by decide +kernel)
set_option maxRecDepth 20000 in
theorem gX7_wouldBe_X7_fetches : GoodIn wsX7_wouldBe (wsV RX7 103 RX7 yX7_fetches wsX7_fetches) := goodIn_app (goodIn_of _ (by decide +kernel)) ggX7_wouldBe_X7_fetches
set_option maxRecDepth 20000 in
theorem ggX7_wouldBe_X7_putBack : GoodIn wsX7_wouldBe wsX7_putBack := goodIn_r _ [84, 1, 2, 85, 86, 87, 88, 89, 90, 91, 92, 93, 94, 95, 96, 97, 98] (by decide +kernel) (by decide +kernel)
set_option maxRecDepth 20000 in
theorem gX7_wouldBe_X7_putBack : GoodIn wsX7_wouldBe (wsV RX7 177 RX7 yX7_putBack wsX7_putBack) := goodIn_app (goodIn_of _ (by decide +kernel)) ggX7_wouldBe_X7_putBack
theorem dX7_wouldBe_0 : decode cX7_wouldBe 0 = .ok (.aload_n 0, 1) := by decide +kernel
theorem dX7_wouldBe_1 : decode cX7_wouldBe 1 = .ok (.invokevirtual 174, 3) := by decide +kernel
theorem dX7_wouldBe_4 : decode cX7_wouldBe 4 = .ok (.aload_n 0, 1) := by decide +kernel
theorem dX7_wouldBe_5 : decode cX7_wouldBe 5 = .ok (.invokevirtual 103, 3) := by decide +kernel
theorem dX7_wouldBe_8 : decode cX7_wouldBe 8 = .ok (.istore_n 2, 1) := by decide +kernel
theorem dX7_wouldBe_9 : decode cX7_wouldBe 9 = .ok (.aload_n 0, 1) := by decide +kernel
theorem dX7_wouldBe_10 : decode cX7_wouldBe 10 = .ok (.getfield 7, 3) := by decide +kernel
theorem dX7_wouldBe_13 : decode cX7_wouldBe 13 = .ok (.sipush 383, 3) := by decide +kernel
theorem dX7_wouldBe_16 : decode cX7_wouldBe 16 = .ok (.iaload, 1) := by decide +kernel
theorem dX7_wouldBe_17 : decode cX7_wouldBe 17 = .ok (.aload_n 0, 1) := by decide +kernel
theorem dX7_wouldBe_18 : decode cX7_wouldBe 18 = .ok (.getfield 13, 3) := by decide +kernel
theorem dX7_wouldBe_21 : decode cX7_wouldBe 21 = .ok (.sipush 383, 3) := by decide +kernel
theorem dX7_wouldBe_24 : decode cX7_wouldBe 24 = .ok (.iaload, 1) := by decide +kernel
theorem dX7_wouldBe_25 : decode cX7_wouldBe 25 = .ok (.isub, 1) := by decide +kernel
theorem dX7_wouldBe_26 : decode cX7_wouldBe 26 = .ok (.istore_n 3, 1) := by decide +kernel
theorem dX7_wouldBe_27 : decode cX7_wouldBe 27 = .ok (.aload_n 0, 1) := by decide +kernel
theorem dX7_wouldBe_28 : decode cX7_wouldBe 28 = .ok (.invokevirtual 177, 3) := by decide +kernel
theorem dX7_wouldBe_31 : decode cX7_wouldBe 31 = .ok (.iload_n 1, 1) := by decide +kernel
theorem dX7_wouldBe_32 : decode cX7_wouldBe 32 = .ok (.ifCond .ne 10, 3) := by decide +kernel
theorem dX7_wouldBe_35 : decode cX7_wouldBe 35 = .ok (.aload_n 0, 1) := by decide +kernel
theorem dX7_wouldBe_36 : decode cX7_wouldBe 36 = .ok (.getfield 83, 3) := by decide +kernel
theorem dX7_wouldBe_39 : decode cX7_wouldBe 39 = .ok (.goto 25, 3) := by decide +kernel
theorem dX7_wouldBe_42 : decode cX7_wouldBe 42 = .ok (.iload_n 1, 1) := by decide +kernel
theorem dX7_wouldBe_43 : decode cX7_wouldBe 43 = .ok (.iconst 1, 1) := by decide +kernel
theorem dX7_wouldBe_44 : decode cX7_wouldBe 44 = .ok (.if_icmp .ne 10, 3) := by decide +kernel
theorem dX7_wouldBe_47 : decode cX7_wouldBe 47 = .ok (.aload_n 0, 1) := by decide +kernel
theorem dX7_wouldBe_48 : decode cX7_wouldBe 48 = .ok (.getfield 77, 3) := by decide +kernel
theorem dX7_wouldBe_51 : decode cX7_wouldBe 51 = .ok (.goto 13, 3) := by decide +kernel
theorem dX7_wouldBe_54 : decode cX7_wouldBe 54 = .ok (.iload_n 1, 1) := by decide +kernel
theorem dX7_wouldBe_55 : decode cX7_wouldBe 55 = .ok (.iconst 2, 1) := by decide +kernel
theorem dX7_wouldBe_56 : decode cX7_wouldBe 56 = .ok (.if_icmp .ne 7, 3) := by decide +kernel
theorem dX7_wouldBe_59 : decode cX7_wouldBe 59 = .ok (.iload_n 2, 1) := by decide +kernel
theorem dX7_wouldBe_60 : decode cX7_wouldBe 60 = .ok (.goto 4, 3) := by decide +kernel
theorem dX7_wouldBe_63 : decode cX7_wouldBe 63 = .ok (.iload_n 3, 1) := by decide +kernel
theorem dX7_wouldBe_64 : decode cX7_wouldBe 64 = .ok (.ireturn, 1) := by decide +kernel
set_option maxRecDepth 20000 in
theorem ggX7_nextFetch_X7_in : GoodIn wsX7_nextFetch wsX7_in := goodIn_r _ [4] (by decide +kernel) (by decide +kernel)
set_option maxRecDepth 20000 in
theorem gX7_nextFetch_X7_in : GoodIn wsX7_nextFetch (va_wsS RX7 36 yX7_in wsX7_in) := goodIn_app (goodIn_of _ (by decide +kernel)) ggX7_nextFetch_X7_in
set_option maxRecDepth 20000 in
theorem ggX7_nextFetch_X7_holds : GoodIn wsX7_nextFetch wsX7_holds := goodIn_r _ [8, 9, 97, 98, 99, 100, 101, 102, 103, 104, 105, 106, 107, 108, 109, 110] (by decide +kernel) (by decide +kernel)
set_option maxRecDepth 20000 in
theorem gX7_nextFetch_X7_holds : GoodIn wsX7_nextFetch (wsV RX7 116 RX7 yX7_holds wsX7_holds) := goodIn_app (goodIn_of _ (by decide +kernel)) ggX7_nextFetch_X7_holds
set_option maxRecDepth 20000 in
theorem ggX7_nextFetch_X7_wouldBe : GoodIn wsX7_nextFetch wsX7_wouldBe := goodIn_r _ [13, 14, 15, 16, 17, 18, 19, 20, 3, 21, 22, 23, 24, 25, 26, 27, 28, 29, 30, 31, 32, 33, 34, 35, 36, 37, 38, 39, 40, 41, 42, 43, 44, 45, 46, 47, 48, 49, 50, 51, 52, 53, 54, 55, 56, 57, 58, 59, 60, 61, 62, 63, 64, 65, 66, 67, 68, 69, 70, 71, 72, 73, 74, 75, 76, 77, 78, 79, 80, 81, 82, 83, 84, 85, 86, 87, 88, 89, 90, 91, 92, 93, 94, 95, 96, 97, 98, 99, 100, 101, 102, 103, 104, 105, 106, 107, 108, 109, 110] (by decide +kernel) (by decide +kernel)
set_option maxRecDepth 20000 in
theorem gX7_nextFetch_X7_wouldBe : GoodIn wsX7_nextFetch (wsV RX7 186 RX7 yX7_wouldBe wsX7_wouldBe) := goodIn_app (goodIn_of _ (by decide +kernel)) ggX7_nextFetch_X7_wouldBe
theorem dX7_nextFetch_0 : decode cX7_nextFetch 0 = .ok (.aload_n 0, 1) := by decide +kernel
theorem dX7_nextFetch_1 : decode cX7_nextFetch 1 = .ok (.iload_n 1, 1) := by decide +kernel
theorem dX7_nextFetch_2 : decode cX7_nextFetch 2 = .ok (.iconst 0, 1) := by decide +kernel
theorem dX7_nextFetch_3 : decode cX7_nextFetch 3 = .ok (.iconst 3, 1) := by decide +kernel
theorem dX7_nextFetch_4 : decode cX7_nextFetch 4 = .ok (.invokestatic 36, 3) := by decide +kernel
theorem dX7_nextFetch_7 : decode cX7_nextFetch 7 = .ok (.ifCond .eq 7, 3) := by decide +kernel
theorem dX7_nextFetch_10 : decode cX7_nextFetch 10 = .ok (.iconst 0, 1) := by decide +kernel
theorem dX7_nextFetch_11 : decode cX7_nextFetch 11 = .ok (.goto 4, 3) := by decide +kernel
theorem dX7_nextFetch_14 : decode cX7_nextFetch 14 = .ok (.iconst 1, 1) := by decide +kernel
theorem dX7_nextFetch_15 : decode cX7_nextFetch 15 = .ok (.invokevirtual 116, 3) := by decide +kernel
theorem dX7_nextFetch_18 : decode cX7_nextFetch 18 = .ok (.ifCond .eq 11, 3) := by decide +kernel
theorem dX7_nextFetch_21 : decode cX7_nextFetch 21 = .ok (.aload_n 0, 1) := by decide +kernel
theorem dX7_nextFetch_22 : decode cX7_nextFetch 22 = .ok (.iload_n 1, 1) := by decide +kernel
theorem dX7_nextFetch_23 : decode cX7_nextFetch 23 = .ok (.invokevirtual 186, 3) := by decide +kernel
theorem dX7_nextFetch_26 : decode cX7_nextFetch 26 = .ok (.goto 4, 3) := by decide +kernel
theorem dX7_nextFetch_29 : decode cX7_nextFetch 29 = .ok (.iconst 0, 1) := by decide +kernel
theorem dX7_nextFetch_30 : decode cX7_nextFetch 30 = .ok (.ireturn, 1) := by decide +kernel
set_option maxRecDepth 20000 in
theorem ggX7_wouldFetch_X7_holds : GoodIn wsX7_wouldFetch wsX7_holds := goodIn_r _ [7, 8, 45, 46, 47, 48, 49, 50, 51, 52, 53, 54, 55, 56, 57, 58] (by decide +kernel) (by decide +kernel)
set_option maxRecDepth 20000 in
theorem gX7_wouldFetch_X7_holds : GoodIn wsX7_wouldFetch (wsV RX7 116 RX7 yX7_holds wsX7_holds) := goodIn_app (goodIn_of _ (by decide +kernel)) ggX7_wouldFetch_X7_holds
set_option maxRecDepth 20000 in
theorem ggX7_wouldFetch_X7_looks : GoodIn wsX7_wouldFetch wsX7_looks := goodIn_r _ [12, 13, 1, 14, 15, 16, 6, 17, 18, 19, 20, 21, 22, 23, 24, 25, 26, 27, 28, 29, 30, 31, 32, 33, 34, 35, 36, 37, 38, 39, 40, 41, 42, 43, 2, 44, 45, 46, 47, 48, 49, 50, 51, 52, 53, 54, 55, 56, 57, 58] (by decide +kernel) (by decide +kernel)
set_option maxRecDepth 20000 in
theorem gX7_wouldFetch_X7_looks : GoodIn wsX7_wouldFetch (wsV RX7 96 RX7 yX7_looks wsX7_looks) := goodIn_app (goodIn_of _ (by decide +kernel)) ggX7_wouldFetch_X7_looks
theorem dX7_wouldFetch_0 : decode cX7_wouldFetch 0 = .ok (.aload_n 0, 1) := by decide +kernel
theorem dX7_wouldFetch_1 : decode cX7_wouldFetch 1 = .ok (.iload_n 1, 1) := by decide +kernel
theorem dX7_wouldFetch_2 : decode cX7_wouldFetch 2 = .ok (.ifCond .ge 7, 3) := by decide +kernel
theorem dX7_wouldFetch_5 : decode cX7_wouldFetch 5 = .ok (.iconst 1, 1) := by decide +kernel
theorem dX7_wouldFetch_6 : decode cX7_wouldFetch 6 = .ok (.goto 4, 3) := by decide +kernel
theorem dX7_wouldFetch_9 : decode cX7_wouldFetch 9 = .ok (.iconst 0, 1) := by decide +kernel
theorem dX7_wouldFetch_10 : decode cX7_wouldFetch 10 = .ok (.invokevirtual 116, 3) := by decide +kernel
theorem dX7_wouldFetch_13 : decode cX7_wouldFetch 13 = .ok (.ifCond .ne 5, 3) := by decide +kernel
theorem dX7_wouldFetch_16 : decode cX7_wouldFetch 16 = .ok (.iconst 0, 1) := by decide +kernel
theorem dX7_wouldFetch_17 : decode cX7_wouldFetch 17 = .ok (.ireturn, 1) := by decide +kernel
theorem dX7_wouldFetch_18 : decode cX7_wouldFetch 18 = .ok (.aload_n 0, 1) := by decide +kernel
theorem dX7_wouldFetch_19 : decode cX7_wouldFetch 19 = .ok (.invokevirtual 96, 3) := by decide +kernel
theorem dX7_wouldFetch_22 : decode cX7_wouldFetch 22 = .ok (.iload_n 1, 1) := by decide +kernel
theorem dX7_wouldFetch_23 : decode cX7_wouldFetch 23 = .ok (.aload_n 0, 1) := by decide +kernel
theorem dX7_wouldFetch_24 : decode cX7_wouldFetch 24 = .ok (.getfield 77, 3) := by decide +kernel
theorem dX7_wouldFetch_27 : decode cX7_wouldFetch 27 = .ok (.if_icmp .ge 12, 3) := by decide +kernel
theorem dX7_wouldFetch_30 : decode cX7_wouldFetch 30 = .ok (.aload_n 0, 1) := by decide +kernel
theorem dX7_wouldFetch_31 : decode cX7_wouldFetch 31 = .ok (.getfield 22, 3) := by decide +kernel
theorem dX7_wouldFetch_34 : decode cX7_wouldFetch 34 = .ok (.iload_n 1, 1) := by decide +kernel
theorem dX7_wouldFetch_35 : decode cX7_wouldFetch 35 = .ok (.iaload, 1) := by decide +kernel
theorem dX7_wouldFetch_36 : decode cX7_wouldFetch 36 = .ok (.goto 4, 3) := by decide +kernel
theorem dX7_wouldFetch_39 : decode cX7_wouldFetch 39 = .ok (.iconst (-1), 1) := by decide +kernel
theorem dX7_wouldFetch_40 : decode cX7_wouldFetch 40 = .ok (.ireturn, 1) := by decide +kernel
set_option maxRecDepth 20000 in
theorem ggX7_count_X7_in : GoodIn wsX7_count wsX7_in := goodIn_r _ [5] (by decide +kernel) (by decide +kernel)
set_option maxRecDepth 20000 in
theorem gX7_count_X7_in : GoodIn wsX7_count (va_wsS RX7 36 yX7_in wsX7_in) := goodIn_app (goodIn_of _ (by decide +kernel)) ggX7_count_X7_in
set_option maxRecDepth 20000 in
theorem ggX7_count_X7_holds : GoodIn wsX7_count wsX7_holds := goodIn_r _ [9, 10, 11, 12, 13, 14, 15, 16, 17, 18, 19, 20, 21, 22, 23, 24] (by decide +kernel) (by decide +kernel)
set_option maxRecDepth 20000 in
theorem gX7_count_X7_holds : GoodIn wsX7_count (wsV RX7 116 RX7 yX7_holds wsX7_holds) := goodIn_app (goodIn_of _ (by decide +kernel)) ggX7_count_X7_holds
theorem dX7_count_0 : decode cX7_count 0 = .ok (.aload_n 0, 1) := by decide +kernel
theorem dX7_count_1 : decode cX7_count 1 = .ok (.iload_n 1, 1) := by decide +kernel
theorem dX7_count_2 : decode cX7_count 2 = .ok (.iconst 0, 1) := by decide +kernel
theorem dX7_count_3 : decode cX7_count 3 = .ok (.bipush 9, 2) := by decide +kernel
theorem dX7_count_5 : decode cX7_count 5 = .ok (.invokestatic 36, 3) := by decide +kernel
theorem dX7_count_8 : decode cX7_count 8 = .ok (.ifCond .eq 7, 3) := by decide +kernel
theorem dX7_count_11 : decode cX7_count 11 = .ok (.iconst 0, 1) := by decide +kernel
theorem dX7_count_12 : decode cX7_count 12 = .ok (.goto 4, 3) := by decide +kernel
theorem dX7_count_15 : decode cX7_count 15 = .ok (.iconst 1, 1) := by decide +kernel
theorem dX7_count_16 : decode cX7_count 16 = .ok (.invokevirtual 116, 3) := by decide +kernel
theorem dX7_count_19 : decode cX7_count 19 = .ok (.ifCond .eq 16, 3) := by decide +kernel
theorem dX7_count_22 : decode cX7_count 22 = .ok (.aload_n 0, 1) := by decide +kernel
theorem dX7_count_23 : decode cX7_count 23 = .ok (.getfield 7, 3) := by decide +kernel
theorem dX7_count_26 : decode cX7_count 26 = .ok (.sipush 379, 3) := by decide +kernel
theorem dX7_count_29 : decode cX7_count 29 = .ok (.iload_n 1, 1) := by decide +kernel
theorem dX7_count_30 : decode cX7_count 30 = .ok (.iadd, 1) := by decide +kernel
theorem dX7_count_31 : decode cX7_count 31 = .ok (.iaload, 1) := by decide +kernel
theorem dX7_count_32 : decode cX7_count 32 = .ok (.goto 4, 3) := by decide +kernel
theorem dX7_count_35 : decode cX7_count 35 = .ok (.iconst 0, 1) := by decide +kernel
theorem dX7_count_36 : decode cX7_count 36 = .ok (.ireturn, 1) := by decide +kernel
theorem dX7_rate_0 : decode cX7_rate 0 = .ok (.aload_n 0, 1) := by decide +kernel
theorem dX7_rate_1 : decode cX7_rate 1 = .ok (.iconst 0, 1) := by decide +kernel
theorem dX7_rate_2 : decode cX7_rate 2 = .ok (.putfield 32, 3) := by decide +kernel
theorem dX7_rate_5 : decode cX7_rate 5 = .ok (.aload_n 0, 1) := by decide +kernel
theorem dX7_rate_6 : decode cX7_rate 6 = .ok (.getfield 7, 3) := by decide +kernel
theorem dX7_rate_9 : decode cX7_rate 9 = .ok (.sipush 379, 3) := by decide +kernel
theorem dX7_rate_12 : decode cX7_rate 12 = .ok (.iaload, 1) := by decide +kernel
theorem dX7_rate_13 : decode cX7_rate 13 = .ok (.ifCond .ne 7, 3) := by decide +kernel
theorem dX7_rate_16 : decode cX7_rate 16 = .ok (.dconst 0, 1) := by decide +kernel
theorem dX7_rate_17 : decode cX7_rate 17 = .ok (.goto 22, 3) := by decide +kernel
theorem dX7_rate_20 : decode cX7_rate 20 = .ok (.aload_n 0, 1) := by decide +kernel
theorem dX7_rate_21 : decode cX7_rate 21 = .ok (.getfield 7, 3) := by decide +kernel
theorem dX7_rate_24 : decode cX7_rate 24 = .ok (.sipush 381, 3) := by decide +kernel
theorem dX7_rate_27 : decode cX7_rate 27 = .ok (.iaload, 1) := by decide +kernel
theorem dX7_rate_28 : decode cX7_rate 28 = .ok (.i2d, 1) := by decide +kernel
theorem dX7_rate_29 : decode cX7_rate 29 = .ok (.aload_n 0, 1) := by decide +kernel
theorem dX7_rate_30 : decode cX7_rate 30 = .ok (.getfield 7, 3) := by decide +kernel
theorem dX7_rate_33 : decode cX7_rate 33 = .ok (.sipush 379, 3) := by decide +kernel
theorem dX7_rate_36 : decode cX7_rate 36 = .ok (.iaload, 1) := by decide +kernel
theorem dX7_rate_37 : decode cX7_rate 37 = .ok (.i2d, 1) := by decide +kernel
theorem dX7_rate_38 : decode cX7_rate 38 = .ok (.ddiv, 1) := by decide +kernel
theorem dX7_rate_39 : decode cX7_rate 39 = .ok (.dreturn, 1) := by decide +kernel
theorem dX7_savedStates_0 : decode cX7_savedStates 0 = .ok (.aload_n 0, 1) := by decide +kernel
theorem dX7_savedStates_1 : decode cX7_savedStates 1 = .ok (.iconst 0, 1) := by decide +kernel
theorem dX7_savedStates_2 : decode cX7_savedStates 2 = .ok (.putfield 32, 3) := by decide +kernel
theorem dX7_savedStates_5 : decode cX7_savedStates 5 = .ok (.aload_n 0, 1) := by decide +kernel
theorem dX7_savedStates_6 : decode cX7_savedStates 6 = .ok (.getfield 40, 3) := by decide +kernel
theorem dX7_savedStates_9 : decode cX7_savedStates 9 = .ok (.ireturn, 1) := by decide +kernel
theorem dX7_textLength_0 : decode cX7_textLength 0 = .ok (.aload_n 0, 1) := by decide +kernel
theorem dX7_textLength_1 : decode cX7_textLength 1 = .ok (.iconst 0, 1) := by decide +kernel
theorem dX7_textLength_2 : decode cX7_textLength 2 = .ok (.putfield 32, 3) := by decide +kernel
theorem dX7_textLength_5 : decode cX7_textLength 5 = .ok (.aload_n 0, 1) := by decide +kernel
theorem dX7_textLength_6 : decode cX7_textLength 6 = .ok (.getfield 135, 3) := by decide +kernel
theorem dX7_textLength_9 : decode cX7_textLength 9 = .ok (.ireturn, 1) := by decide +kernel
