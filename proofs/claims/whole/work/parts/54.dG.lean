set_option maxRecDepth 20000 in
theorem ggL_write_X6_write : GoodIn wsL_write wsX6_write := goodIn_ca (goodIn_ca (goodIn_r _ [7, 8, 9, 10, 11, 12, 13, 6, 14, 15, 16, 17, 18, 19, 20, 21, 22, 23, 24, 25, 26, 27, 28, 29, 30, 31, 32, 33, 34, 35, 36, 37, 38, 39, 40, 41, 42, 43, 44, 45, 46, 47, 48, 49, 50, 51, 52, 53, 54, 55, 56, 57, 58, 59, 60, 61, 62, 63, 64, 65, 66, 67, 68, 69, 70, 71, 72, 73, 74, 75, 76, 77, 78, 79, 80, 81, 82, 83, 84, 85, 86, 87, 88, 89, 90, 91, 92, 93, 94, 95, 96, 97, 98, 99, 100, 101, 102, 103, 104, 105, 106, 107, 108, 109, 110, 111, 112, 113] (by decide +kernel) (by decide +kernel)) (goodIn_sub (fun _ h => List.mem_cons_of_mem _ (List.mem_append_left _ (List.mem_append_right _ h))) (by decide +kernel))) (goodIn_sub (fun _ h => List.mem_cons_of_mem _ (List.mem_append_right _ h)) (by decide +kernel))
set_option maxRecDepth 20000 in
theorem gL_write_X6_write : GoodIn wsL_write (wsV RL 7 RX6 yX6_write wsX6_write) := goodIn_app (goodIn_of _ (by decide +kernel)) ggL_write_X6_write
theorem dL_write_0 : decode cL_write 0 = .ok (.aload 4, 2) := by decide +kernel
theorem dL_write_2 : decode cL_write 2 = .ok (.iconst 0, 1) := by decide +kernel
theorem dL_write_3 : decode cL_write 3 = .ok (.aload_n 0, 1) := by decide +kernel
theorem dL_write_4 : decode cL_write 4 = .ok (.iload_n 1, 1) := by decide +kernel
theorem dL_write_5 : decode cL_write 5 = .ok (.iload_n 2, 1) := by decide +kernel
theorem dL_write_6 : decode cL_write 6 = .ok (.iload_n 3, 1) := by decide +kernel
theorem dL_write_7 : decode cL_write 7 = .ok (.invokevirtual 7, 3) := by decide +kernel
theorem dL_write_10 : decode cL_write 10 = .ok (.i2l, 1) := by decide +kernel
theorem dL_write_11 : decode cL_write 11 = .ok (.lastore, 1) := by decide +kernel
theorem dL_write_12 : decode cL_write 12 = .ok (.goto 11, 3) := by decide +kernel
theorem dL_write_15 : decode cL_write 15 = .ok (.astore 5, 2) := by decide +kernel
theorem dL_write_17 : decode cL_write 17 = .ok (.iconst 1, 1) := by decide +kernel
theorem dL_write_18 : decode cL_write 18 = .ok (.ireturn, 1) := by decide +kernel
theorem dL_write_19 : decode cL_write 19 = .ok (.astore 5, 2) := by decide +kernel
theorem dL_write_21 : decode cL_write 21 = .ok (.iconst 2, 1) := by decide +kernel
theorem dL_write_22 : decode cL_write 22 = .ok (.ireturn, 1) := by decide +kernel
theorem dL_write_23 : decode cL_write 23 = .ok (.iconst 0, 1) := by decide +kernel
theorem dL_write_24 : decode cL_write 24 = .ok (.ireturn, 1) := by decide +kernel
set_option maxRecDepth 20000 in
theorem ggL_setPattern_X6_setPattern : GoodIn wsL_setPattern wsX6_setPattern := goodIn_ca (goodIn_ca (goodIn_r _ [7, 8, 9, 10, 11, 12, 13, 6, 14, 15, 16, 17, 18, 19, 20, 21, 22, 23, 24, 25, 26, 27, 28, 29, 30, 31, 32, 33, 34, 35, 36, 37, 38, 39, 40, 41, 42, 43, 44, 45, 46, 47, 48, 49, 50, 51, 52, 53, 54, 55, 56, 57, 58, 59, 60, 61, 62, 63, 64, 65, 66, 67, 68, 69, 70, 71, 72, 73, 74, 75, 76, 77, 78, 79, 80, 81, 82, 83, 84, 85, 86, 87, 88, 89, 90, 91, 92, 93, 94, 95, 96, 97, 98, 99, 100, 101, 102] (by decide +kernel) (by decide +kernel)) (goodIn_sub (fun _ h => List.mem_cons_of_mem _ (List.mem_append_left _ (List.mem_append_right _ h))) (by decide +kernel))) (goodIn_sub (fun _ h => List.mem_cons_of_mem _ (List.mem_append_right _ h)) (by decide +kernel))
set_option maxRecDepth 20000 in
theorem gL_setPattern_X6_setPattern : GoodIn wsL_setPattern (wsV RL 17 RX6 yX6_setPattern wsX6_setPattern) := goodIn_app (goodIn_of _ (by decide +kernel)) ggL_setPattern_X6_setPattern
theorem dL_setPattern_0 : decode cL_setPattern 0 = .ok (.aload 4, 2) := by decide +kernel
theorem dL_setPattern_2 : decode cL_setPattern 2 = .ok (.iconst 0, 1) := by decide +kernel
theorem dL_setPattern_3 : decode cL_setPattern 3 = .ok (.aload_n 0, 1) := by decide +kernel
theorem dL_setPattern_4 : decode cL_setPattern 4 = .ok (.iload_n 1, 1) := by decide +kernel
theorem dL_setPattern_5 : decode cL_setPattern 5 = .ok (.iload_n 2, 1) := by decide +kernel
theorem dL_setPattern_6 : decode cL_setPattern 6 = .ok (.iload_n 3, 1) := by decide +kernel
theorem dL_setPattern_7 : decode cL_setPattern 7 = .ok (.invokevirtual 17, 3) := by decide +kernel
theorem dL_setPattern_10 : decode cL_setPattern 10 = .ok (.i2l, 1) := by decide +kernel
theorem dL_setPattern_11 : decode cL_setPattern 11 = .ok (.lastore, 1) := by decide +kernel
theorem dL_setPattern_12 : decode cL_setPattern 12 = .ok (.goto 11, 3) := by decide +kernel
theorem dL_setPattern_15 : decode cL_setPattern 15 = .ok (.astore 5, 2) := by decide +kernel
theorem dL_setPattern_17 : decode cL_setPattern 17 = .ok (.iconst 1, 1) := by decide +kernel
theorem dL_setPattern_18 : decode cL_setPattern 18 = .ok (.ireturn, 1) := by decide +kernel
theorem dL_setPattern_19 : decode cL_setPattern 19 = .ok (.astore 5, 2) := by decide +kernel
theorem dL_setPattern_21 : decode cL_setPattern 21 = .ok (.iconst 2, 1) := by decide +kernel
theorem dL_setPattern_22 : decode cL_setPattern 22 = .ok (.ireturn, 1) := by decide +kernel
theorem dL_setPattern_23 : decode cL_setPattern 23 = .ok (.iconst 0, 1) := by decide +kernel
theorem dL_setPattern_24 : decode cL_setPattern 24 = .ok (.ireturn, 1) := by decide +kernel
set_option maxRecDepth 20000 in
theorem ggL_jumpTo_X6_jumpTo : GoodIn wsL_jumpTo wsX6_jumpTo := goodIn_ca (goodIn_r _ [6, 7, 8, 9, 10, 5, 11, 12, 13, 14, 15, 16, 17, 18, 19, 20, 21, 22, 23, 24, 25, 26, 27, 28, 29, 30, 31, 32, 33, 34, 35, 36, 37, 38, 39, 40, 41, 42, 43, 44, 45, 46, 47, 48, 49, 50, 51, 52, 53, 54, 55, 56, 57, 58, 59, 60, 61, 62, 63, 64, 65, 66, 67, 68, 69, 70, 71, 72, 73, 74, 75, 76, 77, 78, 79, 80, 81, 82, 83, 84, 85, 86, 87, 88, 89, 90, 91, 92, 93, 94, 95, 96, 97, 98, 99] (by decide +kernel) (by decide +kernel)) (goodIn_sub (fun _ h => List.mem_cons_of_mem _ (List.mem_append_right _ h)) (by decide +kernel))
set_option maxRecDepth 20000 in
theorem gL_jumpTo_X6_jumpTo : GoodIn wsL_jumpTo (wsV RL 20 RX6 yX6_jumpTo wsX6_jumpTo) := goodIn_app (goodIn_of _ (by decide +kernel)) ggL_jumpTo_X6_jumpTo
theorem dL_jumpTo_0 : decode cL_jumpTo 0 = .ok (.aload_n 2, 1) := by decide +kernel
theorem dL_jumpTo_1 : decode cL_jumpTo 1 = .ok (.iconst 0, 1) := by decide +kernel
theorem dL_jumpTo_2 : decode cL_jumpTo 2 = .ok (.aload_n 0, 1) := by decide +kernel
theorem dL_jumpTo_3 : decode cL_jumpTo 3 = .ok (.iload_n 1, 1) := by decide +kernel
theorem dL_jumpTo_4 : decode cL_jumpTo 4 = .ok (.invokevirtual 20, 3) := by decide +kernel
theorem dL_jumpTo_7 : decode cL_jumpTo 7 = .ok (.i2l, 1) := by decide +kernel
theorem dL_jumpTo_8 : decode cL_jumpTo 8 = .ok (.lastore, 1) := by decide +kernel
theorem dL_jumpTo_9 : decode cL_jumpTo 9 = .ok (.goto 6, 3) := by decide +kernel
theorem dL_jumpTo_12 : decode cL_jumpTo 12 = .ok (.astore_n 3, 1) := by decide +kernel
theorem dL_jumpTo_13 : decode cL_jumpTo 13 = .ok (.iconst 1, 1) := by decide +kernel
theorem dL_jumpTo_14 : decode cL_jumpTo 14 = .ok (.ireturn, 1) := by decide +kernel
theorem dL_jumpTo_15 : decode cL_jumpTo 15 = .ok (.iconst 0, 1) := by decide +kernel
theorem dL_jumpTo_16 : decode cL_jumpTo 16 = .ok (.ireturn, 1) := by decide +kernel
set_option maxRecDepth 20000 in
theorem ggL_run_X6_run : GoodIn wsL_run wsX6_run := goodIn_ca (goodIn_r _ [6, 7, 8, 9, 10, 11, 12, 13, 14, 15, 16, 17, 18, 19, 20, 21, 22, 23, 24, 25, 26, 27, 28, 29, 30, 31, 32, 33, 34, 35, 36, 37, 38, 39, 40, 41, 42, 43, 44, 45, 46, 47, 48, 49, 50, 51, 52, 53, 54, 55, 56, 57, 58, 59, 60, 61, 62, 63, 64, 65, 66, 67, 68, 69, 70, 71, 72, 73, 74, 75, 76, 77, 78, 79, 80, 81, 82, 83, 84, 85, 86, 87, 88, 89, 90, 91, 92, 93, 94, 95, 96, 97, 98, 99, 100, 101, 102, 103, 104, 105, 106, 107, 108, 109, 110, 111, 112, 113, 114, 115, 116, 117, 118, 119, 120, 121, 122, 123, 124, 125, 126, 127, 128, 129, 130, 131, 132, 133, 134, 135, 136, 137, 138, 139, 140, 141, 142, 143, 144, 145, 146, 147, 148, 149, 150, 151, 152, 153, 154, 155, 156, 157, 158, 159, 160, 161, 162, 163, 164, 165, 166, 167, 168, 169, 170, 171, 172, 173, 174, 175] (by decide +kernel) (by decide +kernel)) (goodIn_sub (fun _ h => List.mem_cons_of_mem _ (List.mem_append_right _ h)) (by decide +kernel))
set_option maxRecDepth 20000 in
theorem gL_run_X6_run : GoodIn wsL_run (wsV RL 24 RX6 yX6_run wsX6_run) := goodIn_app (goodIn_of _ (by decide +kernel)) ggL_run_X6_run
theorem dL_run_0 : decode cL_run 0 = .ok (.aload_n 2, 1) := by decide +kernel
theorem dL_run_1 : decode cL_run 1 = .ok (.iconst 0, 1) := by decide +kernel
theorem dL_run_2 : decode cL_run 2 = .ok (.aload_n 0, 1) := by decide +kernel
theorem dL_run_3 : decode cL_run 3 = .ok (.iload_n 1, 1) := by decide +kernel
theorem dL_run_4 : decode cL_run 4 = .ok (.invokevirtual 24, 3) := by decide +kernel
theorem dL_run_7 : decode cL_run 7 = .ok (.i2l, 1) := by decide +kernel
theorem dL_run_8 : decode cL_run 8 = .ok (.lastore, 1) := by decide +kernel
theorem dL_run_9 : decode cL_run 9 = .ok (.goto 6, 3) := by decide +kernel
theorem dL_run_12 : decode cL_run 12 = .ok (.astore_n 3, 1) := by decide +kernel
theorem dL_run_13 : decode cL_run 13 = .ok (.iconst 1, 1) := by decide +kernel
theorem dL_run_14 : decode cL_run 14 = .ok (.ireturn, 1) := by decide +kernel
theorem dL_run_15 : decode cL_run 15 = .ok (.iconst 0, 1) := by decide +kernel
theorem dL_run_16 : decode cL_run 16 = .ok (.ireturn, 1) := by decide +kernel
set_option maxRecDepth 20000 in
theorem ggL_appendText_X6_appendText : GoodIn wsL_appendText wsX6_appendText := goodIn_ca (goodIn_ca (goodIn_r _ [7, 8, 9, 10, 11, 12, 13, 14, 15, 16, 17, 18, 19, 20, 21, 22, 23, 24, 25, 26, 27, 28, 29, 30] (by decide +kernel) (by decide +kernel)) (goodIn_sub (fun _ h => List.mem_cons_of_mem _ (List.mem_append_left _ (List.mem_append_right _ h))) (by decide +kernel))) (goodIn_sub (fun _ h => List.mem_cons_of_mem _ (List.mem_append_right _ h)) (by decide +kernel))
set_option maxRecDepth 20000 in
theorem gL_appendText_X6_appendText : GoodIn wsL_appendText (wsV RL 27 RX6 yX6_appendText wsX6_appendText) := goodIn_app (goodIn_of _ (by decide +kernel)) ggL_appendText_X6_appendText
theorem dL_appendText_0 : decode cL_appendText 0 = .ok (.aload_n 2, 1) := by decide +kernel
theorem dL_appendText_1 : decode cL_appendText 1 = .ok (.iconst 0, 1) := by decide +kernel
theorem dL_appendText_2 : decode cL_appendText 2 = .ok (.aload_n 0, 1) := by decide +kernel
theorem dL_appendText_3 : decode cL_appendText 3 = .ok (.iload_n 1, 1) := by decide +kernel
theorem dL_appendText_4 : decode cL_appendText 4 = .ok (.invokevirtual 27, 3) := by decide +kernel
theorem dL_appendText_7 : decode cL_appendText 7 = .ok (.i2l, 1) := by decide +kernel
theorem dL_appendText_8 : decode cL_appendText 8 = .ok (.lastore, 1) := by decide +kernel
theorem dL_appendText_9 : decode cL_appendText 9 = .ok (.goto 9, 3) := by decide +kernel
theorem dL_appendText_12 : decode cL_appendText 12 = .ok (.astore_n 3, 1) := by decide +kernel
theorem dL_appendText_13 : decode cL_appendText 13 = .ok (.iconst 1, 1) := by decide +kernel
theorem dL_appendText_14 : decode cL_appendText 14 = .ok (.ireturn, 1) := by decide +kernel
theorem dL_appendText_15 : decode cL_appendText 15 = .ok (.astore_n 3, 1) := by decide +kernel
theorem dL_appendText_16 : decode cL_appendText 16 = .ok (.iconst 2, 1) := by decide +kernel
theorem dL_appendText_17 : decode cL_appendText 17 = .ok (.ireturn, 1) := by decide +kernel
theorem dL_appendText_18 : decode cL_appendText 18 = .ok (.iconst 0, 1) := by decide +kernel
theorem dL_appendText_19 : decode cL_appendText 19 = .ok (.ireturn, 1) := by decide +kernel
set_option maxRecDepth 20000 in
theorem ggL_runText_X6_runText : GoodIn wsL_runText wsX6_runText := goodIn_ca (goodIn_r _ [6, 7, 8, 9, 10, 11, 12, 13, 14, 15, 16, 17, 18, 19, 20, 21, 22, 23, 24, 25, 26, 27, 28, 29, 30, 31, 32, 33, 34, 35, 36, 37, 38, 39, 40, 41, 42, 43, 44, 45, 46, 47, 48, 49, 50, 51, 52, 53, 54, 55, 56, 57, 58, 59, 60, 61, 62, 63, 64, 65, 66, 67, 68, 69, 70, 71, 72, 73, 74, 75, 76, 77, 78, 79, 80, 81, 82, 83, 84, 85, 86, 87, 88, 89, 90, 91, 92, 93, 94, 95, 96, 97, 98, 99, 100, 101, 102, 103, 5, 104, 105, 106, 107, 108, 109, 110, 111, 112, 113, 114, 115, 116, 117, 118, 119, 120, 121, 122, 123, 124, 125, 126, 127, 128, 129, 130, 131, 132, 133, 134, 135, 136, 137, 138, 139, 140, 141, 142, 143, 144, 145, 146, 147, 148, 149, 150, 151, 152, 153, 154, 155, 156, 157, 158, 159, 160, 161, 162, 163, 164, 165, 166, 167, 168, 169, 170, 171, 172, 173, 174, 175, 176, 177, 178, 179, 180, 181, 182, 183, 184, 185, 186, 187, 188, 189, 190, 191, 192, 193, 194, 195, 196, 197, 198, 199, 200, 201, 202, 203, 204, 205, 206, 207, 208, 209, 210, 211, 212, 213, 214, 215, 216, 217, 218, 219, 220, 221, 222, 223, 224, 225, 226, 227, 228, 229, 230, 231, 232, 233, 234, 235, 236, 237, 238, 239, 240, 241, 242, 243] (by decide +kernel) (by decide +kernel)) (goodIn_sub (fun _ h => List.mem_cons_of_mem _ (List.mem_append_right _ h)) (by decide +kernel))
set_option maxRecDepth 20000 in
theorem gL_runText_X6_runText : GoodIn wsL_runText (wsV RL 32 RX6 yX6_runText wsX6_runText) := goodIn_app (goodIn_of _ (by decide +kernel)) ggL_runText_X6_runText
theorem dL_runText_0 : decode cL_runText 0 = .ok (.aload_n 1, 1) := by decide +kernel
theorem dL_runText_1 : decode cL_runText 1 = .ok (.iconst 0, 1) := by decide +kernel
theorem dL_runText_2 : decode cL_runText 2 = .ok (.aload_n 0, 1) := by decide +kernel
theorem dL_runText_3 : decode cL_runText 3 = .ok (.invokevirtual 32, 3) := by decide +kernel
theorem dL_runText_6 : decode cL_runText 6 = .ok (.i2l, 1) := by decide +kernel
theorem dL_runText_7 : decode cL_runText 7 = .ok (.lastore, 1) := by decide +kernel
theorem dL_runText_8 : decode cL_runText 8 = .ok (.goto 6, 3) := by decide +kernel
theorem dL_runText_11 : decode cL_runText 11 = .ok (.astore_n 2, 1) := by decide +kernel
theorem dL_runText_12 : decode cL_runText 12 = .ok (.iconst 1, 1) := by decide +kernel
theorem dL_runText_13 : decode cL_runText 13 = .ok (.ireturn, 1) := by decide +kernel
theorem dL_runText_14 : decode cL_runText 14 = .ok (.iconst 0, 1) := by decide +kernel
theorem dL_runText_15 : decode cL_runText 15 = .ok (.ireturn, 1) := by decide +kernel
set_option maxRecDepth 20000 in
theorem ggL_undo_X6_undo : GoodIn wsL_undo wsX6_undo := goodIn_ca (goodIn_r _ [6, 7, 8, 9, 10, 11, 12, 13, 14, 15, 16, 17, 18, 19, 20, 21, 22, 23, 24, 25, 26, 27, 28, 29, 30, 31, 32, 33, 34, 35, 36, 37, 38, 39, 40, 41, 42, 43, 44, 45, 46, 47, 48, 49, 50, 51, 52, 53, 54, 55, 56, 57, 58, 59, 60, 61, 62, 63, 64, 65, 66, 67, 68, 69, 70, 71, 72, 73, 74, 75, 76, 77, 78, 79, 80, 81, 82, 83, 84, 85, 86, 87, 88, 89, 90, 91, 92, 93] (by decide +kernel) (by decide +kernel)) (goodIn_sub (fun _ h => List.mem_cons_of_mem _ (List.mem_append_right _ h)) (by decide +kernel))
set_option maxRecDepth 20000 in
theorem gL_undo_X6_undo : GoodIn wsL_undo (wsV RL 36 RX6 yX6_undo wsX6_undo) := goodIn_app (goodIn_of _ (by decide +kernel)) ggL_undo_X6_undo
theorem dL_undo_0 : decode cL_undo 0 = .ok (.aload_n 1, 1) := by decide +kernel
theorem dL_undo_1 : decode cL_undo 1 = .ok (.iconst 0, 1) := by decide +kernel
theorem dL_undo_2 : decode cL_undo 2 = .ok (.aload_n 0, 1) := by decide +kernel
theorem dL_undo_3 : decode cL_undo 3 = .ok (.invokevirtual 36, 3) := by decide +kernel
theorem dL_undo_6 : decode cL_undo 6 = .ok (.i2l, 1) := by decide +kernel
theorem dL_undo_7 : decode cL_undo 7 = .ok (.lastore, 1) := by decide +kernel
theorem dL_undo_8 : decode cL_undo 8 = .ok (.goto 6, 3) := by decide +kernel
theorem dL_undo_11 : decode cL_undo 11 = .ok (.astore_n 2, 1) := by decide +kernel
theorem dL_undo_12 : decode cL_undo 12 = .ok (.iconst 1, 1) := by decide +kernel
theorem dL_undo_13 : decode cL_undo 13 = .ok (.ireturn, 1) := by decide +kernel
theorem dL_undo_14 : decode cL_undo 14 = .ok (.iconst 0, 1) := by decide +kernel
theorem dL_undo_15 : decode cL_undo 15 = .ok (.ireturn, 1) := by decide +kernel
set_option maxRecDepth 20000 in
theorem ggL_instruction_X6_instruction : GoodIn wsL_instruction wsX6_instruction := goodIn_ca (goodIn_ca (goodIn_r _ [7, 8, 9, 10, 11, 12, 6, 13, 14, 15, 16, 17, 18, 19, 20, 21, 22, 23, 24, 25, 26, 27, 28, 29, 30, 31, 32, 33, 34, 35, 36, 37, 38, 39, 40, 41, 42, 43, 44, 45, 46, 47, 48, 49, 50, 51, 52, 53] (by decide +kernel) (by decide +kernel)) (goodIn_sub (fun _ h => List.mem_cons_of_mem _ (List.mem_append_left _ (List.mem_append_right _ h))) (by decide +kernel))) (goodIn_sub (fun _ h => List.mem_cons_of_mem _ (List.mem_append_right _ h)) (by decide +kernel))
set_option maxRecDepth 20000 in
theorem gL_instruction_X6_instruction : GoodIn wsL_instruction (wsV RL 39 RX6 yX6_instruction wsX6_instruction) := goodIn_app (goodIn_of _ (by decide +kernel)) ggL_instruction_X6_instruction
theorem dL_instruction_0 : decode cL_instruction 0 = .ok (.aload_n 3, 1) := by decide +kernel
theorem dL_instruction_1 : decode cL_instruction 1 = .ok (.iconst 0, 1) := by decide +kernel
theorem dL_instruction_2 : decode cL_instruction 2 = .ok (.aload_n 0, 1) := by decide +kernel
theorem dL_instruction_3 : decode cL_instruction 3 = .ok (.iload_n 1, 1) := by decide +kernel
theorem dL_instruction_4 : decode cL_instruction 4 = .ok (.iload_n 2, 1) := by decide +kernel
theorem dL_instruction_5 : decode cL_instruction 5 = .ok (.invokevirtual 39, 3) := by decide +kernel
theorem dL_instruction_8 : decode cL_instruction 8 = .ok (.i2l, 1) := by decide +kernel
theorem dL_instruction_9 : decode cL_instruction 9 = .ok (.lastore, 1) := by decide +kernel
theorem dL_instruction_10 : decode cL_instruction 10 = .ok (.goto 11, 3) := by decide +kernel
theorem dL_instruction_13 : decode cL_instruction 13 = .ok (.astore 4, 2) := by decide +kernel
theorem dL_instruction_15 : decode cL_instruction 15 = .ok (.iconst 1, 1) := by decide +kernel
theorem dL_instruction_16 : decode cL_instruction 16 = .ok (.ireturn, 1) := by decide +kernel
theorem dL_instruction_17 : decode cL_instruction 17 = .ok (.astore 4, 2) := by decide +kernel
theorem dL_instruction_19 : decode cL_instruction 19 = .ok (.iconst 2, 1) := by decide +kernel
theorem dL_instruction_20 : decode cL_instruction 20 = .ok (.ireturn, 1) := by decide +kernel
theorem dL_instruction_21 : decode cL_instruction 21 = .ok (.iconst 0, 1) := by decide +kernel
theorem dL_instruction_22 : decode cL_instruction 22 = .ok (.ireturn, 1) := by decide +kernel
set_option maxRecDepth 20000 in
theorem ggL_willExecute_X6_willExecute : GoodIn wsL_willExecute wsX6_willExecute := goodIn_ca (goodIn_r _ [6, 7, 8, 9, 10, 11, 12, 13, 14, 15, 16, 17, 18, 19, 20, 21, 22, 23, 24, 25, 26, 27, 28, 29, 30, 31, 32, 33, 34, 35, 36, 37, 38, 39, 40, 41, 42, 43, 44, 45, 46, 47, 48, 49, 50, 51, 52, 53, 54, 55, 56, 57, 58, 59] (by decide +kernel) (by decide +kernel)) (goodIn_sub (fun _ h => List.mem_cons_of_mem _ (List.mem_append_right _ h)) (by decide +kernel))
set_option maxRecDepth 20000 in
theorem gL_willExecute_X6_willExecute : GoodIn wsL_willExecute (wsV RL 43 RX6 yX6_willExecute wsX6_willExecute) := goodIn_app (goodIn_of _ (by decide +kernel)) ggL_willExecute_X6_willExecute
theorem dL_willExecute_0 : decode cL_willExecute 0 = .ok (.aload_n 2, 1) := by decide +kernel
theorem dL_willExecute_1 : decode cL_willExecute 1 = .ok (.iconst 0, 1) := by decide +kernel
theorem dL_willExecute_2 : decode cL_willExecute 2 = .ok (.aload_n 0, 1) := by decide +kernel
theorem dL_willExecute_3 : decode cL_willExecute 3 = .ok (.iload_n 1, 1) := by decide +kernel
theorem dL_willExecute_4 : decode cL_willExecute 4 = .ok (.invokevirtual 43, 3) := by decide +kernel
theorem dL_willExecute_7 : decode cL_willExecute 7 = .ok (.i2l, 1) := by decide +kernel
theorem dL_willExecute_8 : decode cL_willExecute 8 = .ok (.lastore, 1) := by decide +kernel
theorem dL_willExecute_9 : decode cL_willExecute 9 = .ok (.goto 6, 3) := by decide +kernel
theorem dL_willExecute_12 : decode cL_willExecute 12 = .ok (.astore_n 3, 1) := by decide +kernel
theorem dL_willExecute_13 : decode cL_willExecute 13 = .ok (.iconst 1, 1) := by decide +kernel
theorem dL_willExecute_14 : decode cL_willExecute 14 = .ok (.ireturn, 1) := by decide +kernel
theorem dL_willExecute_15 : decode cL_willExecute 15 = .ok (.iconst 0, 1) := by decide +kernel
theorem dL_willExecute_16 : decode cL_willExecute 16 = .ok (.ireturn, 1) := by decide +kernel
set_option maxRecDepth 20000 in
theorem ggL_line_X6_line : GoodIn wsL_line wsX6_line := goodIn_ca (goodIn_ca (goodIn_r _ [7, 8, 9, 10, 11, 12, 13, 14, 15, 16, 17, 18, 19, 20, 21, 22, 23, 24, 25, 26, 27, 28, 29, 30, 31, 32, 33, 34, 35, 36, 37, 38, 39, 40, 41, 42, 43, 44, 45, 46, 47, 48, 49, 50, 51, 52, 53, 54, 55, 56, 57, 58, 59, 60, 61, 62, 63, 64, 65, 66] (by decide +kernel) (by decide +kernel)) (goodIn_sub (fun _ h => List.mem_cons_of_mem _ (List.mem_append_left _ (List.mem_append_right _ h))) (by decide +kernel))) (goodIn_sub (fun _ h => List.mem_cons_of_mem _ (List.mem_append_right _ h)) (by decide +kernel))
set_option maxRecDepth 20000 in
theorem gL_line_X6_line : GoodIn wsL_line (wsV RL 46 RX6 yX6_line wsX6_line) := goodIn_app (goodIn_of _ (by decide +kernel)) ggL_line_X6_line
theorem dL_line_0 : decode cL_line 0 = .ok (.aload 4, 2) := by decide +kernel
theorem dL_line_2 : decode cL_line 2 = .ok (.iconst 0, 1) := by decide +kernel
theorem dL_line_3 : decode cL_line 3 = .ok (.aload_n 0, 1) := by decide +kernel
theorem dL_line_4 : decode cL_line 4 = .ok (.iload_n 1, 1) := by decide +kernel
theorem dL_line_5 : decode cL_line 5 = .ok (.iload_n 2, 1) := by decide +kernel
theorem dL_line_6 : decode cL_line 6 = .ok (.iload_n 3, 1) := by decide +kernel
theorem dL_line_7 : decode cL_line 7 = .ok (.invokevirtual 46, 3) := by decide +kernel
theorem dL_line_10 : decode cL_line 10 = .ok (.i2l, 1) := by decide +kernel
theorem dL_line_11 : decode cL_line 11 = .ok (.lastore, 1) := by decide +kernel
theorem dL_line_12 : decode cL_line 12 = .ok (.goto 11, 3) := by decide +kernel
theorem dL_line_15 : decode cL_line 15 = .ok (.astore 5, 2) := by decide +kernel
theorem dL_line_17 : decode cL_line 17 = .ok (.iconst 1, 1) := by decide +kernel
theorem dL_line_18 : decode cL_line 18 = .ok (.ireturn, 1) := by decide +kernel
theorem dL_line_19 : decode cL_line 19 = .ok (.astore 5, 2) := by decide +kernel
theorem dL_line_21 : decode cL_line 21 = .ok (.iconst 2, 1) := by decide +kernel
theorem dL_line_22 : decode cL_line 22 = .ok (.ireturn, 1) := by decide +kernel
theorem dL_line_23 : decode cL_line 23 = .ok (.iconst 0, 1) := by decide +kernel
theorem dL_line_24 : decode cL_line 24 = .ok (.ireturn, 1) := by decide +kernel
set_option maxRecDepth 20000 in
theorem ggL_pending_X6_pending : GoodIn wsL_pending wsX6_pending := goodIn_ca (goodIn_r _ [6, 7, 8, 9, 10, 11, 12, 13, 14, 15, 16, 17, 18, 19, 20, 21, 22, 23, 24, 25, 26, 27, 28, 29, 30, 31] (by decide +kernel) (by decide +kernel)) (goodIn_sub (fun _ h => List.mem_cons_of_mem _ (List.mem_append_right _ h)) (by decide +kernel))
set_option maxRecDepth 20000 in
theorem gL_pending_X6_pending : GoodIn wsL_pending (wsV RL 49 RX6 yX6_pending wsX6_pending) := goodIn_app (goodIn_of _ (by decide +kernel)) ggL_pending_X6_pending
theorem dL_pending_0 : decode cL_pending 0 = .ok (.aload_n 2, 1) := by decide +kernel
theorem dL_pending_1 : decode cL_pending 1 = .ok (.iconst 0, 1) := by decide +kernel
theorem dL_pending_2 : decode cL_pending 2 = .ok (.aload_n 0, 1) := by decide +kernel
theorem dL_pending_3 : decode cL_pending 3 = .ok (.iload_n 1, 1) := by decide +kernel
theorem dL_pending_4 : decode cL_pending 4 = .ok (.invokevirtual 49, 3) := by decide +kernel
theorem dL_pending_7 : decode cL_pending 7 = .ok (.i2l, 1) := by decide +kernel
theorem dL_pending_8 : decode cL_pending 8 = .ok (.lastore, 1) := by decide +kernel
theorem dL_pending_9 : decode cL_pending 9 = .ok (.goto 6, 3) := by decide +kernel
theorem dL_pending_12 : decode cL_pending 12 = .ok (.astore_n 3, 1) := by decide +kernel
theorem dL_pending_13 : decode cL_pending 13 = .ok (.iconst 1, 1) := by decide +kernel
theorem dL_pending_14 : decode cL_pending 14 = .ok (.ireturn, 1) := by decide +kernel
theorem dL_pending_15 : decode cL_pending 15 = .ok (.iconst 0, 1) := by decide +kernel
theorem dL_pending_16 : decode cL_pending 16 = .ok (.ireturn, 1) := by decide +kernel
set_option maxRecDepth 20000 in
theorem ggL_linesWith_X6_linesWith : GoodIn wsL_linesWith wsX6_linesWith := goodIn_ca (goodIn_r _ [6, 7, 8, 9, 5, 10, 11, 12, 13, 14, 15, 16, 17, 18, 19, 20, 21, 22, 23, 24, 25, 26, 27, 28, 29, 30, 31, 32, 33, 34, 35, 36, 37, 38, 39, 40, 41, 42, 43, 44, 45] (by decide +kernel) (by decide +kernel)) (goodIn_sub (fun _ h => List.mem_cons_of_mem _ (List.mem_append_right _ h)) (by decide +kernel))
set_option maxRecDepth 20000 in
theorem gL_linesWith_X6_linesWith : GoodIn wsL_linesWith (wsV RL 52 RX6 yX6_linesWith wsX6_linesWith) := goodIn_app (goodIn_of _ (by decide +kernel)) ggL_linesWith_X6_linesWith
theorem dL_linesWith_0 : decode cL_linesWith 0 = .ok (.aload_n 2, 1) := by decide +kernel
theorem dL_linesWith_1 : decode cL_linesWith 1 = .ok (.iconst 0, 1) := by decide +kernel
theorem dL_linesWith_2 : decode cL_linesWith 2 = .ok (.aload_n 0, 1) := by decide +kernel
theorem dL_linesWith_3 : decode cL_linesWith 3 = .ok (.iload_n 1, 1) := by decide +kernel
theorem dL_linesWith_4 : decode cL_linesWith 4 = .ok (.invokevirtual 52, 3) := by decide +kernel
theorem dL_linesWith_7 : decode cL_linesWith 7 = .ok (.i2l, 1) := by decide +kernel
theorem dL_linesWith_8 : decode cL_linesWith 8 = .ok (.lastore, 1) := by decide +kernel
theorem dL_linesWith_9 : decode cL_linesWith 9 = .ok (.goto 6, 3) := by decide +kernel
theorem dL_linesWith_12 : decode cL_linesWith 12 = .ok (.astore_n 3, 1) := by decide +kernel
theorem dL_linesWith_13 : decode cL_linesWith 13 = .ok (.iconst 1, 1) := by decide +kernel
theorem dL_linesWith_14 : decode cL_linesWith 14 = .ok (.ireturn, 1) := by decide +kernel
theorem dL_linesWith_15 : decode cL_linesWith 15 = .ok (.iconst 0, 1) := by decide +kernel
theorem dL_linesWith_16 : decode cL_linesWith 16 = .ok (.ireturn, 1) := by decide +kernel
set_option maxRecDepth 20000 in
theorem ggL_nextFetch_X6_nextFetch : GoodIn wsL_nextFetch wsX6_nextFetch := goodIn_ca (goodIn_r _ [6, 7, 8, 9, 10, 11, 12, 13, 14, 15, 16, 17, 18, 19, 20, 21, 22, 23, 24, 25, 26, 27, 28, 29, 30, 31, 32, 33, 34, 35, 36, 37, 38, 39, 40, 41, 42, 43, 44, 45, 46, 47, 48, 49, 50, 51, 52, 53, 54, 55, 56, 57, 58, 59, 60, 61, 62, 63, 64, 65, 66, 67, 68, 69, 70, 71, 72, 73, 74, 75, 76, 77, 78, 79, 80, 81, 82, 83, 84, 85, 86, 87, 88, 89, 90, 91, 92, 93, 94, 95, 96, 97, 98, 99, 100, 101, 102, 103, 104, 105, 106, 107, 108, 109] (by decide +kernel) (by decide +kernel)) (goodIn_sub (fun _ h => List.mem_cons_of_mem _ (List.mem_append_right _ h)) (by decide +kernel))
set_option maxRecDepth 20000 in
theorem gL_nextFetch_X6_nextFetch : GoodIn wsL_nextFetch (wsV RL 55 RX6 yX6_nextFetch wsX6_nextFetch) := goodIn_app (goodIn_of _ (by decide +kernel)) ggL_nextFetch_X6_nextFetch
theorem dL_nextFetch_0 : decode cL_nextFetch 0 = .ok (.aload_n 2, 1) := by decide +kernel
theorem dL_nextFetch_1 : decode cL_nextFetch 1 = .ok (.iconst 0, 1) := by decide +kernel
theorem dL_nextFetch_2 : decode cL_nextFetch 2 = .ok (.aload_n 0, 1) := by decide +kernel
theorem dL_nextFetch_3 : decode cL_nextFetch 3 = .ok (.iload_n 1, 1) := by decide +kernel
theorem dL_nextFetch_4 : decode cL_nextFetch 4 = .ok (.invokevirtual 55, 3) := by decide +kernel
theorem dL_nextFetch_7 : decode cL_nextFetch 7 = .ok (.i2l, 1) := by decide +kernel
theorem dL_nextFetch_8 : decode cL_nextFetch 8 = .ok (.lastore, 1) := by decide +kernel
theorem dL_nextFetch_9 : decode cL_nextFetch 9 = .ok (.goto 6, 3) := by decide +kernel
theorem dL_nextFetch_12 : decode cL_nextFetch 12 = .ok (.astore_n 3, 1) := by decide +kernel
theorem dL_nextFetch_13 : decode cL_nextFetch 13 = .ok (.iconst 1, 1) := by decide +kernel
theorem dL_nextFetch_14 : decode cL_nextFetch 14 = .ok (.ireturn, 1) := by decide +kernel
theorem dL_nextFetch_15 : decode cL_nextFetch 15 = .ok (.iconst 0, 1) := by decide +kernel
theorem dL_nextFetch_16 : decode cL_nextFetch 16 = .ok (.ireturn, 1) := by decide +kernel
set_option maxRecDepth 20000 in
theorem ggL_wouldFetch_X6_wouldFetch : GoodIn wsL_wouldFetch wsX6_wouldFetch := goodIn_ca (goodIn_r _ [6, 7, 8, 9, 10, 11, 12, 13, 14, 15, 16, 17, 18, 19, 20, 21, 22, 23, 24, 25, 26, 27, 28, 29, 30, 31, 32, 33, 34, 35, 36, 37, 38, 39, 40, 41, 42, 43, 44, 45, 46, 47, 48, 49, 50, 51, 52, 53, 54, 55, 56, 57, 58, 59, 60, 61, 62, 63, 64, 65, 66, 67, 68, 69, 70, 71, 72, 73, 74, 75, 76, 77, 78, 79, 80, 81, 82, 83, 84, 85, 86, 87, 88] (by decide +kernel) (by decide +kernel)) (goodIn_sub (fun _ h => List.mem_cons_of_mem _ (List.mem_append_right _ h)) (by decide +kernel))
set_option maxRecDepth 20000 in
theorem gL_wouldFetch_X6_wouldFetch : GoodIn wsL_wouldFetch (wsV RL 58 RX6 yX6_wouldFetch wsX6_wouldFetch) := goodIn_app (goodIn_of _ (by decide +kernel)) ggL_wouldFetch_X6_wouldFetch
theorem dL_wouldFetch_0 : decode cL_wouldFetch 0 = .ok (.aload_n 2, 1) := by decide +kernel
theorem dL_wouldFetch_1 : decode cL_wouldFetch 1 = .ok (.iconst 0, 1) := by decide +kernel
theorem dL_wouldFetch_2 : decode cL_wouldFetch 2 = .ok (.aload_n 0, 1) := by decide +kernel
theorem dL_wouldFetch_3 : decode cL_wouldFetch 3 = .ok (.iload_n 1, 1) := by decide +kernel
theorem dL_wouldFetch_4 : decode cL_wouldFetch 4 = .ok (.invokevirtual 58, 3) := by decide +kernel
theorem dL_wouldFetch_7 : decode cL_wouldFetch 7 = .ok (.i2l, 1) := by decide +kernel
theorem dL_wouldFetch_8 : decode cL_wouldFetch 8 = .ok (.lastore, 1) := by decide +kernel
theorem dL_wouldFetch_9 : decode cL_wouldFetch 9 = .ok (.goto 6, 3) := by decide +kernel
theorem dL_wouldFetch_12 : decode cL_wouldFetch 12 = .ok (.astore_n 3, 1) := by decide +kernel
theorem dL_wouldFetch_13 : decode cL_wouldFetch 13 = .ok (.iconst 1, 1) := by decide +kernel
theorem dL_wouldFetch_14 : decode cL_wouldFetch 14 = .ok (.ireturn, 1) := by decide +kernel
theorem dL_wouldFetch_15 : decode cL_wouldFetch 15 = .ok (.iconst 0, 1) := by decide +kernel
theorem dL_wouldFetch_16 : decode cL_wouldFetch 16 = .ok (.ireturn, 1) := by decide +kernel
set_option maxRecDepth 20000 in
theorem ggL_count_X6_count : GoodIn wsL_count wsX6_count := goodIn_ca (goodIn_r _ [6, 7, 8, 9, 10, 11, 12, 13, 14, 15, 16, 17, 18, 19, 20, 21, 22, 23, 24, 25, 26, 27, 28, 29, 30, 31, 32] (by decide +kernel) (by decide +kernel)) (goodIn_sub (fun _ h => List.mem_cons_of_mem _ (List.mem_append_right _ h)) (by decide +kernel))
set_option maxRecDepth 20000 in
theorem gL_count_X6_count : GoodIn wsL_count (wsV RL 61 RX6 yX6_count wsX6_count) := goodIn_app (goodIn_of _ (by decide +kernel)) ggL_count_X6_count
theorem dL_count_0 : decode cL_count 0 = .ok (.aload_n 2, 1) := by decide +kernel
theorem dL_count_1 : decode cL_count 1 = .ok (.iconst 0, 1) := by decide +kernel
theorem dL_count_2 : decode cL_count 2 = .ok (.aload_n 0, 1) := by decide +kernel
theorem dL_count_3 : decode cL_count 3 = .ok (.iload_n 1, 1) := by decide +kernel
theorem dL_count_4 : decode cL_count 4 = .ok (.invokevirtual 61, 3) := by decide +kernel
theorem dL_count_7 : decode cL_count 7 = .ok (.i2l, 1) := by decide +kernel
theorem dL_count_8 : decode cL_count 8 = .ok (.lastore, 1) := by decide +kernel
theorem dL_count_9 : decode cL_count 9 = .ok (.goto 6, 3) := by decide +kernel
theorem dL_count_12 : decode cL_count 12 = .ok (.astore_n 3, 1) := by decide +kernel
theorem dL_count_13 : decode cL_count 13 = .ok (.iconst 1, 1) := by decide +kernel
theorem dL_count_14 : decode cL_count 14 = .ok (.ireturn, 1) := by decide +kernel
theorem dL_count_15 : decode cL_count 15 = .ok (.iconst 0, 1) := by decide +kernel
theorem dL_count_16 : decode cL_count 16 = .ok (.ireturn, 1) := by decide +kernel
set_option maxRecDepth 20000 in
theorem ggL_law_X6_init : GoodIn wsL_law wsX6_init := goodIn_r _ [9, 10, 11, 12, 13, 14, 15, 16, 17, 18, 19, 20, 21, 22, 23, 24, 25, 26, 27, 28, 29, 30, 31, 32, 33, 34, 35, 36, 37, 38, 39, 40, 41, 42, 43, 44, 45, 46, 47, 48, 49, 50, 51, 52, 53, 54, 55, 56, 57, 58, 59, 60, 61, 62, 63, 64, 65, 66, 67, 68, 69, 70, 71, 72, 73, 74, 705, 706, 707, 708, 709, 710, 711, 712, 713, 714, 715, 686, 687, 688, 689, 690, 716, 717, 718, 719, 720, 721, 722, 723, 724, 725, 726, 727, 728, 729, 730, 731, 732, 733, 734, 735, 736, 737, 738, 739, 740, 741, 742, 743, 744, 745] (by decide +kernel) (by decide +kernel)
set_option maxRecDepth 20000 in
theorem gL_law_X6_init : GoodIn wsL_law (wsX6_init) := ggL_law_X6_init
