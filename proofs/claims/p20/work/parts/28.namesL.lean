theorem dL_cell_0 : decode cL_cell 0 = .ok (.iload_n 1, 1) := by decide +kernel
theorem dL_cell_1 : decode cL_cell 1 = .ok (.aload_n 0, 1) := by decide +kernel
theorem dL_cell_2 : decode cL_cell 2 = .ok (.arraylength, 1) := by decide +kernel
theorem dL_cell_3 : decode cL_cell 3 = .ok (.if_icmp .ge 9, 3) := by decide +kernel
theorem dL_cell_6 : decode cL_cell 6 = .ok (.aload_n 0, 1) := by decide +kernel
theorem dL_cell_7 : decode cL_cell 7 = .ok (.iload_n 1, 1) := by decide +kernel
theorem dL_cell_8 : decode cL_cell 8 = .ok (.iaload, 1) := by decide +kernel
theorem dL_cell_9 : decode cL_cell 9 = .ok (.goto 18, 3) := by decide +kernel
theorem dL_cell_12 : decode cL_cell 12 = .ok (.sipush 7919, 3) := by decide +kernel
theorem dL_cell_15 : decode cL_cell 15 = .ok (.iload_n 1, 1) := by decide +kernel
theorem dL_cell_16 : decode cL_cell 16 = .ok (.sipush 739, 3) := by decide +kernel
theorem dL_cell_19 : decode cL_cell 19 = .ok (.iadd, 1) := by decide +kernel
theorem dL_cell_20 : decode cL_cell 20 = .ok (.imul, 1) := by decide +kernel
theorem dL_cell_21 : decode cL_cell 21 = .ok (.iload_n 1, 1) := by decide +kernel
theorem dL_cell_22 : decode cL_cell 22 = .ok (.sipush 1093, 3) := by decide +kernel
theorem dL_cell_25 : decode cL_cell 25 = .ok (.iadd, 1) := by decide +kernel
theorem dL_cell_26 : decode cL_cell 26 = .ok (.imul, 1) := by decide +kernel
theorem dL_cell_27 : decode cL_cell 27 = .ok (.ireturn, 1) := by decide +kernel
theorem dL_low_0 : decode cL_low 0 = .ok (.iload_n 0, 1) := by decide +kernel
theorem dL_low_1 : decode cL_low 1 = .ok (.ldc 7, 2) := by decide +kernel
theorem dL_low_3 : decode cL_low 3 = .ok (.iand, 1) := by decide +kernel
theorem dL_low_4 : decode cL_low 4 = .ok (.iload_n 1, 1) := by decide +kernel
theorem dL_low_5 : decode cL_low 5 = .ok (.irem, 1) := by decide +kernel
theorem dL_low_6 : decode cL_low 6 = .ok (.ireturn, 1) := by decide +kernel
set_option maxRecDepth 20000 in
theorem ggL_fill_X3_fill : GoodIn wsL_fill wsX3_fill := goodIn_ca (goodIn_r _ [7, 8, 9, 10, 11, 6, 12, 13, 14, 15, 16, 17, 18, 19, 20, 21, 22, 23, 24, 25, 26, 27, 28, 29, 30, 31, 32, 33, 34, 35, 36, 37, 38, 39, 40, 41, 42, 43, 44, 45, 46, 47, 48, 49, 50, 51, 52, 53, 54, 55, 56, 57, 58, 59, 60, 61, 62, 63, 64, 65, 66, 67, 68, 69, 70, 71, 72, 73, 74, 75, 76, 77, 78, 79, 80, 81, 82, 83, 84, 85, 86, 87, 88, 89, 90, 91] (by decide +kernel) (by decide +kernel)) (goodIn_sub (fun _ h => List.mem_cons_of_mem _ (List.mem_append_right _ h)) (by decide +kernel))
set_option maxRecDepth 20000 in
theorem gL_fill_X3_fill : GoodIn wsL_fill (wsV RL 8 RX3 yX3_fill wsX3_fill) := goodIn_app (goodIn_of _ (by decide +kernel)) ggL_fill_X3_fill
theorem dL_fill_0 : decode cL_fill 0 = .ok (.aload_n 0, 1) := by decide +kernel
theorem dL_fill_1 : decode cL_fill 1 = .ok (.iload_n 1, 1) := by decide +kernel
theorem dL_fill_2 : decode cL_fill 2 = .ok (.iload_n 2, 1) := by decide +kernel
theorem dL_fill_3 : decode cL_fill 3 = .ok (.iload_n 3, 1) := by decide +kernel
theorem dL_fill_4 : decode cL_fill 4 = .ok (.iload 4, 2) := by decide +kernel
theorem dL_fill_6 : decode cL_fill 6 = .ok (.iload 5, 2) := by decide +kernel
theorem dL_fill_8 : decode cL_fill 8 = .ok (.invokevirtual 8, 3) := by decide +kernel
theorem dL_fill_11 : decode cL_fill 11 = .ok (.ireturn, 1) := by decide +kernel
theorem dL_fill_12 : decode cL_fill 12 = .ok (.astore 6, 2) := by decide +kernel
theorem dL_fill_14 : decode cL_fill 14 = .ok (.ldc 16, 2) := by decide +kernel
theorem dL_fill_16 : decode cL_fill 16 = .ok (.ireturn, 1) := by decide +kernel
set_option maxRecDepth 20000 in
theorem ggL_copy_X3_copy : GoodIn wsL_copy wsX3_copy := goodIn_ca (goodIn_r _ [7, 8, 9, 10, 11, 6, 12, 13, 14, 15, 16, 17, 18, 19, 20, 21, 22, 23, 24, 25, 26, 27, 28, 29, 30, 31, 32, 33, 34, 35, 36, 37, 38, 39, 40, 41, 42, 43, 44, 45, 46, 47, 48, 49, 50, 51, 52, 53, 54, 55, 56, 57, 58, 59, 60, 61, 62, 63, 64, 65, 66, 67, 68, 69, 70, 71, 72, 73, 74, 75, 76, 77, 78, 79, 80, 81, 82, 83, 84, 85, 86, 87, 88, 89, 90, 91, 92, 93, 94, 95] (by decide +kernel) (by decide +kernel)) (goodIn_sub (fun _ h => List.mem_cons_of_mem _ (List.mem_append_right _ h)) (by decide +kernel))
set_option maxRecDepth 20000 in
theorem gL_copy_X3_copy : GoodIn wsL_copy (wsV RL 17 RX3 yX3_copy wsX3_copy) := goodIn_app (goodIn_of _ (by decide +kernel)) ggL_copy_X3_copy
theorem dL_copy_0 : decode cL_copy 0 = .ok (.aload_n 0, 1) := by decide +kernel
theorem dL_copy_1 : decode cL_copy 1 = .ok (.iload_n 1, 1) := by decide +kernel
theorem dL_copy_2 : decode cL_copy 2 = .ok (.iload_n 2, 1) := by decide +kernel
theorem dL_copy_3 : decode cL_copy 3 = .ok (.iload_n 3, 1) := by decide +kernel
theorem dL_copy_4 : decode cL_copy 4 = .ok (.iload 4, 2) := by decide +kernel
theorem dL_copy_6 : decode cL_copy 6 = .ok (.iload 5, 2) := by decide +kernel
theorem dL_copy_8 : decode cL_copy 8 = .ok (.iload 6, 2) := by decide +kernel
theorem dL_copy_10 : decode cL_copy 10 = .ok (.invokevirtual 17, 3) := by decide +kernel
theorem dL_copy_13 : decode cL_copy 13 = .ok (.ireturn, 1) := by decide +kernel
theorem dL_copy_14 : decode cL_copy 14 = .ok (.astore 7, 2) := by decide +kernel
theorem dL_copy_16 : decode cL_copy 16 = .ok (.ldc 16, 2) := by decide +kernel
theorem dL_copy_18 : decode cL_copy 18 = .ok (.ireturn, 1) := by decide +kernel
set_option maxRecDepth 20000 in
theorem ggL_join_X3_join : GoodIn wsL_join wsX3_join := goodIn_ca (goodIn_r _ [7, 8, 9, 10, 6, 11, 12, 13, 14, 15, 16, 17, 18, 19, 20, 21, 22, 23, 24, 25, 26, 27, 28, 29, 30, 31, 32, 33, 34, 35, 36, 37, 38, 39, 40, 41, 42, 43, 44, 45, 46, 47, 48, 49, 50, 51, 52, 53, 54, 55, 56, 57, 58, 59, 60, 61] (by decide +kernel) (by decide +kernel)) (goodIn_sub (fun _ h => List.mem_cons_of_mem _ (List.mem_append_right _ h)) (by decide +kernel))
set_option maxRecDepth 20000 in
theorem gL_join_X3_join : GoodIn wsL_join (wsV RL 21 RX3 yX3_join wsX3_join) := goodIn_app (goodIn_of _ (by decide +kernel)) ggL_join_X3_join
theorem dL_join_0 : decode cL_join 0 = .ok (.aload_n 0, 1) := by decide +kernel
theorem dL_join_1 : decode cL_join 1 = .ok (.iload_n 1, 1) := by decide +kernel
theorem dL_join_2 : decode cL_join 2 = .ok (.invokevirtual 21, 3) := by decide +kernel
theorem dL_join_5 : decode cL_join 5 = .ok (.ireturn, 1) := by decide +kernel
theorem dL_join_6 : decode cL_join 6 = .ok (.astore_n 2, 1) := by decide +kernel
theorem dL_join_7 : decode cL_join 7 = .ok (.ldc 16, 2) := by decide +kernel
theorem dL_join_9 : decode cL_join 9 = .ok (.ireturn, 1) := by decide +kernel
set_option maxRecDepth 20000 in
theorem ggL_ask_X3_ask : GoodIn wsL_ask wsX3_ask := goodIn_ca (goodIn_ca (goodIn_r _ [8, 9, 10, 11, 7, 12, 13, 14, 15, 16, 17, 18, 19, 20, 21, 22, 23, 24, 25, 26, 27, 28, 29, 30, 31, 32, 33, 34, 35, 36, 37, 38, 39, 40, 41, 42, 43, 44, 45, 46, 47, 48, 49, 50, 51, 52, 53, 54, 55, 56, 57, 58, 59, 60, 61, 62, 63, 64, 65, 66, 67, 68, 69, 70, 71, 72, 73, 74, 75, 76, 77, 78, 79, 80, 81, 82, 83, 84, 85, 86, 87, 88, 89, 90, 91, 92, 93, 94, 95, 96, 97, 98, 99, 100, 101, 102, 103, 104, 105, 106, 107, 108, 109, 110, 111, 112, 113, 114, 115, 116, 117, 118, 119, 120, 121, 122, 123, 124, 125, 126, 127, 128, 129, 130, 131, 132, 133, 134, 135, 136, 137, 138, 139, 140] (by decide +kernel) (by decide +kernel)) (goodIn_sub (fun _ h => List.mem_cons_of_mem _ (List.mem_append_left _ (List.mem_append_right _ h))) (by decide +kernel))) (goodIn_sub (fun _ h => List.mem_cons_of_mem _ (List.mem_append_right _ h)) (by decide +kernel))
set_option maxRecDepth 20000 in
theorem gL_ask_X3_ask : GoodIn wsL_ask (wsV RL 25 RX3 yX3_ask wsX3_ask) := goodIn_app (goodIn_of _ (by decide +kernel)) ggL_ask_X3_ask
theorem dL_ask_0 : decode cL_ask 0 = .ok (.aload_n 0, 1) := by decide +kernel
theorem dL_ask_1 : decode cL_ask 1 = .ok (.iload_n 1, 1) := by decide +kernel
theorem dL_ask_2 : decode cL_ask 2 = .ok (.iload_n 2, 1) := by decide +kernel
theorem dL_ask_3 : decode cL_ask 3 = .ok (.invokevirtual 25, 3) := by decide +kernel
theorem dL_ask_6 : decode cL_ask 6 = .ok (.ireturn, 1) := by decide +kernel
theorem dL_ask_7 : decode cL_ask 7 = .ok (.astore_n 3, 1) := by decide +kernel
theorem dL_ask_8 : decode cL_ask 8 = .ok (.ldc 16, 2) := by decide +kernel
theorem dL_ask_10 : decode cL_ask 10 = .ok (.ireturn, 1) := by decide +kernel
theorem dL_ask_11 : decode cL_ask 11 = .ok (.astore_n 3, 1) := by decide +kernel
theorem dL_ask_12 : decode cL_ask 12 = .ok (.ldc 16, 2) := by decide +kernel
theorem dL_ask_14 : decode cL_ask 14 = .ok (.ireturn, 1) := by decide +kernel
set_option maxRecDepth 20000 in
theorem ggL_answer_X3_answer : GoodIn wsL_answer wsX3_answer := goodIn_ca (goodIn_ca (goodIn_r _ [8, 9, 10, 11, 7, 12, 13, 14, 15, 16, 17, 18, 19, 20, 21, 22, 23, 24, 25, 26, 27, 28, 29, 30, 31, 32, 33, 34, 35, 36, 37, 38, 39, 40, 41, 42, 43, 44, 45, 46, 47, 48, 49, 50, 51, 52, 53, 54, 55, 56, 57, 58, 59, 60, 61, 62, 63, 64, 65, 66, 67, 68, 69, 70, 71, 72, 73, 74, 75, 76, 77, 78, 79] (by decide +kernel) (by decide +kernel)) (goodIn_sub (fun _ h => List.mem_cons_of_mem _ (List.mem_append_left _ (List.mem_append_right _ h))) (by decide +kernel))) (goodIn_sub (fun _ h => List.mem_cons_of_mem _ (List.mem_append_right _ h)) (by decide +kernel))
set_option maxRecDepth 20000 in
theorem gL_answer_X3_answer : GoodIn wsL_answer (wsV RL 31 RX3 yX3_answer wsX3_answer) := goodIn_app (goodIn_of _ (by decide +kernel)) ggL_answer_X3_answer
theorem dL_answer_0 : decode cL_answer 0 = .ok (.aload_n 0, 1) := by decide +kernel
theorem dL_answer_1 : decode cL_answer 1 = .ok (.iload_n 1, 1) := by decide +kernel
theorem dL_answer_2 : decode cL_answer 2 = .ok (.invokevirtual 31, 3) := by decide +kernel
theorem dL_answer_5 : decode cL_answer 5 = .ok (.ireturn, 1) := by decide +kernel
theorem dL_answer_6 : decode cL_answer 6 = .ok (.astore_n 2, 1) := by decide +kernel
theorem dL_answer_7 : decode cL_answer 7 = .ok (.ldc 16, 2) := by decide +kernel
theorem dL_answer_9 : decode cL_answer 9 = .ok (.ireturn, 1) := by decide +kernel
theorem dL_answer_10 : decode cL_answer 10 = .ok (.astore_n 2, 1) := by decide +kernel
theorem dL_answer_11 : decode cL_answer 11 = .ok (.ldc 16, 2) := by decide +kernel
theorem dL_answer_13 : decode cL_answer 13 = .ok (.ireturn, 1) := by decide +kernel
set_option maxRecDepth 20000 in
theorem ggL_unlike_X3_unlike : GoodIn wsL_unlike wsX3_unlike := goodIn_ca (goodIn_ca (goodIn_r _ [8, 9, 10, 11, 12, 7, 13, 14, 15, 16, 17, 18, 19, 20, 21, 22, 23, 24, 25, 26, 27, 28, 29, 30, 31, 32, 33, 34, 35, 36, 37, 38, 39, 40, 41, 42, 43, 44, 45, 46, 47, 48, 49, 50, 51, 52, 53, 54, 55, 56, 57, 58, 59, 60, 61, 62] (by decide +kernel) (by decide +kernel)) (goodIn_sub (fun _ h => List.mem_cons_of_mem _ (List.mem_append_left _ (List.mem_append_right _ h))) (by decide +kernel))) (goodIn_sub (fun _ h => List.mem_cons_of_mem _ (List.mem_append_right _ h)) (by decide +kernel))
set_option maxRecDepth 20000 in
theorem gL_unlike_X3_unlike : GoodIn wsL_unlike (wsV RL 34 RX3 yX3_unlike wsX3_unlike) := goodIn_app (goodIn_of _ (by decide +kernel)) ggL_unlike_X3_unlike
theorem dL_unlike_0 : decode cL_unlike 0 = .ok (.aload_n 0, 1) := by decide +kernel
theorem dL_unlike_1 : decode cL_unlike 1 = .ok (.iload_n 1, 1) := by decide +kernel
theorem dL_unlike_2 : decode cL_unlike 2 = .ok (.invokevirtual 34, 3) := by decide +kernel
theorem dL_unlike_5 : decode cL_unlike 5 = .ok (.ireturn, 1) := by decide +kernel
theorem dL_unlike_6 : decode cL_unlike 6 = .ok (.astore_n 2, 1) := by decide +kernel
theorem dL_unlike_7 : decode cL_unlike 7 = .ok (.ldc 16, 2) := by decide +kernel
theorem dL_unlike_9 : decode cL_unlike 9 = .ok (.ireturn, 1) := by decide +kernel
theorem dL_unlike_10 : decode cL_unlike 10 = .ok (.astore_n 2, 1) := by decide +kernel
theorem dL_unlike_11 : decode cL_unlike 11 = .ok (.iconst (-1), 1) := by decide +kernel
theorem dL_unlike_12 : decode cL_unlike 12 = .ok (.ireturn, 1) := by decide +kernel
set_option maxRecDepth 20000 in
theorem ggL_act_L_low : GoodIn wsL_act wsL_low := goodIn_r _ [4, 5] (by decide +kernel) (by decide +kernel)
set_option maxRecDepth 20000 in
theorem gL_act_L_low : GoodIn wsL_act (va_wsS RL 37 yL_low wsL_low) := goodIn_app (goodIn_of _ (by decide +kernel)) ggL_act_L_low
set_option maxRecDepth 20000 in
theorem ggL_act_L_join : GoodIn wsL_act wsL_join := goodIn_ca (goodIn_r _ [8, 9, 10, 11, 12, 13, 14, 15, 16, 17, 18, 19, 20, 21, 22, 23, 24, 25, 26, 27, 28, 29, 30, 31, 32, 33, 34, 35, 36, 37, 38, 39, 40, 41, 42, 43, 44, 45, 46, 47, 48, 49, 50, 51, 52, 224, 225, 226, 227, 228, 229, 230, 231, 232, 233, 234, 235, 236, 237, 238, 239, 240] (by decide +kernel) (by decide +kernel)) (goodIn_sub (fun _ h => List.mem_cons_of_mem _ (List.mem_append_left _ (List.mem_append_right _ h))) (by decide +kernel))
set_option maxRecDepth 20000 in
theorem gL_act_L_join : GoodIn wsL_act (va_wsS RL 42 yL_join wsL_join) := goodIn_app (goodIn_of _ (by decide +kernel)) ggL_act_L_join
set_option maxRecDepth 20000 in
theorem ggL_act_L_answer : GoodIn wsL_act wsL_answer := goodIn_ca (goodIn_ca (goodIn_r _ [55, 9, 56, 10, 57, 58, 59, 14, 60, 16, 17, 18, 19, 20, 21, 22, 23, 24, 61, 62, 63, 28, 64, 30, 65, 66, 67, 68, 69, 70, 71, 72, 73, 34, 74, 75, 76, 77, 31, 78, 79, 32, 80, 81, 82, 40, 83, 42, 84, 85, 86, 46, 87, 48, 88, 89, 90, 91, 92, 93, 94, 95, 96, 224, 225, 226, 227, 228, 229, 230, 231, 232, 233, 234, 235, 236, 237, 238, 239, 240] (by decide +kernel) (by decide +kernel)) (goodIn_sub (fun _ h => List.mem_cons_of_mem _ (List.mem_append_left _ (List.mem_append_right _ h))) (by decide +kernel))) (goodIn_sub (fun _ h => List.mem_cons_of_mem _ (List.mem_append_right _ h)) (by decide +kernel))
set_option maxRecDepth 20000 in
theorem gL_act_L_answer : GoodIn wsL_act (va_wsS RL 45 yL_answer wsL_answer) := goodIn_app (goodIn_of _ (by decide +kernel)) ggL_act_L_answer
set_option maxRecDepth 20000 in
theorem ggL_act_L_ask : GoodIn wsL_act wsL_ask := goodIn_ca (goodIn_ca (goodIn_r _ [99, 9, 56, 10, 100, 101, 102, 14, 103, 16, 17, 18, 19, 20, 21, 22, 23, 24, 104, 105, 106, 61, 62, 63, 28, 64, 30, 65, 66, 67, 68, 69, 70, 71, 72, 73, 34, 107, 108, 109, 110, 111, 112, 113, 49, 50, 51, 52, 36, 114, 115, 116, 117, 35, 118, 119, 120, 40, 121, 42, 122, 123, 124, 125, 33, 126, 127, 128, 129, 130, 131, 132, 133, 134, 46, 135, 48, 93, 94, 95, 96, 92, 136, 137, 138, 139, 140, 141, 142, 143, 144, 145, 146, 147, 148, 149, 150, 151, 152, 153, 154, 155, 156, 157, 158, 159, 78, 79, 84, 85, 86, 87, 88, 89, 90, 91, 160, 161, 162, 163, 164, 165, 166, 167, 224, 225, 226, 227, 228, 229, 230, 231, 232, 233, 234, 235, 236, 237, 238, 239, 240] (by decide +kernel) (by decide +kernel)) (goodIn_sub (fun _ h => List.mem_cons_of_mem _ (List.mem_append_left _ (List.mem_append_right _ h))) (by decide +kernel))) (goodIn_sub (fun _ h => List.mem_cons_of_mem _ (List.mem_append_right _ h)) (by decide +kernel))
set_option maxRecDepth 20000 in
theorem gL_act_L_ask : GoodIn wsL_act (va_wsS RL 47 yL_ask wsL_ask) := goodIn_app (goodIn_of _ (by decide +kernel)) ggL_act_L_ask
set_option maxRecDepth 20000 in
theorem ggL_act_L_copy : GoodIn wsL_act wsL_copy := goodIn_ca (goodIn_r _ [170, 9, 10, 171, 172, 173, 14, 174, 175, 111, 176, 177, 178, 179, 180, 181, 17, 18, 19, 104, 105, 106, 20, 21, 22, 23, 24, 182, 183, 184, 40, 185, 42, 186, 187, 188, 189, 190, 191, 192, 193, 194, 195, 140, 141, 142, 196, 197, 198, 199, 200, 201, 202, 203, 204, 205, 118, 119, 120, 121, 206, 207, 208, 139, 209, 210, 211, 212, 16, 61, 62, 63, 28, 64, 30, 213, 214, 215, 216, 36, 35, 224, 225, 226, 227, 228, 238, 229, 230, 231, 232, 233, 234, 235, 236, 237] (by decide +kernel) (by decide +kernel)) (goodIn_sub (fun _ h => List.mem_cons_of_mem _ (List.mem_append_left _ (List.mem_append_right _ h))) (by decide +kernel))
set_option maxRecDepth 20000 in
theorem gL_act_L_copy : GoodIn wsL_act (va_wsS RL 50 yL_copy wsL_copy) := goodIn_app (goodIn_of _ (by decide +kernel)) ggL_act_L_copy
set_option maxRecDepth 20000 in
theorem ggL_act_L_fill : GoodIn wsL_act wsL_fill := goodIn_ca (goodIn_r _ [219, 9, 10, 220, 221, 222, 14, 223, 175, 111, 176, 177, 178, 179, 180, 181, 17, 18, 19, 104, 105, 106, 20, 21, 22, 23, 24, 182, 183, 184, 40, 185, 42, 196, 197, 198, 199, 200, 201, 190, 191, 192, 193, 194, 195, 202, 203, 204, 205, 118, 119, 120, 121, 206, 207, 208, 139, 140, 141, 142, 209, 210, 211, 212, 16, 61, 62, 63, 28, 64, 30, 213, 214, 215, 216, 36, 35, 224, 225, 226, 227, 228, 238, 229, 230, 231, 232, 233, 234, 235, 236, 237] (by decide +kernel) (by decide +kernel)) (goodIn_sub (fun _ h => List.mem_cons_of_mem _ (List.mem_append_left _ (List.mem_append_right _ h))) (by decide +kernel))
set_option maxRecDepth 20000 in
theorem gL_act_L_fill : GoodIn wsL_act (va_wsS RL 53 yL_fill wsL_fill) := goodIn_app (goodIn_of _ (by decide +kernel)) ggL_act_L_fill
theorem dL_act_0 : decode cL_act 0 = .ok (.iload_n 1, 1) := by decide +kernel
theorem dL_act_1 : decode cL_act 1 = .ok (.bipush 24, 2) := by decide +kernel
theorem dL_act_3 : decode cL_act 3 = .ok (.ishr, 1) := by decide +kernel
theorem dL_act_4 : decode cL_act 4 = .ok (.bipush 9, 2) := by decide +kernel
theorem dL_act_6 : decode cL_act 6 = .ok (.invokestatic 37, 3) := by decide +kernel
theorem dL_act_9 : decode cL_act 9 = .ok (.ifCond .ne 7, 3) := by decide +kernel
theorem dL_act_12 : decode cL_act 12 = .ok (.iconst 1, 1) := by decide +kernel
theorem dL_act_13 : decode cL_act 13 = .ok (.goto 4, 3) := by decide +kernel
theorem dL_act_16 : decode cL_act 16 = .ok (.iconst 0, 1) := by decide +kernel
theorem dL_act_17 : decode cL_act 17 = .ok (.istore_n 2, 1) := by decide +kernel
theorem dL_act_18 : decode cL_act 18 = .ok (.iload_n 2, 1) := by decide +kernel
theorem dL_act_19 : decode cL_act 19 = .ok (.ifCond .eq 15, 3) := by decide +kernel
theorem dL_act_22 : decode cL_act 22 = .ok (.iload_n 1, 1) := by decide +kernel
theorem dL_act_23 : decode cL_act 23 = .ok (.iconst 4, 1) := by decide +kernel
theorem dL_act_24 : decode cL_act 24 = .ok (.ishr, 1) := by decide +kernel
theorem dL_act_25 : decode cL_act 25 = .ok (.iconst 4, 1) := by decide +kernel
theorem dL_act_26 : decode cL_act 26 = .ok (.invokestatic 37, 3) := by decide +kernel
theorem dL_act_29 : decode cL_act 29 = .ok (.iconst 1, 1) := by decide +kernel
theorem dL_act_30 : decode cL_act 30 = .ok (.isub, 1) := by decide +kernel
theorem dL_act_31 : decode cL_act 31 = .ok (.goto 10, 3) := by decide +kernel
theorem dL_act_34 : decode cL_act 34 = .ok (.iload_n 1, 1) := by decide +kernel
theorem dL_act_35 : decode cL_act 35 = .ok (.iconst 4, 1) := by decide +kernel
theorem dL_act_36 : decode cL_act 36 = .ok (.ishr, 1) := by decide +kernel
theorem dL_act_37 : decode cL_act 37 = .ok (.iconst 2, 1) := by decide +kernel
theorem dL_act_38 : decode cL_act 38 = .ok (.invokestatic 37, 3) := by decide +kernel
theorem dL_act_41 : decode cL_act 41 = .ok (.istore_n 3, 1) := by decide +kernel
theorem dL_act_42 : decode cL_act 42 = .ok (.iload_n 2, 1) := by decide +kernel
theorem dL_act_43 : decode cL_act 43 = .ok (.ifCond .eq 16, 3) := by decide +kernel
theorem dL_act_46 : decode cL_act 46 = .ok (.iload_n 1, 1) := by decide +kernel
theorem dL_act_47 : decode cL_act 47 = .ok (.iconst 4, 1) := by decide +kernel
theorem dL_act_48 : decode cL_act 48 = .ok (.ishr, 1) := by decide +kernel
theorem dL_act_49 : decode cL_act 49 = .ok (.bipush 18, 2) := by decide +kernel
theorem dL_act_51 : decode cL_act 51 = .ok (.invokestatic 37, 3) := by decide +kernel
theorem dL_act_54 : decode cL_act 54 = .ok (.iconst 1, 1) := by decide +kernel
theorem dL_act_55 : decode cL_act 55 = .ok (.isub, 1) := by decide +kernel
theorem dL_act_56 : decode cL_act 56 = .ok (.goto 11, 3) := by decide +kernel
theorem dL_act_59 : decode cL_act 59 = .ok (.iload_n 1, 1) := by decide +kernel
theorem dL_act_60 : decode cL_act 60 = .ok (.iconst 4, 1) := by decide +kernel
theorem dL_act_61 : decode cL_act 61 = .ok (.ishr, 1) := by decide +kernel
theorem dL_act_62 : decode cL_act 62 = .ok (.bipush 16, 2) := by decide +kernel
theorem dL_act_64 : decode cL_act 64 = .ok (.invokestatic 37, 3) := by decide +kernel
theorem dL_act_67 : decode cL_act 67 = .ok (.istore 4, 2) := by decide +kernel
theorem dL_act_69 : decode cL_act 69 = .ok (.iload_n 1, 1) := by decide +kernel
theorem dL_act_70 : decode cL_act 70 = .ok (.bipush 8, 2) := by decide +kernel
theorem dL_act_72 : decode cL_act 72 = .ok (.ishr, 1) := by decide +kernel
theorem dL_act_73 : decode cL_act 73 = .ok (.bipush 12, 2) := by decide +kernel
theorem dL_act_75 : decode cL_act 75 = .ok (.invokestatic 37, 3) := by decide +kernel
theorem dL_act_78 : decode cL_act 78 = .ok (.istore 5, 2) := by decide +kernel
theorem dL_act_80 : decode cL_act 80 = .ok (.iload_n 2, 1) := by decide +kernel
theorem dL_act_81 : decode cL_act 81 = .ok (.ifCond .eq 15, 3) := by decide +kernel
theorem dL_act_84 : decode cL_act 84 = .ok (.iload_n 1, 1) := by decide +kernel
theorem dL_act_85 : decode cL_act 85 = .ok (.bipush 12, 2) := by decide +kernel
theorem dL_act_87 : decode cL_act 87 = .ok (.ishr, 1) := by decide +kernel
theorem dL_act_88 : decode cL_act 88 = .ok (.bipush 18, 2) := by decide +kernel
theorem dL_act_90 : decode cL_act 90 = .ok (.invokestatic 37, 3) := by decide +kernel
theorem dL_act_93 : decode cL_act 93 = .ok (.goto 28, 3) := by decide +kernel
theorem dL_act_96 : decode cL_act 96 = .ok (.iconst 1, 1) := by decide +kernel
theorem dL_act_97 : decode cL_act 97 = .ok (.iload_n 1, 1) := by decide +kernel
theorem dL_act_98 : decode cL_act 98 = .ok (.bipush 12, 2) := by decide +kernel
theorem dL_act_100 : decode cL_act 100 = .ok (.ishr, 1) := by decide +kernel
theorem dL_act_101 : decode cL_act 101 = .ok (.iload 4, 2) := by decide +kernel
theorem dL_act_103 : decode cL_act 103 = .ok (.bipush 15, 2) := by decide +kernel
theorem dL_act_105 : decode cL_act 105 = .ok (.if_icmp .le 7, 3) := by decide +kernel
theorem dL_act_108 : decode cL_act 108 = .ok (.iconst 1, 1) := by decide +kernel
theorem dL_act_109 : decode cL_act 109 = .ok (.goto 8, 3) := by decide +kernel
theorem dL_act_112 : decode cL_act 112 = .ok (.bipush 16, 2) := by decide +kernel
theorem dL_act_114 : decode cL_act 114 = .ok (.iload 4, 2) := by decide +kernel
theorem dL_act_116 : decode cL_act 116 = .ok (.isub, 1) := by decide +kernel
theorem dL_act_117 : decode cL_act 117 = .ok (.invokestatic 37, 3) := by decide +kernel
theorem dL_act_120 : decode cL_act 120 = .ok (.iadd, 1) := by decide +kernel
theorem dL_act_121 : decode cL_act 121 = .ok (.istore 6, 2) := by decide +kernel
theorem dL_act_123 : decode cL_act 123 = .ok (.iload_n 2, 1) := by decide +kernel
theorem dL_act_124 : decode cL_act 124 = .ok (.ifCond .eq 15, 3) := by decide +kernel
theorem dL_act_127 : decode cL_act 127 = .ok (.iload_n 1, 1) := by decide +kernel
theorem dL_act_128 : decode cL_act 128 = .ok (.bipush 16, 2) := by decide +kernel
theorem dL_act_130 : decode cL_act 130 = .ok (.ishr, 1) := by decide +kernel
theorem dL_act_131 : decode cL_act 131 = .ok (.bipush 14, 2) := by decide +kernel
theorem dL_act_133 : decode cL_act 133 = .ok (.invokestatic 37, 3) := by decide +kernel
theorem dL_act_136 : decode cL_act 136 = .ok (.goto 17, 3) := by decide +kernel
theorem dL_act_139 : decode cL_act 139 = .ok (.iconst 1, 1) := by decide +kernel
theorem dL_act_140 : decode cL_act 140 = .ok (.iload_n 1, 1) := by decide +kernel
theorem dL_act_141 : decode cL_act 141 = .ok (.bipush 16, 2) := by decide +kernel
theorem dL_act_143 : decode cL_act 143 = .ok (.ishr, 1) := by decide +kernel
theorem dL_act_144 : decode cL_act 144 = .ok (.bipush 12, 2) := by decide +kernel
theorem dL_act_146 : decode cL_act 146 = .ok (.iload 5, 2) := by decide +kernel
theorem dL_act_148 : decode cL_act 148 = .ok (.isub, 1) := by decide +kernel
theorem dL_act_149 : decode cL_act 149 = .ok (.invokestatic 37, 3) := by decide +kernel
theorem dL_act_152 : decode cL_act 152 = .ok (.iadd, 1) := by decide +kernel
theorem dL_act_153 : decode cL_act 153 = .ok (.istore 7, 2) := by decide +kernel
theorem dL_act_155 : decode cL_act 155 = .ok (.iload_n 1, 1) := by decide +kernel
theorem dL_act_156 : decode cL_act 156 = .ok (.bipush 10, 2) := by decide +kernel
theorem dL_act_158 : decode cL_act 158 = .ok (.invokestatic 37, 3) := by decide +kernel
theorem dL_act_161 : decode cL_act 161 = .ok (.tableswitch 163 0 6 #[43, 68, 68, 74, 74, 108, 108], 43) := by decide +kernel
theorem dL_act_204 : decode cL_act 204 = .ok (.iload_n 1, 1) := by decide +kernel
theorem dL_act_205 : decode cL_act 205 = .ok (.bipush 8, 2) := by decide +kernel
theorem dL_act_207 : decode cL_act 207 = .ok (.ishr, 1) := by decide +kernel
theorem dL_act_208 : decode cL_act 208 = .ok (.iconst 4, 1) := by decide +kernel
theorem dL_act_209 : decode cL_act 209 = .ok (.invokestatic 37, 3) := by decide +kernel
theorem dL_act_212 : decode cL_act 212 = .ok (.ifCond .ne 11, 3) := by decide +kernel
theorem dL_act_215 : decode cL_act 215 = .ok (.aload_n 0, 1) := by decide +kernel
theorem dL_act_216 : decode cL_act 216 = .ok (.iload_n 3, 1) := by decide +kernel
theorem dL_act_217 : decode cL_act 217 = .ok (.invokestatic 42, 3) := by decide +kernel
theorem dL_act_220 : decode cL_act 220 = .ok (.goto 8, 3) := by decide +kernel
theorem dL_act_223 : decode cL_act 223 = .ok (.aload_n 0, 1) := by decide +kernel
theorem dL_act_224 : decode cL_act 224 = .ok (.iload_n 3, 1) := by decide +kernel
theorem dL_act_225 : decode cL_act 225 = .ok (.invokestatic 45, 3) := by decide +kernel
theorem dL_act_228 : decode cL_act 228 = .ok (.ireturn, 1) := by decide +kernel
theorem dL_act_229 : decode cL_act 229 = .ok (.aload_n 0, 1) := by decide +kernel
theorem dL_act_230 : decode cL_act 230 = .ok (.iload_n 3, 1) := by decide +kernel
theorem dL_act_231 : decode cL_act 231 = .ok (.invokestatic 45, 3) := by decide +kernel
theorem dL_act_234 : decode cL_act 234 = .ok (.ireturn, 1) := by decide +kernel
theorem dL_act_235 : decode cL_act 235 = .ok (.aload_n 0, 1) := by decide +kernel
theorem dL_act_236 : decode cL_act 236 = .ok (.iload_n 3, 1) := by decide +kernel
theorem dL_act_237 : decode cL_act 237 = .ok (.iload_n 2, 1) := by decide +kernel
theorem dL_act_238 : decode cL_act 238 = .ok (.ifCond .eq 18, 3) := by decide +kernel
theorem dL_act_241 : decode cL_act 241 = .ok (.iload_n 1, 1) := by decide +kernel
theorem dL_act_242 : decode cL_act 242 = .ok (.bipush 6, 2) := by decide +kernel
theorem dL_act_244 : decode cL_act 244 = .ok (.ishr, 1) := by decide +kernel
theorem dL_act_245 : decode cL_act 245 = .ok (.sipush 304, 3) := by decide +kernel
theorem dL_act_248 : decode cL_act 248 = .ok (.invokestatic 37, 3) := by decide +kernel
theorem dL_act_251 : decode cL_act 251 = .ok (.iconst 2, 1) := by decide +kernel
theorem dL_act_252 : decode cL_act 252 = .ok (.isub, 1) := by decide +kernel
theorem dL_act_253 : decode cL_act 253 = .ok (.goto 12, 3) := by decide +kernel
theorem dL_act_256 : decode cL_act 256 = .ok (.iload_n 1, 1) := by decide +kernel
theorem dL_act_257 : decode cL_act 257 = .ok (.bipush 6, 2) := by decide +kernel
theorem dL_act_259 : decode cL_act 259 = .ok (.ishr, 1) := by decide +kernel
theorem dL_act_260 : decode cL_act 260 = .ok (.bipush 120, 2) := by decide +kernel
theorem dL_act_262 : decode cL_act 262 = .ok (.invokestatic 37, 3) := by decide +kernel
theorem dL_act_265 : decode cL_act 265 = .ok (.invokestatic 47, 3) := by decide +kernel
theorem dL_act_268 : decode cL_act 268 = .ok (.ireturn, 1) := by decide +kernel
theorem dL_act_269 : decode cL_act 269 = .ok (.aload_n 0, 1) := by decide +kernel
theorem dL_act_270 : decode cL_act 270 = .ok (.iload 4, 2) := by decide +kernel
theorem dL_act_272 : decode cL_act 272 = .ok (.iload 5, 2) := by decide +kernel
theorem dL_act_274 : decode cL_act 274 = .ok (.iload 6, 2) := by decide +kernel
theorem dL_act_276 : decode cL_act 276 = .ok (.iload 7, 2) := by decide +kernel
theorem dL_act_278 : decode cL_act 278 = .ok (.iload_n 1, 1) := by decide +kernel
theorem dL_act_279 : decode cL_act 279 = .ok (.bipush 20, 2) := by decide +kernel
theorem dL_act_281 : decode cL_act 281 = .ok (.ishr, 1) := by decide +kernel
theorem dL_act_282 : decode cL_act 282 = .ok (.iload_n 2, 1) := by decide +kernel
theorem dL_act_283 : decode cL_act 283 = .ok (.ifCond .eq 8, 3) := by decide +kernel
theorem dL_act_286 : decode cL_act 286 = .ok (.bipush 35, 2) := by decide +kernel
theorem dL_act_288 : decode cL_act 288 = .ok (.goto 5, 3) := by decide +kernel
theorem dL_act_291 : decode cL_act 291 = .ok (.bipush 31, 2) := by decide +kernel
theorem dL_act_293 : decode cL_act 293 = .ok (.invokestatic 37, 3) := by decide +kernel
theorem dL_act_296 : decode cL_act 296 = .ok (.iload_n 2, 1) := by decide +kernel
theorem dL_act_297 : decode cL_act 297 = .ok (.ifCond .eq 8, 3) := by decide +kernel
theorem dL_act_300 : decode cL_act 300 = .ok (.bipush 17, 2) := by decide +kernel
theorem dL_act_302 : decode cL_act 302 = .ok (.goto 5, 3) := by decide +kernel
theorem dL_act_305 : decode cL_act 305 = .ok (.bipush 15, 2) := by decide +kernel
theorem dL_act_307 : decode cL_act 307 = .ok (.isub, 1) := by decide +kernel
theorem dL_act_308 : decode cL_act 308 = .ok (.iload_n 1, 1) := by decide +kernel
theorem dL_act_309 : decode cL_act 309 = .ok (.bipush 9, 2) := by decide +kernel
theorem dL_act_311 : decode cL_act 311 = .ok (.ishr, 1) := by decide +kernel
theorem dL_act_312 : decode cL_act 312 = .ok (.bipush 23, 2) := by decide +kernel
theorem dL_act_314 : decode cL_act 314 = .ok (.invokestatic 37, 3) := by decide +kernel
theorem dL_act_317 : decode cL_act 317 = .ok (.bipush 11, 2) := by decide +kernel
theorem dL_act_319 : decode cL_act 319 = .ok (.isub, 1) := by decide +kernel
theorem dL_act_320 : decode cL_act 320 = .ok (.invokestatic 50, 3) := by decide +kernel
theorem dL_act_323 : decode cL_act 323 = .ok (.ireturn, 1) := by decide +kernel
theorem dL_act_324 : decode cL_act 324 = .ok (.aload_n 0, 1) := by decide +kernel
theorem dL_act_325 : decode cL_act 325 = .ok (.iload 4, 2) := by decide +kernel
theorem dL_act_327 : decode cL_act 327 = .ok (.iload 5, 2) := by decide +kernel
theorem dL_act_329 : decode cL_act 329 = .ok (.iload 6, 2) := by decide +kernel
theorem dL_act_331 : decode cL_act 331 = .ok (.iload 7, 2) := by decide +kernel
theorem dL_act_333 : decode cL_act 333 = .ok (.iload_n 2, 1) := by decide +kernel
theorem dL_act_334 : decode cL_act 334 = .ok (.ifCond .eq 17, 3) := by decide +kernel
theorem dL_act_337 : decode cL_act 337 = .ok (.iload_n 1, 1) := by decide +kernel
theorem dL_act_338 : decode cL_act 338 = .ok (.bipush 20, 2) := by decide +kernel
theorem dL_act_340 : decode cL_act 340 = .ok (.ishr, 1) := by decide +kernel
theorem dL_act_341 : decode cL_act 341 = .ok (.bipush 18, 2) := by decide +kernel
theorem dL_act_343 : decode cL_act 343 = .ok (.invokestatic 37, 3) := by decide +kernel
theorem dL_act_346 : decode cL_act 346 = .ok (.iconst 1, 1) := by decide +kernel
theorem dL_act_347 : decode cL_act 347 = .ok (.isub, 1) := by decide +kernel
theorem dL_act_348 : decode cL_act 348 = .ok (.goto 11, 3) := by decide +kernel
theorem dL_act_351 : decode cL_act 351 = .ok (.iload_n 1, 1) := by decide +kernel
theorem dL_act_352 : decode cL_act 352 = .ok (.bipush 20, 2) := by decide +kernel
theorem dL_act_354 : decode cL_act 354 = .ok (.ishr, 1) := by decide +kernel
theorem dL_act_355 : decode cL_act 355 = .ok (.iconst 5, 1) := by decide +kernel
theorem dL_act_356 : decode cL_act 356 = .ok (.invokestatic 37, 3) := by decide +kernel
theorem dL_act_359 : decode cL_act 359 = .ok (.invokestatic 53, 3) := by decide +kernel
theorem dL_act_362 : decode cL_act 362 = .ok (.ireturn, 1) := by decide +kernel
set_option maxRecDepth 20000 in
theorem ggL_areAlike_X3_units : GoodIn wsL_areAlike wsX3_units := goodIn_r _ [5, 6, 83, 84, 85, 86, 87] (by decide +kernel) (by decide +kernel)
set_option maxRecDepth 20000 in
theorem gL_areAlike_X3_units : GoodIn wsL_areAlike (wsV RL 56 RX3 yX3_units wsX3_units) := goodIn_app (goodIn_of _ (by decide +kernel)) ggL_areAlike_X3_units
set_option maxRecDepth 20000 in
theorem ggL_areAlike_L_unlike : GoodIn wsL_areAlike wsL_unlike := goodIn_ca (goodIn_ca (goodIn_r _ [10, 11, 12, 13, 14, 15, 16, 4, 17, 18, 19, 20, 21, 22, 23, 24, 25, 26, 27, 28, 29, 30, 31, 32, 33, 34, 35, 36, 37, 38, 39, 40, 41, 42, 43, 44, 45, 46, 47, 48, 49, 50, 51, 52, 53, 54, 55, 56, 83, 84, 85, 86, 87, 88, 89, 90, 91, 92, 93, 94, 95, 96, 97] (by decide +kernel) (by decide +kernel)) (goodIn_sub (fun _ h => List.mem_cons_of_mem _ (List.mem_append_left _ (List.mem_append_right _ h))) (by decide +kernel))) (goodIn_sub (fun _ h => List.mem_cons_of_mem _ (List.mem_append_right _ h)) (by decide +kernel))
set_option maxRecDepth 20000 in
theorem gL_areAlike_L_unlike : GoodIn wsL_areAlike (va_wsS RL 60 yL_unlike wsL_unlike) := goodIn_app (goodIn_of _ (by decide +kernel)) ggL_areAlike_L_unlike
set_option maxRecDepth 20000 in
theorem ggL_areAlike_X3_runs : GoodIn wsL_areAlike wsX3_runs := goodIn_ca (goodIn_r _ [60, 19, 20, 21, 4, 22, 23, 24, 25, 26, 27, 44, 45, 46, 47, 48, 49, 61, 62, 63, 53, 54, 55, 56, 83, 84, 85, 86, 87, 97] (by decide +kernel) (by decide +kernel)) (goodIn_sub (fun _ h => List.mem_cons_of_mem _ (List.mem_append_left _ (List.mem_append_right _ h))) (by decide +kernel))
set_option maxRecDepth 20000 in
theorem gL_areAlike_X3_runs : GoodIn wsL_areAlike (wsV RL 62 RX3 yX3_runs wsX3_runs) := goodIn_app (goodIn_of _ (by decide +kernel)) ggL_areAlike_X3_runs
set_option maxRecDepth 20000 in
theorem ggL_areAlike_X3_colours : GoodIn wsL_areAlike wsX3_colours := goodIn_ca (goodIn_r _ [67, 19, 20, 21, 4, 22, 23, 24, 25, 26, 27, 44, 45, 46, 47, 48, 49, 68, 69, 70, 53, 54, 55, 56, 71, 72, 73, 74, 75, 76, 77, 83, 84, 85, 86, 87, 97] (by decide +kernel) (by decide +kernel)) (goodIn_sub (fun _ h => List.mem_cons_of_mem _ (List.mem_append_left _ (List.mem_append_right _ h))) (by decide +kernel))
set_option maxRecDepth 20000 in
theorem gL_areAlike_X3_colours : GoodIn wsL_areAlike (wsV RL 65 RX3 yX3_colours wsX3_colours) := goodIn_app (goodIn_of _ (by decide +kernel)) ggL_areAlike_X3_colours
set_option maxRecDepth 20000 in
theorem ggL_areAlike_X3_written : GoodIn wsL_areAlike wsX3_written := goodIn_ca (goodIn_r _ [81, 82, 20, 21, 4, 22, 23, 24, 25, 26, 27, 83, 84, 85, 86, 87] (by decide +kernel) (by decide +kernel)) (goodIn_sub (fun _ h => List.mem_cons_of_mem _ (List.mem_append_left _ (List.mem_append_right _ h))) (by decide +kernel))
set_option maxRecDepth 20000 in
theorem gL_areAlike_X3_written : GoodIn wsL_areAlike (wsV RL 68 RX3 yX3_written wsX3_written) := goodIn_app (goodIn_of _ (by decide +kernel)) ggL_areAlike_X3_written
theorem dL_areAlike_0 : decode cL_areAlike 0 = .ok (.aload_n 0, 1) := by decide +kernel
theorem dL_areAlike_1 : decode cL_areAlike 1 = .ok (.invokevirtual 56, 3) := by decide +kernel
theorem dL_areAlike_4 : decode cL_areAlike 4 = .ok (.aload_n 1, 1) := by decide +kernel
theorem dL_areAlike_5 : decode cL_areAlike 5 = .ok (.invokevirtual 56, 3) := by decide +kernel
theorem dL_areAlike_8 : decode cL_areAlike 8 = .ok (.if_icmp .ne 33, 3) := by decide +kernel
theorem dL_areAlike_11 : decode cL_areAlike 11 = .ok (.aload_n 0, 1) := by decide +kernel
theorem dL_areAlike_12 : decode cL_areAlike 12 = .ok (.iconst 0, 1) := by decide +kernel
theorem dL_areAlike_13 : decode cL_areAlike 13 = .ok (.invokestatic 60, 3) := by decide +kernel
theorem dL_areAlike_16 : decode cL_areAlike 16 = .ok (.aload_n 1, 1) := by decide +kernel
theorem dL_areAlike_17 : decode cL_areAlike 17 = .ok (.iconst 0, 1) := by decide +kernel
theorem dL_areAlike_18 : decode cL_areAlike 18 = .ok (.invokestatic 60, 3) := by decide +kernel
theorem dL_areAlike_21 : decode cL_areAlike 21 = .ok (.if_icmp .ne 20, 3) := by decide +kernel
theorem dL_areAlike_24 : decode cL_areAlike 24 = .ok (.aload_n 0, 1) := by decide +kernel
theorem dL_areAlike_25 : decode cL_areAlike 25 = .ok (.iconst 1, 1) := by decide +kernel
theorem dL_areAlike_26 : decode cL_areAlike 26 = .ok (.invokestatic 60, 3) := by decide +kernel
theorem dL_areAlike_29 : decode cL_areAlike 29 = .ok (.aload_n 1, 1) := by decide +kernel
theorem dL_areAlike_30 : decode cL_areAlike 30 = .ok (.iconst 1, 1) := by decide +kernel
theorem dL_areAlike_31 : decode cL_areAlike 31 = .ok (.invokestatic 60, 3) := by decide +kernel
theorem dL_areAlike_34 : decode cL_areAlike 34 = .ok (.if_icmp .ne 7, 3) := by decide +kernel
theorem dL_areAlike_37 : decode cL_areAlike 37 = .ok (.iconst 1, 1) := by decide +kernel
theorem dL_areAlike_38 : decode cL_areAlike 38 = .ok (.goto 4, 3) := by decide +kernel
theorem dL_areAlike_41 : decode cL_areAlike 41 = .ok (.iconst 0, 1) := by decide +kernel
theorem dL_areAlike_42 : decode cL_areAlike 42 = .ok (.istore_n 2, 1) := by decide +kernel
theorem dL_areAlike_43 : decode cL_areAlike 43 = .ok (.iconst 0, 1) := by decide +kernel
theorem dL_areAlike_44 : decode cL_areAlike 44 = .ok (.istore_n 3, 1) := by decide +kernel
theorem dL_areAlike_45 : decode cL_areAlike 45 = .ok (.iload_n 3, 1) := by decide +kernel
theorem dL_areAlike_46 : decode cL_areAlike 46 = .ok (.bipush 12, 2) := by decide +kernel
theorem dL_areAlike_48 : decode cL_areAlike 48 = .ok (.if_icmp .ge 45, 3) := by decide +kernel
theorem dL_areAlike_51 : decode cL_areAlike 51 = .ok (.iload_n 2, 1) := by decide +kernel
theorem dL_areAlike_52 : decode cL_areAlike 52 = .ok (.ifCond .eq 41, 3) := by decide +kernel
theorem dL_areAlike_55 : decode cL_areAlike 55 = .ok (.aload_n 0, 1) := by decide +kernel
theorem dL_areAlike_56 : decode cL_areAlike 56 = .ok (.iload_n 3, 1) := by decide +kernel
theorem dL_areAlike_57 : decode cL_areAlike 57 = .ok (.invokevirtual 62, 3) := by decide +kernel
theorem dL_areAlike_60 : decode cL_areAlike 60 = .ok (.aload_n 1, 1) := by decide +kernel
theorem dL_areAlike_61 : decode cL_areAlike 61 = .ok (.iload_n 3, 1) := by decide +kernel
theorem dL_areAlike_62 : decode cL_areAlike 62 = .ok (.invokevirtual 62, 3) := by decide +kernel
theorem dL_areAlike_65 : decode cL_areAlike 65 = .ok (.if_icmp .ne 20, 3) := by decide +kernel
theorem dL_areAlike_68 : decode cL_areAlike 68 = .ok (.aload_n 0, 1) := by decide +kernel
theorem dL_areAlike_69 : decode cL_areAlike 69 = .ok (.iload_n 3, 1) := by decide +kernel
theorem dL_areAlike_70 : decode cL_areAlike 70 = .ok (.invokevirtual 65, 3) := by decide +kernel
theorem dL_areAlike_73 : decode cL_areAlike 73 = .ok (.aload_n 1, 1) := by decide +kernel
theorem dL_areAlike_74 : decode cL_areAlike 74 = .ok (.iload_n 3, 1) := by decide +kernel
theorem dL_areAlike_75 : decode cL_areAlike 75 = .ok (.invokevirtual 65, 3) := by decide +kernel
theorem dL_areAlike_78 : decode cL_areAlike 78 = .ok (.if_icmp .ne 7, 3) := by decide +kernel
theorem dL_areAlike_81 : decode cL_areAlike 81 = .ok (.iconst 1, 1) := by decide +kernel
theorem dL_areAlike_82 : decode cL_areAlike 82 = .ok (.goto 4, 3) := by decide +kernel
theorem dL_areAlike_85 : decode cL_areAlike 85 = .ok (.iconst 0, 1) := by decide +kernel
theorem dL_areAlike_86 : decode cL_areAlike 86 = .ok (.istore_n 2, 1) := by decide +kernel
theorem dL_areAlike_87 : decode cL_areAlike 87 = .ok (.iinc 3 1, 3) := by decide +kernel
theorem dL_areAlike_90 : decode cL_areAlike 90 = .ok (.goto (-45), 3) := by decide +kernel
theorem dL_areAlike_93 : decode cL_areAlike 93 = .ok (.iconst 0, 1) := by decide +kernel
theorem dL_areAlike_94 : decode cL_areAlike 94 = .ok (.istore_n 3, 1) := by decide +kernel
theorem dL_areAlike_95 : decode cL_areAlike 95 = .ok (.iload_n 3, 1) := by decide +kernel
theorem dL_areAlike_96 : decode cL_areAlike 96 = .ok (.iconst 5, 1) := by decide +kernel
theorem dL_areAlike_97 : decode cL_areAlike 97 = .ok (.if_icmp .ge 32, 3) := by decide +kernel
theorem dL_areAlike_100 : decode cL_areAlike 100 = .ok (.iload_n 2, 1) := by decide +kernel
theorem dL_areAlike_101 : decode cL_areAlike 101 = .ok (.ifCond .eq 28, 3) := by decide +kernel
theorem dL_areAlike_104 : decode cL_areAlike 104 = .ok (.aload_n 0, 1) := by decide +kernel
theorem dL_areAlike_105 : decode cL_areAlike 105 = .ok (.iload_n 3, 1) := by decide +kernel
theorem dL_areAlike_106 : decode cL_areAlike 106 = .ok (.invokevirtual 68, 3) := by decide +kernel
theorem dL_areAlike_109 : decode cL_areAlike 109 = .ok (.aload_n 1, 1) := by decide +kernel
theorem dL_areAlike_110 : decode cL_areAlike 110 = .ok (.iload_n 3, 1) := by decide +kernel
theorem dL_areAlike_111 : decode cL_areAlike 111 = .ok (.invokevirtual 68, 3) := by decide +kernel
theorem dL_areAlike_114 : decode cL_areAlike 114 = .ok (.if_icmp .ne 7, 3) := by decide +kernel
theorem dL_areAlike_117 : decode cL_areAlike 117 = .ok (.iconst 1, 1) := by decide +kernel
theorem dL_areAlike_118 : decode cL_areAlike 118 = .ok (.goto 4, 3) := by decide +kernel
theorem dL_areAlike_121 : decode cL_areAlike 121 = .ok (.iconst 0, 1) := by decide +kernel
theorem dL_areAlike_122 : decode cL_areAlike 122 = .ok (.istore_n 2, 1) := by decide +kernel
theorem dL_areAlike_123 : decode cL_areAlike 123 = .ok (.iinc 3 1, 3) := by decide +kernel
theorem dL_areAlike_126 : decode cL_areAlike 126 = .ok (.goto (-31), 3) := by decide +kernel
theorem dL_areAlike_129 : decode cL_areAlike 129 = .ok (.iload_n 2, 1) := by decide +kernel
theorem dL_areAlike_130 : decode cL_areAlike 130 = .ok (.ireturn, 1) := by decide +kernel
set_option maxRecDepth 20000 in
theorem ggL_areTilesSo_X3_dirty : GoodIn wsL_areTilesSo wsX3_dirty := goodIn_ca (goodIn_ca (goodIn_r _ [5, 6, 7, 8, 4, 9, 10, 11, 12, 13, 14, 15, 16, 17, 18, 19, 20, 21, 22, 23, 24, 25, 26, 27, 28, 29, 30, 116, 117, 118, 119, 120, 121, 122, 123, 124, 125, 126, 127, 128, 129] (by decide +kernel) (by decide +kernel)) (goodIn_sub (fun _ h => List.mem_cons_of_mem _ (List.mem_append_left _ (List.mem_append_left _ (List.mem_append_right _ h)))) (by decide +kernel))) (goodIn_sub (fun _ h => List.mem_cons_of_mem _ (List.mem_append_left _ (List.mem_append_right _ h))) (by decide +kernel))
set_option maxRecDepth 20000 in
theorem gL_areTilesSo_X3_dirty : GoodIn wsL_areTilesSo (wsV RL 71 RX3 yX3_dirty wsX3_dirty) := goodIn_app (goodIn_of _ (by decide +kernel)) ggL_areTilesSo_X3_dirty
set_option maxRecDepth 20000 in
theorem ggL_areTilesSo_X3_dirtyAt : GoodIn wsL_areTilesSo wsX3_dirtyAt := goodIn_ca (goodIn_ca (goodIn_ca (goodIn_r _ [34, 35, 36, 6, 7, 8, 4, 9, 10, 11, 12, 13, 14, 15, 16, 17, 18, 19, 20, 21, 22, 23, 24, 25, 26, 27, 28, 29, 30, 37, 38, 39, 40, 41, 116, 117, 118, 119, 120, 121, 122, 123, 124, 125, 126, 127, 128, 129] (by decide +kernel) (by decide +kernel)) (goodIn_sub (fun _ h => List.mem_cons_of_mem _ (List.mem_append_right _ h)) (by decide +kernel))) (goodIn_sub (fun _ h => List.mem_cons_of_mem _ (List.mem_append_left _ (List.mem_append_left _ (List.mem_append_right _ h)))) (by decide +kernel))) (goodIn_sub (fun _ h => List.mem_cons_of_mem _ (List.mem_append_left _ (List.mem_append_right _ h))) (by decide +kernel))
set_option maxRecDepth 20000 in
theorem gL_areTilesSo_X3_dirtyAt : GoodIn wsL_areTilesSo (wsV RL 74 RX3 yX3_dirtyAt wsX3_dirtyAt) := goodIn_app (goodIn_of _ (by decide +kernel)) ggL_areTilesSo_X3_dirtyAt
set_option maxRecDepth 20000 in
theorem ggL_areTilesSo_X3_colours : GoodIn wsL_areTilesSo wsX3_colours := goodIn_ca (goodIn_r _ [45, 46, 7, 8, 4, 9, 10, 11, 12, 13, 14, 47, 48, 49, 50, 51, 52, 53, 54, 55, 56, 57, 58, 59, 60, 61, 62, 63, 64, 65, 66, 116, 117, 118, 119, 120, 130] (by decide +kernel) (by decide +kernel)) (goodIn_sub (fun _ h => List.mem_cons_of_mem _ (List.mem_append_left _ (List.mem_append_left _ (List.mem_append_right _ h)))) (by decide +kernel))
set_option maxRecDepth 20000 in
theorem gL_areTilesSo_X3_colours : GoodIn wsL_areTilesSo (wsV RL 65 RX3 yX3_colours wsX3_colours) := goodIn_app (goodIn_of _ (by decide +kernel)) ggL_areTilesSo_X3_colours
set_option maxRecDepth 20000 in
theorem ggL_areTilesSo_X3_runs : GoodIn wsL_areTilesSo wsX3_runs := goodIn_ca (goodIn_r _ [70, 46, 7, 8, 4, 9, 10, 11, 12, 13, 14, 47, 48, 49, 50, 51, 52, 71, 72, 73, 56, 57, 58, 59, 116, 117, 118, 119, 120, 130] (by decide +kernel) (by decide +kernel)) (goodIn_sub (fun _ h => List.mem_cons_of_mem _ (List.mem_append_left _ (List.mem_append_left _ (List.mem_append_right _ h)))) (by decide +kernel))
set_option maxRecDepth 20000 in
theorem gL_areTilesSo_X3_runs : GoodIn wsL_areTilesSo (wsV RL 62 RX3 yX3_runs wsX3_runs) := goodIn_app (goodIn_of _ (by decide +kernel)) ggL_areTilesSo_X3_runs
set_option maxRecDepth 20000 in
theorem ggL_areTilesSo_X3_way : GoodIn wsL_areTilesSo wsX3_way := goodIn_ca (goodIn_ca (goodIn_r _ [77, 6, 46, 7, 8, 4, 9, 10, 11, 12, 13, 14, 15, 16, 17, 18, 19, 20, 21, 22, 23, 24, 25, 47, 48, 49, 50, 51, 52, 78, 79, 80, 81, 82, 83, 84, 85, 86, 87, 88, 89, 90, 91, 92, 93, 94, 95, 96, 97, 98, 99, 53, 54, 55, 56, 57, 58, 59, 60, 61, 62, 63, 64, 65, 66, 100, 101, 102, 71, 72, 73, 116, 117, 118, 119, 120, 121, 122, 123, 124, 125, 126, 127, 128, 129, 130, 131, 132] (by decide +kernel) (by decide +kernel)) (goodIn_sub (fun _ h => List.mem_cons_of_mem _ (List.mem_append_left _ (List.mem_append_left _ (List.mem_append_right _ h)))) (by decide +kernel))) (goodIn_sub (fun _ h => List.mem_cons_of_mem _ (List.mem_append_left _ (List.mem_append_right _ h))) (by decide +kernel))
set_option maxRecDepth 20000 in
theorem gL_areTilesSo_X3_way : GoodIn wsL_areTilesSo (wsV RL 77 RX3 yX3_way wsX3_way) := goodIn_app (goodIn_of _ (by decide +kernel)) ggL_areTilesSo_X3_way
set_option maxRecDepth 20000 in
theorem ggL_areTilesSo_X3_cached : GoodIn wsL_areTilesSo wsX3_cached := goodIn_ca (goodIn_ca (goodIn_r _ [106, 6, 7, 8, 4, 9, 10, 11, 12, 13, 14, 15, 16, 17, 18, 19, 20, 21, 22, 23, 24, 25, 107, 108, 109, 110, 111, 112, 113, 114, 92, 115, 94, 116, 117, 118, 119, 120, 121, 122, 123, 124, 125, 126, 127, 128, 129, 131, 132] (by decide +kernel) (by decide +kernel)) (goodIn_sub (fun _ h => List.mem_cons_of_mem _ (List.mem_append_left _ (List.mem_append_left _ (List.mem_append_right _ h)))) (by decide +kernel))) (goodIn_sub (fun _ h => List.mem_cons_of_mem _ (List.mem_append_left _ (List.mem_append_right _ h))) (by decide +kernel))
set_option maxRecDepth 20000 in
theorem gL_areTilesSo_X3_cached : GoodIn wsL_areTilesSo (wsV RL 80 RX3 yX3_cached wsX3_cached) := goodIn_app (goodIn_of _ (by decide +kernel)) ggL_areTilesSo_X3_cached
theorem dL_areTilesSo_0 : decode cL_areTilesSo 0 = .ok (.iconst 0, 1) := by decide +kernel
theorem dL_areTilesSo_1 : decode cL_areTilesSo 1 = .ok (.istore_n 2, 1) := by decide +kernel
theorem dL_areTilesSo_2 : decode cL_areTilesSo 2 = .ok (.iconst 0, 1) := by decide +kernel
theorem dL_areTilesSo_3 : decode cL_areTilesSo 3 = .ok (.istore_n 3, 1) := by decide +kernel
theorem dL_areTilesSo_4 : decode cL_areTilesSo 4 = .ok (.iload_n 3, 1) := by decide +kernel
theorem dL_areTilesSo_5 : decode cL_areTilesSo 5 = .ok (.aload_n 0, 1) := by decide +kernel
theorem dL_areTilesSo_6 : decode cL_areTilesSo 6 = .ok (.iload_n 1, 1) := by decide +kernel
theorem dL_areTilesSo_7 : decode cL_areTilesSo 7 = .ok (.invokevirtual 71, 3) := by decide +kernel
theorem dL_areTilesSo_10 : decode cL_areTilesSo 10 = .ok (.if_icmp .ge 48, 3) := by decide +kernel
theorem dL_areTilesSo_13 : decode cL_areTilesSo 13 = .ok (.aload_n 0, 1) := by decide +kernel
theorem dL_areTilesSo_14 : decode cL_areTilesSo 14 = .ok (.iload_n 1, 1) := by decide +kernel
theorem dL_areTilesSo_15 : decode cL_areTilesSo 15 = .ok (.iload_n 3, 1) := by decide +kernel
theorem dL_areTilesSo_16 : decode cL_areTilesSo 16 = .ok (.invokevirtual 74, 3) := by decide +kernel
theorem dL_areTilesSo_19 : decode cL_areTilesSo 19 = .ok (.istore 4, 2) := by decide +kernel
theorem dL_areTilesSo_21 : decode cL_areTilesSo 21 = .ok (.iload 4, 2) := by decide +kernel
theorem dL_areTilesSo_23 : decode cL_areTilesSo 23 = .ok (.ifCond .lt 20, 3) := by decide +kernel
theorem dL_areTilesSo_26 : decode cL_areTilesSo 26 = .ok (.iload 4, 2) := by decide +kernel
theorem dL_areTilesSo_28 : decode cL_areTilesSo 28 = .ok (.bipush 11, 2) := by decide +kernel
theorem dL_areTilesSo_30 : decode cL_areTilesSo 30 = .ok (.if_icmp .gt 13, 3) := by decide +kernel
theorem dL_areTilesSo_33 : decode cL_areTilesSo 33 = .ok (.iload_n 2, 1) := by decide +kernel
theorem dL_areTilesSo_34 : decode cL_areTilesSo 34 = .ok (.iload 4, 2) := by decide +kernel
theorem dL_areTilesSo_36 : decode cL_areTilesSo 36 = .ok (.ishr, 1) := by decide +kernel
theorem dL_areTilesSo_37 : decode cL_areTilesSo 37 = .ok (.iconst 1, 1) := by decide +kernel
theorem dL_areTilesSo_38 : decode cL_areTilesSo 38 = .ok (.iand, 1) := by decide +kernel
theorem dL_areTilesSo_39 : decode cL_areTilesSo 39 = .ok (.iconst 1, 1) := by decide +kernel
theorem dL_areTilesSo_40 : decode cL_areTilesSo 40 = .ok (.if_icmp .ne 5, 3) := by decide +kernel
theorem dL_areTilesSo_43 : decode cL_areTilesSo 43 = .ok (.iconst 0, 1) := by decide +kernel
theorem dL_areTilesSo_44 : decode cL_areTilesSo 44 = .ok (.ireturn, 1) := by decide +kernel
theorem dL_areTilesSo_45 : decode cL_areTilesSo 45 = .ok (.iload_n 2, 1) := by decide +kernel
theorem dL_areTilesSo_46 : decode cL_areTilesSo 46 = .ok (.iconst 1, 1) := by decide +kernel
theorem dL_areTilesSo_47 : decode cL_areTilesSo 47 = .ok (.iload 4, 2) := by decide +kernel
theorem dL_areTilesSo_49 : decode cL_areTilesSo 49 = .ok (.ishl, 1) := by decide +kernel
theorem dL_areTilesSo_50 : decode cL_areTilesSo 50 = .ok (.ior, 1) := by decide +kernel
theorem dL_areTilesSo_51 : decode cL_areTilesSo 51 = .ok (.istore_n 2, 1) := by decide +kernel
theorem dL_areTilesSo_52 : decode cL_areTilesSo 52 = .ok (.iinc 3 1, 3) := by decide +kernel
theorem dL_areTilesSo_55 : decode cL_areTilesSo 55 = .ok (.goto (-51), 3) := by decide +kernel
theorem dL_areTilesSo_58 : decode cL_areTilesSo 58 = .ok (.iconst 0, 1) := by decide +kernel
theorem dL_areTilesSo_59 : decode cL_areTilesSo 59 = .ok (.istore_n 3, 1) := by decide +kernel
theorem dL_areTilesSo_60 : decode cL_areTilesSo 60 = .ok (.iload_n 3, 1) := by decide +kernel
theorem dL_areTilesSo_61 : decode cL_areTilesSo 61 = .ok (.bipush 12, 2) := by decide +kernel
theorem dL_areTilesSo_63 : decode cL_areTilesSo 63 = .ok (.if_icmp .ge 208, 3) := by decide +kernel
theorem dL_areTilesSo_66 : decode cL_areTilesSo 66 = .ok (.aload_n 0, 1) := by decide +kernel
theorem dL_areTilesSo_67 : decode cL_areTilesSo 67 = .ok (.iload_n 3, 1) := by decide +kernel
theorem dL_areTilesSo_68 : decode cL_areTilesSo 68 = .ok (.invokevirtual 65, 3) := by decide +kernel
theorem dL_areTilesSo_71 : decode cL_areTilesSo 71 = .ok (.istore 4, 2) := by decide +kernel
theorem dL_areTilesSo_73 : decode cL_areTilesSo 73 = .ok (.aload_n 0, 1) := by decide +kernel
theorem dL_areTilesSo_74 : decode cL_areTilesSo 74 = .ok (.iload_n 3, 1) := by decide +kernel
theorem dL_areTilesSo_75 : decode cL_areTilesSo 75 = .ok (.invokevirtual 62, 3) := by decide +kernel
theorem dL_areTilesSo_78 : decode cL_areTilesSo 78 = .ok (.istore 5, 2) := by decide +kernel
theorem dL_areTilesSo_80 : decode cL_areTilesSo 80 = .ok (.aload_n 0, 1) := by decide +kernel
theorem dL_areTilesSo_81 : decode cL_areTilesSo 81 = .ok (.iload_n 1, 1) := by decide +kernel
theorem dL_areTilesSo_82 : decode cL_areTilesSo 82 = .ok (.iload_n 3, 1) := by decide +kernel
theorem dL_areTilesSo_83 : decode cL_areTilesSo 83 = .ok (.invokevirtual 77, 3) := by decide +kernel
theorem dL_areTilesSo_86 : decode cL_areTilesSo 86 = .ok (.istore 6, 2) := by decide +kernel
theorem dL_areTilesSo_88 : decode cL_areTilesSo 88 = .ok (.iload 6, 2) := by decide +kernel
theorem dL_areTilesSo_90 : decode cL_areTilesSo 90 = .ok (.bipush 100, 2) := by decide +kernel
theorem dL_areTilesSo_92 : decode cL_areTilesSo 92 = .ok (.irem, 1) := by decide +kernel
theorem dL_areTilesSo_93 : decode cL_areTilesSo 93 = .ok (.istore 7, 2) := by decide +kernel
theorem dL_areTilesSo_95 : decode cL_areTilesSo 95 = .ok (.iconst 1, 1) := by decide +kernel
theorem dL_areTilesSo_96 : decode cL_areTilesSo 96 = .ok (.iconst 2, 1) := by decide +kernel
theorem dL_areTilesSo_97 : decode cL_areTilesSo 97 = .ok (.iload 5, 2) := by decide +kernel
theorem dL_areTilesSo_99 : decode cL_areTilesSo 99 = .ok (.imul, 1) := by decide +kernel
theorem dL_areTilesSo_100 : decode cL_areTilesSo 100 = .ok (.iadd, 1) := by decide +kernel
theorem dL_areTilesSo_101 : decode cL_areTilesSo 101 = .ok (.bipush 17, 2) := by decide +kernel
theorem dL_areTilesSo_103 : decode cL_areTilesSo 103 = .ok (.if_icmp .ge 12, 3) := by decide +kernel
theorem dL_areTilesSo_106 : decode cL_areTilesSo 106 = .ok (.iconst 1, 1) := by decide +kernel
theorem dL_areTilesSo_107 : decode cL_areTilesSo 107 = .ok (.iconst 2, 1) := by decide +kernel
theorem dL_areTilesSo_108 : decode cL_areTilesSo 108 = .ok (.iload 5, 2) := by decide +kernel
theorem dL_areTilesSo_110 : decode cL_areTilesSo 110 = .ok (.imul, 1) := by decide +kernel
theorem dL_areTilesSo_111 : decode cL_areTilesSo 111 = .ok (.iadd, 1) := by decide +kernel
theorem dL_areTilesSo_112 : decode cL_areTilesSo 112 = .ok (.goto 5, 3) := by decide +kernel
theorem dL_areTilesSo_115 : decode cL_areTilesSo 115 = .ok (.bipush 17, 2) := by decide +kernel
theorem dL_areTilesSo_117 : decode cL_areTilesSo 117 = .ok (.istore 8, 2) := by decide +kernel
theorem dL_areTilesSo_119 : decode cL_areTilesSo 119 = .ok (.iload 4, 2) := by decide +kernel
theorem dL_areTilesSo_121 : decode cL_areTilesSo 121 = .ok (.iconst 1, 1) := by decide +kernel
theorem dL_areTilesSo_122 : decode cL_areTilesSo 122 = .ok (.if_icmp .ne 7, 3) := by decide +kernel
theorem dL_areTilesSo_125 : decode cL_areTilesSo 125 = .ok (.iconst 3, 1) := by decide +kernel
theorem dL_areTilesSo_126 : decode cL_areTilesSo 126 = .ok (.goto 38, 3) := by decide +kernel
theorem dL_areTilesSo_129 : decode cL_areTilesSo 129 = .ok (.iload 4, 2) := by decide +kernel
theorem dL_areTilesSo_131 : decode cL_areTilesSo 131 = .ok (.iconst 2, 1) := by decide +kernel
theorem dL_areTilesSo_132 : decode cL_areTilesSo 132 = .ok (.if_icmp .ne 8, 3) := by decide +kernel
theorem dL_areTilesSo_135 : decode cL_areTilesSo 135 = .ok (.bipush 10, 2) := by decide +kernel
theorem dL_areTilesSo_137 : decode cL_areTilesSo 137 = .ok (.goto 27, 3) := by decide +kernel
theorem dL_areTilesSo_140 : decode cL_areTilesSo 140 = .ok (.iload 4, 2) := by decide +kernel
theorem dL_areTilesSo_142 : decode cL_areTilesSo 142 = .ok (.iconst 3, 1) := by decide +kernel
theorem dL_areTilesSo_143 : decode cL_areTilesSo 143 = .ok (.if_icmp .ne 8, 3) := by decide +kernel
theorem dL_areTilesSo_146 : decode cL_areTilesSo 146 = .ok (.bipush 15, 2) := by decide +kernel
theorem dL_areTilesSo_148 : decode cL_areTilesSo 148 = .ok (.goto 16, 3) := by decide +kernel
theorem dL_areTilesSo_151 : decode cL_areTilesSo 151 = .ok (.iload 4, 2) := by decide +kernel
theorem dL_areTilesSo_153 : decode cL_areTilesSo 153 = .ok (.iconst 4, 1) := by decide +kernel
theorem dL_areTilesSo_154 : decode cL_areTilesSo 154 = .ok (.if_icmp .ne 8, 3) := by decide +kernel
theorem dL_areTilesSo_157 : decode cL_areTilesSo 157 = .ok (.bipush 16, 2) := by decide +kernel
theorem dL_areTilesSo_159 : decode cL_areTilesSo 159 = .ok (.goto 5, 3) := by decide +kernel
theorem dL_areTilesSo_162 : decode cL_areTilesSo 162 = .ok (.bipush 17, 2) := by decide +kernel
theorem dL_areTilesSo_164 : decode cL_areTilesSo 164 = .ok (.istore 9, 2) := by decide +kernel
theorem dL_areTilesSo_166 : decode cL_areTilesSo 166 = .ok (.iload 8, 2) := by decide +kernel
theorem dL_areTilesSo_168 : decode cL_areTilesSo 168 = .ok (.iload 9, 2) := by decide +kernel
theorem dL_areTilesSo_170 : decode cL_areTilesSo 170 = .ok (.if_icmp .ge 8, 3) := by decide +kernel
theorem dL_areTilesSo_173 : decode cL_areTilesSo 173 = .ok (.iload 8, 2) := by decide +kernel
theorem dL_areTilesSo_175 : decode cL_areTilesSo 175 = .ok (.goto 5, 3) := by decide +kernel
theorem dL_areTilesSo_178 : decode cL_areTilesSo 178 = .ok (.iload 9, 2) := by decide +kernel
theorem dL_areTilesSo_180 : decode cL_areTilesSo 180 = .ok (.istore 10, 2) := by decide +kernel
theorem dL_areTilesSo_182 : decode cL_areTilesSo 182 = .ok (.iload 5, 2) := by decide +kernel
theorem dL_areTilesSo_184 : decode cL_areTilesSo 184 = .ok (.iload 4, 2) := by decide +kernel
theorem dL_areTilesSo_186 : decode cL_areTilesSo 186 = .ok (.if_icmp .lt 77, 3) := by decide +kernel
theorem dL_areTilesSo_189 : decode cL_areTilesSo 189 = .ok (.iload 5, 2) := by decide +kernel
theorem dL_areTilesSo_191 : decode cL_areTilesSo 191 = .ok (.bipush 16, 2) := by decide +kernel
theorem dL_areTilesSo_193 : decode cL_areTilesSo 193 = .ok (.if_icmp .gt 70, 3) := by decide +kernel
theorem dL_areTilesSo_196 : decode cL_areTilesSo 196 = .ok (.iload 6, 2) := by decide +kernel
theorem dL_areTilesSo_198 : decode cL_areTilesSo 198 = .ok (.bipush 100, 2) := by decide +kernel
theorem dL_areTilesSo_200 : decode cL_areTilesSo 200 = .ok (.if_icmp .ge 12, 3) := by decide +kernel
theorem dL_areTilesSo_203 : decode cL_areTilesSo 203 = .ok (.iload 6, 2) := by decide +kernel
theorem dL_areTilesSo_205 : decode cL_areTilesSo 205 = .ok (.iconst 2, 1) := by decide +kernel
theorem dL_areTilesSo_206 : decode cL_areTilesSo 206 = .ok (.if_icmp .eq 13, 3) := by decide +kernel
theorem dL_areTilesSo_209 : decode cL_areTilesSo 209 = .ok (.goto 54, 3) := by decide +kernel
theorem dL_areTilesSo_212 : decode cL_areTilesSo 212 = .ok (.iload 7, 2) := by decide +kernel
theorem dL_areTilesSo_214 : decode cL_areTilesSo 214 = .ok (.iload 10, 2) := by decide +kernel
theorem dL_areTilesSo_216 : decode cL_areTilesSo 216 = .ok (.if_icmp .ne 47, 3) := by decide +kernel
theorem dL_areTilesSo_219 : decode cL_areTilesSo 219 = .ok (.iload 6, 2) := by decide +kernel
theorem dL_areTilesSo_221 : decode cL_areTilesSo 221 = .ok (.bipush 100, 2) := by decide +kernel
theorem dL_areTilesSo_223 : decode cL_areTilesSo 223 = .ok (.idiv, 1) := by decide +kernel
theorem dL_areTilesSo_224 : decode cL_areTilesSo 224 = .ok (.iconst 1, 1) := by decide +kernel
theorem dL_areTilesSo_225 : decode cL_areTilesSo 225 = .ok (.if_icmp .ne 9, 3) := by decide +kernel
theorem dL_areTilesSo_228 : decode cL_areTilesSo 228 = .ok (.iload 4, 2) := by decide +kernel
theorem dL_areTilesSo_230 : decode cL_areTilesSo 230 = .ok (.iconst 1, 1) := by decide +kernel
theorem dL_areTilesSo_231 : decode cL_areTilesSo 231 = .ok (.if_icmp .ne 32, 3) := by decide +kernel
theorem dL_areTilesSo_234 : decode cL_areTilesSo 234 = .ok (.iload 6, 2) := by decide +kernel
theorem dL_areTilesSo_236 : decode cL_areTilesSo 236 = .ok (.bipush 100, 2) := by decide +kernel
theorem dL_areTilesSo_238 : decode cL_areTilesSo 238 = .ok (.idiv, 1) := by decide +kernel
theorem dL_areTilesSo_239 : decode cL_areTilesSo 239 = .ok (.iconst 3, 1) := by decide +kernel
theorem dL_areTilesSo_240 : decode cL_areTilesSo 240 = .ok (.if_icmp .ne 14, 3) := by decide +kernel
theorem dL_areTilesSo_243 : decode cL_areTilesSo 243 = .ok (.iload 7, 2) := by decide +kernel
theorem dL_areTilesSo_245 : decode cL_areTilesSo 245 = .ok (.iconst 1, 1) := by decide +kernel
theorem dL_areTilesSo_246 : decode cL_areTilesSo 246 = .ok (.iconst 2, 1) := by decide +kernel
theorem dL_areTilesSo_247 : decode cL_areTilesSo 247 = .ok (.iload 5, 2) := by decide +kernel
theorem dL_areTilesSo_249 : decode cL_areTilesSo 249 = .ok (.imul, 1) := by decide +kernel
theorem dL_areTilesSo_250 : decode cL_areTilesSo 250 = .ok (.iadd, 1) := by decide +kernel
theorem dL_areTilesSo_251 : decode cL_areTilesSo 251 = .ok (.if_icmp .ne 12, 3) := by decide +kernel
theorem dL_areTilesSo_254 : decode cL_areTilesSo 254 = .ok (.iload 6, 2) := by decide +kernel
theorem dL_areTilesSo_256 : decode cL_areTilesSo 256 = .ok (.bipush 100, 2) := by decide +kernel
theorem dL_areTilesSo_258 : decode cL_areTilesSo 258 = .ok (.idiv, 1) := by decide +kernel
theorem dL_areTilesSo_259 : decode cL_areTilesSo 259 = .ok (.iconst 4, 1) := by decide +kernel
theorem dL_areTilesSo_260 : decode cL_areTilesSo 260 = .ok (.if_icmp .le 5, 3) := by decide +kernel
theorem dL_areTilesSo_263 : decode cL_areTilesSo 263 = .ok (.iconst 0, 1) := by decide +kernel
theorem dL_areTilesSo_264 : decode cL_areTilesSo 264 = .ok (.ireturn, 1) := by decide +kernel
theorem dL_areTilesSo_265 : decode cL_areTilesSo 265 = .ok (.iinc 3 1, 3) := by decide +kernel
theorem dL_areTilesSo_268 : decode cL_areTilesSo 268 = .ok (.goto (-208), 3) := by decide +kernel
theorem dL_areTilesSo_271 : decode cL_areTilesSo 271 = .ok (.aload_n 0, 1) := by decide +kernel
theorem dL_areTilesSo_272 : decode cL_areTilesSo 272 = .ok (.iload_n 1, 1) := by decide +kernel
theorem dL_areTilesSo_273 : decode cL_areTilesSo 273 = .ok (.invokevirtual 80, 3) := by decide +kernel
theorem dL_areTilesSo_276 : decode cL_areTilesSo 276 = .ok (.ifCond .lt 17, 3) := by decide +kernel
theorem dL_areTilesSo_279 : decode cL_areTilesSo 279 = .ok (.aload_n 0, 1) := by decide +kernel
theorem dL_areTilesSo_280 : decode cL_areTilesSo 280 = .ok (.iload_n 1, 1) := by decide +kernel
theorem dL_areTilesSo_281 : decode cL_areTilesSo 281 = .ok (.invokevirtual 80, 3) := by decide +kernel
theorem dL_areTilesSo_284 : decode cL_areTilesSo 284 = .ok (.bipush 6, 2) := by decide +kernel
theorem dL_areTilesSo_286 : decode cL_areTilesSo 286 = .ok (.if_icmp .gt 7, 3) := by decide +kernel
theorem dL_areTilesSo_289 : decode cL_areTilesSo 289 = .ok (.iconst 1, 1) := by decide +kernel
theorem dL_areTilesSo_290 : decode cL_areTilesSo 290 = .ok (.goto 4, 3) := by decide +kernel
theorem dL_areTilesSo_293 : decode cL_areTilesSo 293 = .ok (.iconst 0, 1) := by decide +kernel
theorem dL_areTilesSo_294 : decode cL_areTilesSo 294 = .ok (.ireturn, 1) := by decide +kernel
set_option maxRecDepth 20000 in
theorem ggL_isShownSo_L_answer : GoodIn wsL_isShownSo wsL_answer := goodIn_ca (goodIn_ca (goodIn_r _ [5, 6, 7, 1, 8, 9, 10, 11, 12, 13, 14, 15, 16, 17, 18, 19, 20, 21, 22, 23, 24, 25, 26, 27, 28, 29, 30, 31, 32, 33, 34, 35, 36, 37, 38, 39, 40, 41, 42, 43, 44, 45, 46, 47, 48, 49, 50, 51, 52, 53, 54, 55, 56, 57, 58, 59, 60, 61, 62, 63, 64, 65, 66, 173, 174, 175, 176, 177, 178, 179, 180, 181, 182, 183, 184, 185, 186, 187, 188, 189] (by decide +kernel) (by decide +kernel)) (goodIn_sub (fun _ h => List.mem_cons_of_mem _ (List.mem_append_left _ (List.mem_append_right _ h))) (by decide +kernel))) (goodIn_sub (fun _ h => List.mem_cons_of_mem _ (List.mem_append_right _ h)) (by decide +kernel))
set_option maxRecDepth 20000 in
theorem gL_isShownSo_L_answer : GoodIn wsL_isShownSo (va_wsS RL 45 yL_answer wsL_answer) := goodIn_app (goodIn_of _ (by decide +kernel)) ggL_isShownSo_L_answer
set_option maxRecDepth 20000 in
theorem ggL_isShownSo_X3_isAlike : GoodIn wsL_isShownSo wsX3_isAlike := goodIn_ca (goodIn_ca (goodIn_r _ [70, 13, 14, 15, 11, 16, 17, 18, 19, 20, 21, 22, 23, 24, 25, 26, 27, 28, 29, 30, 31, 32, 71, 72, 73, 74, 75, 76, 77, 78, 79, 45, 80, 81, 82, 55, 83, 57, 62, 173, 174, 175, 176, 177, 178, 179, 180, 181, 182, 183, 184, 185, 186, 188, 189] (by decide +kernel) (by decide +kernel)) (goodIn_sub (fun _ h => List.mem_cons_of_mem _ (List.mem_append_left _ (List.mem_append_right _ h))) (by decide +kernel))) (goodIn_sub (fun _ h => List.mem_cons_of_mem _ (List.mem_append_right _ h)) (by decide +kernel))
set_option maxRecDepth 20000 in
theorem gL_isShownSo_X3_isAlike : GoodIn wsL_isShownSo (wsV RL 83 RX3 yX3_isAlike wsX3_isAlike) := goodIn_app (goodIn_of _ (by decide +kernel)) ggL_isShownSo_X3_isAlike
set_option maxRecDepth 20000 in
theorem ggL_isShownSo_X3_dirty : GoodIn wsL_isShownSo wsX3_dirty := goodIn_ca (goodIn_ca (goodIn_r _ [87, 13, 14, 15, 11, 16, 17, 18, 19, 20, 21, 22, 23, 24, 25, 26, 27, 28, 29, 30, 31, 32, 88, 89, 90, 91, 92, 173, 174, 175, 176, 177, 178, 179, 180, 181, 182, 183, 184, 185, 186] (by decide +kernel) (by decide +kernel)) (goodIn_sub (fun _ h => List.mem_cons_of_mem _ (List.mem_append_left _ (List.mem_append_right _ h))) (by decide +kernel))) (goodIn_sub (fun _ h => List.mem_cons_of_mem _ (List.mem_append_right _ h)) (by decide +kernel))
set_option maxRecDepth 20000 in
theorem gL_isShownSo_X3_dirty : GoodIn wsL_isShownSo (wsV RL 71 RX3 yX3_dirty wsX3_dirty) := goodIn_app (goodIn_of _ (by decide +kernel)) ggL_isShownSo_X3_dirty
set_option maxRecDepth 20000 in
theorem ggL_isShownSo_X3_units : GoodIn wsL_isShownSo wsX3_units := goodIn_r _ [96, 97, 173, 174, 175, 176, 177] (by decide +kernel) (by decide +kernel)
set_option maxRecDepth 20000 in
theorem gL_isShownSo_X3_units : GoodIn wsL_isShownSo (wsV RL 56 RX3 yX3_units wsX3_units) := goodIn_app (goodIn_of _ (by decide +kernel)) ggL_isShownSo_X3_units
set_option maxRecDepth 20000 in
theorem ggL_isShownSo_X3_ask : GoodIn wsL_isShownSo wsX3_ask := goodIn_ca (goodIn_ca (goodIn_r _ [101, 13, 14, 15, 11, 16, 17, 18, 19, 20, 21, 102, 103, 104, 22, 23, 24, 25, 26, 27, 28, 29, 30, 31, 32, 33, 34, 35, 36, 37, 105, 106, 107, 108, 109, 110, 97, 88, 89, 90, 91, 92, 111, 112, 113, 114, 115, 116, 117, 118, 49, 119, 51, 71, 72, 73, 74, 75, 120, 121, 122, 123, 124, 125, 126, 127, 128, 55, 129, 57, 63, 64, 65, 66, 62, 130, 131, 132, 133, 134, 135, 136, 137, 138, 139, 140, 141, 142, 143, 144, 145, 146, 147, 148, 149, 150, 151, 152, 153, 43, 44, 52, 53, 54, 56, 58, 59, 60, 61, 154, 155, 156, 157, 158, 159, 160, 161, 173, 174, 175, 176, 177, 178, 179, 180, 181, 182, 183, 184, 185, 186, 187, 188, 189] (by decide +kernel) (by decide +kernel)) (goodIn_sub (fun _ h => List.mem_cons_of_mem _ (List.mem_append_left _ (List.mem_append_right _ h))) (by decide +kernel))) (goodIn_sub (fun _ h => List.mem_cons_of_mem _ (List.mem_append_right _ h)) (by decide +kernel))
set_option maxRecDepth 20000 in
theorem gL_isShownSo_X3_ask : GoodIn wsL_isShownSo (wsV RL 25 RX3 yX3_ask wsX3_ask) := goodIn_app (goodIn_of _ (by decide +kernel)) ggL_isShownSo_X3_ask
set_option maxRecDepth 20000 in
theorem ggL_isShownSo_X3_unlike : GoodIn wsL_isShownSo wsX3_unlike := goodIn_ca (goodIn_ca (goodIn_r _ [165, 13, 109, 14, 15, 11, 16, 17, 18, 19, 20, 21, 22, 23, 24, 25, 26, 27, 28, 29, 30, 31, 32, 166, 167, 168, 169, 42, 116, 117, 118, 49, 119, 51, 170, 171, 172, 133, 134, 135, 136, 173, 174, 175, 176, 177, 178, 179, 180, 181, 182, 183, 184, 185, 186, 187] (by decide +kernel) (by decide +kernel)) (goodIn_sub (fun _ h => List.mem_cons_of_mem _ (List.mem_append_left _ (List.mem_append_right _ h))) (by decide +kernel))) (goodIn_sub (fun _ h => List.mem_cons_of_mem _ (List.mem_append_right _ h)) (by decide +kernel))
set_option maxRecDepth 20000 in
theorem gL_isShownSo_X3_unlike : GoodIn wsL_isShownSo (wsV RL 34 RX3 yX3_unlike wsX3_unlike) := goodIn_app (goodIn_of _ (by decide +kernel)) ggL_isShownSo_X3_unlike
theorem dL_isShownSo_0 : decode cL_isShownSo 0 = .ok (.aload_n 0, 1) := by decide +kernel
theorem dL_isShownSo_1 : decode cL_isShownSo 1 = .ok (.iload_n 1, 1) := by decide +kernel
theorem dL_isShownSo_2 : decode cL_isShownSo 2 = .ok (.invokestatic 45, 3) := by decide +kernel
theorem dL_isShownSo_5 : decode cL_isShownSo 5 = .ok (.istore_n 2, 1) := by decide +kernel
theorem dL_isShownSo_6 : decode cL_isShownSo 6 = .ok (.iload_n 2, 1) := by decide +kernel
theorem dL_isShownSo_7 : decode cL_isShownSo 7 = .ok (.ifCond .eq 11, 3) := by decide +kernel
theorem dL_isShownSo_10 : decode cL_isShownSo 10 = .ok (.aload_n 0, 1) := by decide +kernel
theorem dL_isShownSo_11 : decode cL_isShownSo 11 = .ok (.iload_n 1, 1) := by decide +kernel
theorem dL_isShownSo_12 : decode cL_isShownSo 12 = .ok (.invokevirtual 83, 3) := by decide +kernel
theorem dL_isShownSo_15 : decode cL_isShownSo 15 = .ok (.ifCond .ne 5, 3) := by decide +kernel
theorem dL_isShownSo_18 : decode cL_isShownSo 18 = .ok (.iconst 0, 1) := by decide +kernel
theorem dL_isShownSo_19 : decode cL_isShownSo 19 = .ok (.ireturn, 1) := by decide +kernel
theorem dL_isShownSo_20 : decode cL_isShownSo 20 = .ok (.aload_n 0, 1) := by decide +kernel
theorem dL_isShownSo_21 : decode cL_isShownSo 21 = .ok (.iload_n 1, 1) := by decide +kernel
theorem dL_isShownSo_22 : decode cL_isShownSo 22 = .ok (.invokevirtual 71, 3) := by decide +kernel
theorem dL_isShownSo_25 : decode cL_isShownSo 25 = .ok (.istore_n 3, 1) := by decide +kernel
theorem dL_isShownSo_26 : decode cL_isShownSo 26 = .ok (.aload_n 0, 1) := by decide +kernel
theorem dL_isShownSo_27 : decode cL_isShownSo 27 = .ok (.invokevirtual 56, 3) := by decide +kernel
theorem dL_isShownSo_30 : decode cL_isShownSo 30 = .ok (.istore 4, 2) := by decide +kernel
theorem dL_isShownSo_32 : decode cL_isShownSo 32 = .ok (.aload_n 0, 1) := by decide +kernel
theorem dL_isShownSo_33 : decode cL_isShownSo 33 = .ok (.iload_n 1, 1) := by decide +kernel
theorem dL_isShownSo_34 : decode cL_isShownSo 34 = .ok (.sipush 300, 3) := by decide +kernel
theorem dL_isShownSo_37 : decode cL_isShownSo 37 = .ok (.invokevirtual 25, 3) := by decide +kernel
theorem dL_isShownSo_40 : decode cL_isShownSo 40 = .ok (.istore 5, 2) := by decide +kernel
theorem dL_isShownSo_42 : decode cL_isShownSo 42 = .ok (.iload 5, 2) := by decide +kernel
theorem dL_isShownSo_44 : decode cL_isShownSo 44 = .ok (.iload_n 3, 1) := by decide +kernel
theorem dL_isShownSo_45 : decode cL_isShownSo 45 = .ok (.if_icmp .ne 40, 3) := by decide +kernel
theorem dL_isShownSo_48 : decode cL_isShownSo 48 = .ok (.aload_n 0, 1) := by decide +kernel
theorem dL_isShownSo_49 : decode cL_isShownSo 49 = .ok (.iload_n 1, 1) := by decide +kernel
theorem dL_isShownSo_50 : decode cL_isShownSo 50 = .ok (.invokevirtual 71, 3) := by decide +kernel
theorem dL_isShownSo_53 : decode cL_isShownSo 53 = .ok (.ifCond .ne 32, 3) := by decide +kernel
theorem dL_isShownSo_56 : decode cL_isShownSo 56 = .ok (.aload_n 0, 1) := by decide +kernel
theorem dL_isShownSo_57 : decode cL_isShownSo 57 = .ok (.invokevirtual 56, 3) := by decide +kernel
theorem dL_isShownSo_60 : decode cL_isShownSo 60 = .ok (.iload 4, 2) := by decide +kernel
theorem dL_isShownSo_62 : decode cL_isShownSo 62 = .ok (.iconst 2, 1) := by decide +kernel
theorem dL_isShownSo_63 : decode cL_isShownSo 63 = .ok (.iload 5, 2) := by decide +kernel
theorem dL_isShownSo_65 : decode cL_isShownSo 65 = .ok (.imul, 1) := by decide +kernel
theorem dL_isShownSo_66 : decode cL_isShownSo 66 = .ok (.iadd, 1) := by decide +kernel
theorem dL_isShownSo_67 : decode cL_isShownSo 67 = .ok (.if_icmp .lt 18, 3) := by decide +kernel
theorem dL_isShownSo_70 : decode cL_isShownSo 70 = .ok (.aload_n 0, 1) := by decide +kernel
theorem dL_isShownSo_71 : decode cL_isShownSo 71 = .ok (.invokevirtual 56, 3) := by decide +kernel
theorem dL_isShownSo_74 : decode cL_isShownSo 74 = .ok (.iload 4, 2) := by decide +kernel
theorem dL_isShownSo_76 : decode cL_isShownSo 76 = .ok (.bipush 17, 2) := by decide +kernel
theorem dL_isShownSo_78 : decode cL_isShownSo 78 = .ok (.iload 5, 2) := by decide +kernel
theorem dL_isShownSo_80 : decode cL_isShownSo 80 = .ok (.imul, 1) := by decide +kernel
theorem dL_isShownSo_81 : decode cL_isShownSo 81 = .ok (.iadd, 1) := by decide +kernel
theorem dL_isShownSo_82 : decode cL_isShownSo 82 = .ok (.if_icmp .le 5, 3) := by decide +kernel
theorem dL_isShownSo_85 : decode cL_isShownSo 85 = .ok (.iconst 0, 1) := by decide +kernel
theorem dL_isShownSo_86 : decode cL_isShownSo 86 = .ok (.ireturn, 1) := by decide +kernel
theorem dL_isShownSo_87 : decode cL_isShownSo 87 = .ok (.aload_n 0, 1) := by decide +kernel
theorem dL_isShownSo_88 : decode cL_isShownSo 88 = .ok (.iload_n 1, 1) := by decide +kernel
theorem dL_isShownSo_89 : decode cL_isShownSo 89 = .ok (.invokestatic 45, 3) := by decide +kernel
theorem dL_isShownSo_92 : decode cL_isShownSo 92 = .ok (.iload 5, 2) := by decide +kernel
theorem dL_isShownSo_94 : decode cL_isShownSo 94 = .ok (.ifCond .ne 8, 3) := by decide +kernel
theorem dL_isShownSo_97 : decode cL_isShownSo 97 = .ok (.ldc 16, 2) := by decide +kernel
theorem dL_isShownSo_99 : decode cL_isShownSo 99 = .ok (.goto 5, 3) := by decide +kernel
theorem dL_isShownSo_102 : decode cL_isShownSo 102 = .ok (.iload 5, 2) := by decide +kernel
theorem dL_isShownSo_104 : decode cL_isShownSo 104 = .ok (.if_icmp .ne 23, 3) := by decide +kernel
theorem dL_isShownSo_107 : decode cL_isShownSo 107 = .ok (.aload_n 0, 1) := by decide +kernel
theorem dL_isShownSo_108 : decode cL_isShownSo 108 = .ok (.iload_n 1, 1) := by decide +kernel
theorem dL_isShownSo_109 : decode cL_isShownSo 109 = .ok (.invokevirtual 34, 3) := by decide +kernel
theorem dL_isShownSo_112 : decode cL_isShownSo 112 = .ok (.ifCond .ne 15, 3) := by decide +kernel
theorem dL_isShownSo_115 : decode cL_isShownSo 115 = .ok (.aload_n 0, 1) := by decide +kernel
theorem dL_isShownSo_116 : decode cL_isShownSo 116 = .ok (.iload_n 1, 1) := by decide +kernel
theorem dL_isShownSo_117 : decode cL_isShownSo 117 = .ok (.invokevirtual 83, 3) := by decide +kernel
theorem dL_isShownSo_120 : decode cL_isShownSo 120 = .ok (.ifCond .eq 7, 3) := by decide +kernel
theorem dL_isShownSo_123 : decode cL_isShownSo 123 = .ok (.iconst 1, 1) := by decide +kernel
theorem dL_isShownSo_124 : decode cL_isShownSo 124 = .ok (.goto 4, 3) := by decide +kernel
theorem dL_isShownSo_127 : decode cL_isShownSo 127 = .ok (.iconst 0, 1) := by decide +kernel
theorem dL_isShownSo_128 : decode cL_isShownSo 128 = .ok (.ireturn, 1) := by decide +kernel
set_option maxRecDepth 20000 in
theorem ggL_law_X3_init : GoodIn wsL_law wsX3_init := goodIn_r _ [6, 7, 8, 9, 10, 11, 12, 13, 14, 15, 16, 17, 18, 19, 20, 21, 22, 23, 24, 25, 26, 27, 28, 29, 30, 31, 32, 33, 34, 35, 36, 37, 38, 39, 40, 41, 42, 43, 44, 45, 46, 47, 330, 325, 326, 327, 328, 329, 331, 332, 333, 334, 335, 336, 337, 338, 339, 340, 341] (by decide +kernel) (by decide +kernel)
set_option maxRecDepth 20000 in
theorem gL_law_X3_init : GoodIn wsL_law (wsX3_init) := ggL_law_X3_init
set_option maxRecDepth 20000 in
theorem ggL_law_X3_join : GoodIn wsL_law wsX3_join := goodIn_ca (goodIn_r _ [51, 16, 52, 53, 2, 54, 55, 56, 57, 58, 59, 60, 61, 62, 21, 63, 30, 32, 36, 37, 42, 38, 39, 64, 65, 66, 12, 67, 26, 68, 69, 70, 35, 71, 47, 72, 73, 74, 75, 325, 326, 327, 328, 329, 331, 332, 333, 334, 335, 336, 337, 338, 339, 330, 340, 341] (by decide +kernel) (by decide +kernel)) (goodIn_sub (fun _ h => List.mem_append_left _ (List.mem_append_left _ (List.mem_append_right _ h))) (by decide +kernel))
set_option maxRecDepth 20000 in
theorem gL_law_X3_join : GoodIn wsL_law (wsV RL 21 RX3 yX3_join wsX3_join) := goodIn_app (goodIn_of _ (by decide +kernel)) ggL_law_X3_join
set_option maxRecDepth 20000 in
theorem ggL_law_L_cell : GoodIn wsL_law wsL_cell := goodIn_r _ [79] (by decide +kernel) (by decide +kernel)
set_option maxRecDepth 20000 in
theorem gL_law_L_cell : GoodIn wsL_law (va_wsS RL 88 yL_cell wsL_cell) := goodIn_app (goodIn_of _ (by decide +kernel)) ggL_law_L_cell
set_option maxRecDepth 20000 in
theorem ggL_law_L_act : GoodIn wsL_law wsL_act := goodIn_ca (goodIn_ca (goodIn_r _ [82, 83, 84, 78, 85, 86, 87, 88, 89, 90, 3, 48, 49, 50, 2, 51, 16, 52, 53, 54, 55, 56, 57, 58, 59, 60, 61, 62, 21, 63, 30, 32, 36, 37, 42, 38, 39, 64, 65, 66, 12, 67, 26, 68, 69, 70, 35, 71, 47, 72, 73, 74, 75, 91, 92, 93, 94, 95, 96, 97, 98, 99, 100, 101, 102, 103, 104, 105, 106, 107, 108, 109, 110, 111, 112, 113, 114, 115, 40, 41, 116, 117, 118, 119, 120, 121, 122, 123, 124, 125, 126, 127, 46, 128, 129, 130, 131, 132, 133, 134, 135, 136, 137, 138, 139, 140, 141, 142, 143, 144, 145, 13, 18, 19, 146, 147, 148, 149, 150, 151, 152, 153, 154, 155, 156, 157, 158, 159, 160, 161, 162, 163, 164, 165, 166, 167, 168, 169, 170, 171, 172, 173, 174, 175, 176, 177, 178, 179, 180, 181, 182, 183, 184, 185, 186, 187, 188, 189, 190, 191, 192, 193, 194, 195, 196, 197, 198, 199, 200, 201, 202, 203, 204, 205, 206, 14, 207, 208, 209, 210, 211, 212, 213, 214, 215, 216, 217, 218, 219, 220, 221, 222, 223, 224, 225, 226, 227, 228, 229, 230, 231, 232, 233, 234, 235, 236, 237, 238, 239, 240, 241, 242, 243, 244, 245, 246, 247, 248, 249, 250, 251, 252, 253, 254, 325, 326, 327, 328, 329, 331, 332, 333, 334, 335, 336, 337, 338, 339, 330, 340, 341] (by decide +kernel) (by decide +kernel)) (goodIn_sub (fun _ h => List.mem_append_left _ (List.mem_append_left _ (List.mem_append_right _ h))) (by decide +kernel))) (goodIn_sub (fun _ h => List.mem_append_left _ (List.mem_append_right _ h)) (by decide +kernel))
set_option maxRecDepth 20000 in
theorem gL_law_L_act : GoodIn wsL_law (va_wsS RL 92 yL_act wsL_act) := goodIn_app (goodIn_of _ (by decide +kernel)) ggL_law_L_act
set_option maxRecDepth 20000 in
theorem ggL_law_L_areAlike : GoodIn wsL_law wsL_areAlike := goodIn_ca (goodIn_ca (goodIn_r _ [257, 258, 259, 260, 2, 261, 19, 262, 263, 78, 264, 90, 94, 3, 265, 266, 267, 268, 16, 13, 52, 53, 54, 55, 56, 57, 58, 59, 99, 100, 101, 21, 102, 30, 103, 104, 105, 106, 107, 269, 270, 271, 272, 32, 150, 151, 152, 12, 153, 26, 237, 238, 239, 171, 172, 173, 174, 273, 274, 275, 276, 185, 186, 187, 277, 278, 279, 280, 168, 169, 170, 175, 176, 177, 178, 179, 180, 181, 281, 282, 283, 284, 18, 325, 326, 327, 328, 329, 331, 332, 333, 334, 335, 336, 337, 338, 339, 330] (by decide +kernel) (by decide +kernel)) (goodIn_sub (fun _ h => List.mem_append_left _ (List.mem_append_left _ (List.mem_append_right _ h))) (by decide +kernel))) (goodIn_sub (fun _ h => List.mem_append_left _ (List.mem_append_right _ h)) (by decide +kernel))
set_option maxRecDepth 20000 in
theorem gL_law_L_areAlike : GoodIn wsL_law (va_wsS RL 95 yL_areAlike wsL_areAlike) := goodIn_app (goodIn_of _ (by decide +kernel)) ggL_law_L_areAlike
set_option maxRecDepth 20000 in
theorem ggL_law_L_areTilesSo : GoodIn wsL_law wsL_areTilesSo := goodIn_ca (goodIn_ca (goodIn_ca (goodIn_r _ [287, 288, 289, 290, 2, 291, 16, 52, 53, 54, 55, 56, 57, 58, 59, 99, 100, 101, 21, 102, 30, 103, 104, 105, 106, 107, 72, 73, 74, 75, 39, 292, 293, 294, 295, 296, 297, 146, 147, 148, 149, 38, 277, 278, 279, 280, 13, 150, 151, 152, 12, 153, 26, 168, 169, 170, 171, 172, 173, 174, 175, 176, 177, 178, 179, 180, 181, 273, 274, 275, 276, 185, 186, 187, 298, 299, 300, 301, 154, 155, 156, 157, 37, 158, 159, 160, 161, 162, 163, 164, 165, 166, 35, 167, 47, 128, 129, 130, 131, 46, 182, 183, 184, 302, 303, 304, 305, 306, 307, 308, 309, 36, 310, 311, 312, 313, 325, 326, 327, 328, 329, 331, 332, 333, 334, 335, 336, 337, 338, 339, 330, 340, 341] (by decide +kernel) (by decide +kernel)) (goodIn_sub (fun _ h => List.mem_append_left _ (List.mem_append_left _ (List.mem_append_right _ h))) (by decide +kernel))) (goodIn_sub (fun _ h => List.mem_append_left _ (List.mem_append_right _ h)) (by decide +kernel))) (goodIn_sub (fun _ h => List.mem_append_right _ h) (by decide +kernel))
set_option maxRecDepth 20000 in
theorem gL_law_L_areTilesSo : GoodIn wsL_law (va_wsS RL 99 yL_areTilesSo wsL_areTilesSo) := goodIn_app (goodIn_of _ (by decide +kernel)) ggL_law_L_areTilesSo
set_option maxRecDepth 20000 in
theorem ggL_law_L_isShownSo : GoodIn wsL_law wsL_isShownSo := goodIn_ca (goodIn_ca (goodIn_r _ [316, 3, 91, 92, 78, 93, 90, 94, 95, 96, 97, 2, 98, 16, 52, 53, 54, 55, 56, 57, 58, 59, 99, 100, 101, 21, 102, 30, 103, 104, 105, 106, 107, 108, 109, 110, 111, 42, 112, 113, 114, 115, 32, 40, 41, 36, 116, 117, 118, 12, 119, 26, 120, 121, 122, 35, 123, 47, 124, 125, 126, 127, 46, 128, 129, 130, 131, 317, 318, 319, 320, 154, 155, 156, 157, 37, 306, 307, 308, 309, 321, 322, 323, 324, 288, 289, 290, 291, 72, 73, 74, 75, 39, 258, 259, 260, 261, 19, 135, 136, 137, 138, 139, 140, 141, 142, 143, 144, 145, 13, 18, 146, 147, 148, 149, 38, 150, 151, 152, 153, 158, 159, 160, 161, 162, 163, 164, 165, 166, 167, 168, 169, 170, 171, 172, 173, 174, 175, 176, 177, 178, 179, 180, 181, 182, 183, 184, 185, 186, 187, 188, 189, 190, 191, 192, 193, 194, 195, 196, 197, 198, 199, 265, 266, 267, 268, 269, 270, 271, 272, 237, 238, 239, 325, 326, 327, 328, 329, 331, 332, 333, 334, 335, 336, 337, 338, 339, 330, 340, 341] (by decide +kernel) (by decide +kernel)) (goodIn_sub (fun _ h => List.mem_append_left _ (List.mem_append_left _ (List.mem_append_right _ h))) (by decide +kernel))) (goodIn_sub (fun _ h => List.mem_append_left _ (List.mem_append_right _ h)) (by decide +kernel))
set_option maxRecDepth 20000 in
theorem gL_law_L_isShownSo : GoodIn wsL_law (va_wsS RL 103 yL_isShownSo wsL_isShownSo) := goodIn_app (goodIn_of _ (by decide +kernel)) ggL_law_L_isShownSo
theorem dL_law_0 : decode cL_law 0 = .ok (.new 9, 3) := by decide +kernel
theorem dL_law_3 : decode cL_law 3 = .ok (.dup, 1) := by decide +kernel
theorem dL_law_4 : decode cL_law 4 = .ok (.invokespecial 87, 3) := by decide +kernel
theorem dL_law_7 : decode cL_law 7 = .ok (.astore_n 1, 1) := by decide +kernel
theorem dL_law_8 : decode cL_law 8 = .ok (.new 9, 3) := by decide +kernel
theorem dL_law_11 : decode cL_law 11 = .ok (.dup, 1) := by decide +kernel
theorem dL_law_12 : decode cL_law 12 = .ok (.invokespecial 87, 3) := by decide +kernel
theorem dL_law_15 : decode cL_law 15 = .ok (.astore_n 2, 1) := by decide +kernel
theorem dL_law_16 : decode cL_law 16 = .ok (.aload_n 1, 1) := by decide +kernel
theorem dL_law_17 : decode cL_law 17 = .ok (.iconst 0, 1) := by decide +kernel
theorem dL_law_18 : decode cL_law 18 = .ok (.invokevirtual 21, 3) := by decide +kernel
theorem dL_law_21 : decode cL_law 21 = .ok (.bipush 12, 2) := by decide +kernel
theorem dL_law_23 : decode cL_law 23 = .ok (.if_icmp .ne 13, 3) := by decide +kernel
theorem dL_law_26 : decode cL_law 26 = .ok (.aload_n 2, 1) := by decide +kernel
theorem dL_law_27 : decode cL_law 27 = .ok (.iconst 0, 1) := by decide +kernel
theorem dL_law_28 : decode cL_law 28 = .ok (.invokevirtual 21, 3) := by decide +kernel
theorem dL_law_31 : decode cL_law 31 = .ok (.bipush 12, 2) := by decide +kernel
theorem dL_law_33 : decode cL_law 33 = .ok (.if_icmp .eq 5, 3) := by decide +kernel
theorem dL_law_36 : decode cL_law 36 = .ok (.iconst 0, 1) := by decide +kernel
theorem dL_law_37 : decode cL_law 37 = .ok (.ireturn, 1) := by decide +kernel
theorem dL_law_38 : decode cL_law 38 = .ok (.iconst 0, 1) := by decide +kernel
theorem dL_law_39 : decode cL_law 39 = .ok (.istore_n 3, 1) := by decide +kernel
theorem dL_law_40 : decode cL_law 40 = .ok (.iload_n 3, 1) := by decide +kernel
theorem dL_law_41 : decode cL_law 41 = .ok (.bipush 80, 2) := by decide +kernel
theorem dL_law_43 : decode cL_law 43 = .ok (.if_icmp .ge 94, 3) := by decide +kernel
theorem dL_law_46 : decode cL_law 46 = .ok (.aload_n 0, 1) := by decide +kernel
theorem dL_law_47 : decode cL_law 47 = .ok (.iload_n 3, 1) := by decide +kernel
theorem dL_law_48 : decode cL_law 48 = .ok (.invokestatic 88, 3) := by decide +kernel
theorem dL_law_51 : decode cL_law 51 = .ok (.istore 4, 2) := by decide +kernel
theorem dL_law_53 : decode cL_law 53 = .ok (.aload_n 1, 1) := by decide +kernel
theorem dL_law_54 : decode cL_law 54 = .ok (.iload 4, 2) := by decide +kernel
theorem dL_law_56 : decode cL_law 56 = .ok (.invokestatic 92, 3) := by decide +kernel
theorem dL_law_59 : decode cL_law 59 = .ok (.istore 5, 2) := by decide +kernel
theorem dL_law_61 : decode cL_law 61 = .ok (.iload 5, 2) := by decide +kernel
theorem dL_law_63 : decode cL_law 63 = .ok (.ldc 16, 2) := by decide +kernel
theorem dL_law_65 : decode cL_law 65 = .ok (.if_icmp .eq 14, 3) := by decide +kernel
theorem dL_law_68 : decode cL_law 68 = .ok (.aload_n 2, 1) := by decide +kernel
theorem dL_law_69 : decode cL_law 69 = .ok (.iload 4, 2) := by decide +kernel
theorem dL_law_71 : decode cL_law 71 = .ok (.invokestatic 92, 3) := by decide +kernel
theorem dL_law_74 : decode cL_law 74 = .ok (.iload 5, 2) := by decide +kernel
theorem dL_law_76 : decode cL_law 76 = .ok (.if_icmp .ne 26, 3) := by decide +kernel
theorem dL_law_79 : decode cL_law 79 = .ok (.aload_n 1, 1) := by decide +kernel
theorem dL_law_80 : decode cL_law 80 = .ok (.aload_n 2, 1) := by decide +kernel
theorem dL_law_81 : decode cL_law 81 = .ok (.invokestatic 95, 3) := by decide +kernel
theorem dL_law_84 : decode cL_law 84 = .ok (.ifCond .eq 18, 3) := by decide +kernel
theorem dL_law_87 : decode cL_law 87 = .ok (.iload_n 3, 1) := by decide +kernel
theorem dL_law_88 : decode cL_law 88 = .ok (.iconst 4, 1) := by decide +kernel
theorem dL_law_89 : decode cL_law 89 = .ok (.irem, 1) := by decide +kernel
theorem dL_law_90 : decode cL_law 90 = .ok (.iconst 3, 1) := by decide +kernel
theorem dL_law_91 : decode cL_law 91 = .ok (.if_icmp .ne 13, 3) := by decide +kernel
theorem dL_law_94 : decode cL_law 94 = .ok (.aload_n 1, 1) := by decide +kernel
theorem dL_law_95 : decode cL_law 95 = .ok (.iconst 0, 1) := by decide +kernel
theorem dL_law_96 : decode cL_law 96 = .ok (.invokestatic 99, 3) := by decide +kernel
theorem dL_law_99 : decode cL_law 99 = .ok (.ifCond .ne 5, 3) := by decide +kernel
theorem dL_law_102 : decode cL_law 102 = .ok (.iconst 0, 1) := by decide +kernel
theorem dL_law_103 : decode cL_law 103 = .ok (.ireturn, 1) := by decide +kernel
theorem dL_law_104 : decode cL_law 104 = .ok (.iload_n 3, 1) := by decide +kernel
theorem dL_law_105 : decode cL_law 105 = .ok (.bipush 20, 2) := by decide +kernel
theorem dL_law_107 : decode cL_law 107 = .ok (.irem, 1) := by decide +kernel
theorem dL_law_108 : decode cL_law 108 = .ok (.bipush 19, 2) := by decide +kernel
theorem dL_law_110 : decode cL_law 110 = .ok (.if_icmp .ne 21, 3) := by decide +kernel
theorem dL_law_113 : decode cL_law 113 = .ok (.aload_n 1, 1) := by decide +kernel
theorem dL_law_114 : decode cL_law 114 = .ok (.iconst 0, 1) := by decide +kernel
theorem dL_law_115 : decode cL_law 115 = .ok (.invokestatic 103, 3) := by decide +kernel
theorem dL_law_118 : decode cL_law 118 = .ok (.ifCond .eq 11, 3) := by decide +kernel
theorem dL_law_121 : decode cL_law 121 = .ok (.aload_n 2, 1) := by decide +kernel
theorem dL_law_122 : decode cL_law 122 = .ok (.iconst 0, 1) := by decide +kernel
theorem dL_law_123 : decode cL_law 123 = .ok (.invokestatic 103, 3) := by decide +kernel
theorem dL_law_126 : decode cL_law 126 = .ok (.ifCond .ne 5, 3) := by decide +kernel
theorem dL_law_129 : decode cL_law 129 = .ok (.iconst 0, 1) := by decide +kernel
theorem dL_law_130 : decode cL_law 130 = .ok (.ireturn, 1) := by decide +kernel
theorem dL_law_131 : decode cL_law 131 = .ok (.iinc 3 1, 3) := by decide +kernel
theorem dL_law_134 : decode cL_law 134 = .ok (.goto (-94), 3) := by decide +kernel
theorem dL_law_137 : decode cL_law 137 = .ok (.aload_n 1, 1) := by decide +kernel
theorem dL_law_138 : decode cL_law 138 = .ok (.aload_n 2, 1) := by decide +kernel
theorem dL_law_139 : decode cL_law 139 = .ok (.invokestatic 95, 3) := by decide +kernel
theorem dL_law_142 : decode cL_law 142 = .ok (.ireturn, 1) := by decide +kernel
