theorem dL_begin_0 : decode cL_begin 0 = .ok (.aload_n 3, 1) := by decide +kernel
theorem dL_begin_1 : decode cL_begin 1 = .ok (.iconst 0, 1) := by decide +kernel
theorem dL_begin_2 : decode cL_begin 2 = .ok (.aload_n 0, 1) := by decide +kernel
theorem dL_begin_3 : decode cL_begin 3 = .ok (.iload_n 1, 1) := by decide +kernel
theorem dL_begin_4 : decode cL_begin 4 = .ok (.iload_n 2, 1) := by decide +kernel
theorem dL_begin_5 : decode cL_begin 5 = .ok (.invokevirtual 7, 3) := by decide +kernel
theorem dL_begin_8 : decode cL_begin 8 = .ok (.i2l, 1) := by decide +kernel
theorem dL_begin_9 : decode cL_begin 9 = .ok (.lastore, 1) := by decide +kernel
theorem dL_begin_10 : decode cL_begin 10 = .ok (.goto 7, 3) := by decide +kernel
theorem dL_begin_13 : decode cL_begin 13 = .ok (.astore 4, 2) := by decide +kernel
theorem dL_begin_15 : decode cL_begin 15 = .ok (.iconst 1, 1) := by decide +kernel
theorem dL_begin_16 : decode cL_begin 16 = .ok (.ireturn, 1) := by decide +kernel
theorem dL_begin_17 : decode cL_begin 17 = .ok (.iconst 0, 1) := by decide +kernel
theorem dL_begin_18 : decode cL_begin 18 = .ok (.ireturn, 1) := by decide +kernel
set_option maxRecDepth 20000 in
theorem ggL_add_X2_add : GoodIn wsL_add wsX2_add := goodIn_ca (goodIn_ca (goodIn_r _ [7, 8, 9, 10, 11, 6, 12, 13, 14, 15, 16, 17, 18, 19, 20, 21, 22, 23, 24, 25, 26, 27, 28, 29, 30, 31, 32, 33, 34, 35, 36, 37, 38, 39, 40, 41, 42, 43, 44, 45, 46, 47, 48, 49, 50, 51, 52, 53, 54, 55, 56, 57, 58, 59, 60, 61, 62, 63, 64, 65, 66, 67, 68, 69, 70, 71, 72, 73, 74, 75] (by decide +kernel) (by decide +kernel)) (goodIn_sub (fun _ h => List.mem_cons_of_mem _ (List.mem_append_left _ (List.mem_append_right _ h))) (by decide +kernel))) (goodIn_sub (fun _ h => List.mem_cons_of_mem _ (List.mem_append_right _ h)) (by decide +kernel))
set_option maxRecDepth 20000 in
theorem gL_add_X2_add : GoodIn wsL_add (wsV RL 15 RX2 yX2_add wsX2_add) := goodIn_app (goodIn_of _ (by decide +kernel)) ggL_add_X2_add
theorem dL_add_0 : decode cL_add 0 = .ok (.aload 4, 2) := by decide +kernel
theorem dL_add_2 : decode cL_add 2 = .ok (.iconst 0, 1) := by decide +kernel
theorem dL_add_3 : decode cL_add 3 = .ok (.aload_n 0, 1) := by decide +kernel
theorem dL_add_4 : decode cL_add 4 = .ok (.iload_n 1, 1) := by decide +kernel
theorem dL_add_5 : decode cL_add 5 = .ok (.iload_n 2, 1) := by decide +kernel
theorem dL_add_6 : decode cL_add 6 = .ok (.iload_n 3, 1) := by decide +kernel
theorem dL_add_7 : decode cL_add 7 = .ok (.invokevirtual 15, 3) := by decide +kernel
theorem dL_add_10 : decode cL_add 10 = .ok (.i2l, 1) := by decide +kernel
theorem dL_add_11 : decode cL_add 11 = .ok (.lastore, 1) := by decide +kernel
theorem dL_add_12 : decode cL_add 12 = .ok (.goto 11, 3) := by decide +kernel
theorem dL_add_15 : decode cL_add 15 = .ok (.astore 5, 2) := by decide +kernel
theorem dL_add_17 : decode cL_add 17 = .ok (.iconst 1, 1) := by decide +kernel
theorem dL_add_18 : decode cL_add 18 = .ok (.ireturn, 1) := by decide +kernel
theorem dL_add_19 : decode cL_add 19 = .ok (.astore 5, 2) := by decide +kernel
theorem dL_add_21 : decode cL_add 21 = .ok (.iconst 2, 1) := by decide +kernel
theorem dL_add_22 : decode cL_add 22 = .ok (.ireturn, 1) := by decide +kernel
theorem dL_add_23 : decode cL_add 23 = .ok (.iconst 0, 1) := by decide +kernel
theorem dL_add_24 : decode cL_add 24 = .ok (.ireturn, 1) := by decide +kernel
set_option maxRecDepth 20000 in
theorem ggL_word_X2_word : GoodIn wsL_word wsX2_word := goodIn_ca (goodIn_ca (goodIn_r _ [7, 8, 9, 10, 11, 12, 6, 13, 14, 15, 16, 17, 18, 19, 20, 21, 22, 23, 24, 25, 26, 27, 28, 29, 30, 31, 32, 33, 34, 35, 36, 37, 38, 39, 40, 41, 42, 43, 44, 45, 46, 47, 48, 49, 50, 51, 52, 53, 54, 55, 56, 57, 58, 59, 60, 61, 62, 63, 64, 65, 66, 67] (by decide +kernel) (by decide +kernel)) (goodIn_sub (fun _ h => List.mem_cons_of_mem _ (List.mem_append_left _ (List.mem_append_right _ h))) (by decide +kernel))) (goodIn_sub (fun _ h => List.mem_cons_of_mem _ (List.mem_append_right _ h)) (by decide +kernel))
set_option maxRecDepth 20000 in
theorem gL_word_X2_word : GoodIn wsL_word (wsV RL 21 RX2 yX2_word wsX2_word) := goodIn_app (goodIn_of _ (by decide +kernel)) ggL_word_X2_word
theorem dL_word_0 : decode cL_word 0 = .ok (.aload 4, 2) := by decide +kernel
theorem dL_word_2 : decode cL_word 2 = .ok (.iconst 0, 1) := by decide +kernel
theorem dL_word_3 : decode cL_word 3 = .ok (.aload_n 0, 1) := by decide +kernel
theorem dL_word_4 : decode cL_word 4 = .ok (.iload_n 1, 1) := by decide +kernel
theorem dL_word_5 : decode cL_word 5 = .ok (.iload_n 2, 1) := by decide +kernel
theorem dL_word_6 : decode cL_word 6 = .ok (.iload_n 3, 1) := by decide +kernel
theorem dL_word_7 : decode cL_word 7 = .ok (.invokevirtual 21, 3) := by decide +kernel
theorem dL_word_10 : decode cL_word 10 = .ok (.i2l, 1) := by decide +kernel
theorem dL_word_11 : decode cL_word 11 = .ok (.lastore, 1) := by decide +kernel
theorem dL_word_12 : decode cL_word 12 = .ok (.goto 11, 3) := by decide +kernel
theorem dL_word_15 : decode cL_word 15 = .ok (.astore 5, 2) := by decide +kernel
theorem dL_word_17 : decode cL_word 17 = .ok (.iconst 1, 1) := by decide +kernel
theorem dL_word_18 : decode cL_word 18 = .ok (.ireturn, 1) := by decide +kernel
theorem dL_word_19 : decode cL_word 19 = .ok (.astore 5, 2) := by decide +kernel
theorem dL_word_21 : decode cL_word 21 = .ok (.iconst 2, 1) := by decide +kernel
theorem dL_word_22 : decode cL_word 22 = .ok (.ireturn, 1) := by decide +kernel
theorem dL_word_23 : decode cL_word 23 = .ok (.iconst 0, 1) := by decide +kernel
theorem dL_word_24 : decode cL_word 24 = .ok (.ireturn, 1) := by decide +kernel
set_option maxRecDepth 20000 in
theorem ggL_sign_X2_sign : GoodIn wsL_sign wsX2_sign := goodIn_ca (goodIn_r _ [6, 7, 8, 9, 5, 10, 11, 12, 13, 14, 15, 16, 17, 18, 19, 20, 21, 22, 23, 24, 25, 26, 27, 28, 29, 30, 31] (by decide +kernel) (by decide +kernel)) (goodIn_sub (fun _ h => List.mem_cons_of_mem _ (List.mem_append_right _ h)) (by decide +kernel))
set_option maxRecDepth 20000 in
theorem gL_sign_X2_sign : GoodIn wsL_sign (wsV RL 24 RX2 yX2_sign wsX2_sign) := goodIn_app (goodIn_of _ (by decide +kernel)) ggL_sign_X2_sign
theorem dL_sign_0 : decode cL_sign 0 = .ok (.aload_n 2, 1) := by decide +kernel
theorem dL_sign_1 : decode cL_sign 1 = .ok (.iconst 0, 1) := by decide +kernel
theorem dL_sign_2 : decode cL_sign 2 = .ok (.aload_n 0, 1) := by decide +kernel
theorem dL_sign_3 : decode cL_sign 3 = .ok (.iload_n 1, 1) := by decide +kernel
theorem dL_sign_4 : decode cL_sign 4 = .ok (.invokevirtual 24, 3) := by decide +kernel
theorem dL_sign_7 : decode cL_sign 7 = .ok (.i2l, 1) := by decide +kernel
theorem dL_sign_8 : decode cL_sign 8 = .ok (.lastore, 1) := by decide +kernel
theorem dL_sign_9 : decode cL_sign 9 = .ok (.goto 6, 3) := by decide +kernel
theorem dL_sign_12 : decode cL_sign 12 = .ok (.astore_n 3, 1) := by decide +kernel
theorem dL_sign_13 : decode cL_sign 13 = .ok (.iconst 1, 1) := by decide +kernel
theorem dL_sign_14 : decode cL_sign 14 = .ok (.ireturn, 1) := by decide +kernel
theorem dL_sign_15 : decode cL_sign 15 = .ok (.iconst 0, 1) := by decide +kernel
theorem dL_sign_16 : decode cL_sign 16 = .ok (.ireturn, 1) := by decide +kernel
set_option maxRecDepth 20000 in
theorem ggL_parse_X2_parse : GoodIn wsL_parse wsX2_parse := goodIn_ca (goodIn_ca (goodIn_r _ [7, 8, 9, 10, 11, 12, 13, 6, 14, 15, 16, 17, 18, 19, 20, 21, 22, 23, 24, 25, 26, 27, 28, 29, 30, 31, 32, 33, 34, 35, 36, 37, 38, 39, 40, 41, 42, 43, 44, 45, 46, 47, 48, 49, 50, 51, 52, 53, 54, 55, 56, 57, 58, 59, 60, 61, 62, 63, 64, 65, 66, 67, 68, 69, 70, 71, 72, 73, 74, 75, 76, 77, 78, 79, 80, 81, 82, 83, 84, 85, 86, 87, 88, 89, 90, 91, 92, 93, 94, 95, 96, 97, 98, 99, 100, 101, 102, 103, 104, 105, 106, 107, 108, 109, 110, 111, 112, 113, 114, 115, 116, 117, 118, 119, 120, 121, 122, 123, 124, 125, 126, 127, 128, 129, 130] (by decide +kernel) (by decide +kernel)) (goodIn_sub (fun _ h => List.mem_cons_of_mem _ (List.mem_append_left _ (List.mem_append_right _ h))) (by decide +kernel))) (goodIn_sub (fun _ h => List.mem_cons_of_mem _ (List.mem_append_right _ h)) (by decide +kernel))
set_option maxRecDepth 20000 in
theorem gL_parse_X2_parse : GoodIn wsL_parse (wsV RL 30 RX2 yX2_parse wsX2_parse) := goodIn_app (goodIn_of _ (by decide +kernel)) ggL_parse_X2_parse
theorem dL_parse_0 : decode cL_parse 0 = .ok (.aload_n 2, 1) := by decide +kernel
theorem dL_parse_1 : decode cL_parse 1 = .ok (.iconst 0, 1) := by decide +kernel
theorem dL_parse_2 : decode cL_parse 2 = .ok (.aload_n 0, 1) := by decide +kernel
theorem dL_parse_3 : decode cL_parse 3 = .ok (.iload_n 1, 1) := by decide +kernel
theorem dL_parse_4 : decode cL_parse 4 = .ok (.invokevirtual 30, 3) := by decide +kernel
theorem dL_parse_7 : decode cL_parse 7 = .ok (.i2l, 1) := by decide +kernel
theorem dL_parse_8 : decode cL_parse 8 = .ok (.lastore, 1) := by decide +kernel
theorem dL_parse_9 : decode cL_parse 9 = .ok (.goto 9, 3) := by decide +kernel
theorem dL_parse_12 : decode cL_parse 12 = .ok (.astore_n 3, 1) := by decide +kernel
theorem dL_parse_13 : decode cL_parse 13 = .ok (.iconst 1, 1) := by decide +kernel
theorem dL_parse_14 : decode cL_parse 14 = .ok (.ireturn, 1) := by decide +kernel
theorem dL_parse_15 : decode cL_parse 15 = .ok (.astore_n 3, 1) := by decide +kernel
theorem dL_parse_16 : decode cL_parse 16 = .ok (.iconst 2, 1) := by decide +kernel
theorem dL_parse_17 : decode cL_parse 17 = .ok (.ireturn, 1) := by decide +kernel
theorem dL_parse_18 : decode cL_parse 18 = .ok (.iconst 0, 1) := by decide +kernel
theorem dL_parse_19 : decode cL_parse 19 = .ok (.ireturn, 1) := by decide +kernel
set_option maxRecDepth 20000 in
theorem ggL_triple_X2_triple : GoodIn wsL_triple wsX2_triple := goodIn_ca (goodIn_ca (goodIn_r _ [7, 8, 9, 10, 11, 6, 12, 13, 14, 15, 16, 17, 18, 19, 20, 21, 22, 23, 24, 25, 26, 27, 28, 29, 30, 31, 32, 33, 34, 35, 36, 37, 38, 39, 40, 41, 42, 43, 44, 45, 46, 47, 48, 49, 50, 51, 52, 53, 54, 55, 56, 57, 58, 59, 60, 61, 62, 63, 64, 65, 66, 67, 68, 69, 70, 71, 72, 73, 74, 75, 76, 77, 78, 79, 80, 81, 82, 83, 84, 85, 86, 87, 88, 89, 90, 91, 92, 93, 94, 95, 96, 97, 98, 99, 100, 101, 102, 103, 104, 105, 106, 107, 108, 109, 110, 111, 112, 113, 114, 115, 116, 117, 118, 119, 120, 121, 122, 123, 124, 125, 126, 127, 128] (by decide +kernel) (by decide +kernel)) (goodIn_sub (fun _ h => List.mem_cons_of_mem _ (List.mem_append_left _ (List.mem_append_right _ h))) (by decide +kernel))) (goodIn_sub (fun _ h => List.mem_cons_of_mem _ (List.mem_append_right _ h)) (by decide +kernel))
set_option maxRecDepth 20000 in
theorem gL_triple_X2_triple : GoodIn wsL_triple (wsV RL 34 RX2 yX2_triple wsX2_triple) := goodIn_app (goodIn_of _ (by decide +kernel)) ggL_triple_X2_triple
theorem dL_triple_0 : decode cL_triple 0 = .ok (.aload 5, 2) := by decide +kernel
theorem dL_triple_2 : decode cL_triple 2 = .ok (.iconst 0, 1) := by decide +kernel
theorem dL_triple_3 : decode cL_triple 3 = .ok (.aload_n 0, 1) := by decide +kernel
theorem dL_triple_4 : decode cL_triple 4 = .ok (.iload_n 1, 1) := by decide +kernel
theorem dL_triple_5 : decode cL_triple 5 = .ok (.iload_n 2, 1) := by decide +kernel
theorem dL_triple_6 : decode cL_triple 6 = .ok (.iload_n 3, 1) := by decide +kernel
theorem dL_triple_7 : decode cL_triple 7 = .ok (.iload 4, 2) := by decide +kernel
theorem dL_triple_9 : decode cL_triple 9 = .ok (.invokevirtual 34, 3) := by decide +kernel
theorem dL_triple_12 : decode cL_triple 12 = .ok (.i2l, 1) := by decide +kernel
theorem dL_triple_13 : decode cL_triple 13 = .ok (.lastore, 1) := by decide +kernel
theorem dL_triple_14 : decode cL_triple 14 = .ok (.goto 11, 3) := by decide +kernel
theorem dL_triple_17 : decode cL_triple 17 = .ok (.astore 6, 2) := by decide +kernel
theorem dL_triple_19 : decode cL_triple 19 = .ok (.iconst 1, 1) := by decide +kernel
theorem dL_triple_20 : decode cL_triple 20 = .ok (.ireturn, 1) := by decide +kernel
theorem dL_triple_21 : decode cL_triple 21 = .ok (.astore 6, 2) := by decide +kernel
theorem dL_triple_23 : decode cL_triple 23 = .ok (.iconst 2, 1) := by decide +kernel
theorem dL_triple_24 : decode cL_triple 24 = .ok (.ireturn, 1) := by decide +kernel
theorem dL_triple_25 : decode cL_triple 25 = .ok (.iconst 0, 1) := by decide +kernel
theorem dL_triple_26 : decode cL_triple 26 = .ok (.ireturn, 1) := by decide +kernel
set_option maxRecDepth 20000 in
theorem ggL_copy_X2_copy : GoodIn wsL_copy wsX2_copy := goodIn_ca (goodIn_r _ [6, 7, 8, 9, 5, 10, 11, 12, 13, 14, 15, 16, 17, 18, 19, 20, 21, 22, 23, 24, 25, 26, 27, 28, 29, 30, 31, 32, 33, 34, 35, 36, 37, 38, 39, 40, 41, 42, 43, 44, 45, 46, 47, 48, 49, 50, 51, 52, 53, 54, 55, 56, 57, 58, 59, 60, 61, 62, 63, 64, 65, 66, 67, 68, 69, 70, 71, 72, 73, 74, 75, 76, 77, 78, 79, 80, 81, 82, 83, 84, 85, 86, 87, 88, 89, 90, 91, 92, 93, 94, 95, 96, 97, 98, 99, 100, 101, 102, 103, 104, 105, 106, 107, 108, 109, 110, 111, 112, 113, 114, 115, 116, 117, 118, 119, 120, 121, 122, 123, 124, 125, 126, 127, 128, 129] (by decide +kernel) (by decide +kernel)) (goodIn_sub (fun _ h => List.mem_cons_of_mem _ (List.mem_append_right _ h)) (by decide +kernel))
set_option maxRecDepth 20000 in
theorem gL_copy_X2_copy : GoodIn wsL_copy (wsV RL 38 RX2 yX2_copy wsX2_copy) := goodIn_app (goodIn_of _ (by decide +kernel)) ggL_copy_X2_copy
theorem dL_copy_0 : decode cL_copy 0 = .ok (.aload_n 3, 1) := by decide +kernel
theorem dL_copy_1 : decode cL_copy 1 = .ok (.iconst 0, 1) := by decide +kernel
theorem dL_copy_2 : decode cL_copy 2 = .ok (.aload_n 0, 1) := by decide +kernel
theorem dL_copy_3 : decode cL_copy 3 = .ok (.iload_n 1, 1) := by decide +kernel
theorem dL_copy_4 : decode cL_copy 4 = .ok (.iload_n 2, 1) := by decide +kernel
theorem dL_copy_5 : decode cL_copy 5 = .ok (.invokevirtual 38, 3) := by decide +kernel
theorem dL_copy_8 : decode cL_copy 8 = .ok (.i2l, 1) := by decide +kernel
theorem dL_copy_9 : decode cL_copy 9 = .ok (.lastore, 1) := by decide +kernel
theorem dL_copy_10 : decode cL_copy 10 = .ok (.goto 7, 3) := by decide +kernel
theorem dL_copy_13 : decode cL_copy 13 = .ok (.astore 4, 2) := by decide +kernel
theorem dL_copy_15 : decode cL_copy 15 = .ok (.iconst 1, 1) := by decide +kernel
theorem dL_copy_16 : decode cL_copy 16 = .ok (.ireturn, 1) := by decide +kernel
theorem dL_copy_17 : decode cL_copy 17 = .ok (.iconst 0, 1) := by decide +kernel
theorem dL_copy_18 : decode cL_copy 18 = .ok (.ireturn, 1) := by decide +kernel
set_option maxRecDepth 20000 in
theorem ggL_size_X2_size : GoodIn wsL_size wsX2_size := goodIn_ca (goodIn_r _ [6, 7, 8, 9, 5, 10, 11, 12, 13, 14, 15, 16, 17, 18, 19, 20, 21, 22, 23, 24, 25, 26, 27, 28, 29, 30, 31, 32, 33, 34] (by decide +kernel) (by decide +kernel)) (goodIn_sub (fun _ h => List.mem_cons_of_mem _ (List.mem_append_right _ h)) (by decide +kernel))
set_option maxRecDepth 20000 in
theorem gL_size_X2_size : GoodIn wsL_size (wsV RL 41 RX2 yX2_size wsX2_size) := goodIn_app (goodIn_of _ (by decide +kernel)) ggL_size_X2_size
theorem dL_size_0 : decode cL_size 0 = .ok (.aload_n 2, 1) := by decide +kernel
theorem dL_size_1 : decode cL_size 1 = .ok (.iconst 0, 1) := by decide +kernel
theorem dL_size_2 : decode cL_size 2 = .ok (.aload_n 0, 1) := by decide +kernel
theorem dL_size_3 : decode cL_size 3 = .ok (.iload_n 1, 1) := by decide +kernel
theorem dL_size_4 : decode cL_size 4 = .ok (.invokevirtual 41, 3) := by decide +kernel
theorem dL_size_7 : decode cL_size 7 = .ok (.i2l, 1) := by decide +kernel
theorem dL_size_8 : decode cL_size 8 = .ok (.lastore, 1) := by decide +kernel
theorem dL_size_9 : decode cL_size 9 = .ok (.goto 6, 3) := by decide +kernel
theorem dL_size_12 : decode cL_size 12 = .ok (.astore_n 3, 1) := by decide +kernel
theorem dL_size_13 : decode cL_size 13 = .ok (.iconst 1, 1) := by decide +kernel
theorem dL_size_14 : decode cL_size 14 = .ok (.ireturn, 1) := by decide +kernel
theorem dL_size_15 : decode cL_size 15 = .ok (.iconst 0, 1) := by decide +kernel
theorem dL_size_16 : decode cL_size 16 = .ok (.ireturn, 1) := by decide +kernel
set_option maxRecDepth 20000 in
theorem ggL_text_X2_text : GoodIn wsL_text wsX2_text := goodIn_ca (goodIn_r _ [6, 7, 8, 9, 5, 10, 11, 12, 13, 14, 15, 16, 17, 18, 19, 20, 21, 22, 23, 24, 25, 26, 27, 28, 29, 30, 31, 32, 33, 34, 35, 36, 37, 38, 39, 40, 41, 42] (by decide +kernel) (by decide +kernel)) (goodIn_sub (fun _ h => List.mem_cons_of_mem _ (List.mem_append_right _ h)) (by decide +kernel))
set_option maxRecDepth 20000 in
theorem gL_text_X2_text : GoodIn wsL_text (wsV RL 44 RX2 yX2_text wsX2_text) := goodIn_app (goodIn_of _ (by decide +kernel)) ggL_text_X2_text
theorem dL_text_0 : decode cL_text 0 = .ok (.aload_n 3, 1) := by decide +kernel
theorem dL_text_1 : decode cL_text 1 = .ok (.iconst 0, 1) := by decide +kernel
theorem dL_text_2 : decode cL_text 2 = .ok (.aload_n 0, 1) := by decide +kernel
theorem dL_text_3 : decode cL_text 3 = .ok (.iload_n 1, 1) := by decide +kernel
theorem dL_text_4 : decode cL_text 4 = .ok (.iload_n 2, 1) := by decide +kernel
theorem dL_text_5 : decode cL_text 5 = .ok (.invokevirtual 44, 3) := by decide +kernel
theorem dL_text_8 : decode cL_text 8 = .ok (.i2l, 1) := by decide +kernel
theorem dL_text_9 : decode cL_text 9 = .ok (.lastore, 1) := by decide +kernel
theorem dL_text_10 : decode cL_text 10 = .ok (.goto 7, 3) := by decide +kernel
theorem dL_text_13 : decode cL_text 13 = .ok (.astore 4, 2) := by decide +kernel
theorem dL_text_15 : decode cL_text 15 = .ok (.iconst 1, 1) := by decide +kernel
theorem dL_text_16 : decode cL_text 16 = .ok (.ireturn, 1) := by decide +kernel
theorem dL_text_17 : decode cL_text 17 = .ok (.iconst 0, 1) := by decide +kernel
theorem dL_text_18 : decode cL_text 18 = .ok (.ireturn, 1) := by decide +kernel
set_option maxRecDepth 20000 in
theorem ggL_tokens_X2_tokens : GoodIn wsL_tokens wsX2_tokens := goodIn_ca (goodIn_ca (goodIn_r _ [7, 8, 9, 10, 6, 11, 12, 13, 14, 15, 16, 17, 18, 19, 20, 21, 22, 23, 24, 25, 26, 27, 28, 29, 30, 31, 32, 33, 34, 35, 36, 37, 38] (by decide +kernel) (by decide +kernel)) (goodIn_sub (fun _ h => List.mem_cons_of_mem _ (List.mem_append_left _ (List.mem_append_right _ h))) (by decide +kernel))) (goodIn_sub (fun _ h => List.mem_cons_of_mem _ (List.mem_append_right _ h)) (by decide +kernel))
set_option maxRecDepth 20000 in
theorem gL_tokens_X2_tokens : GoodIn wsL_tokens (wsV RL 48 RX2 yX2_tokens wsX2_tokens) := goodIn_app (goodIn_of _ (by decide +kernel)) ggL_tokens_X2_tokens
theorem dL_tokens_0 : decode cL_tokens 0 = .ok (.aload_n 3, 1) := by decide +kernel
theorem dL_tokens_1 : decode cL_tokens 1 = .ok (.iconst 0, 1) := by decide +kernel
theorem dL_tokens_2 : decode cL_tokens 2 = .ok (.aload_n 0, 1) := by decide +kernel
theorem dL_tokens_3 : decode cL_tokens 3 = .ok (.iload_n 1, 1) := by decide +kernel
theorem dL_tokens_4 : decode cL_tokens 4 = .ok (.iload_n 2, 1) := by decide +kernel
theorem dL_tokens_5 : decode cL_tokens 5 = .ok (.invokevirtual 48, 3) := by decide +kernel
theorem dL_tokens_8 : decode cL_tokens 8 = .ok (.i2l, 1) := by decide +kernel
theorem dL_tokens_9 : decode cL_tokens 9 = .ok (.lastore, 1) := by decide +kernel
theorem dL_tokens_10 : decode cL_tokens 10 = .ok (.goto 11, 3) := by decide +kernel
theorem dL_tokens_13 : decode cL_tokens 13 = .ok (.astore 4, 2) := by decide +kernel
theorem dL_tokens_15 : decode cL_tokens 15 = .ok (.iconst 1, 1) := by decide +kernel
theorem dL_tokens_16 : decode cL_tokens 16 = .ok (.ireturn, 1) := by decide +kernel
theorem dL_tokens_17 : decode cL_tokens 17 = .ok (.astore 4, 2) := by decide +kernel
theorem dL_tokens_19 : decode cL_tokens 19 = .ok (.iconst 2, 1) := by decide +kernel
theorem dL_tokens_20 : decode cL_tokens 20 = .ok (.ireturn, 1) := by decide +kernel
theorem dL_tokens_21 : decode cL_tokens 21 = .ok (.iconst 0, 1) := by decide +kernel
theorem dL_tokens_22 : decode cL_tokens 22 = .ok (.ireturn, 1) := by decide +kernel
set_option maxRecDepth 20000 in
theorem ggL_token_X2_token : GoodIn wsL_token wsX2_token := goodIn_ca (goodIn_ca (goodIn_r _ [7, 8, 9, 10, 11, 12, 6, 13, 14, 15, 16, 17, 18, 19, 20, 21, 22, 23, 24, 25, 26, 27, 28, 29, 30, 31, 32, 33, 34, 35, 36, 37, 38, 39, 40, 41, 42, 43, 44, 45, 46, 47] (by decide +kernel) (by decide +kernel)) (goodIn_sub (fun _ h => List.mem_cons_of_mem _ (List.mem_append_left _ (List.mem_append_right _ h))) (by decide +kernel))) (goodIn_sub (fun _ h => List.mem_cons_of_mem _ (List.mem_append_right _ h)) (by decide +kernel))
set_option maxRecDepth 20000 in
theorem gL_token_X2_token : GoodIn wsL_token (wsV RL 51 RX2 yX2_token wsX2_token) := goodIn_app (goodIn_of _ (by decide +kernel)) ggL_token_X2_token
theorem dL_token_0 : decode cL_token 0 = .ok (.aload 4, 2) := by decide +kernel
theorem dL_token_2 : decode cL_token 2 = .ok (.iconst 0, 1) := by decide +kernel
theorem dL_token_3 : decode cL_token 3 = .ok (.aload_n 0, 1) := by decide +kernel
theorem dL_token_4 : decode cL_token 4 = .ok (.iload_n 1, 1) := by decide +kernel
theorem dL_token_5 : decode cL_token 5 = .ok (.iload_n 2, 1) := by decide +kernel
theorem dL_token_6 : decode cL_token 6 = .ok (.iload_n 3, 1) := by decide +kernel
theorem dL_token_7 : decode cL_token 7 = .ok (.invokevirtual 51, 3) := by decide +kernel
theorem dL_token_10 : decode cL_token 10 = .ok (.i2l, 1) := by decide +kernel
theorem dL_token_11 : decode cL_token 11 = .ok (.lastore, 1) := by decide +kernel
theorem dL_token_12 : decode cL_token 12 = .ok (.goto 11, 3) := by decide +kernel
theorem dL_token_15 : decode cL_token 15 = .ok (.astore 5, 2) := by decide +kernel
theorem dL_token_17 : decode cL_token 17 = .ok (.iconst 1, 1) := by decide +kernel
theorem dL_token_18 : decode cL_token 18 = .ok (.ireturn, 1) := by decide +kernel
theorem dL_token_19 : decode cL_token 19 = .ok (.astore 5, 2) := by decide +kernel
theorem dL_token_21 : decode cL_token 21 = .ok (.iconst 2, 1) := by decide +kernel
theorem dL_token_22 : decode cL_token 22 = .ok (.ireturn, 1) := by decide +kernel
theorem dL_token_23 : decode cL_token 23 = .ok (.iconst 0, 1) := by decide +kernel
theorem dL_token_24 : decode cL_token 24 = .ok (.ireturn, 1) := by decide +kernel
set_option maxRecDepth 20000 in
theorem ggL_compare_X2_compare : GoodIn wsL_compare wsX2_compare := goodIn_ca (goodIn_r _ [6, 7, 8, 9, 5, 10, 11, 12, 13, 14, 15, 16, 17, 18, 19, 20, 21, 22, 23, 24, 25, 26, 27, 28, 29, 30, 31, 32, 33, 34, 35, 36, 37, 38, 39, 40, 41, 42, 43, 44, 45, 46, 47, 48, 49, 50, 51, 52, 53, 54, 55, 56, 57, 58, 59, 60, 61, 62, 63, 64, 65, 66, 67, 68, 69, 70, 71, 72, 73, 74, 75, 76, 77, 78, 79, 80, 81] (by decide +kernel) (by decide +kernel)) (goodIn_sub (fun _ h => List.mem_cons_of_mem _ (List.mem_append_right _ h)) (by decide +kernel))
set_option maxRecDepth 20000 in
theorem gL_compare_X2_compare : GoodIn wsL_compare (wsV RL 55 RX2 yX2_compare wsX2_compare) := goodIn_app (goodIn_of _ (by decide +kernel)) ggL_compare_X2_compare
theorem dL_compare_0 : decode cL_compare 0 = .ok (.aload_n 3, 1) := by decide +kernel
theorem dL_compare_1 : decode cL_compare 1 = .ok (.iconst 0, 1) := by decide +kernel
theorem dL_compare_2 : decode cL_compare 2 = .ok (.aload_n 0, 1) := by decide +kernel
theorem dL_compare_3 : decode cL_compare 3 = .ok (.iload_n 1, 1) := by decide +kernel
theorem dL_compare_4 : decode cL_compare 4 = .ok (.iload_n 2, 1) := by decide +kernel
theorem dL_compare_5 : decode cL_compare 5 = .ok (.invokevirtual 55, 3) := by decide +kernel
theorem dL_compare_8 : decode cL_compare 8 = .ok (.i2l, 1) := by decide +kernel
theorem dL_compare_9 : decode cL_compare 9 = .ok (.lastore, 1) := by decide +kernel
theorem dL_compare_10 : decode cL_compare 10 = .ok (.goto 7, 3) := by decide +kernel
theorem dL_compare_13 : decode cL_compare 13 = .ok (.astore 4, 2) := by decide +kernel
theorem dL_compare_15 : decode cL_compare 15 = .ok (.iconst 1, 1) := by decide +kernel
theorem dL_compare_16 : decode cL_compare 16 = .ok (.ireturn, 1) := by decide +kernel
theorem dL_compare_17 : decode cL_compare 17 = .ok (.iconst 0, 1) := by decide +kernel
theorem dL_compare_18 : decode cL_compare 18 = .ok (.ireturn, 1) := by decide +kernel
set_option maxRecDepth 20000 in
theorem ggL_isSame_X2_isSame : GoodIn wsL_isSame wsX2_isSame := goodIn_ca (goodIn_r _ [6, 7, 8, 9, 5, 10, 11, 12, 13, 14, 15, 16, 17, 18, 19, 20, 21, 22, 23, 24, 25, 26, 27, 28, 29, 30, 31, 32, 33, 34, 35, 36, 37, 38, 39, 40, 41, 42, 43, 44, 45, 46, 47, 48, 49, 50, 51, 52, 53, 54, 55, 56, 57, 58, 59, 60, 61, 62, 63, 64, 65, 66, 67, 68, 69, 70, 71, 72, 73, 74, 75, 76, 77, 78, 79, 80, 81] (by decide +kernel) (by decide +kernel)) (goodIn_sub (fun _ h => List.mem_cons_of_mem _ (List.mem_append_right _ h)) (by decide +kernel))
set_option maxRecDepth 20000 in
theorem gL_isSame_X2_isSame : GoodIn wsL_isSame (wsV RL 58 RX2 yX2_isSame wsX2_isSame) := goodIn_app (goodIn_of _ (by decide +kernel)) ggL_isSame_X2_isSame
theorem dL_isSame_0 : decode cL_isSame 0 = .ok (.aload_n 3, 1) := by decide +kernel
theorem dL_isSame_1 : decode cL_isSame 1 = .ok (.iconst 0, 1) := by decide +kernel
theorem dL_isSame_2 : decode cL_isSame 2 = .ok (.aload_n 0, 1) := by decide +kernel
theorem dL_isSame_3 : decode cL_isSame 3 = .ok (.iload_n 1, 1) := by decide +kernel
theorem dL_isSame_4 : decode cL_isSame 4 = .ok (.iload_n 2, 1) := by decide +kernel
theorem dL_isSame_5 : decode cL_isSame 5 = .ok (.invokevirtual 58, 3) := by decide +kernel
theorem dL_isSame_8 : decode cL_isSame 8 = .ok (.ifCond .eq 7, 3) := by decide +kernel
theorem dL_isSame_11 : decode cL_isSame 11 = .ok (.lconst 1, 1) := by decide +kernel
theorem dL_isSame_12 : decode cL_isSame 12 = .ok (.goto 4, 3) := by decide +kernel
theorem dL_isSame_15 : decode cL_isSame 15 = .ok (.lconst 0, 1) := by decide +kernel
theorem dL_isSame_16 : decode cL_isSame 16 = .ok (.lastore, 1) := by decide +kernel
theorem dL_isSame_17 : decode cL_isSame 17 = .ok (.goto 7, 3) := by decide +kernel
theorem dL_isSame_20 : decode cL_isSame 20 = .ok (.astore 4, 2) := by decide +kernel
theorem dL_isSame_22 : decode cL_isSame 22 = .ok (.iconst 1, 1) := by decide +kernel
theorem dL_isSame_23 : decode cL_isSame 23 = .ok (.ireturn, 1) := by decide +kernel
theorem dL_isSame_24 : decode cL_isSame 24 = .ok (.iconst 0, 1) := by decide +kernel
theorem dL_isSame_25 : decode cL_isSame 25 = .ok (.ireturn, 1) := by decide +kernel
set_option maxRecDepth 20000 in
theorem ggL_apart_X2_apart : GoodIn wsL_apart wsX2_apart := goodIn_ca (goodIn_r _ [6, 7, 8, 9, 5, 10, 11, 12, 13, 14, 15, 16, 17, 18, 19, 20, 21, 22, 23, 24, 25, 26, 27, 28, 29, 30, 31, 32, 33, 34, 35, 36, 37, 38, 39, 40, 41, 42, 43, 44, 45, 46, 47, 48, 49, 50, 51, 52, 53, 54, 55, 56, 57, 58, 59, 60, 61, 62, 63, 64, 65, 66, 67, 68, 69, 70, 71, 72, 73, 74, 75, 76, 77, 78, 79, 80, 81] (by decide +kernel) (by decide +kernel)) (goodIn_sub (fun _ h => List.mem_cons_of_mem _ (List.mem_append_right _ h)) (by decide +kernel))
set_option maxRecDepth 20000 in
theorem gL_apart_X2_apart : GoodIn wsL_apart (wsV RL 62 RX2 yX2_apart wsX2_apart) := goodIn_app (goodIn_of _ (by decide +kernel)) ggL_apart_X2_apart
theorem dL_apart_0 : decode cL_apart 0 = .ok (.aload_n 3, 1) := by decide +kernel
theorem dL_apart_1 : decode cL_apart 1 = .ok (.iconst 0, 1) := by decide +kernel
theorem dL_apart_2 : decode cL_apart 2 = .ok (.aload_n 0, 1) := by decide +kernel
theorem dL_apart_3 : decode cL_apart 3 = .ok (.iload_n 1, 1) := by decide +kernel
theorem dL_apart_4 : decode cL_apart 4 = .ok (.iload_n 2, 1) := by decide +kernel
theorem dL_apart_5 : decode cL_apart 5 = .ok (.invokevirtual 62, 3) := by decide +kernel
theorem dL_apart_8 : decode cL_apart 8 = .ok (.i2l, 1) := by decide +kernel
theorem dL_apart_9 : decode cL_apart 9 = .ok (.lastore, 1) := by decide +kernel
theorem dL_apart_10 : decode cL_apart 10 = .ok (.goto 7, 3) := by decide +kernel
theorem dL_apart_13 : decode cL_apart 13 = .ok (.astore 4, 2) := by decide +kernel
theorem dL_apart_15 : decode cL_apart 15 = .ok (.iconst 1, 1) := by decide +kernel
theorem dL_apart_16 : decode cL_apart 16 = .ok (.ireturn, 1) := by decide +kernel
theorem dL_apart_17 : decode cL_apart 17 = .ok (.iconst 0, 1) := by decide +kernel
theorem dL_apart_18 : decode cL_apart 18 = .ok (.ireturn, 1) := by decide +kernel
set_option maxRecDepth 20000 in
theorem ggL_rank_X2_rank : GoodIn wsL_rank wsX2_rank := goodIn_ca (goodIn_r _ [6, 7, 8, 9, 10, 5, 11, 12, 13, 14, 15, 16, 17, 18, 19, 20, 21, 22, 23, 24, 25, 26, 27, 28, 29, 30, 31, 32, 33, 34, 35, 36, 37, 38, 39, 40, 41, 42, 43, 44, 45, 46, 47, 48, 49, 50, 51, 52, 53, 54, 55, 56, 57, 58, 59, 60, 61, 62, 63, 64, 65, 66, 67, 68, 69, 70, 71, 72, 73, 74, 75, 76, 77, 78, 79, 80, 81] (by decide +kernel) (by decide +kernel)) (goodIn_sub (fun _ h => List.mem_cons_of_mem _ (List.mem_append_right _ h)) (by decide +kernel))
set_option maxRecDepth 20000 in
theorem gL_rank_X2_rank : GoodIn wsL_rank (wsV RL 65 RX2 yX2_rank wsX2_rank) := goodIn_app (goodIn_of _ (by decide +kernel)) ggL_rank_X2_rank
theorem dL_rank_0 : decode cL_rank 0 = .ok (.aload_n 2, 1) := by decide +kernel
theorem dL_rank_1 : decode cL_rank 1 = .ok (.iconst 0, 1) := by decide +kernel
theorem dL_rank_2 : decode cL_rank 2 = .ok (.aload_n 0, 1) := by decide +kernel
theorem dL_rank_3 : decode cL_rank 3 = .ok (.iload_n 1, 1) := by decide +kernel
theorem dL_rank_4 : decode cL_rank 4 = .ok (.invokevirtual 65, 3) := by decide +kernel
theorem dL_rank_7 : decode cL_rank 7 = .ok (.i2l, 1) := by decide +kernel
theorem dL_rank_8 : decode cL_rank 8 = .ok (.lastore, 1) := by decide +kernel
theorem dL_rank_9 : decode cL_rank 9 = .ok (.goto 6, 3) := by decide +kernel
theorem dL_rank_12 : decode cL_rank 12 = .ok (.astore_n 3, 1) := by decide +kernel
theorem dL_rank_13 : decode cL_rank 13 = .ok (.iconst 1, 1) := by decide +kernel
theorem dL_rank_14 : decode cL_rank 14 = .ok (.ireturn, 1) := by decide +kernel
theorem dL_rank_15 : decode cL_rank 15 = .ok (.iconst 0, 1) := by decide +kernel
theorem dL_rank_16 : decode cL_rank 16 = .ok (.ireturn, 1) := by decide +kernel
set_option maxRecDepth 20000 in
theorem ggL_at_X2_at : GoodIn wsL_at wsX2_at := goodIn_ca (goodIn_r _ [6, 7, 8, 9, 10, 11, 12, 5, 13, 14, 15, 16, 17, 18, 19, 20, 21, 22, 23, 24, 25, 26, 27, 28, 29, 30, 31, 32, 33, 34, 35, 36, 37, 38, 39, 40, 41, 42, 43, 44, 45, 46, 47, 48, 49, 50, 51, 52, 53, 54, 55, 56, 57, 58, 59, 60, 61, 62, 63, 64, 65, 66, 67, 68, 69, 70, 71, 72, 73, 74, 75, 76, 77, 78, 79, 80, 81, 82, 83, 84, 85, 86] (by decide +kernel) (by decide +kernel)) (goodIn_sub (fun _ h => List.mem_cons_of_mem _ (List.mem_append_right _ h)) (by decide +kernel))
set_option maxRecDepth 20000 in
theorem gL_at_X2_at : GoodIn wsL_at (wsV RL 68 RX2 yX2_at wsX2_at) := goodIn_app (goodIn_of _ (by decide +kernel)) ggL_at_X2_at
theorem dL_at_0 : decode cL_at 0 = .ok (.aload_n 2, 1) := by decide +kernel
theorem dL_at_1 : decode cL_at 1 = .ok (.iconst 0, 1) := by decide +kernel
theorem dL_at_2 : decode cL_at 2 = .ok (.aload_n 0, 1) := by decide +kernel
theorem dL_at_3 : decode cL_at 3 = .ok (.iload_n 1, 1) := by decide +kernel
theorem dL_at_4 : decode cL_at 4 = .ok (.invokevirtual 68, 3) := by decide +kernel
theorem dL_at_7 : decode cL_at 7 = .ok (.i2l, 1) := by decide +kernel
theorem dL_at_8 : decode cL_at 8 = .ok (.lastore, 1) := by decide +kernel
theorem dL_at_9 : decode cL_at 9 = .ok (.goto 6, 3) := by decide +kernel
theorem dL_at_12 : decode cL_at 12 = .ok (.astore_n 3, 1) := by decide +kernel
theorem dL_at_13 : decode cL_at 13 = .ok (.iconst 1, 1) := by decide +kernel
theorem dL_at_14 : decode cL_at 14 = .ok (.ireturn, 1) := by decide +kernel
theorem dL_at_15 : decode cL_at 15 = .ok (.iconst 0, 1) := by decide +kernel
theorem dL_at_16 : decode cL_at 16 = .ok (.ireturn, 1) := by decide +kernel
set_option maxRecDepth 20000 in
theorem ggL_between_X2_between : GoodIn wsL_between wsX2_between := goodIn_ca (goodIn_r _ [6, 7, 8, 9, 10, 5, 11, 12, 13, 14, 15, 16, 17, 18, 19, 20, 21, 22, 23, 24, 25, 26, 27, 28, 29, 30, 31, 32, 33, 34, 35, 36, 37, 38, 39, 40, 41, 42, 43, 44, 45, 46, 47, 48, 49, 50, 51, 52, 53, 54, 55, 56, 57, 58, 59, 60, 61, 62, 63, 64, 65, 66, 67, 68, 69, 70, 71, 72, 73, 74, 75, 76, 77, 78, 79, 80, 81] (by decide +kernel) (by decide +kernel)) (goodIn_sub (fun _ h => List.mem_cons_of_mem _ (List.mem_append_right _ h)) (by decide +kernel))
set_option maxRecDepth 20000 in
theorem gL_between_X2_between : GoodIn wsL_between (wsV RL 71 RX2 yX2_between wsX2_between) := goodIn_app (goodIn_of _ (by decide +kernel)) ggL_between_X2_between
theorem dL_between_0 : decode cL_between 0 = .ok (.aload_n 3, 1) := by decide +kernel
theorem dL_between_1 : decode cL_between 1 = .ok (.iconst 0, 1) := by decide +kernel
theorem dL_between_2 : decode cL_between 2 = .ok (.aload_n 0, 1) := by decide +kernel
theorem dL_between_3 : decode cL_between 3 = .ok (.iload_n 1, 1) := by decide +kernel
theorem dL_between_4 : decode cL_between 4 = .ok (.iload_n 2, 1) := by decide +kernel
theorem dL_between_5 : decode cL_between 5 = .ok (.invokevirtual 71, 3) := by decide +kernel
theorem dL_between_8 : decode cL_between 8 = .ok (.i2l, 1) := by decide +kernel
theorem dL_between_9 : decode cL_between 9 = .ok (.lastore, 1) := by decide +kernel
theorem dL_between_10 : decode cL_between 10 = .ok (.goto 7, 3) := by decide +kernel
theorem dL_between_13 : decode cL_between 13 = .ok (.astore 4, 2) := by decide +kernel
theorem dL_between_15 : decode cL_between 15 = .ok (.iconst 1, 1) := by decide +kernel
theorem dL_between_16 : decode cL_between 16 = .ok (.ireturn, 1) := by decide +kernel
theorem dL_between_17 : decode cL_between 17 = .ok (.iconst 0, 1) := by decide +kernel
theorem dL_between_18 : decode cL_between 18 = .ok (.ireturn, 1) := by decide +kernel
set_option maxRecDepth 20000 in
theorem ggL_zero_X2_zero : GoodIn wsL_zero wsX2_zero := goodIn_ca (goodIn_ca (goodIn_r _ [7, 8, 9, 10, 11, 6, 12, 13, 14, 15, 16, 17, 18, 19, 20, 21, 22, 23, 24, 25, 26, 27, 28, 29, 30, 31, 32, 33, 34, 35, 36, 37, 38, 39, 40, 41, 42, 43, 44, 45, 46, 47, 48, 49, 50, 51, 52, 53, 54, 55, 56, 57, 58, 59, 60, 61, 62, 63, 64, 65, 66, 67, 68, 69, 70, 71, 72, 73, 74, 75, 76, 77, 78, 79, 80, 81, 82, 83, 84, 85, 86, 87, 88, 89, 90, 91, 92, 93, 94, 95, 96, 97, 98, 99, 100, 101, 102, 103, 104, 105, 106, 107, 108, 109, 110, 111, 112, 113, 114, 115, 116, 117, 118, 119, 120, 121, 122, 123, 124, 125, 126, 127, 128, 129, 130, 131, 132, 133, 134, 135, 136, 137, 138, 139, 140, 141, 142, 143, 144, 145] (by decide +kernel) (by decide +kernel)) (goodIn_sub (fun _ h => List.mem_cons_of_mem _ (List.mem_append_left _ (List.mem_append_right _ h))) (by decide +kernel))) (goodIn_sub (fun _ h => List.mem_cons_of_mem _ (List.mem_append_right _ h)) (by decide +kernel))
set_option maxRecDepth 20000 in
theorem gL_zero_X2_zero : GoodIn wsL_zero (wsV RL 74 RX2 yX2_zero wsX2_zero) := goodIn_app (goodIn_of _ (by decide +kernel)) ggL_zero_X2_zero
theorem dL_zero_0 : decode cL_zero 0 = .ok (.aload_n 3, 1) := by decide +kernel
theorem dL_zero_1 : decode cL_zero 1 = .ok (.iconst 0, 1) := by decide +kernel
theorem dL_zero_2 : decode cL_zero 2 = .ok (.aload_n 0, 1) := by decide +kernel
theorem dL_zero_3 : decode cL_zero 3 = .ok (.iload_n 1, 1) := by decide +kernel
theorem dL_zero_4 : decode cL_zero 4 = .ok (.iload_n 2, 1) := by decide +kernel
theorem dL_zero_5 : decode cL_zero 5 = .ok (.invokevirtual 74, 3) := by decide +kernel
theorem dL_zero_8 : decode cL_zero 8 = .ok (.ifCond .eq 7, 3) := by decide +kernel
theorem dL_zero_11 : decode cL_zero 11 = .ok (.lconst 1, 1) := by decide +kernel
theorem dL_zero_12 : decode cL_zero 12 = .ok (.goto 4, 3) := by decide +kernel
theorem dL_zero_15 : decode cL_zero 15 = .ok (.lconst 0, 1) := by decide +kernel
theorem dL_zero_16 : decode cL_zero 16 = .ok (.lastore, 1) := by decide +kernel
theorem dL_zero_17 : decode cL_zero 17 = .ok (.goto 11, 3) := by decide +kernel
theorem dL_zero_20 : decode cL_zero 20 = .ok (.astore 4, 2) := by decide +kernel
theorem dL_zero_22 : decode cL_zero 22 = .ok (.iconst 1, 1) := by decide +kernel
theorem dL_zero_23 : decode cL_zero 23 = .ok (.ireturn, 1) := by decide +kernel
theorem dL_zero_24 : decode cL_zero 24 = .ok (.astore 4, 2) := by decide +kernel
theorem dL_zero_26 : decode cL_zero 26 = .ok (.iconst 2, 1) := by decide +kernel
theorem dL_zero_27 : decode cL_zero 27 = .ok (.ireturn, 1) := by decide +kernel
theorem dL_zero_28 : decode cL_zero 28 = .ok (.iconst 0, 1) := by decide +kernel
theorem dL_zero_29 : decode cL_zero 29 = .ok (.ireturn, 1) := by decide +kernel
set_option maxRecDepth 20000 in
theorem ggL_longer_X2_longer : GoodIn wsL_longer wsX2_longer := goodIn_ca (goodIn_ca (goodIn_ca (goodIn_r _ [8, 9, 10, 11, 12, 7, 13, 14, 15, 16, 17, 18, 19, 20, 21, 22, 23, 24, 25, 26, 27, 28, 29, 30, 31, 32, 33, 34, 35, 36, 37, 38, 39, 40, 41, 42, 43, 44, 45, 46, 47, 48, 49, 50, 51, 52, 53, 54, 55, 56, 57, 58, 59, 60, 61, 62, 63, 64, 65, 66, 67, 68, 69, 70, 71, 72, 73, 74, 75, 76, 77, 78, 79, 80, 81, 82, 83, 84, 85, 86, 87, 88, 89, 90, 91, 92, 93, 94, 95, 96, 97, 98, 99, 100, 101, 102, 103, 104, 105, 106, 107, 108, 109, 110, 111, 112, 113, 114, 115, 116, 117, 118, 119, 120, 121, 122, 123, 124, 125, 126, 127, 128, 129, 130, 131, 132, 133, 134, 135, 136, 137, 138, 139, 140, 141, 142, 143, 144, 145, 146, 147, 148, 149, 150, 151] (by decide +kernel) (by decide +kernel)) (goodIn_sub (fun _ h => List.mem_cons_of_mem _ (List.mem_append_left _ (List.mem_append_left _ (List.mem_append_right _ h)))) (by decide +kernel))) (goodIn_sub (fun _ h => List.mem_cons_of_mem _ (List.mem_append_left _ (List.mem_append_right _ h))) (by decide +kernel))) (goodIn_sub (fun _ h => List.mem_cons_of_mem _ (List.mem_append_right _ h)) (by decide +kernel))
set_option maxRecDepth 20000 in
theorem gL_longer_X2_longer : GoodIn wsL_longer (wsV RL 77 RX2 yX2_longer wsX2_longer) := goodIn_app (goodIn_of _ (by decide +kernel)) ggL_longer_X2_longer
theorem dL_longer_0 : decode cL_longer 0 = .ok (.aload 4, 2) := by decide +kernel
theorem dL_longer_2 : decode cL_longer 2 = .ok (.iconst 0, 1) := by decide +kernel
theorem dL_longer_3 : decode cL_longer 3 = .ok (.aload_n 0, 1) := by decide +kernel
theorem dL_longer_4 : decode cL_longer 4 = .ok (.iload_n 1, 1) := by decide +kernel
theorem dL_longer_5 : decode cL_longer 5 = .ok (.iload_n 2, 1) := by decide +kernel
theorem dL_longer_6 : decode cL_longer 6 = .ok (.iload_n 3, 1) := by decide +kernel
theorem dL_longer_7 : decode cL_longer 7 = .ok (.invokevirtual 77, 3) := by decide +kernel
theorem dL_longer_10 : decode cL_longer 10 = .ok (.ifCond .eq 7, 3) := by decide +kernel
theorem dL_longer_13 : decode cL_longer 13 = .ok (.lconst 1, 1) := by decide +kernel
theorem dL_longer_14 : decode cL_longer 14 = .ok (.goto 4, 3) := by decide +kernel
theorem dL_longer_17 : decode cL_longer 17 = .ok (.lconst 0, 1) := by decide +kernel
theorem dL_longer_18 : decode cL_longer 18 = .ok (.lastore, 1) := by decide +kernel
theorem dL_longer_19 : decode cL_longer 19 = .ok (.goto 15, 3) := by decide +kernel
theorem dL_longer_22 : decode cL_longer 22 = .ok (.astore 5, 2) := by decide +kernel
theorem dL_longer_24 : decode cL_longer 24 = .ok (.iconst 1, 1) := by decide +kernel
theorem dL_longer_25 : decode cL_longer 25 = .ok (.ireturn, 1) := by decide +kernel
theorem dL_longer_26 : decode cL_longer 26 = .ok (.astore 5, 2) := by decide +kernel
theorem dL_longer_28 : decode cL_longer 28 = .ok (.iconst 2, 1) := by decide +kernel
theorem dL_longer_29 : decode cL_longer 29 = .ok (.ireturn, 1) := by decide +kernel
theorem dL_longer_30 : decode cL_longer 30 = .ok (.astore 5, 2) := by decide +kernel
theorem dL_longer_32 : decode cL_longer 32 = .ok (.iconst 3, 1) := by decide +kernel
theorem dL_longer_33 : decode cL_longer 33 = .ok (.ireturn, 1) := by decide +kernel
theorem dL_longer_34 : decode cL_longer 34 = .ok (.iconst 0, 1) := by decide +kernel
theorem dL_longer_35 : decode cL_longer 35 = .ok (.ireturn, 1) := by decide +kernel
set_option maxRecDepth 20000 in
theorem ggL_early_X2_early : GoodIn wsL_early wsX2_early := goodIn_ca (goodIn_ca (goodIn_ca (goodIn_r _ [8, 9, 10, 11, 12, 13, 14, 15, 16, 7, 17, 18, 19, 20, 21, 22, 23, 24, 25, 26, 27, 28, 29, 30, 31, 32, 33, 34, 35, 36, 37, 38, 39, 40, 41, 42, 43, 44, 45, 46, 47, 48, 49, 50, 51, 52, 53, 54, 55, 56, 57, 58, 59, 60, 61, 62, 63, 64, 65, 66, 67, 68, 69, 70, 71, 72, 73, 74, 75, 76, 77, 78, 79, 80, 81, 82, 83, 84, 85, 86, 87, 88, 89, 90, 91, 92, 93, 94, 95, 96, 97, 98, 99, 100, 101, 102, 103, 104, 105, 106, 107, 108, 109, 110, 111, 112, 113, 114, 115, 116, 117, 118, 119, 120, 121, 122, 123, 124, 125, 126, 127, 128, 129, 130, 131, 132, 133, 134, 135, 136, 137, 138, 139, 140, 141] (by decide +kernel) (by decide +kernel)) (goodIn_sub (fun _ h => List.mem_cons_of_mem _ (List.mem_append_left _ (List.mem_append_left _ (List.mem_append_right _ h)))) (by decide +kernel))) (goodIn_sub (fun _ h => List.mem_cons_of_mem _ (List.mem_append_left _ (List.mem_append_right _ h))) (by decide +kernel))) (goodIn_sub (fun _ h => List.mem_cons_of_mem _ (List.mem_append_right _ h)) (by decide +kernel))
set_option maxRecDepth 20000 in
theorem gL_early_X2_early : GoodIn wsL_early (wsV RL 81 RX2 yX2_early wsX2_early) := goodIn_app (goodIn_of _ (by decide +kernel)) ggL_early_X2_early
theorem dL_early_0 : decode cL_early 0 = .ok (.aload 4, 2) := by decide +kernel
theorem dL_early_2 : decode cL_early 2 = .ok (.iconst 0, 1) := by decide +kernel
theorem dL_early_3 : decode cL_early 3 = .ok (.aload_n 0, 1) := by decide +kernel
theorem dL_early_4 : decode cL_early 4 = .ok (.iload_n 1, 1) := by decide +kernel
theorem dL_early_5 : decode cL_early 5 = .ok (.iload_n 2, 1) := by decide +kernel
theorem dL_early_6 : decode cL_early 6 = .ok (.iload_n 3, 1) := by decide +kernel
theorem dL_early_7 : decode cL_early 7 = .ok (.invokevirtual 81, 3) := by decide +kernel
theorem dL_early_10 : decode cL_early 10 = .ok (.ifCond .eq 7, 3) := by decide +kernel
theorem dL_early_13 : decode cL_early 13 = .ok (.lconst 1, 1) := by decide +kernel
theorem dL_early_14 : decode cL_early 14 = .ok (.goto 4, 3) := by decide +kernel
theorem dL_early_17 : decode cL_early 17 = .ok (.lconst 0, 1) := by decide +kernel
theorem dL_early_18 : decode cL_early 18 = .ok (.lastore, 1) := by decide +kernel
theorem dL_early_19 : decode cL_early 19 = .ok (.goto 15, 3) := by decide +kernel
theorem dL_early_22 : decode cL_early 22 = .ok (.astore 5, 2) := by decide +kernel
theorem dL_early_24 : decode cL_early 24 = .ok (.iconst 1, 1) := by decide +kernel
theorem dL_early_25 : decode cL_early 25 = .ok (.ireturn, 1) := by decide +kernel
theorem dL_early_26 : decode cL_early 26 = .ok (.astore 5, 2) := by decide +kernel
theorem dL_early_28 : decode cL_early 28 = .ok (.iconst 2, 1) := by decide +kernel
theorem dL_early_29 : decode cL_early 29 = .ok (.ireturn, 1) := by decide +kernel
theorem dL_early_30 : decode cL_early 30 = .ok (.astore 5, 2) := by decide +kernel
theorem dL_early_32 : decode cL_early 32 = .ok (.iconst 3, 1) := by decide +kernel
theorem dL_early_33 : decode cL_early 33 = .ok (.ireturn, 1) := by decide +kernel
theorem dL_early_34 : decode cL_early 34 = .ok (.iconst 0, 1) := by decide +kernel
theorem dL_early_35 : decode cL_early 35 = .ok (.ireturn, 1) := by decide +kernel
set_option maxRecDepth 20000 in
theorem ggL_built_X2_built : GoodIn wsL_built wsX2_built := goodIn_ca (goodIn_ca (goodIn_ca (goodIn_r _ [8, 9, 10, 11, 12, 13, 14, 7, 15, 16, 17, 18, 19, 20, 21, 22, 23, 24, 25, 26, 27, 28, 29, 30, 31, 32, 33, 34, 35, 36, 37, 38, 39, 40, 41, 42, 43, 44, 45, 46, 47, 48, 49, 50, 51, 52, 53, 54, 55, 56, 57, 58, 59, 60, 61, 62, 63, 64, 65, 66, 67, 68, 69, 70, 71, 72, 73, 74, 75, 76, 77, 78, 79, 80, 81, 82, 83, 84, 85, 86, 87, 88, 89, 90, 91, 92, 93, 94, 95, 96, 97, 98, 99, 100, 101, 102, 103, 104, 105, 106, 107, 108, 109, 110, 111, 112, 113, 114, 115, 116, 117, 118, 119, 120, 121, 122, 123, 124, 125, 126, 127, 128, 129, 130, 131, 132, 133, 134, 135, 136, 137, 138, 139, 140, 141, 142, 143, 144, 145, 146, 147, 148, 149, 150, 151, 152] (by decide +kernel) (by decide +kernel)) (goodIn_sub (fun _ h => List.mem_cons_of_mem _ (List.mem_append_left _ (List.mem_append_left _ (List.mem_append_right _ h)))) (by decide +kernel))) (goodIn_sub (fun _ h => List.mem_cons_of_mem _ (List.mem_append_left _ (List.mem_append_right _ h))) (by decide +kernel))) (goodIn_sub (fun _ h => List.mem_cons_of_mem _ (List.mem_append_right _ h)) (by decide +kernel))
set_option maxRecDepth 20000 in
theorem gL_built_X2_built : GoodIn wsL_built (wsV RL 85 RX2 yX2_built wsX2_built) := goodIn_app (goodIn_of _ (by decide +kernel)) ggL_built_X2_built
theorem dL_built_0 : decode cL_built 0 = .ok (.aload 4, 2) := by decide +kernel
theorem dL_built_2 : decode cL_built 2 = .ok (.iconst 0, 1) := by decide +kernel
theorem dL_built_3 : decode cL_built 3 = .ok (.aload_n 0, 1) := by decide +kernel
theorem dL_built_4 : decode cL_built 4 = .ok (.iload_n 1, 1) := by decide +kernel
theorem dL_built_5 : decode cL_built 5 = .ok (.iload_n 2, 1) := by decide +kernel
theorem dL_built_6 : decode cL_built 6 = .ok (.iload_n 3, 1) := by decide +kernel
theorem dL_built_7 : decode cL_built 7 = .ok (.invokevirtual 85, 3) := by decide +kernel
theorem dL_built_10 : decode cL_built 10 = .ok (.i2l, 1) := by decide +kernel
theorem dL_built_11 : decode cL_built 11 = .ok (.lastore, 1) := by decide +kernel
theorem dL_built_12 : decode cL_built 12 = .ok (.goto 15, 3) := by decide +kernel
theorem dL_built_15 : decode cL_built 15 = .ok (.astore 5, 2) := by decide +kernel
theorem dL_built_17 : decode cL_built 17 = .ok (.iconst 1, 1) := by decide +kernel
theorem dL_built_18 : decode cL_built 18 = .ok (.ireturn, 1) := by decide +kernel
theorem dL_built_19 : decode cL_built 19 = .ok (.astore 5, 2) := by decide +kernel
theorem dL_built_21 : decode cL_built 21 = .ok (.iconst 2, 1) := by decide +kernel
theorem dL_built_22 : decode cL_built 22 = .ok (.ireturn, 1) := by decide +kernel
theorem dL_built_23 : decode cL_built 23 = .ok (.astore 5, 2) := by decide +kernel
theorem dL_built_25 : decode cL_built 25 = .ok (.iconst 3, 1) := by decide +kernel
theorem dL_built_26 : decode cL_built 26 = .ok (.ireturn, 1) := by decide +kernel
theorem dL_built_27 : decode cL_built 27 = .ok (.iconst 0, 1) := by decide +kernel
theorem dL_built_28 : decode cL_built 28 = .ok (.ireturn, 1) := by decide +kernel
set_option maxRecDepth 20000 in
theorem ggL_isHashed_X2_isHashed : GoodIn wsL_isHashed wsX2_isHashed := goodIn_ca (goodIn_r _ [6, 7, 8, 9, 10, 5, 11, 12, 13, 14, 15, 16, 17, 18, 19, 20, 21, 22, 23, 24, 25, 26, 27, 28, 29, 30, 31, 32, 33, 34, 35, 36, 37, 38, 39, 40, 41, 42, 43, 44, 45, 46, 47, 48, 49, 50, 51, 52, 53, 54, 55, 56, 57, 58, 59, 60, 61, 62, 63, 64, 65, 66, 67, 68, 69, 70, 71, 72, 73, 74, 75, 76, 77, 78, 79, 80, 81, 82, 83, 84, 85, 86, 87, 88, 89, 90, 91, 92, 93, 94, 95, 96] (by decide +kernel) (by decide +kernel)) (goodIn_sub (fun _ h => List.mem_cons_of_mem _ (List.mem_append_right _ h)) (by decide +kernel))
set_option maxRecDepth 20000 in
theorem gL_isHashed_X2_isHashed : GoodIn wsL_isHashed (wsV RL 88 RX2 yX2_isHashed wsX2_isHashed) := goodIn_app (goodIn_of _ (by decide +kernel)) ggL_isHashed_X2_isHashed
theorem dL_isHashed_0 : decode cL_isHashed 0 = .ok (.aload_n 2, 1) := by decide +kernel
theorem dL_isHashed_1 : decode cL_isHashed 1 = .ok (.iconst 0, 1) := by decide +kernel
theorem dL_isHashed_2 : decode cL_isHashed 2 = .ok (.aload_n 0, 1) := by decide +kernel
theorem dL_isHashed_3 : decode cL_isHashed 3 = .ok (.iload_n 1, 1) := by decide +kernel
theorem dL_isHashed_4 : decode cL_isHashed 4 = .ok (.invokevirtual 88, 3) := by decide +kernel
theorem dL_isHashed_7 : decode cL_isHashed 7 = .ok (.ifCond .eq 7, 3) := by decide +kernel
theorem dL_isHashed_10 : decode cL_isHashed 10 = .ok (.lconst 1, 1) := by decide +kernel
theorem dL_isHashed_11 : decode cL_isHashed 11 = .ok (.goto 4, 3) := by decide +kernel
theorem dL_isHashed_14 : decode cL_isHashed 14 = .ok (.lconst 0, 1) := by decide +kernel
theorem dL_isHashed_15 : decode cL_isHashed 15 = .ok (.lastore, 1) := by decide +kernel
theorem dL_isHashed_16 : decode cL_isHashed 16 = .ok (.goto 6, 3) := by decide +kernel
theorem dL_isHashed_19 : decode cL_isHashed 19 = .ok (.astore_n 3, 1) := by decide +kernel
theorem dL_isHashed_20 : decode cL_isHashed 20 = .ok (.iconst 1, 1) := by decide +kernel
theorem dL_isHashed_21 : decode cL_isHashed 21 = .ok (.ireturn, 1) := by decide +kernel
theorem dL_isHashed_22 : decode cL_isHashed 22 = .ok (.iconst 0, 1) := by decide +kernel
theorem dL_isHashed_23 : decode cL_isHashed 23 = .ok (.ireturn, 1) := by decide +kernel
set_option maxRecDepth 20000 in
theorem ggL_law_X2_init : GoodIn wsL_law wsX2_init := goodIn_r _ [9, 10, 11, 12, 13, 14, 15, 16, 17, 18, 19, 20, 21, 22, 23, 24, 25, 26, 27, 28, 29, 30, 31, 32, 33, 34, 35, 36, 37, 38, 39, 40, 41, 42, 43, 44, 45, 46, 47, 48, 49, 50, 51, 52, 53, 54, 55, 56, 57, 58, 2, 59, 60, 61, 62, 63, 64, 65, 66, 67, 68, 69, 70, 71, 72, 73, 74, 75, 76, 77, 78, 679, 680, 664, 665, 666, 667, 668, 669, 681, 682, 683, 684] (by decide +kernel) (by decide +kernel)
set_option maxRecDepth 20000 in
theorem gL_law_X2_init : GoodIn wsL_law (wsX2_init) := ggL_law_X2_init
set_option maxRecDepth 20000 in
theorem ggL_law_X3_init : GoodIn wsL_law wsX3_init := goodIn_r _ [81, 82, 11, 12, 29, 83, 84, 85, 20, 86, 87, 88, 89, 90, 91, 92, 670, 671, 672, 673, 674, 675, 676, 677, 678] (by decide +kernel) (by decide +kernel)
set_option maxRecDepth 20000 in
theorem gL_law_X3_init : GoodIn wsL_law (wsX3_init) := ggL_law_X3_init
set_option maxRecDepth 20000 in
theorem ggL_law_L_begin : GoodIn wsL_law wsL_begin := goodIn_ca (goodIn_r _ [96, 97, 98, 99, 100, 2, 101, 102, 16, 103, 104, 105, 106, 107, 108, 109, 110, 111, 112, 113, 15, 114, 31, 115, 116, 117, 118, 119, 120, 43, 44, 45, 30, 121, 51, 52, 53, 664, 665, 666, 667, 668, 669, 679, 680] (by decide +kernel) (by decide +kernel)) (goodIn_sub (fun _ h => List.mem_append_left _ (List.mem_append_left _ (List.mem_append_right _ h))) (by decide +kernel))
set_option maxRecDepth 20000 in
theorem gL_law_L_begin : GoodIn wsL_law (va_wsS RL 96 yL_begin wsL_begin) := goodIn_app (goodIn_of _ (by decide +kernel)) ggL_law_L_begin
set_option maxRecDepth 20000 in
theorem ggL_law_X3_begin : GoodIn wsL_law wsX3_begin := goodIn_r _ [125, 126, 83, 127, 128, 129, 5, 130, 131, 132, 133, 134, 135, 136, 137, 138, 139, 140, 141, 670, 671, 672, 673, 674, 675, 676, 677, 678] (by decide +kernel) (by decide +kernel)
set_option maxRecDepth 20000 in
theorem gL_law_X3_begin : GoodIn wsL_law (wsV RL 101 RX3 yX3_begin wsX3_begin) := goodIn_app (goodIn_of _ (by decide +kernel)) ggL_law_X3_begin
set_option maxRecDepth 20000 in
theorem ggL_law_X3_thrown : GoodIn wsL_law wsX3_thrown := goodIn_r _ [145, 135, 670, 671, 672, 673, 674, 675, 676, 677, 678] (by decide +kernel) (by decide +kernel)
set_option maxRecDepth 20000 in
theorem gL_law_X3_thrown : GoodIn wsL_law (wsV RL 102 RX3 yX3_thrown wsX3_thrown) := goodIn_app (goodIn_of _ (by decide +kernel)) ggL_law_X3_thrown
set_option maxRecDepth 20000 in
theorem ggL_law_L_add : GoodIn wsL_law wsL_add := goodIn_ca (goodIn_ca (goodIn_r _ [148, 97, 149, 150, 151, 152, 2, 153, 154, 16, 103, 104, 105, 106, 107, 108, 109, 110, 155, 156, 157, 158, 159, 160, 161, 162, 163, 164, 165, 166, 121, 51, 52, 15, 53, 31, 167, 168, 169, 170, 171, 55, 56, 57, 30, 58, 59, 172, 173, 174, 175, 176, 177, 178, 179, 180, 181, 182, 183, 43, 44, 45, 115, 116, 117, 118, 119, 120, 664, 665, 666, 667, 668, 669, 679, 680] (by decide +kernel) (by decide +kernel)) (goodIn_sub (fun _ h => List.mem_append_left _ (List.mem_append_left _ (List.mem_append_right _ h))) (by decide +kernel))) (goodIn_sub (fun _ h => List.mem_append_left _ (List.mem_append_right _ h)) (by decide +kernel))
set_option maxRecDepth 20000 in
theorem gL_law_L_add : GoodIn wsL_law (va_wsS RL 106 yL_add wsL_add) := goodIn_app (goodIn_of _ (by decide +kernel)) ggL_law_L_add
set_option maxRecDepth 20000 in
theorem ggL_law_X3_add : GoodIn wsL_law wsX3_add := goodIn_r _ [187, 188, 83, 127, 128, 129, 5, 130, 189, 190, 191, 192, 193, 194, 131, 132, 133, 134, 135, 139, 140, 141, 195, 196, 197, 198, 199, 200, 201, 202, 203, 204, 205, 136, 137, 138, 670, 671, 672, 673, 674, 675, 676, 677, 678] (by decide +kernel) (by decide +kernel)
set_option maxRecDepth 20000 in
theorem gL_law_X3_add : GoodIn wsL_law (wsV RL 109 RX3 yX3_add wsX3_add) := goodIn_app (goodIn_of _ (by decide +kernel)) ggL_law_X3_add
set_option maxRecDepth 20000 in
theorem ggL_law_L_word : GoodIn wsL_law wsL_word := goodIn_ca (goodIn_ca (goodIn_r _ [208, 97, 149, 209, 210, 211, 2, 212, 106, 107, 16, 155, 156, 157, 161, 162, 163, 164, 165, 166, 121, 51, 52, 15, 53, 31, 167, 168, 169, 170, 171, 55, 56, 57, 30, 58, 59, 172, 173, 174, 175, 176, 177, 178, 179, 180, 181, 182, 183, 43, 44, 45, 213, 214, 215, 216, 217, 218, 219, 120, 664, 665, 666, 667, 668, 669, 679, 680] (by decide +kernel) (by decide +kernel)) (goodIn_sub (fun _ h => List.mem_append_left _ (List.mem_append_left _ (List.mem_append_right _ h))) (by decide +kernel))) (goodIn_sub (fun _ h => List.mem_append_left _ (List.mem_append_right _ h)) (by decide +kernel))
set_option maxRecDepth 20000 in
theorem gL_law_L_word : GoodIn wsL_law (va_wsS RL 110 yL_word wsL_word) := goodIn_app (goodIn_of _ (by decide +kernel)) ggL_law_L_word
set_option maxRecDepth 20000 in
theorem ggL_law_X3_word : GoodIn wsL_law wsX3_word := goodIn_r _ [223, 224, 83, 127, 128, 129, 5, 130, 189, 190, 191, 192, 193, 194, 131, 132, 133, 134, 135, 195, 196, 197, 198, 199, 200, 201, 202, 203, 204, 205, 670, 671, 672, 673, 674, 675, 676, 677, 678] (by decide +kernel) (by decide +kernel)
set_option maxRecDepth 20000 in
theorem gL_law_X3_word : GoodIn wsL_law (wsV RL 112 RX3 yX3_word wsX3_word) := goodIn_app (goodIn_of _ (by decide +kernel)) ggL_law_X3_word
set_option maxRecDepth 20000 in
theorem ggL_law_X2_drop : GoodIn wsL_law wsX2_drop := goodIn_r _ [228, 16, 121, 51, 52, 15, 53, 31, 111, 112, 113, 114, 664, 665, 666, 667, 668, 669, 679, 680] (by decide +kernel) (by decide +kernel)
set_option maxRecDepth 20000 in
theorem gL_law_X2_drop : GoodIn wsL_law (wsV RL 113 RX2 yX2_drop wsX2_drop) := goodIn_app (goodIn_of _ (by decide +kernel)) ggL_law_X2_drop
set_option maxRecDepth 20000 in
theorem ggL_law_X3_drop : GoodIn wsL_law wsX3_drop := goodIn_r _ [232, 135, 127, 670, 671, 672, 673, 674, 675, 676, 677, 678] (by decide +kernel) (by decide +kernel)
set_option maxRecDepth 20000 in
theorem gL_law_X3_drop : GoodIn wsL_law (wsV RL 116 RX3 yX3_drop wsX3_drop) := goodIn_app (goodIn_of _ (by decide +kernel)) ggL_law_X3_drop
set_option maxRecDepth 20000 in
theorem ggL_law_L_sign : GoodIn wsL_law wsL_sign := goodIn_ca (goodIn_r _ [235, 236, 237, 238, 239, 2, 240, 16, 241, 242, 243, 244, 245, 121, 51, 52, 15, 53, 31, 246, 55, 56, 57, 30, 664, 665, 666, 667, 668, 669, 679, 680] (by decide +kernel) (by decide +kernel)) (goodIn_sub (fun _ h => List.mem_append_right _ h) (by decide +kernel))
set_option maxRecDepth 20000 in
theorem gL_law_L_sign : GoodIn wsL_law (va_wsS RL 117 yL_sign wsL_sign) := goodIn_app (goodIn_of _ (by decide +kernel)) ggL_law_L_sign
set_option maxRecDepth 20000 in
theorem ggL_law_X3_sign : GoodIn wsL_law wsX3_sign := goodIn_r _ [250, 127, 83, 128, 129, 5, 130, 131, 132, 133, 134, 135, 670, 671, 672, 673, 674, 675, 676, 677, 678] (by decide +kernel) (by decide +kernel)
set_option maxRecDepth 20000 in
theorem gL_law_X3_sign : GoodIn wsL_law (wsV RL 120 RX3 yX3_sign wsX3_sign) := goodIn_app (goodIn_of _ (by decide +kernel)) ggL_law_X3_sign
set_option maxRecDepth 20000 in
theorem ggL_law_L_parse : GoodIn wsL_law wsL_parse := goodIn_ca (goodIn_ca (goodIn_r _ [253, 236, 97, 254, 255, 256, 2, 257, 106, 107, 16, 25, 258, 259, 260, 244, 245, 121, 51, 52, 15, 53, 31, 261, 262, 263, 24, 264, 37, 265, 112, 113, 114, 266, 267, 268, 269, 270, 171, 55, 56, 57, 30, 120, 43, 44, 45, 271, 47, 48, 49, 41, 50, 54, 58, 59, 60, 61, 62, 63, 64, 65, 66, 39, 40, 67, 68, 69, 70, 71, 72, 73, 74, 75, 76, 77, 78, 272, 273, 274, 275, 18, 276, 277, 278, 279, 280, 281, 282, 283, 284, 285, 286, 287, 288, 289, 290, 291, 292, 293, 294, 295, 296, 297, 298, 299, 300, 301, 302, 303, 304, 305, 306, 307, 308, 309, 310, 311, 312, 664, 665, 666, 667, 668, 669, 679, 680, 681, 682, 683, 684] (by decide +kernel) (by decide +kernel)) (goodIn_sub (fun _ h => List.mem_append_left _ (List.mem_append_left _ (List.mem_append_right _ h))) (by decide +kernel))) (goodIn_sub (fun _ h => List.mem_append_right _ h) (by decide +kernel))
set_option maxRecDepth 20000 in
theorem gL_law_L_parse : GoodIn wsL_law (va_wsS RL 121 yL_parse wsL_parse) := goodIn_app (goodIn_of _ (by decide +kernel)) ggL_law_L_parse
set_option maxRecDepth 20000 in
theorem ggL_law_X3_parse : GoodIn wsL_law wsX3_parse := goodIn_r _ [316, 127, 83, 317, 318, 5, 319, 128, 129, 130, 131, 132, 133, 134, 135, 320, 321, 322, 323, 29, 85, 86, 324, 325, 326, 327, 88, 90, 91, 92, 192, 193, 194, 199, 200, 201, 328, 329, 330, 331, 332, 333, 334, 335, 20, 336, 337, 338, 339, 340, 341, 342, 343, 344, 345, 346, 347, 348, 349, 350, 351, 670, 671, 672, 673, 674, 675, 676, 677, 678] (by decide +kernel) (by decide +kernel)
set_option maxRecDepth 20000 in
theorem gL_law_X3_parse : GoodIn wsL_law (wsV RL 123 RX3 yX3_parse wsX3_parse) := goodIn_app (goodIn_of _ (by decide +kernel)) ggL_law_X3_parse
set_option maxRecDepth 20000 in
theorem ggL_law_L_triple : GoodIn wsL_law wsL_triple := goodIn_ca (goodIn_ca (goodIn_r _ [354, 236, 97, 355, 356, 357, 2, 358, 102, 25, 258, 259, 260, 244, 245, 103, 104, 105, 106, 107, 111, 112, 113, 15, 114, 31, 115, 116, 117, 118, 119, 120, 43, 44, 45, 30, 183, 271, 47, 48, 24, 49, 41, 37, 50, 51, 52, 53, 54, 55, 56, 57, 58, 59, 60, 61, 62, 63, 64, 65, 66, 39, 40, 67, 68, 69, 70, 71, 72, 73, 74, 75, 76, 77, 78, 272, 273, 274, 275, 18, 276, 277, 278, 279, 280, 281, 282, 283, 284, 285, 286, 287, 288, 289, 290, 291, 292, 293, 294, 295, 296, 297, 298, 299, 300, 301, 302, 303, 304, 305, 306, 307, 308, 309, 310, 311, 312, 664, 665, 666, 667, 668, 669, 681, 682, 683, 684, 679, 680] (by decide +kernel) (by decide +kernel)) (goodIn_sub (fun _ h => List.mem_append_right _ h) (by decide +kernel))) (goodIn_sub (fun _ h => List.mem_append_left _ (List.mem_append_left _ (List.mem_append_right _ h))) (by decide +kernel))
set_option maxRecDepth 20000 in
theorem gL_law_L_triple : GoodIn wsL_law (va_wsS RL 124 yL_triple wsL_triple) := goodIn_app (goodIn_of _ (by decide +kernel)) ggL_law_L_triple
set_option maxRecDepth 20000 in
theorem ggL_law_X3_triple : GoodIn wsL_law wsX3_triple := goodIn_r _ [362, 126, 29, 317, 318, 5, 319, 128, 129, 130, 131, 132, 133, 134, 135, 136, 137, 138, 139, 140, 141, 320, 321, 322, 323, 85, 86, 324, 325, 326, 327, 88, 90, 91, 92, 192, 193, 194, 199, 200, 201, 328, 329, 330, 331, 332, 333, 334, 335, 20, 336, 337, 338, 339, 340, 341, 342, 343, 344, 345, 346, 347, 348, 349, 350, 351, 670, 671, 672, 673, 674, 675, 676, 677, 678] (by decide +kernel) (by decide +kernel)
set_option maxRecDepth 20000 in
theorem gL_law_X3_triple : GoodIn wsL_law (wsV RL 127 RX3 yX3_triple wsX3_triple) := goodIn_app (goodIn_of _ (by decide +kernel)) ggL_law_X3_triple
set_option maxRecDepth 20000 in
theorem ggL_law_L_copy : GoodIn wsL_law wsL_copy := goodIn_ca (goodIn_r _ [365, 236, 366, 367, 368, 2, 369, 276, 277, 278, 279, 18, 258, 259, 260, 244, 245, 370, 371, 372, 373, 25, 261, 262, 263, 24, 264, 37, 265, 112, 113, 15, 114, 31, 266, 267, 268, 269, 270, 51, 52, 53, 171, 55, 56, 57, 30, 120, 43, 44, 45, 271, 47, 48, 49, 41, 50, 54, 58, 59, 60, 61, 62, 63, 64, 65, 66, 39, 40, 67, 68, 69, 70, 71, 72, 73, 74, 75, 76, 77, 78, 272, 273, 274, 275, 280, 281, 282, 283, 284, 285, 286, 287, 288, 289, 290, 291, 292, 293, 294, 295, 296, 297, 298, 299, 300, 301, 302, 303, 304, 305, 306, 307, 308, 309, 310, 311, 312, 664, 665, 666, 667, 668, 669, 681, 682, 683, 684, 679, 680] (by decide +kernel) (by decide +kernel)) (goodIn_sub (fun _ h => List.mem_append_right _ h) (by decide +kernel))
set_option maxRecDepth 20000 in
theorem gL_law_L_copy : GoodIn wsL_law (va_wsS RL 128 yL_copy wsL_copy) := goodIn_app (goodIn_of _ (by decide +kernel)) ggL_law_L_copy
set_option maxRecDepth 20000 in
theorem ggL_law_X3_copy : GoodIn wsL_law wsX3_copy := goodIn_r _ [377, 85, 86, 317, 318, 5, 319, 128, 129, 130, 131, 132, 133, 134, 135, 320, 321, 322, 323, 29, 324, 325, 326, 327, 88, 90, 91, 92, 192, 193, 194, 199, 200, 201, 328, 329, 330, 331, 332, 333, 334, 335, 20, 336, 337, 338, 339, 340, 341, 342, 343, 344, 345, 346, 347, 348, 349, 350, 351, 670, 671, 672, 673, 674, 675, 676, 677, 678] (by decide +kernel) (by decide +kernel)
set_option maxRecDepth 20000 in
theorem gL_law_X3_copy : GoodIn wsL_law (wsV RL 130 RX3 yX3_copy wsX3_copy) := goodIn_app (goodIn_of _ (by decide +kernel)) ggL_law_X3_copy
set_option maxRecDepth 20000 in
theorem ggL_law_L_size : GoodIn wsL_law wsL_size := goodIn_ca (goodIn_r _ [380, 236, 381, 382, 383, 2, 384, 276, 277, 278, 279, 18, 258, 259, 260, 244, 245, 121, 51, 52, 15, 53, 31, 681, 682, 683, 684, 664, 665, 666, 667, 668, 669, 679, 680] (by decide +kernel) (by decide +kernel)) (goodIn_sub (fun _ h => List.mem_append_right _ h) (by decide +kernel))
set_option maxRecDepth 20000 in
theorem gL_law_L_size : GoodIn wsL_law (va_wsS RL 131 yL_size wsL_size) := goodIn_app (goodIn_of _ (by decide +kernel)) ggL_law_L_size
set_option maxRecDepth 20000 in
theorem ggL_law_X3_size : GoodIn wsL_law wsX3_size := goodIn_r _ [388, 86, 317, 318, 5, 319, 128, 129, 130, 131, 132, 133, 134, 135, 670, 671, 672, 673, 674, 675, 676, 677, 678] (by decide +kernel) (by decide +kernel)
set_option maxRecDepth 20000 in
theorem gL_law_X3_size : GoodIn wsL_law (wsV RL 133 RX3 yX3_size wsX3_size) := goodIn_app (goodIn_of _ (by decide +kernel)) ggL_law_X3_size
set_option maxRecDepth 20000 in
theorem ggL_law_L_text : GoodIn wsL_law wsL_text := goodIn_ca (goodIn_r _ [391, 236, 392, 393, 394, 2, 395, 276, 277, 278, 279, 18, 258, 259, 260, 244, 245, 241, 242, 243, 121, 51, 52, 15, 53, 31, 246, 55, 56, 57, 30, 681, 682, 683, 684, 664, 665, 666, 667, 668, 669, 679, 680] (by decide +kernel) (by decide +kernel)) (goodIn_sub (fun _ h => List.mem_append_right _ h) (by decide +kernel))
set_option maxRecDepth 20000 in
theorem gL_law_L_text : GoodIn wsL_law (va_wsS RL 134 yL_text wsL_text) := goodIn_app (goodIn_of _ (by decide +kernel)) ggL_law_L_text
set_option maxRecDepth 20000 in
theorem ggL_law_X3_text : GoodIn wsL_law wsX3_text := goodIn_r _ [399, 86, 85, 317, 318, 5, 319, 128, 129, 130, 131, 132, 133, 134, 135, 670, 671, 672, 673, 674, 675, 676, 677, 678] (by decide +kernel) (by decide +kernel)
set_option maxRecDepth 20000 in
theorem gL_law_X3_text : GoodIn wsL_law (wsV RL 136 RX3 yX3_text wsX3_text) := goodIn_app (goodIn_of _ (by decide +kernel)) ggL_law_X3_text
set_option maxRecDepth 20000 in
theorem ggL_law_L_tokens : GoodIn wsL_law wsL_tokens := goodIn_ca (goodIn_ca (goodIn_r _ [402, 236, 97, 403, 404, 405, 2, 406, 276, 277, 278, 279, 18, 258, 259, 260, 244, 245, 407, 408, 409, 106, 107, 410, 68, 69, 24, 70, 41, 664, 665, 666, 667, 668, 669, 681, 682, 683, 684] (by decide +kernel) (by decide +kernel)) (goodIn_sub (fun _ h => List.mem_append_right _ h) (by decide +kernel))) (goodIn_sub (fun _ h => List.mem_append_left _ (List.mem_append_left _ (List.mem_append_right _ h))) (by decide +kernel))
set_option maxRecDepth 20000 in
theorem gL_law_L_tokens : GoodIn wsL_law (va_wsS RL 137 yL_tokens wsL_tokens) := goodIn_app (goodIn_of _ (by decide +kernel)) ggL_law_L_tokens
set_option maxRecDepth 20000 in
theorem ggL_law_X3_tokens : GoodIn wsL_law wsX3_tokens := goodIn_r _ [414, 90, 317, 318, 5, 319, 128, 129, 130, 131, 132, 133, 134, 135, 328, 329, 330, 331, 85, 86, 324, 325, 326, 327, 88, 91, 92, 192, 193, 194, 199, 200, 201, 670, 671, 672, 673, 674, 675, 676, 677, 678] (by decide +kernel) (by decide +kernel)
set_option maxRecDepth 20000 in
theorem gL_law_X3_tokens : GoodIn wsL_law (wsV RL 139 RX3 yX3_tokens wsX3_tokens) := goodIn_app (goodIn_of _ (by decide +kernel)) ggL_law_X3_tokens
set_option maxRecDepth 20000 in
theorem ggL_law_L_token : GoodIn wsL_law wsL_token := goodIn_ca (goodIn_ca (goodIn_r _ [417, 236, 97, 418, 419, 420, 2, 421, 244, 245, 276, 277, 278, 279, 18, 258, 259, 260, 407, 408, 409, 106, 107, 410, 68, 69, 24, 70, 41, 422, 297, 298, 299, 40, 75, 76, 77, 78, 664, 665, 666, 667, 668, 669, 681, 682, 683, 684] (by decide +kernel) (by decide +kernel)) (goodIn_sub (fun _ h => List.mem_append_right _ h) (by decide +kernel))) (goodIn_sub (fun _ h => List.mem_append_left _ (List.mem_append_left _ (List.mem_append_right _ h))) (by decide +kernel))
set_option maxRecDepth 20000 in
theorem gL_law_L_token : GoodIn wsL_law (va_wsS RL 140 yL_token wsL_token) := goodIn_app (goodIn_of _ (by decide +kernel)) ggL_law_L_token
set_option maxRecDepth 20000 in
theorem ggL_law_X3_token : GoodIn wsL_law wsX3_token := goodIn_r _ [426, 90, 92, 91, 317, 318, 5, 319, 128, 129, 130, 131, 132, 133, 134, 135, 328, 329, 330, 331, 85, 86, 324, 325, 326, 327, 88, 192, 193, 194, 199, 200, 201, 340, 341, 342, 343, 344, 345, 346, 347, 670, 671, 672, 673, 674, 675, 676, 677, 678] (by decide +kernel) (by decide +kernel)
set_option maxRecDepth 20000 in
theorem gL_law_X3_token : GoodIn wsL_law (wsV RL 143 RX3 yX3_token wsX3_token) := goodIn_app (goodIn_of _ (by decide +kernel)) ggL_law_X3_token
set_option maxRecDepth 20000 in
theorem ggL_law_L_compare : GoodIn wsL_law wsL_compare := goodIn_ca (goodIn_r _ [429, 236, 430, 431, 432, 2, 433, 276, 277, 278, 279, 18, 258, 259, 260, 244, 245, 280, 281, 282, 24, 283, 284, 285, 286, 287, 288, 289, 290, 291, 292, 293, 294, 295, 67, 68, 69, 70, 41, 296, 297, 298, 299, 40, 75, 76, 77, 78, 300, 301, 302, 303, 37, 304, 305, 306, 307, 39, 54, 55, 56, 15, 57, 31, 30, 308, 309, 310, 311, 312, 664, 665, 666, 667, 668, 669, 681, 682, 683, 684, 679, 680] (by decide +kernel) (by decide +kernel)) (goodIn_sub (fun _ h => List.mem_append_right _ h) (by decide +kernel))
set_option maxRecDepth 20000 in
theorem gL_law_L_compare : GoodIn wsL_law (va_wsS RL 144 yL_compare wsL_compare) := goodIn_app (goodIn_of _ (by decide +kernel)) ggL_law_L_compare
set_option maxRecDepth 20000 in
theorem ggL_law_X3_compare : GoodIn wsL_law wsX3_compare := goodIn_r _ [437, 317, 318, 5, 319, 128, 129, 130, 131, 132, 133, 134, 135, 438, 439, 440, 441, 328, 329, 330, 331, 85, 86, 324, 325, 326, 327, 88, 90, 91, 92, 192, 193, 194, 199, 200, 201, 332, 333, 334, 335, 20, 336, 337, 338, 339, 340, 341, 342, 343, 344, 345, 346, 347, 348, 349, 350, 351, 670, 671, 672, 673, 674, 675, 676, 677, 678] (by decide +kernel) (by decide +kernel)
set_option maxRecDepth 20000 in
theorem gL_law_X3_compare : GoodIn wsL_law (wsV RL 146 RX3 yX3_compare wsX3_compare) := goodIn_app (goodIn_of _ (by decide +kernel)) ggL_law_X3_compare
set_option maxRecDepth 20000 in
theorem ggL_law_L_isSame : GoodIn wsL_law wsL_isSame := goodIn_ca (goodIn_r _ [444, 236, 445, 446, 447, 2, 448, 276, 277, 278, 279, 18, 258, 259, 260, 244, 245, 280, 281, 282, 24, 283, 284, 285, 286, 287, 288, 289, 290, 291, 292, 293, 294, 295, 67, 68, 69, 70, 41, 296, 297, 298, 299, 40, 75, 76, 77, 78, 300, 301, 302, 303, 37, 304, 305, 306, 307, 39, 54, 55, 56, 15, 57, 31, 30, 308, 309, 310, 311, 312, 664, 665, 666, 667, 668, 669, 681, 682, 683, 684, 679, 680] (by decide +kernel) (by decide +kernel)) (goodIn_sub (fun _ h => List.mem_append_right _ h) (by decide +kernel))
set_option maxRecDepth 20000 in
theorem gL_law_L_isSame : GoodIn wsL_law (va_wsS RL 147 yL_isSame wsL_isSame) := goodIn_app (goodIn_of _ (by decide +kernel)) ggL_law_L_isSame
set_option maxRecDepth 20000 in
theorem ggL_law_X3_isSame : GoodIn wsL_law wsX3_isSame := goodIn_r _ [452, 317, 318, 5, 319, 128, 129, 130, 131, 132, 133, 134, 135, 438, 439, 440, 441, 328, 329, 330, 331, 85, 86, 324, 325, 326, 327, 88, 90, 91, 92, 192, 193, 194, 199, 200, 201, 332, 333, 334, 335, 20, 336, 337, 338, 339, 340, 341, 342, 343, 344, 345, 346, 347, 348, 349, 350, 351, 670, 671, 672, 673, 674, 675, 676, 677, 678] (by decide +kernel) (by decide +kernel)
set_option maxRecDepth 20000 in
theorem gL_law_X3_isSame : GoodIn wsL_law (wsV RL 149 RX3 yX3_isSame wsX3_isSame) := goodIn_app (goodIn_of _ (by decide +kernel)) ggL_law_X3_isSame
set_option maxRecDepth 20000 in
theorem ggL_law_L_apart : GoodIn wsL_law wsL_apart := goodIn_ca (goodIn_r _ [455, 236, 456, 457, 458, 2, 459, 276, 277, 278, 279, 18, 258, 259, 260, 244, 245, 460, 461, 462, 24, 463, 284, 285, 286, 287, 288, 289, 290, 291, 292, 293, 294, 295, 67, 68, 69, 70, 41, 296, 297, 298, 299, 40, 75, 76, 77, 78, 300, 301, 302, 303, 37, 304, 305, 306, 307, 39, 54, 55, 56, 15, 57, 31, 30, 308, 309, 310, 311, 312, 664, 665, 666, 667, 668, 669, 681, 682, 683, 684, 679, 680] (by decide +kernel) (by decide +kernel)) (goodIn_sub (fun _ h => List.mem_append_right _ h) (by decide +kernel))
set_option maxRecDepth 20000 in
theorem gL_law_L_apart : GoodIn wsL_law (va_wsS RL 150 yL_apart wsL_apart) := goodIn_app (goodIn_of _ (by decide +kernel)) ggL_law_L_apart
set_option maxRecDepth 20000 in
theorem ggL_law_X3_apart : GoodIn wsL_law wsX3_apart := goodIn_r _ [467, 317, 318, 5, 319, 128, 129, 130, 131, 132, 133, 134, 135, 328, 329, 330, 331, 85, 86, 324, 325, 326, 327, 88, 90, 91, 92, 192, 193, 194, 199, 200, 201, 332, 333, 334, 335, 20, 336, 337, 338, 339, 340, 341, 342, 343, 344, 345, 346, 347, 348, 349, 350, 351, 670, 671, 672, 673, 674, 675, 676, 677, 678] (by decide +kernel) (by decide +kernel)
set_option maxRecDepth 20000 in
theorem gL_law_X3_apart : GoodIn wsL_law (wsV RL 152 RX3 yX3_apart wsX3_apart) := goodIn_app (goodIn_of _ (by decide +kernel)) ggL_law_X3_apart
set_option maxRecDepth 20000 in
theorem ggL_law_L_rank : GoodIn wsL_law wsL_rank := goodIn_ca (goodIn_r _ [470, 236, 471, 472, 473, 2, 474, 18, 276, 277, 278, 279, 258, 259, 260, 244, 245, 280, 281, 282, 24, 283, 284, 285, 286, 287, 288, 289, 290, 291, 292, 293, 294, 295, 67, 68, 69, 70, 41, 296, 297, 298, 299, 40, 75, 76, 77, 78, 300, 301, 302, 303, 37, 304, 305, 306, 307, 39, 54, 55, 56, 15, 57, 31, 30, 308, 309, 310, 311, 312, 664, 665, 666, 667, 668, 669, 681, 682, 683, 684, 679, 680] (by decide +kernel) (by decide +kernel)) (goodIn_sub (fun _ h => List.mem_append_right _ h) (by decide +kernel))
set_option maxRecDepth 20000 in
theorem gL_law_L_rank : GoodIn wsL_law (va_wsS RL 153 yL_rank wsL_rank) := goodIn_app (goodIn_of _ (by decide +kernel)) ggL_law_L_rank
set_option maxRecDepth 20000 in
theorem ggL_law_X3_rank : GoodIn wsL_law wsX3_rank := goodIn_r _ [478, 317, 318, 5, 319, 128, 129, 130, 131, 132, 133, 134, 135, 438, 439, 440, 441, 328, 329, 330, 331, 85, 86, 324, 325, 326, 327, 88, 90, 91, 92, 192, 193, 194, 199, 200, 201, 332, 333, 334, 335, 20, 336, 337, 338, 339, 340, 341, 342, 343, 344, 345, 346, 347, 348, 349, 350, 351, 670, 671, 672, 673, 674, 675, 676, 677, 678] (by decide +kernel) (by decide +kernel)
set_option maxRecDepth 20000 in
theorem gL_law_X3_rank : GoodIn wsL_law (wsV RL 155 RX3 yX3_rank wsX3_rank) := goodIn_app (goodIn_of _ (by decide +kernel)) ggL_law_X3_rank
set_option maxRecDepth 20000 in
theorem ggL_law_L_at : GoodIn wsL_law wsL_at := goodIn_ca (goodIn_r _ [481, 236, 482, 483, 484, 2, 485, 244, 245, 21, 486, 487, 488, 489, 18, 276, 277, 278, 279, 258, 259, 260, 280, 281, 282, 24, 283, 284, 285, 286, 287, 288, 289, 290, 291, 292, 293, 294, 295, 67, 68, 69, 70, 41, 296, 297, 298, 299, 40, 75, 76, 77, 78, 300, 301, 302, 303, 37, 304, 305, 306, 307, 39, 54, 55, 56, 15, 57, 31, 30, 308, 309, 310, 311, 312, 664, 665, 666, 667, 668, 669, 681, 682, 683, 684, 679, 680] (by decide +kernel) (by decide +kernel)) (goodIn_sub (fun _ h => List.mem_append_right _ h) (by decide +kernel))
set_option maxRecDepth 20000 in
theorem gL_law_L_at : GoodIn wsL_law (va_wsS RL 156 yL_at wsL_at) := goodIn_app (goodIn_of _ (by decide +kernel)) ggL_law_L_at
set_option maxRecDepth 20000 in
theorem ggL_law_X3_at : GoodIn wsL_law wsX3_at := goodIn_r _ [493, 317, 318, 5, 319, 128, 129, 130, 131, 132, 133, 134, 135, 494, 495, 496, 497, 438, 439, 440, 441, 328, 329, 330, 331, 85, 86, 324, 325, 326, 327, 88, 90, 91, 92, 192, 193, 194, 199, 200, 201, 332, 333, 334, 335, 20, 336, 337, 338, 339, 340, 341, 342, 343, 344, 345, 346, 347, 348, 349, 350, 351, 670, 671, 672, 673, 674, 675, 676, 677, 678] (by decide +kernel) (by decide +kernel)
set_option maxRecDepth 20000 in
theorem gL_law_X3_at : GoodIn wsL_law (wsV RL 158 RX3 yX3_at wsX3_at) := goodIn_app (goodIn_of _ (by decide +kernel)) ggL_law_X3_at
set_option maxRecDepth 20000 in
theorem ggL_law_X2_sort : GoodIn wsL_law wsX2_sort := goodIn_ca (goodIn_r _ [501, 19, 21, 18, 486, 487, 488, 2, 489, 276, 277, 278, 279, 258, 259, 260, 244, 245, 280, 281, 282, 24, 283, 284, 285, 286, 287, 288, 289, 290, 291, 292, 293, 294, 295, 67, 68, 69, 70, 41, 296, 297, 298, 299, 40, 75, 76, 77, 78, 300, 301, 302, 303, 37, 304, 305, 306, 307, 39, 54, 55, 56, 15, 57, 31, 30, 308, 309, 310, 311, 312, 664, 665, 666, 667, 668, 669, 681, 682, 683, 684, 679, 680] (by decide +kernel) (by decide +kernel)) (goodIn_sub (fun _ h => List.mem_append_right _ h) (by decide +kernel))
set_option maxRecDepth 20000 in
theorem gL_law_X2_sort : GoodIn wsL_law (wsV RL 159 RX2 yX2_sort wsX2_sort) := goodIn_app (goodIn_of _ (by decide +kernel)) ggL_law_X2_sort
set_option maxRecDepth 20000 in
theorem ggL_law_X3_sort : GoodIn wsL_law wsX3_sort := goodIn_r _ [505, 135, 87, 20, 85, 86, 494, 495, 496, 5, 497, 438, 439, 440, 441, 328, 329, 330, 331, 324, 325, 326, 327, 88, 90, 91, 92, 192, 193, 194, 199, 200, 201, 332, 333, 334, 335, 336, 337, 338, 339, 340, 341, 342, 343, 344, 345, 346, 347, 348, 349, 350, 351, 670, 671, 672, 673, 674, 675, 676, 677, 678] (by decide +kernel) (by decide +kernel)
set_option maxRecDepth 20000 in
theorem gL_law_X3_sort : GoodIn wsL_law (wsV RL 162 RX3 yX3_sort wsX3_sort) := goodIn_app (goodIn_of _ (by decide +kernel)) ggL_law_X3_sort
set_option maxRecDepth 20000 in
theorem ggL_law_L_between : GoodIn wsL_law wsL_between := goodIn_ca (goodIn_r _ [508, 236, 509, 510, 511, 2, 512, 18, 276, 277, 278, 279, 258, 259, 260, 244, 245, 280, 281, 282, 24, 283, 284, 285, 286, 287, 288, 289, 290, 291, 292, 293, 294, 295, 67, 68, 69, 70, 41, 296, 297, 298, 299, 40, 75, 76, 77, 78, 300, 301, 302, 303, 37, 304, 305, 306, 307, 39, 54, 55, 56, 15, 57, 31, 30, 308, 309, 310, 311, 312, 664, 665, 666, 667, 668, 669, 681, 682, 683, 684, 679, 680] (by decide +kernel) (by decide +kernel)) (goodIn_sub (fun _ h => List.mem_append_right _ h) (by decide +kernel))
set_option maxRecDepth 20000 in
theorem gL_law_L_between : GoodIn wsL_law (va_wsS RL 163 yL_between wsL_between) := goodIn_app (goodIn_of _ (by decide +kernel)) ggL_law_L_between
set_option maxRecDepth 20000 in
theorem ggL_law_X3_between : GoodIn wsL_law wsX3_between := goodIn_r _ [516, 317, 318, 5, 319, 128, 129, 130, 131, 132, 133, 134, 135, 438, 439, 440, 441, 328, 329, 330, 331, 85, 86, 324, 325, 326, 327, 88, 90, 91, 92, 192, 193, 194, 199, 200, 201, 332, 333, 334, 335, 20, 336, 337, 338, 339, 340, 341, 342, 343, 344, 345, 346, 347, 348, 349, 350, 351, 670, 671, 672, 673, 674, 675, 676, 677, 678] (by decide +kernel) (by decide +kernel)
set_option maxRecDepth 20000 in
theorem gL_law_X3_between : GoodIn wsL_law (wsV RL 165 RX3 yX3_between wsX3_between) := goodIn_app (goodIn_of _ (by decide +kernel)) ggL_law_X3_between
set_option maxRecDepth 20000 in
theorem ggL_law_L_zero : GoodIn wsL_law wsL_zero := goodIn_ca (goodIn_ca (goodIn_r _ [519, 236, 149, 520, 521, 522, 2, 523, 25, 276, 277, 278, 279, 18, 258, 259, 260, 244, 245, 158, 159, 160, 176, 177, 178, 165, 166, 121, 51, 52, 15, 53, 31, 524, 525, 526, 527, 261, 262, 263, 24, 264, 37, 265, 112, 113, 114, 266, 267, 268, 269, 270, 171, 55, 56, 57, 30, 120, 43, 44, 45, 183, 115, 116, 117, 118, 119, 271, 47, 48, 49, 41, 50, 54, 58, 59, 60, 61, 62, 63, 64, 65, 66, 39, 40, 67, 68, 69, 70, 71, 72, 73, 74, 75, 76, 77, 78, 280, 281, 282, 283, 284, 285, 286, 287, 288, 289, 290, 291, 292, 293, 294, 295, 296, 297, 298, 299, 300, 301, 302, 303, 304, 305, 306, 307, 308, 309, 310, 311, 312, 272, 273, 274, 275, 681, 682, 683, 684, 664, 665, 666, 667, 668, 669, 679, 680] (by decide +kernel) (by decide +kernel)) (goodIn_sub (fun _ h => List.mem_append_right _ h) (by decide +kernel))) (goodIn_sub (fun _ h => List.mem_append_left _ (List.mem_append_right _ h)) (by decide +kernel))
set_option maxRecDepth 20000 in
theorem gL_law_L_zero : GoodIn wsL_law (va_wsS RL 166 yL_zero wsL_zero) := goodIn_app (goodIn_of _ (by decide +kernel)) ggL_law_L_zero
set_option maxRecDepth 20000 in
theorem ggL_law_X3_zero : GoodIn wsL_law wsX3_zero := goodIn_r _ [531, 317, 318, 5, 319, 128, 129, 130, 131, 132, 133, 134, 135, 532, 533, 534, 535, 86, 139, 140, 141, 536, 537, 538, 539, 540, 541, 542, 543, 29, 85, 136, 137, 138, 544, 545, 546, 547, 324, 325, 326, 327, 88, 90, 91, 92, 192, 193, 194, 199, 200, 201, 328, 329, 330, 331, 332, 333, 334, 335, 20, 336, 337, 338, 339, 340, 341, 342, 343, 344, 345, 346, 347, 348, 349, 350, 351, 670, 671, 672, 673, 674, 675, 676, 677, 678] (by decide +kernel) (by decide +kernel)
set_option maxRecDepth 20000 in
theorem gL_law_X3_zero : GoodIn wsL_law (wsV RL 168 RX3 yX3_zero wsX3_zero) := goodIn_app (goodIn_of _ (by decide +kernel)) ggL_law_X3_zero
set_option maxRecDepth 20000 in
theorem ggL_law_L_longer : GoodIn wsL_law wsL_longer := goodIn_ca (goodIn_ca (goodIn_ca (goodIn_r _ [550, 236, 97, 149, 551, 552, 553, 2, 554, 25, 276, 277, 278, 279, 18, 258, 259, 260, 244, 245, 103, 104, 105, 106, 107, 158, 159, 160, 176, 177, 178, 165, 166, 121, 51, 52, 15, 53, 31, 524, 525, 526, 527, 261, 262, 263, 24, 264, 37, 265, 112, 113, 114, 266, 267, 268, 269, 270, 171, 55, 56, 57, 30, 120, 43, 44, 45, 183, 115, 116, 117, 118, 119, 271, 47, 48, 49, 41, 50, 54, 58, 59, 60, 61, 62, 63, 64, 65, 66, 39, 40, 67, 68, 69, 70, 71, 72, 73, 74, 75, 76, 77, 78, 280, 281, 282, 283, 284, 285, 286, 287, 288, 289, 290, 291, 292, 293, 294, 295, 296, 297, 298, 299, 300, 301, 302, 303, 304, 305, 306, 307, 308, 309, 310, 311, 312, 272, 273, 274, 275, 681, 682, 683, 684, 664, 665, 666, 667, 668, 669, 679, 680] (by decide +kernel) (by decide +kernel)) (goodIn_sub (fun _ h => List.mem_append_right _ h) (by decide +kernel))) (goodIn_sub (fun _ h => List.mem_append_left _ (List.mem_append_left _ (List.mem_append_right _ h))) (by decide +kernel))) (goodIn_sub (fun _ h => List.mem_append_left _ (List.mem_append_right _ h)) (by decide +kernel))
set_option maxRecDepth 20000 in
theorem gL_law_L_longer : GoodIn wsL_law (va_wsS RL 169 yL_longer wsL_longer) := goodIn_app (goodIn_of _ (by decide +kernel)) ggL_law_L_longer
set_option maxRecDepth 20000 in
theorem ggL_law_X3_longer_ : GoodIn wsL_law wsX3_longer_ := goodIn_r _ [558, 317, 318, 5, 319, 128, 129, 130, 131, 132, 133, 134, 135, 532, 533, 534, 535, 86, 139, 140, 141, 536, 537, 538, 539, 540, 541, 542, 543, 29, 85, 136, 137, 138, 544, 545, 546, 547, 324, 325, 326, 327, 88, 90, 91, 92, 192, 193, 194, 199, 200, 201, 328, 329, 330, 331, 332, 333, 334, 335, 20, 336, 337, 338, 339, 340, 341, 342, 343, 344, 345, 346, 347, 348, 349, 350, 351, 670, 671, 672, 673, 674, 675, 676, 677, 678] (by decide +kernel) (by decide +kernel)
set_option maxRecDepth 20000 in
theorem gL_law_X3_longer_ : GoodIn wsL_law (wsV RL 171 RX3 yX3_longer_ wsX3_longer_) := goodIn_app (goodIn_of _ (by decide +kernel)) ggL_law_X3_longer_
set_option maxRecDepth 20000 in
theorem ggL_law_L_early : GoodIn wsL_law wsL_early := goodIn_ca (goodIn_ca (goodIn_ca (goodIn_r _ [561, 236, 97, 149, 562, 563, 564, 2, 565, 106, 107, 165, 166, 25, 276, 277, 278, 279, 18, 258, 259, 260, 244, 245, 566, 293, 294, 24, 295, 67, 68, 69, 70, 41, 176, 177, 178, 121, 51, 52, 15, 53, 31, 567, 568, 569, 570, 261, 262, 263, 264, 37, 265, 112, 113, 114, 266, 267, 268, 269, 270, 171, 55, 56, 57, 30, 120, 43, 44, 45, 183, 271, 47, 48, 49, 50, 54, 58, 59, 60, 61, 62, 63, 64, 65, 66, 39, 40, 71, 72, 73, 74, 75, 76, 77, 78, 280, 281, 282, 283, 284, 285, 286, 287, 288, 289, 290, 291, 292, 296, 297, 298, 299, 300, 301, 302, 303, 304, 305, 306, 307, 308, 309, 310, 311, 312, 272, 273, 274, 275, 681, 682, 683, 684, 664, 665, 666, 667, 668, 669, 679, 680] (by decide +kernel) (by decide +kernel)) (goodIn_sub (fun _ h => List.mem_append_left _ (List.mem_append_left _ (List.mem_append_right _ h))) (by decide +kernel))) (goodIn_sub (fun _ h => List.mem_append_left _ (List.mem_append_right _ h)) (by decide +kernel))) (goodIn_sub (fun _ h => List.mem_append_right _ h) (by decide +kernel))
set_option maxRecDepth 20000 in
theorem gL_law_L_early : GoodIn wsL_law (va_wsS RL 172 yL_early wsL_early) := goodIn_app (goodIn_of _ (by decide +kernel)) ggL_law_L_early
set_option maxRecDepth 20000 in
theorem ggL_law_X3_early : GoodIn wsL_law wsX3_early := goodIn_r _ [574, 90, 86, 317, 318, 5, 319, 128, 129, 130, 131, 132, 133, 134, 135, 328, 329, 330, 331, 85, 324, 325, 326, 327, 88, 91, 92, 192, 193, 194, 199, 200, 201, 540, 541, 542, 543, 29, 544, 545, 546, 547, 332, 333, 334, 335, 20, 336, 337, 338, 339, 340, 341, 342, 343, 344, 345, 346, 347, 348, 349, 350, 351, 670, 671, 672, 673, 674, 675, 676, 677, 678] (by decide +kernel) (by decide +kernel)
set_option maxRecDepth 20000 in
theorem gL_law_X3_early : GoodIn wsL_law (wsV RL 175 RX3 yX3_early wsX3_early) := goodIn_app (goodIn_of _ (by decide +kernel)) ggL_law_X3_early
set_option maxRecDepth 20000 in
theorem ggL_law_L_built : GoodIn wsL_law wsL_built := goodIn_ca (goodIn_ca (goodIn_ca (goodIn_r _ [577, 236, 97, 149, 578, 579, 580, 2, 581, 165, 166, 25, 276, 277, 278, 279, 18, 258, 259, 260, 244, 245, 103, 104, 105, 106, 107, 566, 293, 294, 24, 295, 67, 68, 69, 70, 41, 158, 159, 160, 176, 177, 178, 121, 51, 52, 15, 53, 31, 524, 525, 526, 527, 261, 262, 263, 264, 37, 265, 112, 113, 114, 266, 267, 268, 269, 270, 171, 55, 56, 57, 30, 120, 43, 44, 45, 183, 115, 116, 117, 118, 119, 271, 47, 48, 49, 50, 54, 58, 59, 60, 61, 62, 63, 64, 65, 66, 39, 40, 71, 72, 73, 74, 75, 76, 77, 78, 280, 281, 282, 283, 284, 285, 286, 287, 288, 289, 290, 291, 292, 296, 297, 298, 299, 300, 301, 302, 303, 304, 305, 306, 307, 308, 309, 310, 311, 312, 272, 273, 274, 275, 681, 682, 683, 684, 664, 665, 666, 667, 668, 669, 679, 680] (by decide +kernel) (by decide +kernel)) (goodIn_sub (fun _ h => List.mem_append_left _ (List.mem_append_right _ h)) (by decide +kernel))) (goodIn_sub (fun _ h => List.mem_append_right _ h) (by decide +kernel))) (goodIn_sub (fun _ h => List.mem_append_left _ (List.mem_append_left _ (List.mem_append_right _ h))) (by decide +kernel))
set_option maxRecDepth 20000 in
theorem gL_law_L_built : GoodIn wsL_law (va_wsS RL 176 yL_built wsL_built) := goodIn_app (goodIn_of _ (by decide +kernel)) ggL_law_L_built
set_option maxRecDepth 20000 in
theorem ggL_law_X3_built : GoodIn wsL_law wsX3_built := goodIn_r _ [585, 90, 317, 318, 5, 319, 128, 129, 130, 131, 132, 133, 134, 135, 328, 329, 330, 331, 85, 86, 324, 325, 326, 327, 88, 91, 92, 192, 193, 194, 199, 200, 201, 532, 533, 534, 535, 139, 140, 141, 536, 537, 538, 539, 540, 541, 542, 543, 29, 136, 137, 138, 544, 545, 546, 547, 332, 333, 334, 335, 20, 336, 337, 338, 339, 340, 341, 342, 343, 344, 345, 346, 347, 348, 349, 350, 351, 670, 671, 672, 673, 674, 675, 676, 677, 678] (by decide +kernel) (by decide +kernel)
set_option maxRecDepth 20000 in
theorem gL_law_X3_built : GoodIn wsL_law (wsV RL 178 RX3 yX3_built wsX3_built) := goodIn_app (goodIn_of _ (by decide +kernel)) ggL_law_X3_built
set_option maxRecDepth 20000 in
theorem ggL_law_L_isHashed : GoodIn wsL_law wsL_isHashed := goodIn_ca (goodIn_r _ [588, 236, 589, 590, 591, 2, 592, 25, 276, 277, 278, 279, 18, 258, 259, 260, 244, 245, 370, 371, 372, 373, 261, 262, 263, 24, 264, 37, 265, 112, 113, 15, 114, 31, 266, 267, 268, 269, 270, 51, 52, 53, 171, 55, 56, 57, 30, 120, 43, 44, 45, 271, 47, 48, 49, 41, 50, 54, 58, 59, 60, 61, 62, 63, 64, 65, 66, 39, 40, 67, 68, 69, 70, 71, 72, 73, 74, 75, 76, 77, 78, 593, 594, 595, 596, 664, 665, 666, 667, 668, 669, 681, 682, 683, 684, 679, 680] (by decide +kernel) (by decide +kernel)) (goodIn_sub (fun _ h => List.mem_append_right _ h) (by decide +kernel))
set_option maxRecDepth 20000 in
theorem gL_law_L_isHashed : GoodIn wsL_law (va_wsS RL 179 yL_isHashed wsL_isHashed) := goodIn_app (goodIn_of _ (by decide +kernel)) ggL_law_L_isHashed
set_option maxRecDepth 20000 in
theorem ggL_law_X3_isHashed : GoodIn wsL_law wsX3_isHashed := goodIn_r _ [600, 317, 318, 5, 319, 128, 129, 130, 131, 132, 133, 134, 135, 670, 671, 672, 673, 674, 675, 676, 677, 678] (by decide +kernel) (by decide +kernel)
set_option maxRecDepth 20000 in
theorem gL_law_X3_isHashed : GoodIn wsL_law (wsV RL 181 RX3 yX3_isHashed wsX3_isHashed) := goodIn_app (goodIn_of _ (by decide +kernel)) ggL_law_X3_isHashed
set_option maxRecDepth 20000 in
theorem ggL_law_X2_wordShare : GoodIn wsL_law wsX2_wordShare := goodIn_r _ [604, 18, 605, 606, 607, 24, 608, 41, 40, 609, 610, 611, 612, 664, 665, 666, 667, 668, 669, 681, 682, 683, 684] (by decide +kernel) (by decide +kernel)
set_option maxRecDepth 20000 in
theorem gL_law_X2_wordShare : GoodIn wsL_law (wsV RL 182 RX2 yX2_wordShare wsX2_wordShare) := goodIn_app (goodIn_of _ (by decide +kernel)) ggL_law_X2_wordShare
set_option maxRecDepth 20000 in
theorem ggL_law_X3_wordShare : GoodIn wsL_law wsX3_wordShare := goodIn_r _ [616, 135, 90, 328, 329, 330, 5, 331, 85, 86, 324, 325, 326, 327, 88, 91, 92, 192, 193, 194, 199, 200, 201, 340, 341, 342, 343, 670, 671, 672, 673, 674, 675, 676, 677, 678] (by decide +kernel) (by decide +kernel)
set_option maxRecDepth 20000 in
theorem gL_law_X3_wordShare : GoodIn wsL_law (wsV RL 186 RX3 yX3_wordShare wsX3_wordShare) := goodIn_app (goodIn_of _ (by decide +kernel)) ggL_law_X3_wordShare
set_option maxRecDepth 20000 in
theorem ggL_law_X2_checksum : GoodIn wsL_law wsX2_checksum := goodIn_r _ [620, 16, 621, 18, 622, 623, 624, 15, 625, 626, 31, 171, 55, 56, 57, 30, 664, 665, 666, 667, 668, 669, 681, 682, 683, 684, 679, 680] (by decide +kernel) (by decide +kernel)
set_option maxRecDepth 20000 in
theorem gL_law_X2_checksum : GoodIn wsL_law (wsV RL 187 RX2 yX2_checksum wsX2_checksum) := goodIn_app (goodIn_of _ (by decide +kernel)) ggL_law_X2_checksum
set_option maxRecDepth 20000 in
theorem ggL_law_X3_checksum : GoodIn wsL_law wsX3_checksum := goodIn_r _ [630, 135, 631, 632, 127, 83, 86, 85, 670, 671, 672, 673, 674, 675, 676, 677, 678] (by decide +kernel) (by decide +kernel)
set_option maxRecDepth 20000 in
theorem gL_law_X3_checksum : GoodIn wsL_law (wsV RL 191 RX3 yX3_checksum wsX3_checksum) := goodIn_app (goodIn_of _ (by decide +kernel)) ggL_law_X3_checksum
set_option maxRecDepth 20000 in
theorem ggL_law_X2_isTrue : GoodIn wsL_law wsX2_isTrue := goodIn_ca (goodIn_r _ [636, 18, 637, 638, 639, 2, 640, 22, 280, 281, 282, 24, 283, 284, 285, 286, 287, 288, 289, 290, 291, 292, 293, 294, 295, 67, 68, 69, 70, 41, 296, 297, 298, 299, 40, 75, 76, 77, 78, 300, 301, 302, 303, 37, 304, 305, 306, 307, 39, 54, 55, 56, 15, 57, 31, 30, 308, 309, 310, 311, 312, 641, 642, 643, 644, 25, 370, 371, 372, 373, 261, 262, 263, 264, 265, 112, 113, 114, 266, 267, 268, 269, 270, 51, 52, 53, 171, 120, 43, 44, 45, 271, 47, 48, 49, 50, 58, 59, 60, 61, 62, 63, 64, 65, 66, 71, 72, 73, 74, 645, 646, 647, 648, 121, 524, 525, 526, 527, 183, 115, 116, 117, 118, 119, 566, 567, 568, 569, 570, 649, 650, 651, 652, 653, 654, 655, 656, 258, 259, 260, 244, 245, 276, 277, 278, 279, 460, 461, 462, 463, 657, 658, 659, 664, 665, 666, 667, 668, 669, 681, 682, 683, 684, 679, 680] (by decide +kernel) (by decide +kernel)) (goodIn_sub (fun _ h => List.mem_append_right _ h) (by decide +kernel))
set_option maxRecDepth 20000 in
theorem gL_law_X2_isTrue : GoodIn wsL_law (wsV RL 192 RX2 yX2_isTrue wsX2_isTrue) := goodIn_app (goodIn_of _ (by decide +kernel)) ggL_law_X2_isTrue
set_option maxRecDepth 20000 in
theorem ggL_law_X3_isTrue : GoodIn wsL_law wsX3_isTrue := goodIn_r _ [663, 135, 670, 671, 672, 673, 674, 675, 676, 677, 678] (by decide +kernel) (by decide +kernel)
set_option maxRecDepth 20000 in
theorem gL_law_X3_isTrue : GoodIn wsL_law (wsV RL 196 RX3 yX3_isTrue wsX3_isTrue) := goodIn_app (goodIn_of _ (by decide +kernel)) ggL_law_X3_isTrue
