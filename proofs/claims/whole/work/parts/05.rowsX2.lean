theorem dX2_init_0 : decode cX2_init 0 = .ok (.aload_n 0, 1) := by decide +kernel
theorem dX2_init_1 : decode cX2_init 1 = .ok (.invokespecial 1, 3) := by decide +kernel
theorem dX2_init_4 : decode cX2_init 4 = .ok (.aload_n 0, 1) := by decide +kernel
theorem dX2_init_5 : decode cX2_init 5 = .ok (.new 7, 3) := by decide +kernel
theorem dX2_init_8 : decode cX2_init 8 = .ok (.dup, 1) := by decide +kernel
theorem dX2_init_9 : decode cX2_init 9 = .ok (.invokespecial 9, 3) := by decide +kernel
theorem dX2_init_12 : decode cX2_init 12 = .ok (.putfield 10, 3) := by decide +kernel
theorem dX2_init_15 : decode cX2_init 15 = .ok (.aload_n 0, 1) := by decide +kernel
theorem dX2_init_16 : decode cX2_init 16 = .ok (.bipush 8, 2) := by decide +kernel
theorem dX2_init_18 : decode cX2_init 18 = .ok (.anewarray 16, 3) := by decide +kernel
theorem dX2_init_21 : decode cX2_init 21 = .ok (.putfield 18, 3) := by decide +kernel
theorem dX2_init_24 : decode cX2_init 24 = .ok (.aload_n 0, 1) := by decide +kernel
theorem dX2_init_25 : decode cX2_init 25 = .ok (.bipush 8, 2) := by decide +kernel
theorem dX2_init_27 : decode cX2_init 27 = .ok (.anewarray 16, 3) := by decide +kernel
theorem dX2_init_30 : decode cX2_init 30 = .ok (.putfield 22, 3) := by decide +kernel
theorem dX2_init_33 : decode cX2_init 33 = .ok (.aload_n 0, 1) := by decide +kernel
theorem dX2_init_34 : decode cX2_init 34 = .ok (.bipush 8, 2) := by decide +kernel
theorem dX2_init_36 : decode cX2_init 36 = .ok (.newarray .int, 2) := by decide +kernel
theorem dX2_init_38 : decode cX2_init 38 = .ok (.putfield 25, 3) := by decide +kernel
theorem dX2_init_41 : decode cX2_init 41 = .ok (.aload_n 0, 1) := by decide +kernel
theorem dX2_init_42 : decode cX2_init 42 = .ok (.bipush 64, 2) := by decide +kernel
theorem dX2_init_44 : decode cX2_init 44 = .ok (.newarray .int, 2) := by decide +kernel
theorem dX2_init_46 : decode cX2_init 46 = .ok (.putfield 29, 3) := by decide +kernel
theorem dX2_init_49 : decode cX2_init 49 = .ok (.aload_n 0, 1) := by decide +kernel
theorem dX2_init_50 : decode cX2_init 50 = .ok (.new 16, 3) := by decide +kernel
theorem dX2_init_53 : decode cX2_init 53 = .ok (.dup, 1) := by decide +kernel
theorem dX2_init_54 : decode cX2_init 54 = .ok (.invokespecial 32, 3) := by decide +kernel
theorem dX2_init_57 : decode cX2_init 57 = .ok (.putfield 33, 3) := by decide +kernel
theorem dX2_init_60 : decode cX2_init 60 = .ok (.iconst 0, 1) := by decide +kernel
theorem dX2_init_61 : decode cX2_init 61 = .ok (.istore_n 1, 1) := by decide +kernel
theorem dX2_init_62 : decode cX2_init 62 = .ok (.iload_n 1, 1) := by decide +kernel
theorem dX2_init_63 : decode cX2_init 63 = .ok (.bipush 8, 2) := by decide +kernel
theorem dX2_init_65 : decode cX2_init 65 = .ok (.if_icmp .ge 22, 3) := by decide +kernel
theorem dX2_init_68 : decode cX2_init 68 = .ok (.aload_n 0, 1) := by decide +kernel
theorem dX2_init_69 : decode cX2_init 69 = .ok (.getfield 18, 3) := by decide +kernel
theorem dX2_init_72 : decode cX2_init 72 = .ok (.iload_n 1, 1) := by decide +kernel
theorem dX2_init_73 : decode cX2_init 73 = .ok (.new 16, 3) := by decide +kernel
theorem dX2_init_76 : decode cX2_init 76 = .ok (.dup, 1) := by decide +kernel
theorem dX2_init_77 : decode cX2_init 77 = .ok (.invokespecial 32, 3) := by decide +kernel
theorem dX2_init_80 : decode cX2_init 80 = .ok (.aastore, 1) := by decide +kernel
theorem dX2_init_81 : decode cX2_init 81 = .ok (.iinc 1 1, 3) := by decide +kernel
theorem dX2_init_84 : decode cX2_init 84 = .ok (.goto (-22), 3) := by decide +kernel
theorem dX2_init_87 : decode cX2_init 87 = .ok (.return_, 1) := by decide +kernel
set_option maxRecDepth 20000 in
theorem ggX2_begin_X2_checkNumber : GoodIn wsX2_begin wsX2_checkNumber := goodIn_ca (goodIn_r _ [6, 7, 8] (by decide +kernel) (by decide +kernel)) (goodIn_sub (fun _ h => List.mem_cons_of_mem _ (List.mem_append_right _ h)) (by decide +kernel))
set_option maxRecDepth 20000 in
theorem gX2_begin_X2_checkNumber : GoodIn wsX2_begin (va_wsS RX2 38 yX2_checkNumber wsX2_checkNumber) := goodIn_app (goodIn_of _ (by decide +kernel)) ggX2_begin_X2_checkNumber
set_option maxRecDepth 20000 in
theorem ggX2_begin_X2_checkZeros : GoodIn wsX2_begin wsX2_checkZeros := goodIn_ca (goodIn_r _ [11, 7, 8] (by decide +kernel) (by decide +kernel)) (goodIn_sub (fun _ h => List.mem_cons_of_mem _ (List.mem_append_right _ h)) (by decide +kernel))
set_option maxRecDepth 20000 in
theorem gX2_begin_X2_checkZeros : GoodIn wsX2_begin (va_wsS RX2 42 yX2_checkZeros wsX2_checkZeros) := goodIn_app (goodIn_of _ (by decide +kernel)) ggX2_begin_X2_checkZeros
set_option maxRecDepth 20000 in
theorem ggX2_begin_X0_clear : GoodIn wsX2_begin wsX0_clear := goodIn_r _ [16, 17, 38, 39] (by decide +kernel) (by decide +kernel)
set_option maxRecDepth 20000 in
theorem gX2_begin_X0_clear : GoodIn wsX2_begin (wsV RX2 46 RX0 yX0_clear wsX0_clear) := goodIn_app (goodIn_of _ (by decide +kernel)) ggX2_begin_X0_clear
set_option maxRecDepth 20000 in
theorem ggX2_begin_X0_putNumber : GoodIn wsX2_begin wsX0_putNumber := goodIn_r _ [21, 22, 23, 24, 25, 15, 26, 17, 27, 38, 39] (by decide +kernel) (by decide +kernel)
set_option maxRecDepth 20000 in
theorem gX2_begin_X0_putNumber : GoodIn wsX2_begin (wsV RX2 49 RX0 yX0_putNumber wsX0_putNumber) := goodIn_app (goodIn_of _ (by decide +kernel)) ggX2_begin_X0_putNumber
set_option maxRecDepth 20000 in
theorem ggX2_begin_X0_length : GoodIn wsX2_begin wsX0_length := goodIn_r _ [31, 17, 38, 39] (by decide +kernel) (by decide +kernel)
set_option maxRecDepth 20000 in
theorem gX2_begin_X0_length : GoodIn wsX2_begin (wsV RX2 53 RX0 yX0_length wsX0_length) := goodIn_app (goodIn_of _ (by decide +kernel)) ggX2_begin_X0_length
theorem dX2_begin_0 : decode cX2_begin 0 = .ok (.iload_n 1, 1) := by decide +kernel
theorem dX2_begin_1 : decode cX2_begin 1 = .ok (.iconst 0, 1) := by decide +kernel
theorem dX2_begin_2 : decode cX2_begin 2 = .ok (.ldc 37, 2) := by decide +kernel
theorem dX2_begin_4 : decode cX2_begin 4 = .ok (.invokestatic 38, 3) := by decide +kernel
theorem dX2_begin_7 : decode cX2_begin 7 = .ok (.iload_n 2, 1) := by decide +kernel
theorem dX2_begin_8 : decode cX2_begin 8 = .ok (.invokestatic 42, 3) := by decide +kernel
theorem dX2_begin_11 : decode cX2_begin 11 = .ok (.aload_n 0, 1) := by decide +kernel
theorem dX2_begin_12 : decode cX2_begin 12 = .ok (.getfield 10, 3) := by decide +kernel
theorem dX2_begin_15 : decode cX2_begin 15 = .ok (.invokevirtual 46, 3) := by decide +kernel
theorem dX2_begin_18 : decode cX2_begin 18 = .ok (.aload_n 0, 1) := by decide +kernel
theorem dX2_begin_19 : decode cX2_begin 19 = .ok (.getfield 10, 3) := by decide +kernel
theorem dX2_begin_22 : decode cX2_begin 22 = .ok (.iload_n 1, 1) := by decide +kernel
theorem dX2_begin_23 : decode cX2_begin 23 = .ok (.iload_n 2, 1) := by decide +kernel
theorem dX2_begin_24 : decode cX2_begin 24 = .ok (.invokevirtual 49, 3) := by decide +kernel
theorem dX2_begin_27 : decode cX2_begin 27 = .ok (.aload_n 0, 1) := by decide +kernel
theorem dX2_begin_28 : decode cX2_begin 28 = .ok (.getfield 10, 3) := by decide +kernel
theorem dX2_begin_31 : decode cX2_begin 31 = .ok (.invokevirtual 53, 3) := by decide +kernel
theorem dX2_begin_34 : decode cX2_begin 34 = .ok (.ireturn, 1) := by decide +kernel
set_option maxRecDepth 20000 in
theorem ggX2_add_X2_checkNumber : GoodIn wsX2_add wsX2_checkNumber := goodIn_ca (goodIn_r _ [6, 7, 8] (by decide +kernel) (by decide +kernel)) (goodIn_sub (fun _ h => List.mem_cons_of_mem _ (List.mem_append_left _ (List.mem_append_right _ h))) (by decide +kernel))
set_option maxRecDepth 20000 in
theorem gX2_add_X2_checkNumber : GoodIn wsX2_add (va_wsS RX2 38 yX2_checkNumber wsX2_checkNumber) := goodIn_app (goodIn_of _ (by decide +kernel)) ggX2_add_X2_checkNumber
set_option maxRecDepth 20000 in
theorem ggX2_add_X2_checkZeros : GoodIn wsX2_add wsX2_checkZeros := goodIn_ca (goodIn_r _ [11, 7, 8] (by decide +kernel) (by decide +kernel)) (goodIn_sub (fun _ h => List.mem_cons_of_mem _ (List.mem_append_left _ (List.mem_append_right _ h))) (by decide +kernel))
set_option maxRecDepth 20000 in
theorem gX2_add_X2_checkZeros : GoodIn wsX2_add (va_wsS RX2 42 yX2_checkZeros wsX2_checkZeros) := goodIn_app (goodIn_of _ (by decide +kernel)) ggX2_add_X2_checkZeros
set_option maxRecDepth 20000 in
theorem ggX2_add_X2_checkWay : GoodIn wsX2_add wsX2_checkWay := goodIn_ca (goodIn_r _ [14, 7, 8] (by decide +kernel) (by decide +kernel)) (goodIn_sub (fun _ h => List.mem_cons_of_mem _ (List.mem_append_left _ (List.mem_append_right _ h))) (by decide +kernel))
set_option maxRecDepth 20000 in
theorem gX2_add_X2_checkWay : GoodIn wsX2_add (va_wsS RX2 58 yX2_checkWay wsX2_checkWay) := goodIn_app (goodIn_of _ (by decide +kernel)) ggX2_add_X2_checkWay
set_option maxRecDepth 20000 in
theorem ggX2_add_X2_digitsOf : GoodIn wsX2_add wsX2_digitsOf := goodIn_r _ [17] (by decide +kernel) (by decide +kernel)
set_option maxRecDepth 20000 in
theorem gX2_add_X2_digitsOf : GoodIn wsX2_add (va_wsS RX2 62 yX2_digitsOf wsX2_digitsOf) := goodIn_app (goodIn_of _ (by decide +kernel)) ggX2_add_X2_digitsOf
set_option maxRecDepth 20000 in
theorem ggX2_add_X2_checkJoin : GoodIn wsX2_add wsX2_checkJoin := goodIn_ca (goodIn_r _ [21, 22, 23, 2, 24, 25, 26, 27, 28, 29, 30, 31, 32, 33, 34, 35, 36, 37, 38, 39, 5, 40, 41, 42, 43, 44, 45, 46, 47, 62, 63, 64, 65, 66, 67, 68, 69] (by decide +kernel) (by decide +kernel)) (goodIn_sub (fun _ h => List.mem_cons_of_mem _ (List.mem_append_right _ h)) (by decide +kernel))
set_option maxRecDepth 20000 in
theorem gX2_add_X2_checkJoin : GoodIn wsX2_add (wsV RX2 66 RX2 yX2_checkJoin wsX2_checkJoin) := goodIn_app (goodIn_of _ (by decide +kernel)) ggX2_add_X2_checkJoin
set_option maxRecDepth 20000 in
theorem ggX2_add_X2_putJoint : GoodIn wsX2_add wsX2_putJoint := goodIn_r _ [51, 2, 52, 53, 54, 27, 55, 29, 38, 62, 63, 64, 65, 66, 67, 68, 69] (by decide +kernel) (by decide +kernel)
set_option maxRecDepth 20000 in
theorem gX2_add_X2_putJoint : GoodIn wsX2_add (wsV RX2 70 RX2 yX2_putJoint wsX2_putJoint) := goodIn_app (goodIn_of _ (by decide +kernel)) ggX2_add_X2_putJoint
set_option maxRecDepth 20000 in
theorem ggX2_add_X0_putNumber : GoodIn wsX2_add wsX0_putNumber := goodIn_r _ [59, 60, 61, 53, 54, 27, 55, 29, 38, 68, 69] (by decide +kernel) (by decide +kernel)
set_option maxRecDepth 20000 in
theorem gX2_add_X0_putNumber : GoodIn wsX2_add (wsV RX2 49 RX0 yX0_putNumber wsX0_putNumber) := goodIn_app (goodIn_of _ (by decide +kernel)) ggX2_add_X0_putNumber
set_option maxRecDepth 20000 in
theorem ggX2_add_X0_length : GoodIn wsX2_add wsX0_length := goodIn_r _ [28, 29, 68, 69] (by decide +kernel) (by decide +kernel)
set_option maxRecDepth 20000 in
theorem gX2_add_X0_length : GoodIn wsX2_add (wsV RX2 53 RX0 yX0_length wsX0_length) := goodIn_app (goodIn_of _ (by decide +kernel)) ggX2_add_X0_length
theorem dX2_add_0 : decode cX2_add 0 = .ok (.iload_n 1, 1) := by decide +kernel
theorem dX2_add_1 : decode cX2_add 1 = .ok (.iconst 0, 1) := by decide +kernel
theorem dX2_add_2 : decode cX2_add 2 = .ok (.ldc 57, 2) := by decide +kernel
theorem dX2_add_4 : decode cX2_add 4 = .ok (.invokestatic 38, 3) := by decide +kernel
theorem dX2_add_7 : decode cX2_add 7 = .ok (.iload_n 2, 1) := by decide +kernel
theorem dX2_add_8 : decode cX2_add 8 = .ok (.invokestatic 42, 3) := by decide +kernel
theorem dX2_add_11 : decode cX2_add 11 = .ok (.iload_n 3, 1) := by decide +kernel
theorem dX2_add_12 : decode cX2_add 12 = .ok (.invokestatic 58, 3) := by decide +kernel
theorem dX2_add_15 : decode cX2_add 15 = .ok (.aload_n 0, 1) := by decide +kernel
theorem dX2_add_16 : decode cX2_add 16 = .ok (.iload_n 3, 1) := by decide +kernel
theorem dX2_add_17 : decode cX2_add 17 = .ok (.iconst 1, 1) := by decide +kernel
theorem dX2_add_18 : decode cX2_add 18 = .ok (.iload_n 2, 1) := by decide +kernel
theorem dX2_add_19 : decode cX2_add 19 = .ok (.iload_n 1, 1) := by decide +kernel
theorem dX2_add_20 : decode cX2_add 20 = .ok (.invokestatic 62, 3) := by decide +kernel
theorem dX2_add_23 : decode cX2_add 23 = .ok (.iadd, 1) := by decide +kernel
theorem dX2_add_24 : decode cX2_add 24 = .ok (.invokevirtual 66, 3) := by decide +kernel
theorem dX2_add_27 : decode cX2_add 27 = .ok (.aload_n 0, 1) := by decide +kernel
theorem dX2_add_28 : decode cX2_add 28 = .ok (.iload_n 3, 1) := by decide +kernel
theorem dX2_add_29 : decode cX2_add 29 = .ok (.invokevirtual 70, 3) := by decide +kernel
theorem dX2_add_32 : decode cX2_add 32 = .ok (.aload_n 0, 1) := by decide +kernel
theorem dX2_add_33 : decode cX2_add 33 = .ok (.getfield 10, 3) := by decide +kernel
theorem dX2_add_36 : decode cX2_add 36 = .ok (.iload_n 1, 1) := by decide +kernel
theorem dX2_add_37 : decode cX2_add 37 = .ok (.iload_n 2, 1) := by decide +kernel
theorem dX2_add_38 : decode cX2_add 38 = .ok (.invokevirtual 49, 3) := by decide +kernel
theorem dX2_add_41 : decode cX2_add 41 = .ok (.aload_n 0, 1) := by decide +kernel
theorem dX2_add_42 : decode cX2_add 42 = .ok (.getfield 10, 3) := by decide +kernel
theorem dX2_add_45 : decode cX2_add 45 = .ok (.invokevirtual 53, 3) := by decide +kernel
theorem dX2_add_48 : decode cX2_add 48 = .ok (.ireturn, 1) := by decide +kernel
set_option maxRecDepth 20000 in
theorem ggX2_word_X2_checkWay : GoodIn wsX2_word wsX2_checkWay := goodIn_ca (goodIn_r _ [7, 1, 2] (by decide +kernel) (by decide +kernel)) (goodIn_sub (fun _ h => List.mem_cons_of_mem _ (List.mem_append_left _ (List.mem_append_right _ h))) (by decide +kernel))
set_option maxRecDepth 20000 in
theorem gX2_word_X2_checkWay : GoodIn wsX2_word (va_wsS RX2 58 yX2_checkWay wsX2_checkWay) := goodIn_app (goodIn_of _ (by decide +kernel)) ggX2_word_X2_checkWay
set_option maxRecDepth 20000 in
theorem ggX2_word_X2_checkJoin : GoodIn wsX2_word wsX2_checkJoin := goodIn_ca (goodIn_r _ [11, 12, 13, 3, 14, 15, 16, 17, 18, 19, 20, 21, 22, 23, 24, 25, 26, 27, 28, 29, 6, 30, 31, 32, 33, 34, 35, 36, 37, 54, 55, 56, 57, 58, 59, 60, 61] (by decide +kernel) (by decide +kernel)) (goodIn_sub (fun _ h => List.mem_cons_of_mem _ (List.mem_append_right _ h)) (by decide +kernel))
set_option maxRecDepth 20000 in
theorem gX2_word_X2_checkJoin : GoodIn wsX2_word (wsV RX2 66 RX2 yX2_checkJoin wsX2_checkJoin) := goodIn_app (goodIn_of _ (by decide +kernel)) ggX2_word_X2_checkJoin
set_option maxRecDepth 20000 in
theorem ggX2_word_X2_putJoint : GoodIn wsX2_word wsX2_putJoint := goodIn_r _ [41, 3, 42, 43, 44, 17, 45, 19, 28, 54, 55, 56, 57, 58, 59, 60, 61] (by decide +kernel) (by decide +kernel)
set_option maxRecDepth 20000 in
theorem gX2_word_X2_putJoint : GoodIn wsX2_word (wsV RX2 70 RX2 yX2_putJoint wsX2_putJoint) := goodIn_app (goodIn_of _ (by decide +kernel)) ggX2_word_X2_putJoint
set_option maxRecDepth 20000 in
theorem ggX2_word_X0_putWord : GoodIn wsX2_word wsX0_putWord := goodIn_r _ [49, 50, 51, 6, 52, 53, 43, 44, 17, 45, 19, 28, 60, 61] (by decide +kernel) (by decide +kernel)
set_option maxRecDepth 20000 in
theorem gX2_word_X0_putWord : GoodIn wsX2_word (wsV RX2 80 RX0 yX0_putWord wsX0_putWord) := goodIn_app (goodIn_of _ (by decide +kernel)) ggX2_word_X0_putWord
set_option maxRecDepth 20000 in
theorem ggX2_word_X0_length : GoodIn wsX2_word wsX0_length := goodIn_r _ [18, 19, 60, 61] (by decide +kernel) (by decide +kernel)
set_option maxRecDepth 20000 in
theorem gX2_word_X0_length : GoodIn wsX2_word (wsV RX2 53 RX0 yX0_length wsX0_length) := goodIn_app (goodIn_of _ (by decide +kernel)) ggX2_word_X0_length
theorem dX2_word_0 : decode cX2_word 0 = .ok (.iload_n 2, 1) := by decide +kernel
theorem dX2_word_1 : decode cX2_word 1 = .ok (.iconst 1, 1) := by decide +kernel
theorem dX2_word_2 : decode cX2_word 2 = .ok (.if_icmp .lt 8, 3) := by decide +kernel
theorem dX2_word_5 : decode cX2_word 5 = .ok (.iload_n 2, 1) := by decide +kernel
theorem dX2_word_6 : decode cX2_word 6 = .ok (.iconst 5, 1) := by decide +kernel
theorem dX2_word_7 : decode cX2_word 7 = .ok (.if_icmp .le 13, 3) := by decide +kernel
theorem dX2_word_10 : decode cX2_word 10 = .ok (.new 73, 3) := by decide +kernel
theorem dX2_word_13 : decode cX2_word 13 = .ok (.dup, 1) := by decide +kernel
theorem dX2_word_14 : decode cX2_word 14 = .ok (.ldc 75, 2) := by decide +kernel
theorem dX2_word_16 : decode cX2_word 16 = .ok (.invokespecial 77, 3) := by decide +kernel
theorem dX2_word_19 : decode cX2_word 19 = .ok (.athrow, 1) := by decide +kernel
theorem dX2_word_20 : decode cX2_word 20 = .ok (.iload_n 3, 1) := by decide +kernel
theorem dX2_word_21 : decode cX2_word 21 = .ok (.invokestatic 58, 3) := by decide +kernel
theorem dX2_word_24 : decode cX2_word 24 = .ok (.aload_n 0, 1) := by decide +kernel
theorem dX2_word_25 : decode cX2_word 25 = .ok (.iload_n 3, 1) := by decide +kernel
theorem dX2_word_26 : decode cX2_word 26 = .ok (.iconst 2, 1) := by decide +kernel
theorem dX2_word_27 : decode cX2_word 27 = .ok (.iload_n 2, 1) := by decide +kernel
theorem dX2_word_28 : decode cX2_word 28 = .ok (.invokevirtual 66, 3) := by decide +kernel
theorem dX2_word_31 : decode cX2_word 31 = .ok (.aload_n 0, 1) := by decide +kernel
theorem dX2_word_32 : decode cX2_word 32 = .ok (.iload_n 3, 1) := by decide +kernel
theorem dX2_word_33 : decode cX2_word 33 = .ok (.invokevirtual 70, 3) := by decide +kernel
theorem dX2_word_36 : decode cX2_word 36 = .ok (.aload_n 0, 1) := by decide +kernel
theorem dX2_word_37 : decode cX2_word 37 = .ok (.getfield 10, 3) := by decide +kernel
theorem dX2_word_40 : decode cX2_word 40 = .ok (.iload_n 1, 1) := by decide +kernel
theorem dX2_word_41 : decode cX2_word 41 = .ok (.iload_n 2, 1) := by decide +kernel
theorem dX2_word_42 : decode cX2_word 42 = .ok (.invokevirtual 80, 3) := by decide +kernel
theorem dX2_word_45 : decode cX2_word 45 = .ok (.aload_n 0, 1) := by decide +kernel
theorem dX2_word_46 : decode cX2_word 46 = .ok (.getfield 10, 3) := by decide +kernel
theorem dX2_word_49 : decode cX2_word 49 = .ok (.invokevirtual 53, 3) := by decide +kernel
theorem dX2_word_52 : decode cX2_word 52 = .ok (.ireturn, 1) := by decide +kernel
set_option maxRecDepth 20000 in
theorem ggX2_drop_X0_length : GoodIn wsX2_drop wsX0_length := goodIn_r _ [6, 7, 18, 19] (by decide +kernel) (by decide +kernel)
set_option maxRecDepth 20000 in
theorem gX2_drop_X0_length : GoodIn wsX2_drop (wsV RX2 53 RX0 yX0_length wsX0_length) := goodIn_app (goodIn_of _ (by decide +kernel)) ggX2_drop_X0_length
set_option maxRecDepth 20000 in
theorem ggX2_drop_X0_clear : GoodIn wsX2_drop wsX0_clear := goodIn_r _ [11, 7, 18, 19] (by decide +kernel) (by decide +kernel)
set_option maxRecDepth 20000 in
theorem gX2_drop_X0_clear : GoodIn wsX2_drop (wsV RX2 46 RX0 yX0_clear wsX0_clear) := goodIn_app (goodIn_of _ (by decide +kernel)) ggX2_drop_X0_clear
theorem dX2_drop_0 : decode cX2_drop 0 = .ok (.aload_n 0, 1) := by decide +kernel
theorem dX2_drop_1 : decode cX2_drop 1 = .ok (.getfield 10, 3) := by decide +kernel
theorem dX2_drop_4 : decode cX2_drop 4 = .ok (.invokevirtual 53, 3) := by decide +kernel
theorem dX2_drop_7 : decode cX2_drop 7 = .ok (.istore_n 1, 1) := by decide +kernel
theorem dX2_drop_8 : decode cX2_drop 8 = .ok (.aload_n 0, 1) := by decide +kernel
theorem dX2_drop_9 : decode cX2_drop 9 = .ok (.getfield 10, 3) := by decide +kernel
theorem dX2_drop_12 : decode cX2_drop 12 = .ok (.invokevirtual 46, 3) := by decide +kernel
theorem dX2_drop_15 : decode cX2_drop 15 = .ok (.iload_n 1, 1) := by decide +kernel
theorem dX2_drop_16 : decode cX2_drop 16 = .ok (.ireturn, 1) := by decide +kernel
set_option maxRecDepth 20000 in
theorem ggX2_sign_X2_checkPlace : GoodIn wsX2_sign wsX2_checkPlace := goodIn_ca (goodIn_r _ [5, 6, 7, 8, 9, 10, 11, 12, 13, 25, 26] (by decide +kernel) (by decide +kernel)) (goodIn_sub (fun _ h => List.mem_cons_of_mem _ (List.mem_append_right _ h)) (by decide +kernel))
set_option maxRecDepth 20000 in
theorem gX2_sign_X2_checkPlace : GoodIn wsX2_sign (va_wsS RX2 83 yX2_checkPlace wsX2_checkPlace) := goodIn_app (goodIn_of _ (by decide +kernel)) ggX2_sign_X2_checkPlace
set_option maxRecDepth 20000 in
theorem ggX2_sign_X0_signAt : GoodIn wsX2_sign wsX0_signAt := goodIn_r _ [17, 13, 18, 25, 26] (by decide +kernel) (by decide +kernel)
set_option maxRecDepth 20000 in
theorem gX2_sign_X0_signAt : GoodIn wsX2_sign (wsV RX2 87 RX0 yX0_signAt wsX0_signAt) := goodIn_app (goodIn_of _ (by decide +kernel)) ggX2_sign_X0_signAt
theorem dX2_sign_0 : decode cX2_sign 0 = .ok (.aload_n 0, 1) := by decide +kernel
theorem dX2_sign_1 : decode cX2_sign 1 = .ok (.getfield 10, 3) := by decide +kernel
theorem dX2_sign_4 : decode cX2_sign 4 = .ok (.iload_n 1, 1) := by decide +kernel
theorem dX2_sign_5 : decode cX2_sign 5 = .ok (.invokestatic 83, 3) := by decide +kernel
theorem dX2_sign_8 : decode cX2_sign 8 = .ok (.aload_n 0, 1) := by decide +kernel
theorem dX2_sign_9 : decode cX2_sign 9 = .ok (.getfield 10, 3) := by decide +kernel
theorem dX2_sign_12 : decode cX2_sign 12 = .ok (.iload_n 1, 1) := by decide +kernel
theorem dX2_sign_13 : decode cX2_sign 13 = .ok (.invokevirtual 87, 3) := by decide +kernel
theorem dX2_sign_16 : decode cX2_sign 16 = .ok (.ireturn, 1) := by decide +kernel
set_option maxRecDepth 20000 in
theorem ggX2_parse_X2_checkSlot : GoodIn wsX2_parse wsX2_checkSlot := goodIn_ca (goodIn_r _ [8, 9, 10] (by decide +kernel) (by decide +kernel)) (goodIn_sub (fun _ h => List.mem_cons_of_mem _ (List.mem_append_right _ h)) (by decide +kernel))
set_option maxRecDepth 20000 in
theorem gX2_parse_X2_checkSlot : GoodIn wsX2_parse (va_wsS RX2 91 yX2_checkSlot wsX2_checkSlot) := goodIn_app (goodIn_of _ (by decide +kernel)) ggX2_parse_X2_checkSlot
set_option maxRecDepth 20000 in
theorem ggX2_parse_X0_length : GoodIn wsX2_parse wsX0_length := goodIn_r _ [15, 16, 119, 120] (by decide +kernel) (by decide +kernel)
set_option maxRecDepth 20000 in
theorem gX2_parse_X0_length : GoodIn wsX2_parse (wsV RX2 53 RX0 yX0_length wsX0_length) := goodIn_app (goodIn_of _ (by decide +kernel)) ggX2_parse_X0_length
set_option maxRecDepth 20000 in
theorem ggX2_parse_X1_tell : GoodIn wsX2_parse wsX1_tell := goodIn_r _ [21, 22, 23, 24, 25, 14, 26, 16, 27, 28, 29, 30, 31, 12, 13, 15, 32, 33, 34, 35, 36, 37, 38, 39, 40, 121, 122, 123, 124, 119, 120] (by decide +kernel) (by decide +kernel)
set_option maxRecDepth 20000 in
theorem gX2_parse_X1_tell : GoodIn wsX2_parse (wsV RX2 96 RX1 yX1_tell wsX1_tell) := goodIn_app (goodIn_of _ (by decide +kernel)) ggX2_parse_X1_tell
set_option maxRecDepth 20000 in
theorem ggX2_parse_X1_readTokens : GoodIn wsX2_parse wsX1_readTokens := goodIn_r _ [44, 45, 22, 46, 12, 13, 14, 15, 16, 47, 33, 34, 35, 36, 48, 7, 49, 50, 51, 20, 52, 53, 54, 55, 56, 57, 58, 59, 60, 61, 62, 63, 64, 65, 66, 67, 68, 69, 70, 121, 122, 123, 124, 119, 120] (by decide +kernel) (by decide +kernel)
set_option maxRecDepth 20000 in
theorem gX2_parse_X1_readTokens : GoodIn wsX2_parse (wsV RX2 100 RX1 yX1_readTokens wsX1_readTokens) := goodIn_app (goodIn_of _ (by decide +kernel)) ggX2_parse_X1_readTokens
set_option maxRecDepth 20000 in
theorem ggX2_parse_X2_exchangeSpare : GoodIn wsX2_parse wsX2_exchangeSpare := goodIn_ca (goodIn_r _ [74, 4, 75, 76, 77, 78, 7, 79, 5, 6, 8, 9, 10, 80, 81, 82, 20, 83, 84, 85, 86, 87, 88, 89, 90, 91, 92, 93, 94, 95, 59, 60, 61, 62, 45, 96, 97, 98, 99, 58, 67, 68, 69, 70, 100, 101, 102, 103, 22, 104, 105, 106, 107, 57, 47, 33, 34, 14, 35, 16, 36, 108, 109, 110, 111, 112, 113, 114, 115, 116, 117, 118, 121, 122, 123, 124, 119, 120] (by decide +kernel) (by decide +kernel)) (goodIn_sub (fun _ h => List.mem_cons_of_mem _ (List.mem_append_right _ h)) (by decide +kernel))
set_option maxRecDepth 20000 in
theorem gX2_parse_X2_exchangeSpare : GoodIn wsX2_parse (wsV RX2 103 RX2 yX2_exchangeSpare wsX2_exchangeSpare) := goodIn_app (goodIn_of _ (by decide +kernel)) ggX2_parse_X2_exchangeSpare
theorem dX2_parse_0 : decode cX2_parse 0 = .ok (.iload_n 1, 1) := by decide +kernel
theorem dX2_parse_1 : decode cX2_parse 1 = .ok (.invokestatic 91, 3) := by decide +kernel
theorem dX2_parse_4 : decode cX2_parse 4 = .ok (.aload_n 0, 1) := by decide +kernel
theorem dX2_parse_5 : decode cX2_parse 5 = .ok (.getfield 10, 3) := by decide +kernel
theorem dX2_parse_8 : decode cX2_parse 8 = .ok (.invokevirtual 53, 3) := by decide +kernel
theorem dX2_parse_11 : decode cX2_parse 11 = .ok (.ifCond .ne 13, 3) := by decide +kernel
theorem dX2_parse_14 : decode cX2_parse 14 = .ok (.new 73, 3) := by decide +kernel
theorem dX2_parse_17 : decode cX2_parse 17 = .ok (.dup, 1) := by decide +kernel
theorem dX2_parse_18 : decode cX2_parse 18 = .ok (.ldc 94, 2) := by decide +kernel
theorem dX2_parse_20 : decode cX2_parse 20 = .ok (.invokespecial 77, 3) := by decide +kernel
theorem dX2_parse_23 : decode cX2_parse 23 = .ok (.athrow, 1) := by decide +kernel
theorem dX2_parse_24 : decode cX2_parse 24 = .ok (.aload_n 0, 1) := by decide +kernel
theorem dX2_parse_25 : decode cX2_parse 25 = .ok (.getfield 33, 3) := by decide +kernel
theorem dX2_parse_28 : decode cX2_parse 28 = .ok (.aload_n 0, 1) := by decide +kernel
theorem dX2_parse_29 : decode cX2_parse 29 = .ok (.getfield 10, 3) := by decide +kernel
theorem dX2_parse_32 : decode cX2_parse 32 = .ok (.invokevirtual 96, 3) := by decide +kernel
theorem dX2_parse_35 : decode cX2_parse 35 = .ok (.aload_n 0, 1) := by decide +kernel
theorem dX2_parse_36 : decode cX2_parse 36 = .ok (.getfield 33, 3) := by decide +kernel
theorem dX2_parse_39 : decode cX2_parse 39 = .ok (.invokevirtual 100, 3) := by decide +kernel
theorem dX2_parse_42 : decode cX2_parse 42 = .ok (.aload_n 0, 1) := by decide +kernel
theorem dX2_parse_43 : decode cX2_parse 43 = .ok (.iload_n 1, 1) := by decide +kernel
theorem dX2_parse_44 : decode cX2_parse 44 = .ok (.invokevirtual 103, 3) := by decide +kernel
theorem dX2_parse_47 : decode cX2_parse 47 = .ok (.ireturn, 1) := by decide +kernel
set_option maxRecDepth 20000 in
theorem ggX2_triple_X2_checkSlot : GoodIn wsX2_triple wsX2_checkSlot := goodIn_ca (goodIn_r _ [6, 7, 8] (by decide +kernel) (by decide +kernel)) (goodIn_sub (fun _ h => List.mem_cons_of_mem _ (List.mem_append_left _ (List.mem_append_right _ h))) (by decide +kernel))
set_option maxRecDepth 20000 in
theorem gX2_triple_X2_checkSlot : GoodIn wsX2_triple (va_wsS RX2 91 yX2_checkSlot wsX2_checkSlot) := goodIn_app (goodIn_of _ (by decide +kernel)) ggX2_triple_X2_checkSlot
set_option maxRecDepth 20000 in
theorem ggX2_triple_X2_checkNumber : GoodIn wsX2_triple wsX2_checkNumber := goodIn_ca (goodIn_r _ [11, 12, 13] (by decide +kernel) (by decide +kernel)) (goodIn_sub (fun _ h => List.mem_cons_of_mem _ (List.mem_append_right _ h)) (by decide +kernel))
set_option maxRecDepth 20000 in
theorem gX2_triple_X2_checkNumber : GoodIn wsX2_triple (va_wsS RX2 38 yX2_checkNumber wsX2_checkNumber) := goodIn_app (goodIn_of _ (by decide +kernel)) ggX2_triple_X2_checkNumber
set_option maxRecDepth 20000 in
theorem ggX2_triple_X0_clear : GoodIn wsX2_triple wsX0_clear := goodIn_r _ [18, 19, 121, 122] (by decide +kernel) (by decide +kernel)
set_option maxRecDepth 20000 in
theorem gX2_triple_X0_clear : GoodIn wsX2_triple (wsV RX2 46 RX0 yX0_clear wsX0_clear) := goodIn_app (goodIn_of _ (by decide +kernel)) ggX2_triple_X0_clear
set_option maxRecDepth 20000 in
theorem ggX2_triple_X0_putNumber : GoodIn wsX2_triple wsX0_putNumber := goodIn_r _ [23, 24, 25, 26, 27, 17, 28, 19, 29, 121, 122] (by decide +kernel) (by decide +kernel)
set_option maxRecDepth 20000 in
theorem gX2_triple_X0_putNumber : GoodIn wsX2_triple (wsV RX2 49 RX0 yX0_putNumber wsX0_putNumber) := goodIn_app (goodIn_of _ (by decide +kernel)) ggX2_triple_X0_putNumber
set_option maxRecDepth 20000 in
theorem ggX2_triple_X0_put : GoodIn wsX2_triple wsX0_put := goodIn_r _ [28, 19, 29, 121, 122] (by decide +kernel) (by decide +kernel)
set_option maxRecDepth 20000 in
theorem gX2_triple_X0_put : GoodIn wsX2_triple (wsV RX2 109 RX0 yX0_put wsX0_put) := goodIn_app (goodIn_of _ (by decide +kernel)) ggX2_triple_X0_put
set_option maxRecDepth 20000 in
theorem ggX2_triple_X1_readTokens : GoodIn wsX2_triple wsX1_readTokens := goodIn_r _ [35, 36, 37, 38, 39, 40, 17, 41, 19, 42, 43, 44, 45, 29, 46, 5, 47, 48, 49, 34, 50, 51, 52, 53, 54, 55, 56, 57, 58, 59, 60, 61, 62, 63, 64, 65, 66, 67, 68, 117, 118, 119, 120, 121, 122] (by decide +kernel) (by decide +kernel)
set_option maxRecDepth 20000 in
theorem gX2_triple_X1_readTokens : GoodIn wsX2_triple (wsV RX2 100 RX1 yX1_readTokens wsX1_readTokens) := goodIn_app (goodIn_of _ (by decide +kernel)) ggX2_triple_X1_readTokens
set_option maxRecDepth 20000 in
theorem ggX2_triple_X2_exchangeSpare : GoodIn wsX2_triple wsX2_exchangeSpare := goodIn_ca (goodIn_r _ [72, 2, 73, 74, 75, 76, 5, 77, 3, 4, 6, 7, 8, 78, 79, 80, 34, 81, 82, 83, 84, 85, 86, 87, 88, 89, 90, 91, 92, 93, 57, 58, 59, 60, 36, 94, 95, 96, 97, 56, 65, 66, 67, 68, 98, 99, 100, 101, 37, 102, 103, 104, 105, 55, 42, 43, 44, 17, 45, 19, 29, 106, 107, 108, 109, 110, 111, 112, 113, 114, 115, 116, 117, 118, 119, 120, 121, 122] (by decide +kernel) (by decide +kernel)) (goodIn_sub (fun _ h => List.mem_cons_of_mem _ (List.mem_append_left _ (List.mem_append_right _ h))) (by decide +kernel))
set_option maxRecDepth 20000 in
theorem gX2_triple_X2_exchangeSpare : GoodIn wsX2_triple (wsV RX2 103 RX2 yX2_exchangeSpare wsX2_exchangeSpare) := goodIn_app (goodIn_of _ (by decide +kernel)) ggX2_triple_X2_exchangeSpare
theorem dX2_triple_0 : decode cX2_triple 0 = .ok (.iload_n 1, 1) := by decide +kernel
theorem dX2_triple_1 : decode cX2_triple 1 = .ok (.invokestatic 91, 3) := by decide +kernel
theorem dX2_triple_4 : decode cX2_triple 4 = .ok (.iload_n 2, 1) := by decide +kernel
theorem dX2_triple_5 : decode cX2_triple 5 = .ok (.iconst 0, 1) := by decide +kernel
theorem dX2_triple_6 : decode cX2_triple 6 = .ok (.ldc 37, 2) := by decide +kernel
theorem dX2_triple_8 : decode cX2_triple 8 = .ok (.invokestatic 38, 3) := by decide +kernel
theorem dX2_triple_11 : decode cX2_triple 11 = .ok (.iload_n 3, 1) := by decide +kernel
theorem dX2_triple_12 : decode cX2_triple 12 = .ok (.iconst 0, 1) := by decide +kernel
theorem dX2_triple_13 : decode cX2_triple 13 = .ok (.ldc 37, 2) := by decide +kernel
theorem dX2_triple_15 : decode cX2_triple 15 = .ok (.invokestatic 38, 3) := by decide +kernel
theorem dX2_triple_18 : decode cX2_triple 18 = .ok (.iload 4, 2) := by decide +kernel
theorem dX2_triple_20 : decode cX2_triple 20 = .ok (.iconst 0, 1) := by decide +kernel
theorem dX2_triple_21 : decode cX2_triple 21 = .ok (.ldc 37, 2) := by decide +kernel
theorem dX2_triple_23 : decode cX2_triple 23 = .ok (.invokestatic 38, 3) := by decide +kernel
theorem dX2_triple_26 : decode cX2_triple 26 = .ok (.aload_n 0, 1) := by decide +kernel
theorem dX2_triple_27 : decode cX2_triple 27 = .ok (.getfield 33, 3) := by decide +kernel
theorem dX2_triple_30 : decode cX2_triple 30 = .ok (.getfield 106, 3) := by decide +kernel
theorem dX2_triple_33 : decode cX2_triple 33 = .ok (.invokevirtual 46, 3) := by decide +kernel
theorem dX2_triple_36 : decode cX2_triple 36 = .ok (.aload_n 0, 1) := by decide +kernel
theorem dX2_triple_37 : decode cX2_triple 37 = .ok (.getfield 33, 3) := by decide +kernel
theorem dX2_triple_40 : decode cX2_triple 40 = .ok (.getfield 106, 3) := by decide +kernel
theorem dX2_triple_43 : decode cX2_triple 43 = .ok (.iload_n 2, 1) := by decide +kernel
theorem dX2_triple_44 : decode cX2_triple 44 = .ok (.iconst 0, 1) := by decide +kernel
theorem dX2_triple_45 : decode cX2_triple 45 = .ok (.invokevirtual 49, 3) := by decide +kernel
theorem dX2_triple_48 : decode cX2_triple 48 = .ok (.aload_n 0, 1) := by decide +kernel
theorem dX2_triple_49 : decode cX2_triple 49 = .ok (.getfield 33, 3) := by decide +kernel
theorem dX2_triple_52 : decode cX2_triple 52 = .ok (.getfield 106, 3) := by decide +kernel
theorem dX2_triple_55 : decode cX2_triple 55 = .ok (.bipush 46, 2) := by decide +kernel
theorem dX2_triple_57 : decode cX2_triple 57 = .ok (.invokevirtual 109, 3) := by decide +kernel
theorem dX2_triple_60 : decode cX2_triple 60 = .ok (.aload_n 0, 1) := by decide +kernel
theorem dX2_triple_61 : decode cX2_triple 61 = .ok (.getfield 33, 3) := by decide +kernel
theorem dX2_triple_64 : decode cX2_triple 64 = .ok (.getfield 106, 3) := by decide +kernel
theorem dX2_triple_67 : decode cX2_triple 67 = .ok (.iload_n 3, 1) := by decide +kernel
theorem dX2_triple_68 : decode cX2_triple 68 = .ok (.iconst 0, 1) := by decide +kernel
theorem dX2_triple_69 : decode cX2_triple 69 = .ok (.invokevirtual 49, 3) := by decide +kernel
theorem dX2_triple_72 : decode cX2_triple 72 = .ok (.aload_n 0, 1) := by decide +kernel
theorem dX2_triple_73 : decode cX2_triple 73 = .ok (.getfield 33, 3) := by decide +kernel
theorem dX2_triple_76 : decode cX2_triple 76 = .ok (.getfield 106, 3) := by decide +kernel
theorem dX2_triple_79 : decode cX2_triple 79 = .ok (.bipush 46, 2) := by decide +kernel
theorem dX2_triple_81 : decode cX2_triple 81 = .ok (.invokevirtual 109, 3) := by decide +kernel
theorem dX2_triple_84 : decode cX2_triple 84 = .ok (.aload_n 0, 1) := by decide +kernel
theorem dX2_triple_85 : decode cX2_triple 85 = .ok (.getfield 33, 3) := by decide +kernel
theorem dX2_triple_88 : decode cX2_triple 88 = .ok (.getfield 106, 3) := by decide +kernel
theorem dX2_triple_91 : decode cX2_triple 91 = .ok (.iload 4, 2) := by decide +kernel
theorem dX2_triple_93 : decode cX2_triple 93 = .ok (.iconst 0, 1) := by decide +kernel
theorem dX2_triple_94 : decode cX2_triple 94 = .ok (.invokevirtual 49, 3) := by decide +kernel
theorem dX2_triple_97 : decode cX2_triple 97 = .ok (.aload_n 0, 1) := by decide +kernel
theorem dX2_triple_98 : decode cX2_triple 98 = .ok (.getfield 33, 3) := by decide +kernel
theorem dX2_triple_101 : decode cX2_triple 101 = .ok (.invokevirtual 100, 3) := by decide +kernel
theorem dX2_triple_104 : decode cX2_triple 104 = .ok (.aload_n 0, 1) := by decide +kernel
theorem dX2_triple_105 : decode cX2_triple 105 = .ok (.iload_n 1, 1) := by decide +kernel
theorem dX2_triple_106 : decode cX2_triple 106 = .ok (.invokevirtual 103, 3) := by decide +kernel
theorem dX2_triple_109 : decode cX2_triple 109 = .ok (.ireturn, 1) := by decide +kernel
set_option maxRecDepth 20000 in
theorem ggX2_copy_X2_versionIn : GoodIn wsX2_copy wsX2_versionIn := goodIn_ca (goodIn_r _ [5, 6, 7, 8, 4, 9, 10, 11, 113, 114, 115, 116, 117, 118] (by decide +kernel) (by decide +kernel)) (goodIn_sub (fun _ h => List.mem_cons_of_mem _ (List.mem_append_right _ h)) (by decide +kernel))
set_option maxRecDepth 20000 in
theorem gX2_copy_X2_versionIn : GoodIn wsX2_copy (wsV RX2 112 RX2 yX2_versionIn wsX2_versionIn) := goodIn_app (goodIn_of _ (by decide +kernel)) ggX2_copy_X2_versionIn
set_option maxRecDepth 20000 in
theorem ggX2_copy_X2_checkSlot : GoodIn wsX2_copy wsX2_checkSlot := goodIn_ca (goodIn_r _ [9, 10, 11] (by decide +kernel) (by decide +kernel)) (goodIn_sub (fun _ h => List.mem_cons_of_mem _ (List.mem_append_right _ h)) (by decide +kernel))
set_option maxRecDepth 20000 in
theorem gX2_copy_X2_checkSlot : GoodIn wsX2_copy (va_wsS RX2 91 yX2_checkSlot wsX2_checkSlot) := goodIn_app (goodIn_of _ (by decide +kernel)) ggX2_copy_X2_checkSlot
set_option maxRecDepth 20000 in
theorem ggX2_copy_X2_parseAnew : GoodIn wsX2_copy wsX2_parseAnew := goodIn_r _ [15, 16, 17, 18, 19, 20, 21, 22, 23, 24, 25, 26, 27, 28, 29, 30, 31, 32, 33, 34, 35, 36, 37, 38, 39, 40, 41, 42, 43, 44, 45, 46, 47, 48, 49, 50, 51, 52, 53, 4, 54, 55, 56, 57, 58, 59, 60, 61, 62, 63, 64, 65, 66, 67, 68, 69, 70, 71, 72, 73, 74, 75, 113, 114, 115, 116, 117, 118, 119, 120, 121, 122, 123, 124] (by decide +kernel) (by decide +kernel)
set_option maxRecDepth 20000 in
theorem gX2_copy_X2_parseAnew : GoodIn wsX2_copy (wsV RX2 116 RX2 yX2_parseAnew wsX2_parseAnew) := goodIn_app (goodIn_of _ (by decide +kernel)) ggX2_copy_X2_parseAnew
set_option maxRecDepth 20000 in
theorem ggX2_copy_X2_exchangeSpare : GoodIn wsX2_copy wsX2_exchangeSpare := goodIn_ca (goodIn_r _ [79, 16, 6, 1, 2, 3, 4, 5, 7, 8, 9, 10, 11, 80, 81, 82, 20, 83, 84, 85, 86, 87, 88, 89, 90, 91, 92, 93, 94, 95, 64, 65, 66, 67, 50, 96, 97, 98, 99, 63, 72, 73, 74, 75, 100, 101, 102, 103, 22, 104, 105, 106, 107, 62, 52, 38, 39, 26, 40, 28, 41, 108, 109, 110, 111, 112, 113, 114, 115, 116, 117, 118, 119, 120, 121, 122, 123, 124] (by decide +kernel) (by decide +kernel)) (goodIn_sub (fun _ h => List.mem_cons_of_mem _ (List.mem_append_right _ h)) (by decide +kernel))
set_option maxRecDepth 20000 in
theorem gX2_copy_X2_exchangeSpare : GoodIn wsX2_copy (wsV RX2 103 RX2 yX2_exchangeSpare wsX2_exchangeSpare) := goodIn_app (goodIn_of _ (by decide +kernel)) ggX2_copy_X2_exchangeSpare
theorem dX2_copy_0 : decode cX2_copy 0 = .ok (.aload_n 0, 1) := by decide +kernel
theorem dX2_copy_1 : decode cX2_copy 1 = .ok (.iload_n 1, 1) := by decide +kernel
theorem dX2_copy_2 : decode cX2_copy 2 = .ok (.invokevirtual 112, 3) := by decide +kernel
theorem dX2_copy_5 : decode cX2_copy 5 = .ok (.astore_n 3, 1) := by decide +kernel
theorem dX2_copy_6 : decode cX2_copy 6 = .ok (.iload_n 2, 1) := by decide +kernel
theorem dX2_copy_7 : decode cX2_copy 7 = .ok (.invokestatic 91, 3) := by decide +kernel
theorem dX2_copy_10 : decode cX2_copy 10 = .ok (.aload_n 0, 1) := by decide +kernel
theorem dX2_copy_11 : decode cX2_copy 11 = .ok (.aload_n 3, 1) := by decide +kernel
theorem dX2_copy_12 : decode cX2_copy 12 = .ok (.invokevirtual 116, 3) := by decide +kernel
theorem dX2_copy_15 : decode cX2_copy 15 = .ok (.aload_n 0, 1) := by decide +kernel
theorem dX2_copy_16 : decode cX2_copy 16 = .ok (.iload_n 2, 1) := by decide +kernel
theorem dX2_copy_17 : decode cX2_copy 17 = .ok (.invokevirtual 103, 3) := by decide +kernel
theorem dX2_copy_20 : decode cX2_copy 20 = .ok (.ireturn, 1) := by decide +kernel
set_option maxRecDepth 20000 in
theorem ggX2_size_X2_versionIn : GoodIn wsX2_size wsX2_versionIn := goodIn_ca (goodIn_r _ [5, 6, 7, 8, 4, 9, 10, 11, 22, 23, 24, 25, 26, 27] (by decide +kernel) (by decide +kernel)) (goodIn_sub (fun _ h => List.mem_cons_of_mem _ (List.mem_append_right _ h)) (by decide +kernel))
set_option maxRecDepth 20000 in
theorem gX2_size_X2_versionIn : GoodIn wsX2_size (wsV RX2 112 RX2 yX2_versionIn wsX2_versionIn) := goodIn_app (goodIn_of _ (by decide +kernel)) ggX2_size_X2_versionIn
set_option maxRecDepth 20000 in
theorem ggX2_size_X0_length : GoodIn wsX2_size wsX0_length := goodIn_r _ [16, 17, 28, 29] (by decide +kernel) (by decide +kernel)
set_option maxRecDepth 20000 in
theorem gX2_size_X0_length : GoodIn wsX2_size (wsV RX2 53 RX0 yX0_length wsX0_length) := goodIn_app (goodIn_of _ (by decide +kernel)) ggX2_size_X0_length
theorem dX2_size_0 : decode cX2_size 0 = .ok (.aload_n 0, 1) := by decide +kernel
theorem dX2_size_1 : decode cX2_size 1 = .ok (.iload_n 1, 1) := by decide +kernel
theorem dX2_size_2 : decode cX2_size 2 = .ok (.invokevirtual 112, 3) := by decide +kernel
theorem dX2_size_5 : decode cX2_size 5 = .ok (.getfield 106, 3) := by decide +kernel
theorem dX2_size_8 : decode cX2_size 8 = .ok (.invokevirtual 53, 3) := by decide +kernel
theorem dX2_size_11 : decode cX2_size 11 = .ok (.ireturn, 1) := by decide +kernel
set_option maxRecDepth 20000 in
theorem ggX2_text_X2_versionIn : GoodIn wsX2_text wsX2_versionIn := goodIn_ca (goodIn_r _ [5, 6, 7, 8, 4, 9, 10, 11, 30, 31, 32, 33, 34, 35] (by decide +kernel) (by decide +kernel)) (goodIn_sub (fun _ h => List.mem_cons_of_mem _ (List.mem_append_right _ h)) (by decide +kernel))
set_option maxRecDepth 20000 in
theorem gX2_text_X2_versionIn : GoodIn wsX2_text (wsV RX2 112 RX2 yX2_versionIn wsX2_versionIn) := goodIn_app (goodIn_of _ (by decide +kernel)) ggX2_text_X2_versionIn
set_option maxRecDepth 20000 in
theorem ggX2_text_X2_checkPlace : GoodIn wsX2_text wsX2_checkPlace := goodIn_ca (goodIn_r _ [14, 10, 11, 15, 16, 17, 18, 19, 20, 36, 37] (by decide +kernel) (by decide +kernel)) (goodIn_sub (fun _ h => List.mem_cons_of_mem _ (List.mem_append_right _ h)) (by decide +kernel))
set_option maxRecDepth 20000 in
theorem gX2_text_X2_checkPlace : GoodIn wsX2_text (va_wsS RX2 83 yX2_checkPlace wsX2_checkPlace) := goodIn_app (goodIn_of _ (by decide +kernel)) ggX2_text_X2_checkPlace
set_option maxRecDepth 20000 in
theorem ggX2_text_X0_signAt : GoodIn wsX2_text wsX0_signAt := goodIn_r _ [24, 20, 25, 36, 37] (by decide +kernel) (by decide +kernel)
set_option maxRecDepth 20000 in
theorem gX2_text_X0_signAt : GoodIn wsX2_text (wsV RX2 87 RX0 yX0_signAt wsX0_signAt) := goodIn_app (goodIn_of _ (by decide +kernel)) ggX2_text_X0_signAt
theorem dX2_text_0 : decode cX2_text 0 = .ok (.aload_n 0, 1) := by decide +kernel
theorem dX2_text_1 : decode cX2_text 1 = .ok (.iload_n 1, 1) := by decide +kernel
theorem dX2_text_2 : decode cX2_text 2 = .ok (.invokevirtual 112, 3) := by decide +kernel
theorem dX2_text_5 : decode cX2_text 5 = .ok (.astore_n 3, 1) := by decide +kernel
theorem dX2_text_6 : decode cX2_text 6 = .ok (.aload_n 3, 1) := by decide +kernel
theorem dX2_text_7 : decode cX2_text 7 = .ok (.getfield 106, 3) := by decide +kernel
theorem dX2_text_10 : decode cX2_text 10 = .ok (.iload_n 2, 1) := by decide +kernel
theorem dX2_text_11 : decode cX2_text 11 = .ok (.invokestatic 83, 3) := by decide +kernel
theorem dX2_text_14 : decode cX2_text 14 = .ok (.aload_n 3, 1) := by decide +kernel
theorem dX2_text_15 : decode cX2_text 15 = .ok (.getfield 106, 3) := by decide +kernel
theorem dX2_text_18 : decode cX2_text 18 = .ok (.iload_n 2, 1) := by decide +kernel
theorem dX2_text_19 : decode cX2_text 19 = .ok (.invokevirtual 87, 3) := by decide +kernel
theorem dX2_text_22 : decode cX2_text 22 = .ok (.ireturn, 1) := by decide +kernel
set_option maxRecDepth 20000 in
theorem ggX2_tokens_X2_versionIn : GoodIn wsX2_tokens wsX2_versionIn := goodIn_ca (goodIn_r _ [5, 6, 7, 8, 4, 9, 10, 11, 23, 24, 25, 26, 27, 28] (by decide +kernel) (by decide +kernel)) (goodIn_sub (fun _ h => List.mem_cons_of_mem _ (List.mem_append_left _ (List.mem_append_right _ h))) (by decide +kernel))
set_option maxRecDepth 20000 in
theorem gX2_tokens_X2_versionIn : GoodIn wsX2_tokens (wsV RX2 112 RX2 yX2_versionIn wsX2_versionIn) := goodIn_app (goodIn_of _ (by decide +kernel)) ggX2_tokens_X2_versionIn
set_option maxRecDepth 20000 in
theorem ggX2_tokens_X2_checkRow : GoodIn wsX2_tokens wsX2_checkRow := goodIn_ca (goodIn_r _ [14, 15, 16] (by decide +kernel) (by decide +kernel)) (goodIn_sub (fun _ h => List.mem_cons_of_mem _ (List.mem_append_right _ h)) (by decide +kernel))
set_option maxRecDepth 20000 in
theorem gX2_tokens_X2_checkRow : GoodIn wsX2_tokens (va_wsS RX2 120 yX2_checkRow wsX2_checkRow) := goodIn_app (goodIn_of _ (by decide +kernel)) ggX2_tokens_X2_checkRow
set_option maxRecDepth 20000 in
theorem ggX2_tokens_X1_tokensIn : GoodIn wsX2_tokens wsX1_tokensIn := goodIn_r _ [21, 22, 29, 30, 31, 32] (by decide +kernel) (by decide +kernel)
set_option maxRecDepth 20000 in
theorem gX2_tokens_X1_tokensIn : GoodIn wsX2_tokens (wsV RX2 123 RX1 yX1_tokensIn wsX1_tokensIn) := goodIn_app (goodIn_of _ (by decide +kernel)) ggX2_tokens_X1_tokensIn
theorem dX2_tokens_0 : decode cX2_tokens 0 = .ok (.aload_n 0, 1) := by decide +kernel
theorem dX2_tokens_1 : decode cX2_tokens 1 = .ok (.iload_n 1, 1) := by decide +kernel
theorem dX2_tokens_2 : decode cX2_tokens 2 = .ok (.invokevirtual 112, 3) := by decide +kernel
theorem dX2_tokens_5 : decode cX2_tokens 5 = .ok (.astore_n 3, 1) := by decide +kernel
theorem dX2_tokens_6 : decode cX2_tokens 6 = .ok (.iload_n 2, 1) := by decide +kernel
theorem dX2_tokens_7 : decode cX2_tokens 7 = .ok (.invokestatic 120, 3) := by decide +kernel
theorem dX2_tokens_10 : decode cX2_tokens 10 = .ok (.aload_n 3, 1) := by decide +kernel
theorem dX2_tokens_11 : decode cX2_tokens 11 = .ok (.iload_n 2, 1) := by decide +kernel
theorem dX2_tokens_12 : decode cX2_tokens 12 = .ok (.invokevirtual 123, 3) := by decide +kernel
theorem dX2_tokens_15 : decode cX2_tokens 15 = .ok (.ireturn, 1) := by decide +kernel
set_option maxRecDepth 20000 in
theorem ggX2_token_X2_versionIn : GoodIn wsX2_token wsX2_versionIn := goodIn_ca (goodIn_r _ [7, 8, 9, 10, 6, 11, 1, 2, 32, 33, 34, 35, 36, 37] (by decide +kernel) (by decide +kernel)) (goodIn_sub (fun _ h => List.mem_cons_of_mem _ (List.mem_append_left _ (List.mem_append_right _ h))) (by decide +kernel))
set_option maxRecDepth 20000 in
theorem gX2_token_X2_versionIn : GoodIn wsX2_token (wsV RX2 112 RX2 yX2_versionIn wsX2_versionIn) := goodIn_app (goodIn_of _ (by decide +kernel)) ggX2_token_X2_versionIn
set_option maxRecDepth 20000 in
theorem ggX2_token_X2_checkRow : GoodIn wsX2_token wsX2_checkRow := goodIn_ca (goodIn_r _ [14, 15, 16] (by decide +kernel) (by decide +kernel)) (goodIn_sub (fun _ h => List.mem_cons_of_mem _ (List.mem_append_right _ h)) (by decide +kernel))
set_option maxRecDepth 20000 in
theorem gX2_token_X2_checkRow : GoodIn wsX2_token (va_wsS RX2 120 yX2_checkRow wsX2_checkRow) := goodIn_app (goodIn_of _ (by decide +kernel)) ggX2_token_X2_checkRow
set_option maxRecDepth 20000 in
theorem ggX2_token_X1_tokensIn : GoodIn wsX2_token wsX1_tokensIn := goodIn_r _ [21, 22, 38, 39, 40, 41] (by decide +kernel) (by decide +kernel)
set_option maxRecDepth 20000 in
theorem gX2_token_X1_tokensIn : GoodIn wsX2_token (wsV RX2 123 RX1 yX1_tokensIn wsX1_tokensIn) := goodIn_app (goodIn_of _ (by decide +kernel)) ggX2_token_X1_tokensIn
set_option maxRecDepth 20000 in
theorem ggX2_token_X1_sizeAt : GoodIn wsX2_token wsX1_sizeAt := goodIn_r _ [26, 27, 28, 29, 30, 20, 31, 22, 38, 39, 40, 41] (by decide +kernel) (by decide +kernel)
set_option maxRecDepth 20000 in
theorem gX2_token_X1_sizeAt : GoodIn wsX2_token (wsV RX2 131 RX1 yX1_sizeAt wsX1_sizeAt) := goodIn_app (goodIn_of _ (by decide +kernel)) ggX2_token_X1_sizeAt
theorem dX2_token_0 : decode cX2_token 0 = .ok (.aload_n 0, 1) := by decide +kernel
theorem dX2_token_1 : decode cX2_token 1 = .ok (.iload_n 1, 1) := by decide +kernel
theorem dX2_token_2 : decode cX2_token 2 = .ok (.invokevirtual 112, 3) := by decide +kernel
theorem dX2_token_5 : decode cX2_token 5 = .ok (.astore 4, 2) := by decide +kernel
theorem dX2_token_7 : decode cX2_token 7 = .ok (.iload_n 2, 1) := by decide +kernel
theorem dX2_token_8 : decode cX2_token 8 = .ok (.invokestatic 120, 3) := by decide +kernel
theorem dX2_token_11 : decode cX2_token 11 = .ok (.iload_n 3, 1) := by decide +kernel
theorem dX2_token_12 : decode cX2_token 12 = .ok (.ifCond .lt 13, 3) := by decide +kernel
theorem dX2_token_15 : decode cX2_token 15 = .ok (.iload_n 3, 1) := by decide +kernel
theorem dX2_token_16 : decode cX2_token 16 = .ok (.aload 4, 2) := by decide +kernel
theorem dX2_token_18 : decode cX2_token 18 = .ok (.iload_n 2, 1) := by decide +kernel
theorem dX2_token_19 : decode cX2_token 19 = .ok (.invokevirtual 123, 3) := by decide +kernel
theorem dX2_token_22 : decode cX2_token 22 = .ok (.if_icmp .lt 13, 3) := by decide +kernel
theorem dX2_token_25 : decode cX2_token 25 = .ok (.new 126, 3) := by decide +kernel
theorem dX2_token_28 : decode cX2_token 28 = .ok (.dup, 1) := by decide +kernel
theorem dX2_token_29 : decode cX2_token 29 = .ok (.ldc 128, 2) := by decide +kernel
theorem dX2_token_31 : decode cX2_token 31 = .ok (.invokespecial 130, 3) := by decide +kernel
theorem dX2_token_34 : decode cX2_token 34 = .ok (.athrow, 1) := by decide +kernel
theorem dX2_token_35 : decode cX2_token 35 = .ok (.aload 4, 2) := by decide +kernel
theorem dX2_token_37 : decode cX2_token 37 = .ok (.iload_n 2, 1) := by decide +kernel
theorem dX2_token_38 : decode cX2_token 38 = .ok (.iload_n 3, 1) := by decide +kernel
theorem dX2_token_39 : decode cX2_token 39 = .ok (.invokevirtual 131, 3) := by decide +kernel
theorem dX2_token_42 : decode cX2_token 42 = .ok (.ireturn, 1) := by decide +kernel
set_option maxRecDepth 20000 in
theorem ggX2_compare_X2_versionIn : GoodIn wsX2_compare wsX2_versionIn := goodIn_ca (goodIn_r _ [5, 6, 7, 8, 4, 9, 10, 11, 65, 66, 67, 68, 69, 70] (by decide +kernel) (by decide +kernel)) (goodIn_sub (fun _ h => List.mem_cons_of_mem _ (List.mem_append_right _ h)) (by decide +kernel))
set_option maxRecDepth 20000 in
theorem gX2_compare_X2_versionIn : GoodIn wsX2_compare (wsV RX2 112 RX2 yX2_versionIn wsX2_versionIn) := goodIn_app (goodIn_of _ (by decide +kernel)) ggX2_compare_X2_versionIn
set_option maxRecDepth 20000 in
theorem ggX2_compare_X1_orderTo : GoodIn wsX2_compare wsX1_orderTo := goodIn_r _ [16, 17, 18, 19, 15, 20, 21, 22, 23, 24, 25, 26, 27, 28, 29, 30, 31, 32, 33, 34, 35, 36, 37, 38, 39, 40, 41, 42, 43, 44, 45, 46, 47, 48, 49, 50, 51, 52, 53, 54, 55, 56, 57, 58, 59, 60, 4, 61, 62, 63, 64, 71, 72, 73, 74, 75, 76] (by decide +kernel) (by decide +kernel)
set_option maxRecDepth 20000 in
theorem gX2_compare_X1_orderTo : GoodIn wsX2_compare (wsV RX2 135 RX1 yX1_orderTo wsX1_orderTo) := goodIn_app (goodIn_of _ (by decide +kernel)) ggX2_compare_X1_orderTo
theorem dX2_compare_0 : decode cX2_compare 0 = .ok (.aload_n 0, 1) := by decide +kernel
theorem dX2_compare_1 : decode cX2_compare 1 = .ok (.iload_n 1, 1) := by decide +kernel
theorem dX2_compare_2 : decode cX2_compare 2 = .ok (.invokevirtual 112, 3) := by decide +kernel
theorem dX2_compare_5 : decode cX2_compare 5 = .ok (.aload_n 0, 1) := by decide +kernel
theorem dX2_compare_6 : decode cX2_compare 6 = .ok (.iload_n 2, 1) := by decide +kernel
theorem dX2_compare_7 : decode cX2_compare 7 = .ok (.invokevirtual 112, 3) := by decide +kernel
theorem dX2_compare_10 : decode cX2_compare 10 = .ok (.invokevirtual 135, 3) := by decide +kernel
theorem dX2_compare_13 : decode cX2_compare 13 = .ok (.ireturn, 1) := by decide +kernel
set_option maxRecDepth 20000 in
theorem ggX2_isSame_X2_versionIn : GoodIn wsX2_isSame wsX2_versionIn := goodIn_ca (goodIn_r _ [5, 6, 7, 8, 4, 9, 10, 11, 65, 66, 67, 68, 69, 70] (by decide +kernel) (by decide +kernel)) (goodIn_sub (fun _ h => List.mem_cons_of_mem _ (List.mem_append_right _ h)) (by decide +kernel))
set_option maxRecDepth 20000 in
theorem gX2_isSame_X2_versionIn : GoodIn wsX2_isSame (wsV RX2 112 RX2 yX2_versionIn wsX2_versionIn) := goodIn_app (goodIn_of _ (by decide +kernel)) ggX2_isSame_X2_versionIn
set_option maxRecDepth 20000 in
theorem ggX2_isSame_X1_orderTo : GoodIn wsX2_isSame wsX1_orderTo := goodIn_r _ [16, 17, 18, 19, 15, 20, 21, 22, 23, 24, 25, 26, 27, 28, 29, 30, 31, 32, 33, 34, 35, 36, 37, 38, 39, 40, 41, 42, 43, 44, 45, 46, 47, 48, 49, 50, 51, 52, 53, 54, 55, 56, 57, 58, 59, 60, 4, 61, 62, 63, 64, 71, 72, 73, 74, 75, 76] (by decide +kernel) (by decide +kernel)
set_option maxRecDepth 20000 in
theorem gX2_isSame_X1_orderTo : GoodIn wsX2_isSame (wsV RX2 135 RX1 yX1_orderTo wsX1_orderTo) := goodIn_app (goodIn_of _ (by decide +kernel)) ggX2_isSame_X1_orderTo
theorem dX2_isSame_0 : decode cX2_isSame 0 = .ok (.aload_n 0, 1) := by decide +kernel
theorem dX2_isSame_1 : decode cX2_isSame 1 = .ok (.iload_n 1, 1) := by decide +kernel
theorem dX2_isSame_2 : decode cX2_isSame 2 = .ok (.invokevirtual 112, 3) := by decide +kernel
theorem dX2_isSame_5 : decode cX2_isSame 5 = .ok (.aload_n 0, 1) := by decide +kernel
theorem dX2_isSame_6 : decode cX2_isSame 6 = .ok (.iload_n 2, 1) := by decide +kernel
theorem dX2_isSame_7 : decode cX2_isSame 7 = .ok (.invokevirtual 112, 3) := by decide +kernel
theorem dX2_isSame_10 : decode cX2_isSame 10 = .ok (.invokevirtual 135, 3) := by decide +kernel
theorem dX2_isSame_13 : decode cX2_isSame 13 = .ok (.ifCond .ne 7, 3) := by decide +kernel
theorem dX2_isSame_16 : decode cX2_isSame 16 = .ok (.iconst 1, 1) := by decide +kernel
theorem dX2_isSame_17 : decode cX2_isSame 17 = .ok (.goto 4, 3) := by decide +kernel
theorem dX2_isSame_20 : decode cX2_isSame 20 = .ok (.iconst 0, 1) := by decide +kernel
theorem dX2_isSame_21 : decode cX2_isSame 21 = .ok (.ireturn, 1) := by decide +kernel
set_option maxRecDepth 20000 in
theorem ggX2_apart_X2_versionIn : GoodIn wsX2_apart wsX2_versionIn := goodIn_ca (goodIn_r _ [5, 6, 7, 8, 4, 9, 10, 11, 65, 66, 67, 68, 69, 70] (by decide +kernel) (by decide +kernel)) (goodIn_sub (fun _ h => List.mem_cons_of_mem _ (List.mem_append_right _ h)) (by decide +kernel))
set_option maxRecDepth 20000 in
theorem gX2_apart_X2_versionIn : GoodIn wsX2_apart (wsV RX2 112 RX2 yX2_versionIn wsX2_versionIn) := goodIn_app (goodIn_of _ (by decide +kernel)) ggX2_apart_X2_versionIn
set_option maxRecDepth 20000 in
theorem ggX2_apart_X1_tellingRow : GoodIn wsX2_apart wsX1_tellingRow := goodIn_r _ [16, 17, 18, 19, 15, 20, 21, 22, 23, 24, 25, 26, 27, 28, 29, 30, 31, 32, 33, 34, 35, 36, 37, 38, 39, 40, 41, 42, 43, 44, 45, 46, 47, 48, 49, 50, 51, 52, 53, 54, 55, 56, 57, 58, 59, 60, 4, 61, 62, 63, 64, 71, 72, 73, 74, 75, 76] (by decide +kernel) (by decide +kernel)
set_option maxRecDepth 20000 in
theorem gX2_apart_X1_tellingRow : GoodIn wsX2_apart (wsV RX2 139 RX1 yX1_tellingRow wsX1_tellingRow) := goodIn_app (goodIn_of _ (by decide +kernel)) ggX2_apart_X1_tellingRow
theorem dX2_apart_0 : decode cX2_apart 0 = .ok (.aload_n 0, 1) := by decide +kernel
theorem dX2_apart_1 : decode cX2_apart 1 = .ok (.iload_n 1, 1) := by decide +kernel
theorem dX2_apart_2 : decode cX2_apart 2 = .ok (.invokevirtual 112, 3) := by decide +kernel
theorem dX2_apart_5 : decode cX2_apart 5 = .ok (.aload_n 0, 1) := by decide +kernel
theorem dX2_apart_6 : decode cX2_apart 6 = .ok (.iload_n 2, 1) := by decide +kernel
theorem dX2_apart_7 : decode cX2_apart 7 = .ok (.invokevirtual 112, 3) := by decide +kernel
theorem dX2_apart_10 : decode cX2_apart 10 = .ok (.invokevirtual 139, 3) := by decide +kernel
theorem dX2_apart_13 : decode cX2_apart 13 = .ok (.ireturn, 1) := by decide +kernel
set_option maxRecDepth 20000 in
theorem ggX2_rank_X2_versionIn : GoodIn wsX2_rank wsX2_versionIn := goodIn_ca (goodIn_r _ [6, 1, 7, 8, 5, 9, 10, 11, 65, 66, 67, 68, 69, 70] (by decide +kernel) (by decide +kernel)) (goodIn_sub (fun _ h => List.mem_cons_of_mem _ (List.mem_append_right _ h)) (by decide +kernel))
set_option maxRecDepth 20000 in
theorem gX2_rank_X2_versionIn : GoodIn wsX2_rank (wsV RX2 112 RX2 yX2_versionIn wsX2_versionIn) := goodIn_app (goodIn_of _ (by decide +kernel)) ggX2_rank_X2_versionIn
set_option maxRecDepth 20000 in
theorem ggX2_rank_X1_orderTo : GoodIn wsX2_rank wsX1_orderTo := goodIn_r _ [16, 17, 18, 19, 15, 20, 21, 22, 23, 24, 25, 26, 27, 28, 29, 30, 31, 32, 33, 34, 35, 36, 37, 38, 39, 40, 41, 42, 43, 44, 45, 46, 47, 48, 49, 50, 51, 52, 53, 54, 55, 56, 57, 58, 59, 60, 5, 61, 62, 63, 64, 71, 72, 73, 74, 75, 76] (by decide +kernel) (by decide +kernel)
set_option maxRecDepth 20000 in
theorem gX2_rank_X1_orderTo : GoodIn wsX2_rank (wsV RX2 135 RX1 yX1_orderTo wsX1_orderTo) := goodIn_app (goodIn_of _ (by decide +kernel)) ggX2_rank_X1_orderTo
theorem dX2_rank_0 : decode cX2_rank 0 = .ok (.aload_n 0, 1) := by decide +kernel
theorem dX2_rank_1 : decode cX2_rank 1 = .ok (.iload_n 1, 1) := by decide +kernel
theorem dX2_rank_2 : decode cX2_rank 2 = .ok (.invokevirtual 112, 3) := by decide +kernel
theorem dX2_rank_5 : decode cX2_rank 5 = .ok (.astore_n 2, 1) := by decide +kernel
theorem dX2_rank_6 : decode cX2_rank 6 = .ok (.iconst 0, 1) := by decide +kernel
theorem dX2_rank_7 : decode cX2_rank 7 = .ok (.istore_n 3, 1) := by decide +kernel
theorem dX2_rank_8 : decode cX2_rank 8 = .ok (.iconst 0, 1) := by decide +kernel
theorem dX2_rank_9 : decode cX2_rank 9 = .ok (.istore 4, 2) := by decide +kernel
theorem dX2_rank_11 : decode cX2_rank 11 = .ok (.iload 4, 2) := by decide +kernel
theorem dX2_rank_13 : decode cX2_rank 13 = .ok (.bipush 8, 2) := by decide +kernel
theorem dX2_rank_15 : decode cX2_rank 15 = .ok (.if_icmp .ge 26, 3) := by decide +kernel
theorem dX2_rank_18 : decode cX2_rank 18 = .ok (.aload_n 0, 1) := by decide +kernel
theorem dX2_rank_19 : decode cX2_rank 19 = .ok (.getfield 18, 3) := by decide +kernel
theorem dX2_rank_22 : decode cX2_rank 22 = .ok (.iload 4, 2) := by decide +kernel
theorem dX2_rank_24 : decode cX2_rank 24 = .ok (.aaload, 1) := by decide +kernel
theorem dX2_rank_25 : decode cX2_rank 25 = .ok (.aload_n 2, 1) := by decide +kernel
theorem dX2_rank_26 : decode cX2_rank 26 = .ok (.invokevirtual 135, 3) := by decide +kernel
theorem dX2_rank_29 : decode cX2_rank 29 = .ok (.ifCond .ge 6, 3) := by decide +kernel
theorem dX2_rank_32 : decode cX2_rank 32 = .ok (.iinc 3 1, 3) := by decide +kernel
theorem dX2_rank_35 : decode cX2_rank 35 = .ok (.iinc 4 1, 3) := by decide +kernel
theorem dX2_rank_38 : decode cX2_rank 38 = .ok (.goto (-27), 3) := by decide +kernel
theorem dX2_rank_41 : decode cX2_rank 41 = .ok (.iload_n 3, 1) := by decide +kernel
theorem dX2_rank_42 : decode cX2_rank 42 = .ok (.ireturn, 1) := by decide +kernel
set_option maxRecDepth 20000 in
theorem ggX2_at_X2_orderSlots : GoodIn wsX2_at wsX2_orderSlots := goodIn_ca (goodIn_r _ [8, 9, 3, 10, 11, 12, 7, 13, 14, 15, 16, 1, 2, 17, 18, 19, 20, 21, 22, 23, 24, 25, 26, 27, 28, 29, 30, 31, 32, 33, 34, 35, 36, 37, 38, 39, 40, 41, 42, 43, 44, 45, 46, 47, 48, 49, 50, 51, 52, 53, 54, 55, 56, 57, 58, 59, 60, 61, 62, 63, 64, 65, 66, 67, 68, 69, 70, 71, 72, 73, 74, 75, 76, 77, 78, 79, 80, 81] (by decide +kernel) (by decide +kernel)) (goodIn_sub (fun _ h => List.mem_cons_of_mem _ (List.mem_append_right _ h)) (by decide +kernel))
set_option maxRecDepth 20000 in
theorem gX2_at_X2_orderSlots : GoodIn wsX2_at (wsV RX2 144 RX2 yX2_orderSlots wsX2_orderSlots) := goodIn_app (goodIn_of _ (by decide +kernel)) ggX2_at_X2_orderSlots
theorem dX2_at_0 : decode cX2_at 0 = .ok (.iload_n 1, 1) := by decide +kernel
theorem dX2_at_1 : decode cX2_at 1 = .ok (.ifCond .lt 9, 3) := by decide +kernel
theorem dX2_at_4 : decode cX2_at 4 = .ok (.iload_n 1, 1) := by decide +kernel
theorem dX2_at_5 : decode cX2_at 5 = .ok (.bipush 8, 2) := by decide +kernel
theorem dX2_at_7 : decode cX2_at 7 = .ok (.if_icmp .lt 13, 3) := by decide +kernel
theorem dX2_at_10 : decode cX2_at 10 = .ok (.new 126, 3) := by decide +kernel
theorem dX2_at_13 : decode cX2_at 13 = .ok (.dup, 1) := by decide +kernel
theorem dX2_at_14 : decode cX2_at 14 = .ok (.ldc 142, 2) := by decide +kernel
theorem dX2_at_16 : decode cX2_at 16 = .ok (.invokespecial 130, 3) := by decide +kernel
theorem dX2_at_19 : decode cX2_at 19 = .ok (.athrow, 1) := by decide +kernel
theorem dX2_at_20 : decode cX2_at 20 = .ok (.aload_n 0, 1) := by decide +kernel
theorem dX2_at_21 : decode cX2_at 21 = .ok (.invokevirtual 144, 3) := by decide +kernel
theorem dX2_at_24 : decode cX2_at 24 = .ok (.aload_n 0, 1) := by decide +kernel
theorem dX2_at_25 : decode cX2_at 25 = .ok (.getfield 25, 3) := by decide +kernel
theorem dX2_at_28 : decode cX2_at 28 = .ok (.iload_n 1, 1) := by decide +kernel
theorem dX2_at_29 : decode cX2_at 29 = .ok (.iaload, 1) := by decide +kernel
theorem dX2_at_30 : decode cX2_at 30 = .ok (.ireturn, 1) := by decide +kernel
set_option maxRecDepth 20000 in
theorem ggX2_sort_X2_orderSlots : GoodIn wsX2_sort wsX2_orderSlots := goodIn_ca (goodIn_r _ [8, 3, 2, 9, 10, 11, 7, 12, 13, 14, 15, 16, 17, 18, 19, 20, 21, 22, 23, 24, 25, 26, 27, 28, 29, 30, 31, 32, 33, 34, 35, 36, 37, 38, 39, 40, 41, 42, 43, 44, 45, 46, 47, 48, 49, 50, 51, 52, 53, 54, 55, 56, 57, 58, 59, 60, 61, 62, 63, 64, 65, 66, 67, 68, 69, 70, 71, 72, 73, 74, 75, 76, 77, 78, 79, 80, 81, 82] (by decide +kernel) (by decide +kernel)) (goodIn_sub (fun _ h => List.mem_cons_of_mem _ (List.mem_append_right _ h)) (by decide +kernel))
set_option maxRecDepth 20000 in
theorem gX2_sort_X2_orderSlots : GoodIn wsX2_sort (wsV RX2 144 RX2 yX2_orderSlots wsX2_orderSlots) := goodIn_app (goodIn_of _ (by decide +kernel)) ggX2_sort_X2_orderSlots
set_option maxRecDepth 20000 in
theorem ggX2_sort_X2_versionIn : GoodIn wsX2_sort wsX2_versionIn := goodIn_ca (goodIn_r _ [12, 3, 13, 14, 7, 15, 16, 17, 71, 72, 73, 74, 75, 76] (by decide +kernel) (by decide +kernel)) (goodIn_sub (fun _ h => List.mem_cons_of_mem _ (List.mem_append_right _ h)) (by decide +kernel))
set_option maxRecDepth 20000 in
theorem gX2_sort_X2_versionIn : GoodIn wsX2_sort (wsV RX2 112 RX2 yX2_versionIn wsX2_versionIn) := goodIn_app (goodIn_of _ (by decide +kernel)) ggX2_sort_X2_versionIn
theorem dX2_sort_0 : decode cX2_sort 0 = .ok (.aload_n 0, 1) := by decide +kernel
theorem dX2_sort_1 : decode cX2_sort 1 = .ok (.invokevirtual 144, 3) := by decide +kernel
theorem dX2_sort_4 : decode cX2_sort 4 = .ok (.iconst 0, 1) := by decide +kernel
theorem dX2_sort_5 : decode cX2_sort 5 = .ok (.istore_n 1, 1) := by decide +kernel
theorem dX2_sort_6 : decode cX2_sort 6 = .ok (.iconst 0, 1) := by decide +kernel
theorem dX2_sort_7 : decode cX2_sort 7 = .ok (.istore_n 2, 1) := by decide +kernel
theorem dX2_sort_8 : decode cX2_sort 8 = .ok (.iload_n 2, 1) := by decide +kernel
theorem dX2_sort_9 : decode cX2_sort 9 = .ok (.bipush 8, 2) := by decide +kernel
theorem dX2_sort_11 : decode cX2_sort 11 = .ok (.if_icmp .ge 38, 3) := by decide +kernel
theorem dX2_sort_14 : decode cX2_sort 14 = .ok (.aload_n 0, 1) := by decide +kernel
theorem dX2_sort_15 : decode cX2_sort 15 = .ok (.getfield 22, 3) := by decide +kernel
theorem dX2_sort_18 : decode cX2_sort 18 = .ok (.iload_n 2, 1) := by decide +kernel
theorem dX2_sort_19 : decode cX2_sort 19 = .ok (.aload_n 0, 1) := by decide +kernel
theorem dX2_sort_20 : decode cX2_sort 20 = .ok (.aload_n 0, 1) := by decide +kernel
theorem dX2_sort_21 : decode cX2_sort 21 = .ok (.getfield 25, 3) := by decide +kernel
theorem dX2_sort_24 : decode cX2_sort 24 = .ok (.iload_n 2, 1) := by decide +kernel
theorem dX2_sort_25 : decode cX2_sort 25 = .ok (.iaload, 1) := by decide +kernel
theorem dX2_sort_26 : decode cX2_sort 26 = .ok (.invokevirtual 112, 3) := by decide +kernel
theorem dX2_sort_29 : decode cX2_sort 29 = .ok (.aastore, 1) := by decide +kernel
theorem dX2_sort_30 : decode cX2_sort 30 = .ok (.aload_n 0, 1) := by decide +kernel
theorem dX2_sort_31 : decode cX2_sort 31 = .ok (.getfield 25, 3) := by decide +kernel
theorem dX2_sort_34 : decode cX2_sort 34 = .ok (.iload_n 2, 1) := by decide +kernel
theorem dX2_sort_35 : decode cX2_sort 35 = .ok (.iaload, 1) := by decide +kernel
theorem dX2_sort_36 : decode cX2_sort 36 = .ok (.iload_n 2, 1) := by decide +kernel
theorem dX2_sort_37 : decode cX2_sort 37 = .ok (.if_icmp .eq 6, 3) := by decide +kernel
theorem dX2_sort_40 : decode cX2_sort 40 = .ok (.iinc 1 1, 3) := by decide +kernel
theorem dX2_sort_43 : decode cX2_sort 43 = .ok (.iinc 2 1, 3) := by decide +kernel
theorem dX2_sort_46 : decode cX2_sort 46 = .ok (.goto (-38), 3) := by decide +kernel
theorem dX2_sort_49 : decode cX2_sort 49 = .ok (.iconst 0, 1) := by decide +kernel
theorem dX2_sort_50 : decode cX2_sort 50 = .ok (.istore_n 2, 1) := by decide +kernel
theorem dX2_sort_51 : decode cX2_sort 51 = .ok (.iload_n 2, 1) := by decide +kernel
theorem dX2_sort_52 : decode cX2_sort 52 = .ok (.bipush 8, 2) := by decide +kernel
theorem dX2_sort_54 : decode cX2_sort 54 = .ok (.if_icmp .ge 21, 3) := by decide +kernel
theorem dX2_sort_57 : decode cX2_sort 57 = .ok (.aload_n 0, 1) := by decide +kernel
theorem dX2_sort_58 : decode cX2_sort 58 = .ok (.getfield 18, 3) := by decide +kernel
theorem dX2_sort_61 : decode cX2_sort 61 = .ok (.iload_n 2, 1) := by decide +kernel
theorem dX2_sort_62 : decode cX2_sort 62 = .ok (.aload_n 0, 1) := by decide +kernel
theorem dX2_sort_63 : decode cX2_sort 63 = .ok (.getfield 22, 3) := by decide +kernel
theorem dX2_sort_66 : decode cX2_sort 66 = .ok (.iload_n 2, 1) := by decide +kernel
theorem dX2_sort_67 : decode cX2_sort 67 = .ok (.aaload, 1) := by decide +kernel
theorem dX2_sort_68 : decode cX2_sort 68 = .ok (.aastore, 1) := by decide +kernel
theorem dX2_sort_69 : decode cX2_sort 69 = .ok (.iinc 2 1, 3) := by decide +kernel
theorem dX2_sort_72 : decode cX2_sort 72 = .ok (.goto (-21), 3) := by decide +kernel
theorem dX2_sort_75 : decode cX2_sort 75 = .ok (.iload_n 1, 1) := by decide +kernel
theorem dX2_sort_76 : decode cX2_sort 76 = .ok (.ireturn, 1) := by decide +kernel
set_option maxRecDepth 20000 in
theorem ggX2_between_X2_versionIn : GoodIn wsX2_between wsX2_versionIn := goodIn_ca (goodIn_r _ [6, 1, 7, 8, 5, 9, 10, 11, 65, 66, 67, 68, 69, 70] (by decide +kernel) (by decide +kernel)) (goodIn_sub (fun _ h => List.mem_cons_of_mem _ (List.mem_append_right _ h)) (by decide +kernel))
set_option maxRecDepth 20000 in
theorem gX2_between_X2_versionIn : GoodIn wsX2_between (wsV RX2 112 RX2 yX2_versionIn wsX2_versionIn) := goodIn_app (goodIn_of _ (by decide +kernel)) ggX2_between_X2_versionIn
set_option maxRecDepth 20000 in
theorem ggX2_between_X1_orderTo : GoodIn wsX2_between wsX1_orderTo := goodIn_r _ [16, 17, 18, 19, 15, 20, 21, 22, 23, 24, 25, 26, 27, 28, 29, 30, 31, 32, 33, 34, 35, 36, 37, 38, 39, 40, 41, 42, 43, 44, 45, 46, 47, 48, 49, 50, 51, 52, 53, 54, 55, 56, 57, 58, 59, 60, 5, 61, 62, 63, 64, 71, 72, 73, 74, 75, 76] (by decide +kernel) (by decide +kernel)
set_option maxRecDepth 20000 in
theorem gX2_between_X1_orderTo : GoodIn wsX2_between (wsV RX2 135 RX1 yX1_orderTo wsX1_orderTo) := goodIn_app (goodIn_of _ (by decide +kernel)) ggX2_between_X1_orderTo
theorem dX2_between_0 : decode cX2_between 0 = .ok (.aload_n 0, 1) := by decide +kernel
theorem dX2_between_1 : decode cX2_between 1 = .ok (.iload_n 1, 1) := by decide +kernel
theorem dX2_between_2 : decode cX2_between 2 = .ok (.invokevirtual 112, 3) := by decide +kernel
theorem dX2_between_5 : decode cX2_between 5 = .ok (.astore_n 3, 1) := by decide +kernel
theorem dX2_between_6 : decode cX2_between 6 = .ok (.aload_n 0, 1) := by decide +kernel
theorem dX2_between_7 : decode cX2_between 7 = .ok (.iload_n 2, 1) := by decide +kernel
theorem dX2_between_8 : decode cX2_between 8 = .ok (.invokevirtual 112, 3) := by decide +kernel
theorem dX2_between_11 : decode cX2_between 11 = .ok (.astore 4, 2) := by decide +kernel
theorem dX2_between_13 : decode cX2_between 13 = .ok (.iconst 0, 1) := by decide +kernel
theorem dX2_between_14 : decode cX2_between 14 = .ok (.istore 5, 2) := by decide +kernel
theorem dX2_between_16 : decode cX2_between 16 = .ok (.iconst 0, 1) := by decide +kernel
theorem dX2_between_17 : decode cX2_between 17 = .ok (.istore 6, 2) := by decide +kernel
theorem dX2_between_19 : decode cX2_between 19 = .ok (.iload 6, 2) := by decide +kernel
theorem dX2_between_21 : decode cX2_between 21 = .ok (.bipush 8, 2) := by decide +kernel
theorem dX2_between_23 : decode cX2_between 23 = .ok (.if_icmp .ge 41, 3) := by decide +kernel
theorem dX2_between_26 : decode cX2_between 26 = .ok (.aload_n 0, 1) := by decide +kernel
theorem dX2_between_27 : decode cX2_between 27 = .ok (.getfield 18, 3) := by decide +kernel
theorem dX2_between_30 : decode cX2_between 30 = .ok (.iload 6, 2) := by decide +kernel
theorem dX2_between_32 : decode cX2_between 32 = .ok (.aaload, 1) := by decide +kernel
theorem dX2_between_33 : decode cX2_between 33 = .ok (.aload_n 3, 1) := by decide +kernel
theorem dX2_between_34 : decode cX2_between 34 = .ok (.invokevirtual 135, 3) := by decide +kernel
theorem dX2_between_37 : decode cX2_between 37 = .ok (.ifCond .lt 21, 3) := by decide +kernel
theorem dX2_between_40 : decode cX2_between 40 = .ok (.aload_n 0, 1) := by decide +kernel
theorem dX2_between_41 : decode cX2_between 41 = .ok (.getfield 18, 3) := by decide +kernel
theorem dX2_between_44 : decode cX2_between 44 = .ok (.iload 6, 2) := by decide +kernel
theorem dX2_between_46 : decode cX2_between 46 = .ok (.aaload, 1) := by decide +kernel
theorem dX2_between_47 : decode cX2_between 47 = .ok (.aload 4, 2) := by decide +kernel
theorem dX2_between_49 : decode cX2_between 49 = .ok (.invokevirtual 135, 3) := by decide +kernel
theorem dX2_between_52 : decode cX2_between 52 = .ok (.ifCond .ge 6, 3) := by decide +kernel
theorem dX2_between_55 : decode cX2_between 55 = .ok (.iinc 5 1, 3) := by decide +kernel
theorem dX2_between_58 : decode cX2_between 58 = .ok (.iinc 6 1, 3) := by decide +kernel
theorem dX2_between_61 : decode cX2_between 61 = .ok (.goto (-42), 3) := by decide +kernel
theorem dX2_between_64 : decode cX2_between 64 = .ok (.iload 5, 2) := by decide +kernel
theorem dX2_between_66 : decode cX2_between 66 = .ok (.ireturn, 1) := by decide +kernel
set_option maxRecDepth 20000 in
theorem ggX2_zero_X2_versionIn : GoodIn wsX2_zero wsX2_versionIn := goodIn_ca (goodIn_r _ [6, 7, 8, 9, 5, 10, 11, 12, 132, 133, 134, 135, 136, 137] (by decide +kernel) (by decide +kernel)) (goodIn_sub (fun _ h => List.mem_cons_of_mem _ (List.mem_append_left _ (List.mem_append_right _ h))) (by decide +kernel))
set_option maxRecDepth 20000 in
theorem gX2_zero_X2_versionIn : GoodIn wsX2_zero (wsV RX2 112 RX2 yX2_versionIn wsX2_versionIn) := goodIn_app (goodIn_of _ (by decide +kernel)) ggX2_zero_X2_versionIn
set_option maxRecDepth 20000 in
theorem ggX2_zero_X2_checkSlot : GoodIn wsX2_zero wsX2_checkSlot := goodIn_ca (goodIn_r _ [10, 11, 12] (by decide +kernel) (by decide +kernel)) (goodIn_sub (fun _ h => List.mem_cons_of_mem _ (List.mem_append_left _ (List.mem_append_right _ h))) (by decide +kernel))
set_option maxRecDepth 20000 in
theorem gX2_zero_X2_checkSlot : GoodIn wsX2_zero (va_wsS RX2 91 yX2_checkSlot wsX2_checkSlot) := goodIn_app (goodIn_of _ (by decide +kernel)) ggX2_zero_X2_checkSlot
set_option maxRecDepth 20000 in
theorem ggX2_zero_X2_digitsOf : GoodIn wsX2_zero wsX2_digitsOf := goodIn_r _ [15] (by decide +kernel) (by decide +kernel)
set_option maxRecDepth 20000 in
theorem gX2_zero_X2_digitsOf : GoodIn wsX2_zero (va_wsS RX2 62 yX2_digitsOf wsX2_digitsOf) := goodIn_app (goodIn_of _ (by decide +kernel)) ggX2_zero_X2_digitsOf
set_option maxRecDepth 20000 in
theorem ggX2_zero_X2_checkRoom : GoodIn wsX2_zero wsX2_checkRoom := goodIn_ca (goodIn_r _ [18, 19, 20, 21, 22, 23, 24, 25, 26, 138, 139] (by decide +kernel) (by decide +kernel)) (goodIn_sub (fun _ h => List.mem_cons_of_mem _ (List.mem_append_right _ h)) (by decide +kernel))
set_option maxRecDepth 20000 in
theorem gX2_zero_X2_checkRoom : GoodIn wsX2_zero (va_wsS RX2 147 yX2_checkRoom wsX2_checkRoom) := goodIn_app (goodIn_of _ (by decide +kernel)) ggX2_zero_X2_checkRoom
set_option maxRecDepth 20000 in
theorem ggX2_zero_X2_parseWithNumberBehind : GoodIn wsX2_zero wsX2_parseWithNumberBehind := goodIn_r _ [30, 1, 31, 32, 33, 34, 35, 36, 37, 38, 39, 24, 40, 26, 41, 42, 43, 44, 45, 22, 23, 25, 46, 47, 48, 49, 50, 51, 52, 53, 54, 55, 56, 57, 58, 59, 60, 61, 62, 63, 64, 65, 66, 67, 68, 5, 69, 70, 71, 72, 73, 74, 75, 76, 77, 78, 79, 80, 81, 82, 83, 84, 85, 86, 87, 88, 89, 90, 132, 133, 134, 135, 136, 137, 128, 129, 130, 131, 138, 139] (by decide +kernel) (by decide +kernel)
set_option maxRecDepth 20000 in
theorem gX2_zero_X2_parseWithNumberBehind : GoodIn wsX2_zero (wsV RX2 150 RX2 yX2_parseWithNumberBehind wsX2_parseWithNumberBehind) := goodIn_app (goodIn_of _ (by decide +kernel)) ggX2_zero_X2_parseWithNumberBehind
set_option maxRecDepth 20000 in
theorem ggX2_zero_X1_orderTo : GoodIn wsX2_zero wsX1_orderTo := goodIn_r _ [94, 95, 96, 97, 34, 98, 99, 100, 101, 102, 103, 104, 105, 106, 79, 80, 81, 82, 65, 107, 108, 109, 110, 78, 87, 88, 89, 90, 111, 112, 113, 114, 36, 115, 116, 117, 118, 77, 67, 47, 48, 24, 49, 26, 50, 119, 5, 120, 121, 122, 123, 128, 129, 130, 131, 138, 139] (by decide +kernel) (by decide +kernel)
set_option maxRecDepth 20000 in
theorem gX2_zero_X1_orderTo : GoodIn wsX2_zero (wsV RX2 135 RX1 yX1_orderTo wsX1_orderTo) := goodIn_app (goodIn_of _ (by decide +kernel)) ggX2_zero_X1_orderTo
set_option maxRecDepth 20000 in
theorem ggX2_zero_X2_exchangeSpare : GoodIn wsX2_zero wsX2_exchangeSpare := goodIn_ca (goodIn_r _ [127, 1, 7, 2, 3, 4, 5, 6, 8, 9, 10, 11, 12, 91, 92, 93, 34, 94, 95, 96, 97, 98, 99, 100, 101, 102, 103, 104, 105, 106, 79, 80, 81, 82, 65, 107, 108, 109, 110, 78, 87, 88, 89, 90, 111, 112, 113, 114, 36, 115, 116, 117, 118, 77, 67, 47, 48, 24, 49, 26, 50, 119, 120, 121, 122, 123, 132, 133, 134, 135, 136, 137, 128, 129, 130, 131, 138, 139] (by decide +kernel) (by decide +kernel)) (goodIn_sub (fun _ h => List.mem_cons_of_mem _ (List.mem_append_left _ (List.mem_append_right _ h))) (by decide +kernel))
set_option maxRecDepth 20000 in
theorem gX2_zero_X2_exchangeSpare : GoodIn wsX2_zero (wsV RX2 103 RX2 yX2_exchangeSpare wsX2_exchangeSpare) := goodIn_app (goodIn_of _ (by decide +kernel)) ggX2_zero_X2_exchangeSpare
theorem dX2_zero_0 : decode cX2_zero 0 = .ok (.aload_n 0, 1) := by decide +kernel
theorem dX2_zero_1 : decode cX2_zero 1 = .ok (.iload_n 1, 1) := by decide +kernel
theorem dX2_zero_2 : decode cX2_zero 2 = .ok (.invokevirtual 112, 3) := by decide +kernel
theorem dX2_zero_5 : decode cX2_zero 5 = .ok (.astore_n 3, 1) := by decide +kernel
theorem dX2_zero_6 : decode cX2_zero 6 = .ok (.iload_n 2, 1) := by decide +kernel
theorem dX2_zero_7 : decode cX2_zero 7 = .ok (.invokestatic 91, 3) := by decide +kernel
theorem dX2_zero_10 : decode cX2_zero 10 = .ok (.aload_n 3, 1) := by decide +kernel
theorem dX2_zero_11 : decode cX2_zero 11 = .ok (.getfield 106, 3) := by decide +kernel
theorem dX2_zero_14 : decode cX2_zero 14 = .ok (.iconst 1, 1) := by decide +kernel
theorem dX2_zero_15 : decode cX2_zero 15 = .ok (.iconst 0, 1) := by decide +kernel
theorem dX2_zero_16 : decode cX2_zero 16 = .ok (.invokestatic 62, 3) := by decide +kernel
theorem dX2_zero_19 : decode cX2_zero 19 = .ok (.iadd, 1) := by decide +kernel
theorem dX2_zero_20 : decode cX2_zero 20 = .ok (.invokestatic 147, 3) := by decide +kernel
theorem dX2_zero_23 : decode cX2_zero 23 = .ok (.aload_n 0, 1) := by decide +kernel
theorem dX2_zero_24 : decode cX2_zero 24 = .ok (.aload_n 3, 1) := by decide +kernel
theorem dX2_zero_25 : decode cX2_zero 25 = .ok (.bipush 46, 2) := by decide +kernel
theorem dX2_zero_27 : decode cX2_zero 27 = .ok (.iconst 0, 1) := by decide +kernel
theorem dX2_zero_28 : decode cX2_zero 28 = .ok (.invokevirtual 150, 3) := by decide +kernel
theorem dX2_zero_31 : decode cX2_zero 31 = .ok (.aload_n 0, 1) := by decide +kernel
theorem dX2_zero_32 : decode cX2_zero 32 = .ok (.getfield 33, 3) := by decide +kernel
theorem dX2_zero_35 : decode cX2_zero 35 = .ok (.aload_n 3, 1) := by decide +kernel
theorem dX2_zero_36 : decode cX2_zero 36 = .ok (.invokevirtual 135, 3) := by decide +kernel
theorem dX2_zero_39 : decode cX2_zero 39 = .ok (.ifCond .ne 7, 3) := by decide +kernel
theorem dX2_zero_42 : decode cX2_zero 42 = .ok (.iconst 1, 1) := by decide +kernel
theorem dX2_zero_43 : decode cX2_zero 43 = .ok (.goto 4, 3) := by decide +kernel
theorem dX2_zero_46 : decode cX2_zero 46 = .ok (.iconst 0, 1) := by decide +kernel
theorem dX2_zero_47 : decode cX2_zero 47 = .ok (.istore 4, 2) := by decide +kernel
theorem dX2_zero_49 : decode cX2_zero 49 = .ok (.aload_n 0, 1) := by decide +kernel
theorem dX2_zero_50 : decode cX2_zero 50 = .ok (.iload_n 2, 1) := by decide +kernel
theorem dX2_zero_51 : decode cX2_zero 51 = .ok (.invokevirtual 103, 3) := by decide +kernel
theorem dX2_zero_54 : decode cX2_zero 54 = .ok (.pop, 1) := by decide +kernel
theorem dX2_zero_55 : decode cX2_zero 55 = .ok (.iload 4, 2) := by decide +kernel
theorem dX2_zero_57 : decode cX2_zero 57 = .ok (.ireturn, 1) := by decide +kernel
set_option maxRecDepth 20000 in
theorem ggX2_longer_X2_versionIn : GoodIn wsX2_longer wsX2_versionIn := goodIn_ca (goodIn_r _ [6, 7, 8, 9, 5, 10, 11, 12, 137, 138, 139, 140, 141, 142] (by decide +kernel) (by decide +kernel)) (goodIn_sub (fun _ h => List.mem_cons_of_mem _ (List.mem_append_left _ (List.mem_append_left _ (List.mem_append_right _ h)))) (by decide +kernel))
set_option maxRecDepth 20000 in
theorem gX2_longer_X2_versionIn : GoodIn wsX2_longer (wsV RX2 112 RX2 yX2_versionIn wsX2_versionIn) := goodIn_app (goodIn_of _ (by decide +kernel)) ggX2_longer_X2_versionIn
set_option maxRecDepth 20000 in
theorem ggX2_longer_X2_checkSlot : GoodIn wsX2_longer wsX2_checkSlot := goodIn_ca (goodIn_r _ [10, 11, 12] (by decide +kernel) (by decide +kernel)) (goodIn_sub (fun _ h => List.mem_cons_of_mem _ (List.mem_append_left _ (List.mem_append_left _ (List.mem_append_right _ h)))) (by decide +kernel))
set_option maxRecDepth 20000 in
theorem gX2_longer_X2_checkSlot : GoodIn wsX2_longer (va_wsS RX2 91 yX2_checkSlot wsX2_checkSlot) := goodIn_app (goodIn_of _ (by decide +kernel)) ggX2_longer_X2_checkSlot
set_option maxRecDepth 20000 in
theorem ggX2_longer_X2_checkNumber : GoodIn wsX2_longer wsX2_checkNumber := goodIn_ca (goodIn_r _ [15, 16, 17] (by decide +kernel) (by decide +kernel)) (goodIn_sub (fun _ h => List.mem_cons_of_mem _ (List.mem_append_left _ (List.mem_append_right _ h))) (by decide +kernel))
set_option maxRecDepth 20000 in
theorem gX2_longer_X2_checkNumber : GoodIn wsX2_longer (va_wsS RX2 38 yX2_checkNumber wsX2_checkNumber) := goodIn_app (goodIn_of _ (by decide +kernel)) ggX2_longer_X2_checkNumber
set_option maxRecDepth 20000 in
theorem ggX2_longer_X2_digitsOf : GoodIn wsX2_longer wsX2_digitsOf := goodIn_r _ [20] (by decide +kernel) (by decide +kernel)
set_option maxRecDepth 20000 in
theorem gX2_longer_X2_digitsOf : GoodIn wsX2_longer (va_wsS RX2 62 yX2_digitsOf wsX2_digitsOf) := goodIn_app (goodIn_of _ (by decide +kernel)) ggX2_longer_X2_digitsOf
set_option maxRecDepth 20000 in
theorem ggX2_longer_X2_checkRoom : GoodIn wsX2_longer wsX2_checkRoom := goodIn_ca (goodIn_r _ [23, 24, 25, 26, 27, 28, 29, 30, 31, 143, 144] (by decide +kernel) (by decide +kernel)) (goodIn_sub (fun _ h => List.mem_cons_of_mem _ (List.mem_append_right _ h)) (by decide +kernel))
set_option maxRecDepth 20000 in
theorem gX2_longer_X2_checkRoom : GoodIn wsX2_longer (va_wsS RX2 147 yX2_checkRoom wsX2_checkRoom) := goodIn_app (goodIn_of _ (by decide +kernel)) ggX2_longer_X2_checkRoom
set_option maxRecDepth 20000 in
theorem ggX2_longer_X2_parseWithNumberBehind : GoodIn wsX2_longer wsX2_parseWithNumberBehind := goodIn_r _ [35, 1, 36, 37, 38, 39, 40, 41, 42, 43, 44, 29, 45, 31, 46, 47, 48, 49, 50, 27, 28, 30, 51, 52, 53, 54, 55, 56, 57, 58, 59, 60, 61, 62, 63, 64, 65, 66, 67, 68, 69, 70, 71, 72, 73, 5, 74, 75, 76, 77, 78, 79, 80, 81, 82, 83, 84, 85, 86, 87, 88, 89, 90, 91, 92, 93, 94, 95, 137, 138, 139, 140, 141, 142, 133, 134, 135, 136, 143, 144] (by decide +kernel) (by decide +kernel)
set_option maxRecDepth 20000 in
theorem gX2_longer_X2_parseWithNumberBehind : GoodIn wsX2_longer (wsV RX2 150 RX2 yX2_parseWithNumberBehind wsX2_parseWithNumberBehind) := goodIn_app (goodIn_of _ (by decide +kernel)) ggX2_longer_X2_parseWithNumberBehind
set_option maxRecDepth 20000 in
theorem ggX2_longer_X1_orderTo : GoodIn wsX2_longer wsX1_orderTo := goodIn_r _ [99, 100, 101, 102, 39, 103, 104, 105, 106, 107, 108, 109, 110, 111, 84, 85, 86, 87, 70, 112, 113, 114, 115, 83, 92, 93, 94, 95, 116, 117, 118, 119, 41, 120, 121, 122, 123, 82, 72, 52, 53, 29, 54, 31, 55, 124, 5, 125, 126, 127, 128, 133, 134, 135, 136, 143, 144] (by decide +kernel) (by decide +kernel)
set_option maxRecDepth 20000 in
theorem gX2_longer_X1_orderTo : GoodIn wsX2_longer (wsV RX2 135 RX1 yX1_orderTo wsX1_orderTo) := goodIn_app (goodIn_of _ (by decide +kernel)) ggX2_longer_X1_orderTo
set_option maxRecDepth 20000 in
theorem ggX2_longer_X2_exchangeSpare : GoodIn wsX2_longer wsX2_exchangeSpare := goodIn_ca (goodIn_r _ [132, 1, 7, 2, 3, 4, 5, 6, 8, 9, 10, 11, 12, 96, 97, 98, 39, 99, 100, 101, 102, 103, 104, 105, 106, 107, 108, 109, 110, 111, 84, 85, 86, 87, 70, 112, 113, 114, 115, 83, 92, 93, 94, 95, 116, 117, 118, 119, 41, 120, 121, 122, 123, 82, 72, 52, 53, 29, 54, 31, 55, 124, 125, 126, 127, 128, 137, 138, 139, 140, 141, 142, 133, 134, 135, 136, 143, 144] (by decide +kernel) (by decide +kernel)) (goodIn_sub (fun _ h => List.mem_cons_of_mem _ (List.mem_append_left _ (List.mem_append_left _ (List.mem_append_right _ h)))) (by decide +kernel))
set_option maxRecDepth 20000 in
theorem gX2_longer_X2_exchangeSpare : GoodIn wsX2_longer (wsV RX2 103 RX2 yX2_exchangeSpare wsX2_exchangeSpare) := goodIn_app (goodIn_of _ (by decide +kernel)) ggX2_longer_X2_exchangeSpare
theorem dX2_longer_0 : decode cX2_longer 0 = .ok (.aload_n 0, 1) := by decide +kernel
theorem dX2_longer_1 : decode cX2_longer 1 = .ok (.iload_n 1, 1) := by decide +kernel
theorem dX2_longer_2 : decode cX2_longer 2 = .ok (.invokevirtual 112, 3) := by decide +kernel
theorem dX2_longer_5 : decode cX2_longer 5 = .ok (.astore 4, 2) := by decide +kernel
theorem dX2_longer_7 : decode cX2_longer 7 = .ok (.iload_n 3, 1) := by decide +kernel
theorem dX2_longer_8 : decode cX2_longer 8 = .ok (.invokestatic 91, 3) := by decide +kernel
theorem dX2_longer_11 : decode cX2_longer 11 = .ok (.iload_n 2, 1) := by decide +kernel
theorem dX2_longer_12 : decode cX2_longer 12 = .ok (.iconst 1, 1) := by decide +kernel
theorem dX2_longer_13 : decode cX2_longer 13 = .ok (.sipush 999, 3) := by decide +kernel
theorem dX2_longer_16 : decode cX2_longer 16 = .ok (.invokestatic 38, 3) := by decide +kernel
theorem dX2_longer_19 : decode cX2_longer 19 = .ok (.aload 4, 2) := by decide +kernel
theorem dX2_longer_21 : decode cX2_longer 21 = .ok (.getfield 106, 3) := by decide +kernel
theorem dX2_longer_24 : decode cX2_longer 24 = .ok (.iconst 1, 1) := by decide +kernel
theorem dX2_longer_25 : decode cX2_longer 25 = .ok (.iload_n 2, 1) := by decide +kernel
theorem dX2_longer_26 : decode cX2_longer 26 = .ok (.invokestatic 62, 3) := by decide +kernel
theorem dX2_longer_29 : decode cX2_longer 29 = .ok (.iadd, 1) := by decide +kernel
theorem dX2_longer_30 : decode cX2_longer 30 = .ok (.invokestatic 147, 3) := by decide +kernel
theorem dX2_longer_33 : decode cX2_longer 33 = .ok (.aload_n 0, 1) := by decide +kernel
theorem dX2_longer_34 : decode cX2_longer 34 = .ok (.aload 4, 2) := by decide +kernel
theorem dX2_longer_36 : decode cX2_longer 36 = .ok (.bipush 46, 2) := by decide +kernel
theorem dX2_longer_38 : decode cX2_longer 38 = .ok (.iload_n 2, 1) := by decide +kernel
theorem dX2_longer_39 : decode cX2_longer 39 = .ok (.invokevirtual 150, 3) := by decide +kernel
theorem dX2_longer_42 : decode cX2_longer 42 = .ok (.aload_n 0, 1) := by decide +kernel
theorem dX2_longer_43 : decode cX2_longer 43 = .ok (.getfield 33, 3) := by decide +kernel
theorem dX2_longer_46 : decode cX2_longer 46 = .ok (.aload 4, 2) := by decide +kernel
theorem dX2_longer_48 : decode cX2_longer 48 = .ok (.invokevirtual 135, 3) := by decide +kernel
theorem dX2_longer_51 : decode cX2_longer 51 = .ok (.ifCond .le 7, 3) := by decide +kernel
theorem dX2_longer_54 : decode cX2_longer 54 = .ok (.iconst 1, 1) := by decide +kernel
theorem dX2_longer_55 : decode cX2_longer 55 = .ok (.goto 4, 3) := by decide +kernel
theorem dX2_longer_58 : decode cX2_longer 58 = .ok (.iconst 0, 1) := by decide +kernel
theorem dX2_longer_59 : decode cX2_longer 59 = .ok (.istore 5, 2) := by decide +kernel
theorem dX2_longer_61 : decode cX2_longer 61 = .ok (.aload_n 0, 1) := by decide +kernel
theorem dX2_longer_62 : decode cX2_longer 62 = .ok (.iload_n 3, 1) := by decide +kernel
theorem dX2_longer_63 : decode cX2_longer 63 = .ok (.invokevirtual 103, 3) := by decide +kernel
theorem dX2_longer_66 : decode cX2_longer 66 = .ok (.pop, 1) := by decide +kernel
theorem dX2_longer_67 : decode cX2_longer 67 = .ok (.iload 5, 2) := by decide +kernel
theorem dX2_longer_69 : decode cX2_longer 69 = .ok (.ireturn, 1) := by decide +kernel
set_option maxRecDepth 20000 in
theorem ggX2_early_X2_versionIn : GoodIn wsX2_early wsX2_versionIn := goodIn_ca (goodIn_r _ [10, 11, 12, 13, 9, 14, 15, 16, 127, 128, 129, 130, 131, 132] (by decide +kernel) (by decide +kernel)) (goodIn_sub (fun _ h => List.mem_cons_of_mem _ (List.mem_append_right _ h)) (by decide +kernel))
set_option maxRecDepth 20000 in
theorem gX2_early_X2_versionIn : GoodIn wsX2_early (wsV RX2 112 RX2 yX2_versionIn wsX2_versionIn) := goodIn_app (goodIn_of _ (by decide +kernel)) ggX2_early_X2_versionIn
set_option maxRecDepth 20000 in
theorem ggX2_early_X2_checkSlot : GoodIn wsX2_early wsX2_checkSlot := goodIn_ca (goodIn_r _ [14, 15, 16] (by decide +kernel) (by decide +kernel)) (goodIn_sub (fun _ h => List.mem_cons_of_mem _ (List.mem_append_right _ h)) (by decide +kernel))
set_option maxRecDepth 20000 in
theorem gX2_early_X2_checkSlot : GoodIn wsX2_early (va_wsS RX2 91 yX2_checkSlot wsX2_checkSlot) := goodIn_app (goodIn_of _ (by decide +kernel)) ggX2_early_X2_checkSlot
set_option maxRecDepth 20000 in
theorem ggX2_early_X1_hasRow : GoodIn wsX2_early wsX1_hasRow := goodIn_r _ [21, 22, 23, 24, 20, 25, 26, 123, 124, 125, 126] (by decide +kernel) (by decide +kernel)
set_option maxRecDepth 20000 in
theorem gX2_early_X1_hasRow : GoodIn wsX2_early (wsV RX2 156 RX1 yX1_hasRow wsX1_hasRow) := goodIn_app (goodIn_of _ (by decide +kernel)) ggX2_early_X1_hasRow
set_option maxRecDepth 20000 in
theorem ggX2_early_X2_checkRoom : GoodIn wsX2_early wsX2_checkRoom := goodIn_ca (goodIn_r _ [29, 3, 4, 30, 31, 32, 33, 34, 35, 133, 134] (by decide +kernel) (by decide +kernel)) (goodIn_sub (fun _ h => List.mem_cons_of_mem _ (List.mem_append_left _ (List.mem_append_right _ h))) (by decide +kernel))
set_option maxRecDepth 20000 in
theorem gX2_early_X2_checkRoom : GoodIn wsX2_early (va_wsS RX2 147 yX2_checkRoom wsX2_checkRoom) := goodIn_app (goodIn_of _ (by decide +kernel)) ggX2_early_X2_checkRoom
set_option maxRecDepth 20000 in
theorem ggX2_early_X2_parseWithLetterBehind : GoodIn wsX2_early wsX2_parseWithLetterBehind := goodIn_r _ [39, 5, 40, 41, 42, 20, 43, 44, 45, 46, 47, 33, 48, 35, 49, 50, 51, 52, 53, 31, 32, 34, 54, 55, 56, 57, 58, 59, 60, 61, 62, 63, 64, 65, 66, 67, 26, 68, 69, 70, 9, 71, 72, 73, 74, 75, 76, 77, 78, 79, 80, 22, 23, 24, 25, 81, 82, 83, 84, 85, 86, 87, 88, 127, 128, 129, 130, 131, 132, 123, 124, 125, 126, 133, 134] (by decide +kernel) (by decide +kernel)
set_option maxRecDepth 20000 in
theorem gX2_early_X2_parseWithLetterBehind : GoodIn wsX2_early (wsV RX2 165 RX2 yX2_parseWithLetterBehind wsX2_parseWithLetterBehind) := goodIn_app (goodIn_of _ (by decide +kernel)) ggX2_early_X2_parseWithLetterBehind
set_option maxRecDepth 20000 in
theorem ggX2_early_X1_orderTo : GoodIn wsX2_early wsX1_orderTo := goodIn_r _ [92, 93, 94, 95, 20, 96, 97, 98, 99, 100, 101, 18, 19, 21, 22, 23, 24, 25, 26, 102, 103, 104, 105, 80, 85, 86, 87, 88, 106, 107, 108, 109, 44, 110, 111, 112, 113, 79, 69, 55, 56, 33, 57, 35, 58, 114, 9, 115, 116, 117, 118, 123, 124, 125, 126, 133, 134] (by decide +kernel) (by decide +kernel)
set_option maxRecDepth 20000 in
theorem gX2_early_X1_orderTo : GoodIn wsX2_early (wsV RX2 135 RX1 yX1_orderTo wsX1_orderTo) := goodIn_app (goodIn_of _ (by decide +kernel)) ggX2_early_X1_orderTo
set_option maxRecDepth 20000 in
theorem ggX2_early_X2_exchangeSpare : GoodIn wsX2_early wsX2_exchangeSpare := goodIn_ca (goodIn_r _ [122, 5, 11, 6, 7, 8, 9, 10, 12, 13, 14, 15, 16, 89, 90, 91, 20, 92, 93, 94, 95, 96, 97, 98, 99, 100, 101, 18, 19, 21, 22, 23, 24, 25, 26, 102, 103, 104, 105, 80, 85, 86, 87, 88, 106, 107, 108, 109, 44, 110, 111, 112, 113, 79, 69, 55, 56, 33, 57, 35, 58, 114, 115, 116, 117, 118, 127, 128, 129, 130, 131, 132, 123, 124, 125, 126, 133, 134] (by decide +kernel) (by decide +kernel)) (goodIn_sub (fun _ h => List.mem_cons_of_mem _ (List.mem_append_right _ h)) (by decide +kernel))
set_option maxRecDepth 20000 in
theorem gX2_early_X2_exchangeSpare : GoodIn wsX2_early (wsV RX2 103 RX2 yX2_exchangeSpare wsX2_exchangeSpare) := goodIn_app (goodIn_of _ (by decide +kernel)) ggX2_early_X2_exchangeSpare
theorem dX2_early_0 : decode cX2_early 0 = .ok (.aload_n 0, 1) := by decide +kernel
theorem dX2_early_1 : decode cX2_early 1 = .ok (.iload_n 1, 1) := by decide +kernel
theorem dX2_early_2 : decode cX2_early 2 = .ok (.invokevirtual 112, 3) := by decide +kernel
theorem dX2_early_5 : decode cX2_early 5 = .ok (.astore 4, 2) := by decide +kernel
theorem dX2_early_7 : decode cX2_early 7 = .ok (.iload_n 3, 1) := by decide +kernel
theorem dX2_early_8 : decode cX2_early 8 = .ok (.invokestatic 91, 3) := by decide +kernel
theorem dX2_early_11 : decode cX2_early 11 = .ok (.iload_n 2, 1) := by decide +kernel
theorem dX2_early_12 : decode cX2_early 12 = .ok (.bipush 97, 2) := by decide +kernel
theorem dX2_early_14 : decode cX2_early 14 = .ok (.if_icmp .lt 9, 3) := by decide +kernel
theorem dX2_early_17 : decode cX2_early 17 = .ok (.iload_n 2, 1) := by decide +kernel
theorem dX2_early_18 : decode cX2_early 18 = .ok (.bipush 122, 2) := by decide +kernel
theorem dX2_early_20 : decode cX2_early 20 = .ok (.if_icmp .le 13, 3) := by decide +kernel
theorem dX2_early_23 : decode cX2_early 23 = .ok (.new 73, 3) := by decide +kernel
theorem dX2_early_26 : decode cX2_early 26 = .ok (.dup, 1) := by decide +kernel
theorem dX2_early_27 : decode cX2_early 27 = .ok (.ldc 154, 2) := by decide +kernel
theorem dX2_early_29 : decode cX2_early 29 = .ok (.invokespecial 77, 3) := by decide +kernel
theorem dX2_early_32 : decode cX2_early 32 = .ok (.athrow, 1) := by decide +kernel
theorem dX2_early_33 : decode cX2_early 33 = .ok (.aload 4, 2) := by decide +kernel
theorem dX2_early_35 : decode cX2_early 35 = .ok (.iconst 1, 1) := by decide +kernel
theorem dX2_early_36 : decode cX2_early 36 = .ok (.invokevirtual 156, 3) := by decide +kernel
theorem dX2_early_39 : decode cX2_early 39 = .ok (.ifCond .eq 13, 3) := by decide +kernel
theorem dX2_early_42 : decode cX2_early 42 = .ok (.new 160, 3) := by decide +kernel
theorem dX2_early_45 : decode cX2_early 45 = .ok (.dup, 1) := by decide +kernel
theorem dX2_early_46 : decode cX2_early 46 = .ok (.ldc 162, 2) := by decide +kernel
theorem dX2_early_48 : decode cX2_early 48 = .ok (.invokespecial 164, 3) := by decide +kernel
theorem dX2_early_51 : decode cX2_early 51 = .ok (.athrow, 1) := by decide +kernel
theorem dX2_early_52 : decode cX2_early 52 = .ok (.aload 4, 2) := by decide +kernel
theorem dX2_early_54 : decode cX2_early 54 = .ok (.getfield 106, 3) := by decide +kernel
theorem dX2_early_57 : decode cX2_early 57 = .ok (.iconst 2, 1) := by decide +kernel
theorem dX2_early_58 : decode cX2_early 58 = .ok (.invokestatic 147, 3) := by decide +kernel
theorem dX2_early_61 : decode cX2_early 61 = .ok (.aload_n 0, 1) := by decide +kernel
theorem dX2_early_62 : decode cX2_early 62 = .ok (.aload 4, 2) := by decide +kernel
theorem dX2_early_64 : decode cX2_early 64 = .ok (.iload_n 2, 1) := by decide +kernel
theorem dX2_early_65 : decode cX2_early 65 = .ok (.invokevirtual 165, 3) := by decide +kernel
theorem dX2_early_68 : decode cX2_early 68 = .ok (.aload_n 0, 1) := by decide +kernel
theorem dX2_early_69 : decode cX2_early 69 = .ok (.getfield 33, 3) := by decide +kernel
theorem dX2_early_72 : decode cX2_early 72 = .ok (.aload 4, 2) := by decide +kernel
theorem dX2_early_74 : decode cX2_early 74 = .ok (.invokevirtual 135, 3) := by decide +kernel
theorem dX2_early_77 : decode cX2_early 77 = .ok (.ifCond .ge 7, 3) := by decide +kernel
theorem dX2_early_80 : decode cX2_early 80 = .ok (.iconst 1, 1) := by decide +kernel
theorem dX2_early_81 : decode cX2_early 81 = .ok (.goto 4, 3) := by decide +kernel
theorem dX2_early_84 : decode cX2_early 84 = .ok (.iconst 0, 1) := by decide +kernel
theorem dX2_early_85 : decode cX2_early 85 = .ok (.istore 5, 2) := by decide +kernel
theorem dX2_early_87 : decode cX2_early 87 = .ok (.aload_n 0, 1) := by decide +kernel
theorem dX2_early_88 : decode cX2_early 88 = .ok (.iload_n 3, 1) := by decide +kernel
theorem dX2_early_89 : decode cX2_early 89 = .ok (.invokevirtual 103, 3) := by decide +kernel
theorem dX2_early_92 : decode cX2_early 92 = .ok (.pop, 1) := by decide +kernel
theorem dX2_early_93 : decode cX2_early 93 = .ok (.iload 5, 2) := by decide +kernel
theorem dX2_early_95 : decode cX2_early 95 = .ok (.ireturn, 1) := by decide +kernel
set_option maxRecDepth 20000 in
theorem ggX2_built_X2_versionIn : GoodIn wsX2_built wsX2_versionIn := goodIn_ca (goodIn_r _ [8, 9, 10, 11, 7, 12, 13, 14, 138, 139, 140, 141, 142, 143] (by decide +kernel) (by decide +kernel)) (goodIn_sub (fun _ h => List.mem_cons_of_mem _ (List.mem_append_left _ (List.mem_append_right _ h))) (by decide +kernel))
set_option maxRecDepth 20000 in
theorem gX2_built_X2_versionIn : GoodIn wsX2_built (wsV RX2 112 RX2 yX2_versionIn wsX2_versionIn) := goodIn_app (goodIn_of _ (by decide +kernel)) ggX2_built_X2_versionIn
set_option maxRecDepth 20000 in
theorem ggX2_built_X2_checkSlot : GoodIn wsX2_built wsX2_checkSlot := goodIn_ca (goodIn_r _ [12, 13, 14] (by decide +kernel) (by decide +kernel)) (goodIn_sub (fun _ h => List.mem_cons_of_mem _ (List.mem_append_left _ (List.mem_append_right _ h))) (by decide +kernel))
set_option maxRecDepth 20000 in
theorem gX2_built_X2_checkSlot : GoodIn wsX2_built (va_wsS RX2 91 yX2_checkSlot wsX2_checkSlot) := goodIn_app (goodIn_of _ (by decide +kernel)) ggX2_built_X2_checkSlot
set_option maxRecDepth 20000 in
theorem ggX2_built_X2_checkNumber : GoodIn wsX2_built wsX2_checkNumber := goodIn_ca (goodIn_r _ [17, 18, 19] (by decide +kernel) (by decide +kernel)) (goodIn_sub (fun _ h => List.mem_cons_of_mem _ (List.mem_append_right _ h)) (by decide +kernel))
set_option maxRecDepth 20000 in
theorem gX2_built_X2_checkNumber : GoodIn wsX2_built (va_wsS RX2 38 yX2_checkNumber wsX2_checkNumber) := goodIn_app (goodIn_of _ (by decide +kernel)) ggX2_built_X2_checkNumber
set_option maxRecDepth 20000 in
theorem ggX2_built_X1_hasRow : GoodIn wsX2_built wsX1_hasRow := goodIn_r _ [24, 25, 26, 27, 23, 28, 29, 134, 135, 136, 137] (by decide +kernel) (by decide +kernel)
set_option maxRecDepth 20000 in
theorem gX2_built_X1_hasRow : GoodIn wsX2_built (wsV RX2 156 RX1 yX1_hasRow wsX1_hasRow) := goodIn_app (goodIn_of _ (by decide +kernel)) ggX2_built_X1_hasRow
set_option maxRecDepth 20000 in
theorem ggX2_built_X2_digitsOf : GoodIn wsX2_built wsX2_digitsOf := goodIn_r _ [32] (by decide +kernel) (by decide +kernel)
set_option maxRecDepth 20000 in
theorem gX2_built_X2_digitsOf : GoodIn wsX2_built (va_wsS RX2 62 yX2_digitsOf wsX2_digitsOf) := goodIn_app (goodIn_of _ (by decide +kernel)) ggX2_built_X2_digitsOf
set_option maxRecDepth 20000 in
theorem ggX2_built_X2_checkRoom : GoodIn wsX2_built wsX2_checkRoom := goodIn_ca (goodIn_r _ [35, 1, 2, 36, 37, 38, 39, 40, 41, 144, 145] (by decide +kernel) (by decide +kernel)) (goodIn_sub (fun _ h => List.mem_cons_of_mem _ (List.mem_append_left _ (List.mem_append_left _ (List.mem_append_right _ h)))) (by decide +kernel))
set_option maxRecDepth 20000 in
theorem gX2_built_X2_checkRoom : GoodIn wsX2_built (va_wsS RX2 147 yX2_checkRoom wsX2_checkRoom) := goodIn_app (goodIn_of _ (by decide +kernel)) ggX2_built_X2_checkRoom
set_option maxRecDepth 20000 in
theorem ggX2_built_X2_parseWithNumberBehind : GoodIn wsX2_built wsX2_parseWithNumberBehind := goodIn_r _ [45, 3, 46, 47, 48, 23, 49, 50, 51, 52, 53, 39, 54, 41, 55, 56, 57, 58, 59, 37, 38, 40, 60, 61, 62, 63, 64, 65, 66, 67, 68, 69, 70, 71, 72, 73, 74, 75, 76, 77, 78, 29, 79, 80, 81, 7, 82, 83, 84, 85, 86, 87, 88, 89, 90, 91, 25, 26, 27, 28, 92, 93, 94, 95, 96, 97, 98, 99, 138, 139, 140, 141, 142, 143, 134, 135, 136, 137, 144, 145] (by decide +kernel) (by decide +kernel)
set_option maxRecDepth 20000 in
theorem gX2_built_X2_parseWithNumberBehind : GoodIn wsX2_built (wsV RX2 150 RX2 yX2_parseWithNumberBehind wsX2_parseWithNumberBehind) := goodIn_app (goodIn_of _ (by decide +kernel)) ggX2_built_X2_parseWithNumberBehind
set_option maxRecDepth 20000 in
theorem ggX2_built_X1_orderTo : GoodIn wsX2_built wsX1_orderTo := goodIn_r _ [103, 104, 105, 106, 23, 107, 108, 109, 110, 111, 112, 21, 22, 24, 25, 26, 27, 28, 29, 113, 114, 115, 116, 91, 96, 97, 98, 99, 117, 118, 119, 120, 50, 121, 122, 123, 124, 90, 80, 61, 62, 39, 63, 41, 64, 125, 7, 126, 127, 128, 129, 134, 135, 136, 137, 144, 145] (by decide +kernel) (by decide +kernel)
set_option maxRecDepth 20000 in
theorem gX2_built_X1_orderTo : GoodIn wsX2_built (wsV RX2 135 RX1 yX1_orderTo wsX1_orderTo) := goodIn_app (goodIn_of _ (by decide +kernel)) ggX2_built_X1_orderTo
set_option maxRecDepth 20000 in
theorem ggX2_built_X2_exchangeSpare : GoodIn wsX2_built wsX2_exchangeSpare := goodIn_ca (goodIn_r _ [133, 3, 9, 4, 5, 6, 7, 8, 10, 11, 12, 13, 14, 100, 101, 102, 23, 103, 104, 105, 106, 107, 108, 109, 110, 111, 112, 21, 22, 24, 25, 26, 27, 28, 29, 113, 114, 115, 116, 91, 96, 97, 98, 99, 117, 118, 119, 120, 50, 121, 122, 123, 124, 90, 80, 61, 62, 39, 63, 41, 64, 125, 126, 127, 128, 129, 138, 139, 140, 141, 142, 143, 134, 135, 136, 137, 144, 145] (by decide +kernel) (by decide +kernel)) (goodIn_sub (fun _ h => List.mem_cons_of_mem _ (List.mem_append_left _ (List.mem_append_right _ h))) (by decide +kernel))
set_option maxRecDepth 20000 in
theorem gX2_built_X2_exchangeSpare : GoodIn wsX2_built (wsV RX2 103 RX2 yX2_exchangeSpare wsX2_exchangeSpare) := goodIn_app (goodIn_of _ (by decide +kernel)) ggX2_built_X2_exchangeSpare
theorem dX2_built_0 : decode cX2_built 0 = .ok (.aload_n 0, 1) := by decide +kernel
theorem dX2_built_1 : decode cX2_built 1 = .ok (.iload_n 1, 1) := by decide +kernel
theorem dX2_built_2 : decode cX2_built 2 = .ok (.invokevirtual 112, 3) := by decide +kernel
theorem dX2_built_5 : decode cX2_built 5 = .ok (.astore 4, 2) := by decide +kernel
theorem dX2_built_7 : decode cX2_built 7 = .ok (.iload_n 3, 1) := by decide +kernel
theorem dX2_built_8 : decode cX2_built 8 = .ok (.invokestatic 91, 3) := by decide +kernel
theorem dX2_built_11 : decode cX2_built 11 = .ok (.iload_n 2, 1) := by decide +kernel
theorem dX2_built_12 : decode cX2_built 12 = .ok (.iconst 0, 1) := by decide +kernel
theorem dX2_built_13 : decode cX2_built 13 = .ok (.sipush 999, 3) := by decide +kernel
theorem dX2_built_16 : decode cX2_built 16 = .ok (.invokestatic 38, 3) := by decide +kernel
theorem dX2_built_19 : decode cX2_built 19 = .ok (.aload 4, 2) := by decide +kernel
theorem dX2_built_21 : decode cX2_built 21 = .ok (.iconst 1, 1) := by decide +kernel
theorem dX2_built_22 : decode cX2_built 22 = .ok (.invokevirtual 156, 3) := by decide +kernel
theorem dX2_built_25 : decode cX2_built 25 = .ok (.ifCond .eq 12, 3) := by decide +kernel
theorem dX2_built_28 : decode cX2_built 28 = .ok (.aload 4, 2) := by decide +kernel
theorem dX2_built_30 : decode cX2_built 30 = .ok (.iconst 2, 1) := by decide +kernel
theorem dX2_built_31 : decode cX2_built 31 = .ok (.invokevirtual 156, 3) := by decide +kernel
theorem dX2_built_34 : decode cX2_built 34 = .ok (.ifCond .eq 13, 3) := by decide +kernel
theorem dX2_built_37 : decode cX2_built 37 = .ok (.new 160, 3) := by decide +kernel
theorem dX2_built_40 : decode cX2_built 40 = .ok (.dup, 1) := by decide +kernel
theorem dX2_built_41 : decode cX2_built 41 = .ok (.ldc 169, 2) := by decide +kernel
theorem dX2_built_43 : decode cX2_built 43 = .ok (.invokespecial 164, 3) := by decide +kernel
theorem dX2_built_46 : decode cX2_built 46 = .ok (.athrow, 1) := by decide +kernel
theorem dX2_built_47 : decode cX2_built 47 = .ok (.aload 4, 2) := by decide +kernel
theorem dX2_built_49 : decode cX2_built 49 = .ok (.getfield 106, 3) := by decide +kernel
theorem dX2_built_52 : decode cX2_built 52 = .ok (.iconst 1, 1) := by decide +kernel
theorem dX2_built_53 : decode cX2_built 53 = .ok (.iload_n 2, 1) := by decide +kernel
theorem dX2_built_54 : decode cX2_built 54 = .ok (.invokestatic 62, 3) := by decide +kernel
theorem dX2_built_57 : decode cX2_built 57 = .ok (.iadd, 1) := by decide +kernel
theorem dX2_built_58 : decode cX2_built 58 = .ok (.invokestatic 147, 3) := by decide +kernel
theorem dX2_built_61 : decode cX2_built 61 = .ok (.aload_n 0, 1) := by decide +kernel
theorem dX2_built_62 : decode cX2_built 62 = .ok (.aload 4, 2) := by decide +kernel
theorem dX2_built_64 : decode cX2_built 64 = .ok (.bipush 43, 2) := by decide +kernel
theorem dX2_built_66 : decode cX2_built 66 = .ok (.iload_n 2, 1) := by decide +kernel
theorem dX2_built_67 : decode cX2_built 67 = .ok (.invokevirtual 150, 3) := by decide +kernel
theorem dX2_built_70 : decode cX2_built 70 = .ok (.aload_n 0, 1) := by decide +kernel
theorem dX2_built_71 : decode cX2_built 71 = .ok (.getfield 33, 3) := by decide +kernel
theorem dX2_built_74 : decode cX2_built 74 = .ok (.aload 4, 2) := by decide +kernel
theorem dX2_built_76 : decode cX2_built 76 = .ok (.invokevirtual 135, 3) := by decide +kernel
theorem dX2_built_79 : decode cX2_built 79 = .ok (.istore 5, 2) := by decide +kernel
theorem dX2_built_81 : decode cX2_built 81 = .ok (.aload_n 0, 1) := by decide +kernel
theorem dX2_built_82 : decode cX2_built 82 = .ok (.iload_n 3, 1) := by decide +kernel
theorem dX2_built_83 : decode cX2_built 83 = .ok (.invokevirtual 103, 3) := by decide +kernel
theorem dX2_built_86 : decode cX2_built 86 = .ok (.pop, 1) := by decide +kernel
theorem dX2_built_87 : decode cX2_built 87 = .ok (.iload 5, 2) := by decide +kernel
theorem dX2_built_89 : decode cX2_built 89 = .ok (.ireturn, 1) := by decide +kernel
set_option maxRecDepth 20000 in
theorem ggX2_isHashed_X2_versionIn : GoodIn wsX2_isHashed wsX2_versionIn := goodIn_ca (goodIn_r _ [6, 7, 8, 9, 5, 10, 11, 12, 80, 81, 82, 83, 84, 85] (by decide +kernel) (by decide +kernel)) (goodIn_sub (fun _ h => List.mem_cons_of_mem _ (List.mem_append_right _ h)) (by decide +kernel))
set_option maxRecDepth 20000 in
theorem gX2_isHashed_X2_versionIn : GoodIn wsX2_isHashed (wsV RX2 112 RX2 yX2_versionIn wsX2_versionIn) := goodIn_app (goodIn_of _ (by decide +kernel)) ggX2_isHashed_X2_versionIn
set_option maxRecDepth 20000 in
theorem ggX2_isHashed_X2_parseAnew : GoodIn wsX2_isHashed wsX2_parseAnew := goodIn_r _ [16, 1, 17, 18, 19, 20, 21, 22, 23, 24, 25, 26, 27, 28, 29, 30, 31, 32, 33, 34, 35, 36, 37, 38, 39, 40, 41, 42, 43, 44, 45, 46, 47, 48, 49, 50, 51, 52, 53, 5, 54, 55, 56, 57, 58, 59, 60, 61, 62, 63, 64, 65, 66, 67, 68, 69, 70, 71, 72, 73, 74, 75, 80, 81, 82, 83, 84, 85, 86, 87, 88, 89, 90, 91] (by decide +kernel) (by decide +kernel)
set_option maxRecDepth 20000 in
theorem gX2_isHashed_X2_parseAnew : GoodIn wsX2_isHashed (wsV RX2 116 RX2 yX2_parseAnew wsX2_parseAnew) := goodIn_app (goodIn_of _ (by decide +kernel)) ggX2_isHashed_X2_parseAnew
set_option maxRecDepth 20000 in
theorem ggX2_isHashed_X0_hash : GoodIn wsX2_isHashed wsX0_hash := goodIn_r _ [79, 28, 37, 38, 39, 26, 40, 41, 90, 91] (by decide +kernel) (by decide +kernel)
set_option maxRecDepth 20000 in
theorem gX2_isHashed_X0_hash : GoodIn wsX2_isHashed (wsV RX2 171 RX0 yX0_hash wsX0_hash) := goodIn_app (goodIn_of _ (by decide +kernel)) ggX2_isHashed_X0_hash
theorem dX2_isHashed_0 : decode cX2_isHashed 0 = .ok (.aload_n 0, 1) := by decide +kernel
theorem dX2_isHashed_1 : decode cX2_isHashed 1 = .ok (.iload_n 1, 1) := by decide +kernel
theorem dX2_isHashed_2 : decode cX2_isHashed 2 = .ok (.invokevirtual 112, 3) := by decide +kernel
theorem dX2_isHashed_5 : decode cX2_isHashed 5 = .ok (.astore_n 2, 1) := by decide +kernel
theorem dX2_isHashed_6 : decode cX2_isHashed 6 = .ok (.aload_n 0, 1) := by decide +kernel
theorem dX2_isHashed_7 : decode cX2_isHashed 7 = .ok (.aload_n 2, 1) := by decide +kernel
theorem dX2_isHashed_8 : decode cX2_isHashed 8 = .ok (.invokevirtual 116, 3) := by decide +kernel
theorem dX2_isHashed_11 : decode cX2_isHashed 11 = .ok (.aload_n 0, 1) := by decide +kernel
theorem dX2_isHashed_12 : decode cX2_isHashed 12 = .ok (.getfield 33, 3) := by decide +kernel
theorem dX2_isHashed_15 : decode cX2_isHashed 15 = .ok (.getfield 106, 3) := by decide +kernel
theorem dX2_isHashed_18 : decode cX2_isHashed 18 = .ok (.invokevirtual 171, 3) := by decide +kernel
theorem dX2_isHashed_21 : decode cX2_isHashed 21 = .ok (.aload_n 2, 1) := by decide +kernel
theorem dX2_isHashed_22 : decode cX2_isHashed 22 = .ok (.getfield 106, 3) := by decide +kernel
theorem dX2_isHashed_25 : decode cX2_isHashed 25 = .ok (.invokevirtual 171, 3) := by decide +kernel
theorem dX2_isHashed_28 : decode cX2_isHashed 28 = .ok (.if_icmp .ne 7, 3) := by decide +kernel
theorem dX2_isHashed_31 : decode cX2_isHashed 31 = .ok (.iconst 1, 1) := by decide +kernel
theorem dX2_isHashed_32 : decode cX2_isHashed 32 = .ok (.goto 4, 3) := by decide +kernel
theorem dX2_isHashed_35 : decode cX2_isHashed 35 = .ok (.iconst 0, 1) := by decide +kernel
theorem dX2_isHashed_36 : decode cX2_isHashed 36 = .ok (.ireturn, 1) := by decide +kernel
set_option maxRecDepth 20000 in
theorem ggX2_wordShare_X1_words : GoodIn wsX2_wordShare wsX1_words := goodIn_r _ [6, 7, 8, 19, 20, 21, 22] (by decide +kernel) (by decide +kernel)
set_option maxRecDepth 20000 in
theorem gX2_wordShare_X1_words : GoodIn wsX2_wordShare (wsV RX2 174 RX1 yX1_words wsX1_words) := goodIn_app (goodIn_of _ (by decide +kernel)) ggX2_wordShare_X1_words
set_option maxRecDepth 20000 in
theorem ggX2_wordShare_X1_allTokens : GoodIn wsX2_wordShare wsX1_allTokens := goodIn_r _ [12, 7, 19, 20, 21, 22] (by decide +kernel) (by decide +kernel)
set_option maxRecDepth 20000 in
theorem gX2_wordShare_X1_allTokens : GoodIn wsX2_wordShare (wsV RX2 177 RX1 yX1_allTokens wsX1_allTokens) := goodIn_app (goodIn_of _ (by decide +kernel)) ggX2_wordShare_X1_allTokens
theorem dX2_wordShare_0 : decode cX2_wordShare 0 = .ok (.iconst 0, 1) := by decide +kernel
theorem dX2_wordShare_1 : decode cX2_wordShare 1 = .ok (.istore_n 1, 1) := by decide +kernel
theorem dX2_wordShare_2 : decode cX2_wordShare 2 = .ok (.iconst 0, 1) := by decide +kernel
theorem dX2_wordShare_3 : decode cX2_wordShare 3 = .ok (.istore_n 2, 1) := by decide +kernel
theorem dX2_wordShare_4 : decode cX2_wordShare 4 = .ok (.iconst 0, 1) := by decide +kernel
theorem dX2_wordShare_5 : decode cX2_wordShare 5 = .ok (.istore_n 3, 1) := by decide +kernel
theorem dX2_wordShare_6 : decode cX2_wordShare 6 = .ok (.iload_n 3, 1) := by decide +kernel
theorem dX2_wordShare_7 : decode cX2_wordShare 7 = .ok (.bipush 8, 2) := by decide +kernel
theorem dX2_wordShare_9 : decode cX2_wordShare 9 = .ok (.if_icmp .ge 33, 3) := by decide +kernel
theorem dX2_wordShare_12 : decode cX2_wordShare 12 = .ok (.iload_n 1, 1) := by decide +kernel
theorem dX2_wordShare_13 : decode cX2_wordShare 13 = .ok (.aload_n 0, 1) := by decide +kernel
theorem dX2_wordShare_14 : decode cX2_wordShare 14 = .ok (.getfield 18, 3) := by decide +kernel
theorem dX2_wordShare_17 : decode cX2_wordShare 17 = .ok (.iload_n 3, 1) := by decide +kernel
theorem dX2_wordShare_18 : decode cX2_wordShare 18 = .ok (.aaload, 1) := by decide +kernel
theorem dX2_wordShare_19 : decode cX2_wordShare 19 = .ok (.invokevirtual 174, 3) := by decide +kernel
theorem dX2_wordShare_22 : decode cX2_wordShare 22 = .ok (.iadd, 1) := by decide +kernel
theorem dX2_wordShare_23 : decode cX2_wordShare 23 = .ok (.istore_n 1, 1) := by decide +kernel
theorem dX2_wordShare_24 : decode cX2_wordShare 24 = .ok (.iload_n 2, 1) := by decide +kernel
theorem dX2_wordShare_25 : decode cX2_wordShare 25 = .ok (.aload_n 0, 1) := by decide +kernel
theorem dX2_wordShare_26 : decode cX2_wordShare 26 = .ok (.getfield 18, 3) := by decide +kernel
theorem dX2_wordShare_29 : decode cX2_wordShare 29 = .ok (.iload_n 3, 1) := by decide +kernel
theorem dX2_wordShare_30 : decode cX2_wordShare 30 = .ok (.aaload, 1) := by decide +kernel
theorem dX2_wordShare_31 : decode cX2_wordShare 31 = .ok (.invokevirtual 177, 3) := by decide +kernel
theorem dX2_wordShare_34 : decode cX2_wordShare 34 = .ok (.iadd, 1) := by decide +kernel
theorem dX2_wordShare_35 : decode cX2_wordShare 35 = .ok (.istore_n 2, 1) := by decide +kernel
theorem dX2_wordShare_36 : decode cX2_wordShare 36 = .ok (.iinc 3 1, 3) := by decide +kernel
theorem dX2_wordShare_39 : decode cX2_wordShare 39 = .ok (.goto (-33), 3) := by decide +kernel
theorem dX2_wordShare_42 : decode cX2_wordShare 42 = .ok (.iload_n 2, 1) := by decide +kernel
theorem dX2_wordShare_43 : decode cX2_wordShare 43 = .ok (.ifCond .ne 5, 3) := by decide +kernel
theorem dX2_wordShare_46 : decode cX2_wordShare 46 = .ok (.fconst 0, 1) := by decide +kernel
theorem dX2_wordShare_47 : decode cX2_wordShare 47 = .ok (.freturn, 1) := by decide +kernel
theorem dX2_wordShare_48 : decode cX2_wordShare 48 = .ok (.iload_n 1, 1) := by decide +kernel
theorem dX2_wordShare_49 : decode cX2_wordShare 49 = .ok (.i2f, 1) := by decide +kernel
theorem dX2_wordShare_50 : decode cX2_wordShare 50 = .ok (.iload_n 2, 1) := by decide +kernel
theorem dX2_wordShare_51 : decode cX2_wordShare 51 = .ok (.i2f, 1) := by decide +kernel
theorem dX2_wordShare_52 : decode cX2_wordShare 52 = .ok (.fdiv, 1) := by decide +kernel
theorem dX2_wordShare_53 : decode cX2_wordShare 53 = .ok (.freturn, 1) := by decide +kernel
set_option maxRecDepth 20000 in
theorem ggX2_checksum_X0_addTo : GoodIn wsX2_checksum wsX0_addTo := goodIn_r _ [8, 9, 10, 11, 12, 13, 7, 14, 15, 26, 27] (by decide +kernel) (by decide +kernel)
set_option maxRecDepth 20000 in
theorem gX2_checksum_X0_addTo : GoodIn wsX2_checksum (wsV RX2 182 RX0 yX0_addTo wsX0_addTo) := goodIn_app (goodIn_of _ (by decide +kernel)) ggX2_checksum_X0_addTo
theorem dX2_checksum_0 : decode cX2_checksum 0 = .ok (.aload_n 0, 1) := by decide +kernel
theorem dX2_checksum_1 : decode cX2_checksum 1 = .ok (.getfield 10, 3) := by decide +kernel
theorem dX2_checksum_4 : decode cX2_checksum 4 = .ok (.ldc2_w 180, 3) := by decide +kernel
theorem dX2_checksum_7 : decode cX2_checksum 7 = .ok (.invokevirtual 182, 3) := by decide +kernel
theorem dX2_checksum_10 : decode cX2_checksum 10 = .ok (.lstore_n 1, 1) := by decide +kernel
theorem dX2_checksum_11 : decode cX2_checksum 11 = .ok (.iconst 0, 1) := by decide +kernel
theorem dX2_checksum_12 : decode cX2_checksum 12 = .ok (.istore_n 3, 1) := by decide +kernel
theorem dX2_checksum_13 : decode cX2_checksum 13 = .ok (.iload_n 3, 1) := by decide +kernel
theorem dX2_checksum_14 : decode cX2_checksum 14 = .ok (.bipush 8, 2) := by decide +kernel
theorem dX2_checksum_16 : decode cX2_checksum 16 = .ok (.if_icmp .ge 23, 3) := by decide +kernel
theorem dX2_checksum_19 : decode cX2_checksum 19 = .ok (.aload_n 0, 1) := by decide +kernel
theorem dX2_checksum_20 : decode cX2_checksum 20 = .ok (.getfield 18, 3) := by decide +kernel
theorem dX2_checksum_23 : decode cX2_checksum 23 = .ok (.iload_n 3, 1) := by decide +kernel
theorem dX2_checksum_24 : decode cX2_checksum 24 = .ok (.aaload, 1) := by decide +kernel
theorem dX2_checksum_25 : decode cX2_checksum 25 = .ok (.getfield 106, 3) := by decide +kernel
theorem dX2_checksum_28 : decode cX2_checksum 28 = .ok (.lload_n 1, 1) := by decide +kernel
theorem dX2_checksum_29 : decode cX2_checksum 29 = .ok (.invokevirtual 182, 3) := by decide +kernel
theorem dX2_checksum_32 : decode cX2_checksum 32 = .ok (.lstore_n 1, 1) := by decide +kernel
theorem dX2_checksum_33 : decode cX2_checksum 33 = .ok (.iinc 3 1, 3) := by decide +kernel
theorem dX2_checksum_36 : decode cX2_checksum 36 = .ok (.goto (-23), 3) := by decide +kernel
theorem dX2_checksum_39 : decode cX2_checksum 39 = .ok (.lload_n 1, 1) := by decide +kernel
theorem dX2_checksum_40 : decode cX2_checksum 40 = .ok (.lreturn, 1) := by decide +kernel
set_option maxRecDepth 20000 in
theorem ggX2_isTrue_X2_fillOrders : GoodIn wsX2_isTrue wsX2_fillOrders := goodIn_r _ [6, 7, 1, 8, 9, 10, 11, 12, 13, 14, 15, 16, 17, 18, 19, 20, 21, 22, 23, 24, 25, 26, 27, 28, 29, 30, 31, 32, 33, 34, 35, 36, 37, 38, 39, 40, 41, 42, 43, 44, 45, 46, 47, 48, 49, 50, 51, 52, 53, 54, 55, 56, 5, 57, 58, 59, 60, 153, 154, 155, 156, 157, 158, 159, 160, 161, 162, 163, 164] (by decide +kernel) (by decide +kernel)
set_option maxRecDepth 20000 in
theorem gX2_isTrue_X2_fillOrders : GoodIn wsX2_isTrue (wsV RX2 186 RX2 yX2_fillOrders wsX2_fillOrders) := goodIn_app (goodIn_of _ (by decide +kernel)) ggX2_isTrue_X2_fillOrders
set_option maxRecDepth 20000 in
theorem ggX2_isTrue_X2_isTrueOfOne : GoodIn wsX2_isTrue wsX2_isTrueOfOne := goodIn_r _ [64, 65, 66, 67, 68, 5, 69, 70, 71, 72, 11, 73, 43, 74, 75, 76, 52, 77, 54, 78, 79, 80, 81, 82, 83, 84, 85, 86, 50, 51, 53, 55, 87, 88, 89, 90, 91, 92, 93, 94, 29, 95, 49, 96, 97, 98, 99, 100, 101, 102, 103, 104, 48, 34, 25, 26, 27, 28, 105, 106, 107, 108, 35, 36, 37, 38, 109, 110, 111, 112, 8, 9, 10, 12, 13, 14, 15, 16, 17, 18, 19, 20, 21, 22, 23, 24, 30, 31, 32, 33, 39, 40, 41, 42, 44, 45, 46, 47, 56, 57, 58, 59, 60, 113, 114, 115, 116, 117, 118, 119, 120, 121, 122, 123, 124, 125, 126, 127, 128, 153, 154, 155, 156, 157, 158, 159, 160, 161, 162, 163, 164] (by decide +kernel) (by decide +kernel)
set_option maxRecDepth 20000 in
theorem gX2_isTrue_X2_isTrueOfOne : GoodIn wsX2_isTrue (wsV RX2 189 RX2 yX2_isTrueOfOne wsX2_isTrueOfOne) := goodIn_app (goodIn_of _ (by decide +kernel)) ggX2_isTrue_X2_isTrueOfOne
set_option maxRecDepth 20000 in
theorem ggX2_isTrue_X2_isTrueOfTwo : GoodIn wsX2_isTrue wsX2_isTrueOfTwo := goodIn_ca (goodIn_r _ [132, 133, 134, 135, 5, 136, 7, 137, 138, 139, 140, 141, 142, 143, 144, 145, 1, 146, 147, 148, 11, 149, 13, 14, 15, 16, 17, 18, 19, 20, 21, 22, 23, 24, 25, 26, 27, 28, 29, 30, 31, 32, 33, 34, 35, 36, 37, 38, 39, 40, 41, 42, 43, 44, 45, 46, 47, 48, 49, 50, 51, 52, 53, 54, 55, 56, 57, 58, 59, 60, 153, 154, 155, 156, 157, 158, 159, 160, 161, 162, 163, 164] (by decide +kernel) (by decide +kernel)) (goodIn_sub (fun _ h => List.mem_cons_of_mem _ (List.mem_append_right _ h)) (by decide +kernel))
set_option maxRecDepth 20000 in
theorem gX2_isTrue_X2_isTrueOfTwo : GoodIn wsX2_isTrue (wsV RX2 193 RX2 yX2_isTrueOfTwo wsX2_isTrueOfTwo) := goodIn_app (goodIn_of _ (by decide +kernel)) ggX2_isTrue_X2_isTrueOfTwo
set_option maxRecDepth 20000 in
theorem ggX2_isTrue_X2_orderOf : GoodIn wsX2_isTrue wsX2_orderOf := goodIn_ca (goodIn_r _ [136, 7, 137, 138, 5, 139, 140, 141, 153, 154, 155, 156, 157, 158] (by decide +kernel) (by decide +kernel)) (goodIn_sub (fun _ h => List.mem_cons_of_mem _ (List.mem_append_right _ h)) (by decide +kernel))
set_option maxRecDepth 20000 in
theorem gX2_isTrue_X2_orderOf : GoodIn wsX2_isTrue (wsV RX2 197 RX2 yX2_orderOf wsX2_orderOf) := goodIn_app (goodIn_of _ (by decide +kernel)) ggX2_isTrue_X2_orderOf
set_option maxRecDepth 20000 in
theorem ggX2_isTrue_X2_isTrueOfThree : GoodIn wsX2_isTrue wsX2_isTrueOfThree := goodIn_r _ [152] (by decide +kernel) (by decide +kernel)
set_option maxRecDepth 20000 in
theorem gX2_isTrue_X2_isTrueOfThree : GoodIn wsX2_isTrue (va_wsS RX2 200 yX2_isTrueOfThree wsX2_isTrueOfThree) := goodIn_app (goodIn_of _ (by decide +kernel)) ggX2_isTrue_X2_isTrueOfThree
theorem dX2_isTrue_0 : decode cX2_isTrue 0 = .ok (.aload_n 0, 1) := by decide +kernel
theorem dX2_isTrue_1 : decode cX2_isTrue 1 = .ok (.invokevirtual 186, 3) := by decide +kernel
theorem dX2_isTrue_4 : decode cX2_isTrue 4 = .ok (.iconst 0, 1) := by decide +kernel
theorem dX2_isTrue_5 : decode cX2_isTrue 5 = .ok (.istore_n 1, 1) := by decide +kernel
theorem dX2_isTrue_6 : decode cX2_isTrue 6 = .ok (.iload_n 1, 1) := by decide +kernel
theorem dX2_isTrue_7 : decode cX2_isTrue 7 = .ok (.bipush 8, 2) := by decide +kernel
theorem dX2_isTrue_9 : decode cX2_isTrue 9 = .ok (.if_icmp .ge 89, 3) := by decide +kernel
theorem dX2_isTrue_12 : decode cX2_isTrue 12 = .ok (.aload_n 0, 1) := by decide +kernel
theorem dX2_isTrue_13 : decode cX2_isTrue 13 = .ok (.aload_n 0, 1) := by decide +kernel
theorem dX2_isTrue_14 : decode cX2_isTrue 14 = .ok (.getfield 18, 3) := by decide +kernel
theorem dX2_isTrue_17 : decode cX2_isTrue 17 = .ok (.iload_n 1, 1) := by decide +kernel
theorem dX2_isTrue_18 : decode cX2_isTrue 18 = .ok (.aaload, 1) := by decide +kernel
theorem dX2_isTrue_19 : decode cX2_isTrue 19 = .ok (.invokevirtual 189, 3) := by decide +kernel
theorem dX2_isTrue_22 : decode cX2_isTrue 22 = .ok (.ifCond .ne 5, 3) := by decide +kernel
theorem dX2_isTrue_25 : decode cX2_isTrue 25 = .ok (.iconst 0, 1) := by decide +kernel
theorem dX2_isTrue_26 : decode cX2_isTrue 26 = .ok (.ireturn, 1) := by decide +kernel
theorem dX2_isTrue_27 : decode cX2_isTrue 27 = .ok (.iconst 0, 1) := by decide +kernel
theorem dX2_isTrue_28 : decode cX2_isTrue 28 = .ok (.istore_n 2, 1) := by decide +kernel
theorem dX2_isTrue_29 : decode cX2_isTrue 29 = .ok (.iload_n 2, 1) := by decide +kernel
theorem dX2_isTrue_30 : decode cX2_isTrue 30 = .ok (.bipush 8, 2) := by decide +kernel
theorem dX2_isTrue_32 : decode cX2_isTrue 32 = .ok (.if_icmp .ge 60, 3) := by decide +kernel
theorem dX2_isTrue_35 : decode cX2_isTrue 35 = .ok (.aload_n 0, 1) := by decide +kernel
theorem dX2_isTrue_36 : decode cX2_isTrue 36 = .ok (.iload_n 1, 1) := by decide +kernel
theorem dX2_isTrue_37 : decode cX2_isTrue 37 = .ok (.iload_n 2, 1) := by decide +kernel
theorem dX2_isTrue_38 : decode cX2_isTrue 38 = .ok (.invokevirtual 193, 3) := by decide +kernel
theorem dX2_isTrue_41 : decode cX2_isTrue 41 = .ok (.ifCond .ne 5, 3) := by decide +kernel
theorem dX2_isTrue_44 : decode cX2_isTrue 44 = .ok (.iconst 0, 1) := by decide +kernel
theorem dX2_isTrue_45 : decode cX2_isTrue 45 = .ok (.ireturn, 1) := by decide +kernel
theorem dX2_isTrue_46 : decode cX2_isTrue 46 = .ok (.iconst 0, 1) := by decide +kernel
theorem dX2_isTrue_47 : decode cX2_isTrue 47 = .ok (.istore_n 3, 1) := by decide +kernel
theorem dX2_isTrue_48 : decode cX2_isTrue 48 = .ok (.iload_n 3, 1) := by decide +kernel
theorem dX2_isTrue_49 : decode cX2_isTrue 49 = .ok (.bipush 8, 2) := by decide +kernel
theorem dX2_isTrue_51 : decode cX2_isTrue 51 = .ok (.if_icmp .ge 35, 3) := by decide +kernel
theorem dX2_isTrue_54 : decode cX2_isTrue 54 = .ok (.aload_n 0, 1) := by decide +kernel
theorem dX2_isTrue_55 : decode cX2_isTrue 55 = .ok (.iload_n 1, 1) := by decide +kernel
theorem dX2_isTrue_56 : decode cX2_isTrue 56 = .ok (.iload_n 2, 1) := by decide +kernel
theorem dX2_isTrue_57 : decode cX2_isTrue 57 = .ok (.invokevirtual 197, 3) := by decide +kernel
theorem dX2_isTrue_60 : decode cX2_isTrue 60 = .ok (.aload_n 0, 1) := by decide +kernel
theorem dX2_isTrue_61 : decode cX2_isTrue 61 = .ok (.iload_n 2, 1) := by decide +kernel
theorem dX2_isTrue_62 : decode cX2_isTrue 62 = .ok (.iload_n 3, 1) := by decide +kernel
theorem dX2_isTrue_63 : decode cX2_isTrue 63 = .ok (.invokevirtual 197, 3) := by decide +kernel
theorem dX2_isTrue_66 : decode cX2_isTrue 66 = .ok (.aload_n 0, 1) := by decide +kernel
theorem dX2_isTrue_67 : decode cX2_isTrue 67 = .ok (.iload_n 1, 1) := by decide +kernel
theorem dX2_isTrue_68 : decode cX2_isTrue 68 = .ok (.iload_n 3, 1) := by decide +kernel
theorem dX2_isTrue_69 : decode cX2_isTrue 69 = .ok (.invokevirtual 197, 3) := by decide +kernel
theorem dX2_isTrue_72 : decode cX2_isTrue 72 = .ok (.invokestatic 200, 3) := by decide +kernel
theorem dX2_isTrue_75 : decode cX2_isTrue 75 = .ok (.ifCond .ne 5, 3) := by decide +kernel
theorem dX2_isTrue_78 : decode cX2_isTrue 78 = .ok (.iconst 0, 1) := by decide +kernel
theorem dX2_isTrue_79 : decode cX2_isTrue 79 = .ok (.ireturn, 1) := by decide +kernel
theorem dX2_isTrue_80 : decode cX2_isTrue 80 = .ok (.iinc 3 1, 3) := by decide +kernel
theorem dX2_isTrue_83 : decode cX2_isTrue 83 = .ok (.goto (-35), 3) := by decide +kernel
theorem dX2_isTrue_86 : decode cX2_isTrue 86 = .ok (.iinc 2 1, 3) := by decide +kernel
theorem dX2_isTrue_89 : decode cX2_isTrue 89 = .ok (.goto (-60), 3) := by decide +kernel
theorem dX2_isTrue_92 : decode cX2_isTrue 92 = .ok (.iinc 1 1, 3) := by decide +kernel
theorem dX2_isTrue_95 : decode cX2_isTrue 95 = .ok (.goto (-89), 3) := by decide +kernel
theorem dX2_isTrue_98 : decode cX2_isTrue 98 = .ok (.iconst 1, 1) := by decide +kernel
theorem dX2_isTrue_99 : decode cX2_isTrue 99 = .ok (.ireturn, 1) := by decide +kernel
theorem dX2_checkNumber_0 : decode cX2_checkNumber 0 = .ok (.iload_n 0, 1) := by decide +kernel
theorem dX2_checkNumber_1 : decode cX2_checkNumber 1 = .ok (.iload_n 1, 1) := by decide +kernel
theorem dX2_checkNumber_2 : decode cX2_checkNumber 2 = .ok (.if_icmp .lt 8, 3) := by decide +kernel
theorem dX2_checkNumber_5 : decode cX2_checkNumber 5 = .ok (.iload_n 0, 1) := by decide +kernel
theorem dX2_checkNumber_6 : decode cX2_checkNumber 6 = .ok (.iload_n 2, 1) := by decide +kernel
theorem dX2_checkNumber_7 : decode cX2_checkNumber 7 = .ok (.if_icmp .le 13, 3) := by decide +kernel
theorem dX2_checkNumber_10 : decode cX2_checkNumber 10 = .ok (.new 73, 3) := by decide +kernel
theorem dX2_checkNumber_13 : decode cX2_checkNumber 13 = .ok (.dup, 1) := by decide +kernel
theorem dX2_checkNumber_14 : decode cX2_checkNumber 14 = .ok (.ldc 204, 2) := by decide +kernel
theorem dX2_checkNumber_16 : decode cX2_checkNumber 16 = .ok (.invokespecial 77, 3) := by decide +kernel
theorem dX2_checkNumber_19 : decode cX2_checkNumber 19 = .ok (.athrow, 1) := by decide +kernel
theorem dX2_checkNumber_20 : decode cX2_checkNumber 20 = .ok (.return_, 1) := by decide +kernel
theorem dX2_checkZeros_0 : decode cX2_checkZeros 0 = .ok (.iload_n 0, 1) := by decide +kernel
theorem dX2_checkZeros_1 : decode cX2_checkZeros 1 = .ok (.ifCond .lt 8, 3) := by decide +kernel
theorem dX2_checkZeros_4 : decode cX2_checkZeros 4 = .ok (.iload_n 0, 1) := by decide +kernel
theorem dX2_checkZeros_5 : decode cX2_checkZeros 5 = .ok (.iconst 3, 1) := by decide +kernel
theorem dX2_checkZeros_6 : decode cX2_checkZeros 6 = .ok (.if_icmp .le 13, 3) := by decide +kernel
theorem dX2_checkZeros_9 : decode cX2_checkZeros 9 = .ok (.new 73, 3) := by decide +kernel
theorem dX2_checkZeros_12 : decode cX2_checkZeros 12 = .ok (.dup, 1) := by decide +kernel
theorem dX2_checkZeros_13 : decode cX2_checkZeros 13 = .ok (.ldc 206, 2) := by decide +kernel
theorem dX2_checkZeros_15 : decode cX2_checkZeros 15 = .ok (.invokespecial 77, 3) := by decide +kernel
theorem dX2_checkZeros_18 : decode cX2_checkZeros 18 = .ok (.athrow, 1) := by decide +kernel
theorem dX2_checkZeros_19 : decode cX2_checkZeros 19 = .ok (.return_, 1) := by decide +kernel
theorem dX2_checkWay_0 : decode cX2_checkWay 0 = .ok (.iload_n 0, 1) := by decide +kernel
theorem dX2_checkWay_1 : decode cX2_checkWay 1 = .ok (.bipush 110, 2) := by decide +kernel
theorem dX2_checkWay_3 : decode cX2_checkWay 3 = .ok (.if_icmp .eq 31, 3) := by decide +kernel
theorem dX2_checkWay_6 : decode cX2_checkWay 6 = .ok (.iload_n 0, 1) := by decide +kernel
theorem dX2_checkWay_7 : decode cX2_checkWay 7 = .ok (.bipush 46, 2) := by decide +kernel
theorem dX2_checkWay_9 : decode cX2_checkWay 9 = .ok (.if_icmp .eq 25, 3) := by decide +kernel
theorem dX2_checkWay_12 : decode cX2_checkWay 12 = .ok (.iload_n 0, 1) := by decide +kernel
theorem dX2_checkWay_13 : decode cX2_checkWay 13 = .ok (.bipush 45, 2) := by decide +kernel
theorem dX2_checkWay_15 : decode cX2_checkWay 15 = .ok (.if_icmp .eq 19, 3) := by decide +kernel
theorem dX2_checkWay_18 : decode cX2_checkWay 18 = .ok (.iload_n 0, 1) := by decide +kernel
theorem dX2_checkWay_19 : decode cX2_checkWay 19 = .ok (.bipush 43, 2) := by decide +kernel
theorem dX2_checkWay_21 : decode cX2_checkWay 21 = .ok (.if_icmp .eq 13, 3) := by decide +kernel
theorem dX2_checkWay_24 : decode cX2_checkWay 24 = .ok (.new 73, 3) := by decide +kernel
theorem dX2_checkWay_27 : decode cX2_checkWay 27 = .ok (.dup, 1) := by decide +kernel
theorem dX2_checkWay_28 : decode cX2_checkWay 28 = .ok (.ldc 208, 2) := by decide +kernel
theorem dX2_checkWay_30 : decode cX2_checkWay 30 = .ok (.invokespecial 77, 3) := by decide +kernel
theorem dX2_checkWay_33 : decode cX2_checkWay 33 = .ok (.athrow, 1) := by decide +kernel
theorem dX2_checkWay_34 : decode cX2_checkWay 34 = .ok (.return_, 1) := by decide +kernel
set_option maxRecDepth 20000 in
theorem ggX2_checkJoin_X0_length : GoodIn wsX2_checkJoin wsX0_length := goodIn_r _ [8, 9, 35, 36] (by decide +kernel) (by decide +kernel)
set_option maxRecDepth 20000 in
theorem gX2_checkJoin_X0_length : GoodIn wsX2_checkJoin (wsV RX2 53 RX0 yX0_length wsX0_length) := goodIn_app (goodIn_of _ (by decide +kernel)) ggX2_checkJoin_X0_length
set_option maxRecDepth 20000 in
theorem ggX2_checkJoin_X0_lastKind : GoodIn wsX2_checkJoin wsX0_lastKind := goodIn_r _ [13, 9, 14, 15, 16, 7, 17, 18, 19, 20, 21, 35, 36] (by decide +kernel) (by decide +kernel)
set_option maxRecDepth 20000 in
theorem gX2_checkJoin_X0_lastKind : GoodIn wsX2_checkJoin (wsV RX2 210 RX0 yX0_lastKind wsX0_lastKind) := goodIn_app (goodIn_of _ (by decide +kernel)) ggX2_checkJoin_X0_lastKind
set_option maxRecDepth 20000 in
theorem ggX2_checkJoin_X0_has : GoodIn wsX2_checkJoin wsX0_has := goodIn_r _ [25, 9, 14, 15, 16, 7, 17, 18, 35, 36] (by decide +kernel) (by decide +kernel)
set_option maxRecDepth 20000 in
theorem gX2_checkJoin_X0_has : GoodIn wsX2_checkJoin (wsV RX2 215 RX0 yX0_has wsX0_has) := goodIn_app (goodIn_of _ (by decide +kernel)) ggX2_checkJoin_X0_has
set_option maxRecDepth 20000 in
theorem ggX2_checkJoin_X2_checkRoom : GoodIn wsX2_checkJoin wsX2_checkRoom := goodIn_ca (goodIn_r _ [28, 1, 2, 4, 5, 6, 7, 8, 9, 35, 36] (by decide +kernel) (by decide +kernel)) (goodIn_sub (fun _ h => List.mem_cons_of_mem _ (List.mem_append_right _ h)) (by decide +kernel))
set_option maxRecDepth 20000 in
theorem gX2_checkJoin_X2_checkRoom : GoodIn wsX2_checkJoin (va_wsS RX2 147 yX2_checkRoom wsX2_checkRoom) := goodIn_app (goodIn_of _ (by decide +kernel)) ggX2_checkJoin_X2_checkRoom
theorem dX2_checkJoin_0 : decode cX2_checkJoin 0 = .ok (.aload_n 0, 1) := by decide +kernel
theorem dX2_checkJoin_1 : decode cX2_checkJoin 1 = .ok (.getfield 10, 3) := by decide +kernel
theorem dX2_checkJoin_4 : decode cX2_checkJoin 4 = .ok (.invokevirtual 53, 3) := by decide +kernel
theorem dX2_checkJoin_7 : decode cX2_checkJoin 7 = .ok (.ifCond .ne 13, 3) := by decide +kernel
theorem dX2_checkJoin_10 : decode cX2_checkJoin 10 = .ok (.new 160, 3) := by decide +kernel
theorem dX2_checkJoin_13 : decode cX2_checkJoin 13 = .ok (.dup, 1) := by decide +kernel
theorem dX2_checkJoin_14 : decode cX2_checkJoin 14 = .ok (.ldc 94, 2) := by decide +kernel
theorem dX2_checkJoin_16 : decode cX2_checkJoin 16 = .ok (.invokespecial 164, 3) := by decide +kernel
theorem dX2_checkJoin_19 : decode cX2_checkJoin 19 = .ok (.athrow, 1) := by decide +kernel
theorem dX2_checkJoin_20 : decode cX2_checkJoin 20 = .ok (.iload_n 1, 1) := by decide +kernel
theorem dX2_checkJoin_21 : decode cX2_checkJoin 21 = .ok (.bipush 110, 2) := by decide +kernel
theorem dX2_checkJoin_23 : decode cX2_checkJoin 23 = .ok (.if_icmp .ne 24, 3) := by decide +kernel
theorem dX2_checkJoin_26 : decode cX2_checkJoin 26 = .ok (.aload_n 0, 1) := by decide +kernel
theorem dX2_checkJoin_27 : decode cX2_checkJoin 27 = .ok (.getfield 10, 3) := by decide +kernel
theorem dX2_checkJoin_30 : decode cX2_checkJoin 30 = .ok (.invokevirtual 210, 3) := by decide +kernel
theorem dX2_checkJoin_33 : decode cX2_checkJoin 33 = .ok (.iload_n 2, 1) := by decide +kernel
theorem dX2_checkJoin_34 : decode cX2_checkJoin 34 = .ok (.if_icmp .ne 13, 3) := by decide +kernel
theorem dX2_checkJoin_37 : decode cX2_checkJoin 37 = .ok (.new 160, 3) := by decide +kernel
theorem dX2_checkJoin_40 : decode cX2_checkJoin 40 = .ok (.dup, 1) := by decide +kernel
theorem dX2_checkJoin_41 : decode cX2_checkJoin 41 = .ok (.ldc 213, 2) := by decide +kernel
theorem dX2_checkJoin_43 : decode cX2_checkJoin 43 = .ok (.invokespecial 164, 3) := by decide +kernel
theorem dX2_checkJoin_46 : decode cX2_checkJoin 46 = .ok (.athrow, 1) := by decide +kernel
theorem dX2_checkJoin_47 : decode cX2_checkJoin 47 = .ok (.iload_n 1, 1) := by decide +kernel
theorem dX2_checkJoin_48 : decode cX2_checkJoin 48 = .ok (.bipush 43, 2) := by decide +kernel
theorem dX2_checkJoin_50 : decode cX2_checkJoin 50 = .ok (.if_icmp .ne 25, 3) := by decide +kernel
theorem dX2_checkJoin_53 : decode cX2_checkJoin 53 = .ok (.aload_n 0, 1) := by decide +kernel
theorem dX2_checkJoin_54 : decode cX2_checkJoin 54 = .ok (.getfield 10, 3) := by decide +kernel
theorem dX2_checkJoin_57 : decode cX2_checkJoin 57 = .ok (.bipush 45, 2) := by decide +kernel
theorem dX2_checkJoin_59 : decode cX2_checkJoin 59 = .ok (.invokevirtual 215, 3) := by decide +kernel
theorem dX2_checkJoin_62 : decode cX2_checkJoin 62 = .ok (.ifCond .ne 13, 3) := by decide +kernel
theorem dX2_checkJoin_65 : decode cX2_checkJoin 65 = .ok (.new 160, 3) := by decide +kernel
theorem dX2_checkJoin_68 : decode cX2_checkJoin 68 = .ok (.dup, 1) := by decide +kernel
theorem dX2_checkJoin_69 : decode cX2_checkJoin 69 = .ok (.ldc 219, 2) := by decide +kernel
theorem dX2_checkJoin_71 : decode cX2_checkJoin 71 = .ok (.invokespecial 164, 3) := by decide +kernel
theorem dX2_checkJoin_74 : decode cX2_checkJoin 74 = .ok (.athrow, 1) := by decide +kernel
theorem dX2_checkJoin_75 : decode cX2_checkJoin 75 = .ok (.aload_n 0, 1) := by decide +kernel
theorem dX2_checkJoin_76 : decode cX2_checkJoin 76 = .ok (.getfield 10, 3) := by decide +kernel
theorem dX2_checkJoin_79 : decode cX2_checkJoin 79 = .ok (.iload_n 1, 1) := by decide +kernel
theorem dX2_checkJoin_80 : decode cX2_checkJoin 80 = .ok (.bipush 110, 2) := by decide +kernel
theorem dX2_checkJoin_82 : decode cX2_checkJoin 82 = .ok (.if_icmp .ne 7, 3) := by decide +kernel
theorem dX2_checkJoin_85 : decode cX2_checkJoin 85 = .ok (.iload_n 3, 1) := by decide +kernel
theorem dX2_checkJoin_86 : decode cX2_checkJoin 86 = .ok (.goto 6, 3) := by decide +kernel
theorem dX2_checkJoin_89 : decode cX2_checkJoin 89 = .ok (.iconst 1, 1) := by decide +kernel
theorem dX2_checkJoin_90 : decode cX2_checkJoin 90 = .ok (.iload_n 3, 1) := by decide +kernel
theorem dX2_checkJoin_91 : decode cX2_checkJoin 91 = .ok (.iadd, 1) := by decide +kernel
theorem dX2_checkJoin_92 : decode cX2_checkJoin 92 = .ok (.invokestatic 147, 3) := by decide +kernel
theorem dX2_checkJoin_95 : decode cX2_checkJoin 95 = .ok (.return_, 1) := by decide +kernel
set_option maxRecDepth 20000 in
theorem ggX2_checkRoom_X0_length : GoodIn wsX2_checkRoom wsX0_length := goodIn_r _ [7, 8, 9, 10] (by decide +kernel) (by decide +kernel)
set_option maxRecDepth 20000 in
theorem gX2_checkRoom_X0_length : GoodIn wsX2_checkRoom (wsV RX2 53 RX0 yX0_length wsX0_length) := goodIn_app (goodIn_of _ (by decide +kernel)) ggX2_checkRoom_X0_length
theorem dX2_checkRoom_0 : decode cX2_checkRoom 0 = .ok (.iload_n 1, 1) := by decide +kernel
theorem dX2_checkRoom_1 : decode cX2_checkRoom 1 = .ok (.bipush 60, 2) := by decide +kernel
theorem dX2_checkRoom_3 : decode cX2_checkRoom 3 = .ok (.aload_n 0, 1) := by decide +kernel
theorem dX2_checkRoom_4 : decode cX2_checkRoom 4 = .ok (.invokevirtual 53, 3) := by decide +kernel
theorem dX2_checkRoom_7 : decode cX2_checkRoom 7 = .ok (.isub, 1) := by decide +kernel
theorem dX2_checkRoom_8 : decode cX2_checkRoom 8 = .ok (.if_icmp .le 13, 3) := by decide +kernel
theorem dX2_checkRoom_11 : decode cX2_checkRoom 11 = .ok (.new 160, 3) := by decide +kernel
theorem dX2_checkRoom_14 : decode cX2_checkRoom 14 = .ok (.dup, 1) := by decide +kernel
theorem dX2_checkRoom_15 : decode cX2_checkRoom 15 = .ok (.ldc 221, 2) := by decide +kernel
theorem dX2_checkRoom_17 : decode cX2_checkRoom 17 = .ok (.invokespecial 164, 3) := by decide +kernel
theorem dX2_checkRoom_20 : decode cX2_checkRoom 20 = .ok (.athrow, 1) := by decide +kernel
theorem dX2_checkRoom_21 : decode cX2_checkRoom 21 = .ok (.return_, 1) := by decide +kernel
set_option maxRecDepth 20000 in
theorem ggX2_checkPlace_X0_length : GoodIn wsX2_checkPlace wsX0_length := goodIn_r _ [7, 8, 9, 10] (by decide +kernel) (by decide +kernel)
set_option maxRecDepth 20000 in
theorem gX2_checkPlace_X0_length : GoodIn wsX2_checkPlace (wsV RX2 53 RX0 yX0_length wsX0_length) := goodIn_app (goodIn_of _ (by decide +kernel)) ggX2_checkPlace_X0_length
theorem dX2_checkPlace_0 : decode cX2_checkPlace 0 = .ok (.iload_n 1, 1) := by decide +kernel
theorem dX2_checkPlace_1 : decode cX2_checkPlace 1 = .ok (.ifCond .lt 11, 3) := by decide +kernel
theorem dX2_checkPlace_4 : decode cX2_checkPlace 4 = .ok (.iload_n 1, 1) := by decide +kernel
theorem dX2_checkPlace_5 : decode cX2_checkPlace 5 = .ok (.aload_n 0, 1) := by decide +kernel
theorem dX2_checkPlace_6 : decode cX2_checkPlace 6 = .ok (.invokevirtual 53, 3) := by decide +kernel
theorem dX2_checkPlace_9 : decode cX2_checkPlace 9 = .ok (.if_icmp .lt 13, 3) := by decide +kernel
theorem dX2_checkPlace_12 : decode cX2_checkPlace 12 = .ok (.new 126, 3) := by decide +kernel
theorem dX2_checkPlace_15 : decode cX2_checkPlace 15 = .ok (.dup, 1) := by decide +kernel
theorem dX2_checkPlace_16 : decode cX2_checkPlace 16 = .ok (.ldc 223, 2) := by decide +kernel
theorem dX2_checkPlace_18 : decode cX2_checkPlace 18 = .ok (.invokespecial 130, 3) := by decide +kernel
theorem dX2_checkPlace_21 : decode cX2_checkPlace 21 = .ok (.athrow, 1) := by decide +kernel
theorem dX2_checkPlace_22 : decode cX2_checkPlace 22 = .ok (.return_, 1) := by decide +kernel
theorem dX2_checkSlot_0 : decode cX2_checkSlot 0 = .ok (.iload_n 0, 1) := by decide +kernel
theorem dX2_checkSlot_1 : decode cX2_checkSlot 1 = .ok (.ifCond .lt 9, 3) := by decide +kernel
theorem dX2_checkSlot_4 : decode cX2_checkSlot 4 = .ok (.iload_n 0, 1) := by decide +kernel
theorem dX2_checkSlot_5 : decode cX2_checkSlot 5 = .ok (.bipush 8, 2) := by decide +kernel
theorem dX2_checkSlot_7 : decode cX2_checkSlot 7 = .ok (.if_icmp .lt 13, 3) := by decide +kernel
theorem dX2_checkSlot_10 : decode cX2_checkSlot 10 = .ok (.new 126, 3) := by decide +kernel
theorem dX2_checkSlot_13 : decode cX2_checkSlot 13 = .ok (.dup, 1) := by decide +kernel
theorem dX2_checkSlot_14 : decode cX2_checkSlot 14 = .ok (.ldc 225, 2) := by decide +kernel
theorem dX2_checkSlot_16 : decode cX2_checkSlot 16 = .ok (.invokespecial 130, 3) := by decide +kernel
theorem dX2_checkSlot_19 : decode cX2_checkSlot 19 = .ok (.athrow, 1) := by decide +kernel
theorem dX2_checkSlot_20 : decode cX2_checkSlot 20 = .ok (.return_, 1) := by decide +kernel
theorem dX2_checkRow_0 : decode cX2_checkRow 0 = .ok (.iload_n 0, 1) := by decide +kernel
theorem dX2_checkRow_1 : decode cX2_checkRow 1 = .ok (.ifCond .lt 8, 3) := by decide +kernel
theorem dX2_checkRow_4 : decode cX2_checkRow 4 = .ok (.iload_n 0, 1) := by decide +kernel
theorem dX2_checkRow_5 : decode cX2_checkRow 5 = .ok (.iconst 3, 1) := by decide +kernel
theorem dX2_checkRow_6 : decode cX2_checkRow 6 = .ok (.if_icmp .lt 13, 3) := by decide +kernel
theorem dX2_checkRow_9 : decode cX2_checkRow 9 = .ok (.new 73, 3) := by decide +kernel
theorem dX2_checkRow_12 : decode cX2_checkRow 12 = .ok (.dup, 1) := by decide +kernel
theorem dX2_checkRow_13 : decode cX2_checkRow 13 = .ok (.ldc 227, 2) := by decide +kernel
theorem dX2_checkRow_15 : decode cX2_checkRow 15 = .ok (.invokespecial 77, 3) := by decide +kernel
theorem dX2_checkRow_18 : decode cX2_checkRow 18 = .ok (.athrow, 1) := by decide +kernel
theorem dX2_checkRow_19 : decode cX2_checkRow 19 = .ok (.return_, 1) := by decide +kernel
set_option maxRecDepth 20000 in
theorem ggX2_versionIn_X2_checkSlot : GoodIn wsX2_versionIn wsX2_checkSlot := goodIn_ca (goodIn_r _ [5, 6, 7] (by decide +kernel) (by decide +kernel)) (goodIn_sub (fun _ h => List.mem_cons_of_mem _ (List.mem_append_right _ h)) (by decide +kernel))
set_option maxRecDepth 20000 in
theorem gX2_versionIn_X2_checkSlot : GoodIn wsX2_versionIn (va_wsS RX2 91 yX2_checkSlot wsX2_checkSlot) := goodIn_app (goodIn_of _ (by decide +kernel)) ggX2_versionIn_X2_checkSlot
theorem dX2_versionIn_0 : decode cX2_versionIn 0 = .ok (.iload_n 1, 1) := by decide +kernel
theorem dX2_versionIn_1 : decode cX2_versionIn 1 = .ok (.invokestatic 91, 3) := by decide +kernel
theorem dX2_versionIn_4 : decode cX2_versionIn 4 = .ok (.aload_n 0, 1) := by decide +kernel
theorem dX2_versionIn_5 : decode cX2_versionIn 5 = .ok (.getfield 18, 3) := by decide +kernel
theorem dX2_versionIn_8 : decode cX2_versionIn 8 = .ok (.iload_n 1, 1) := by decide +kernel
theorem dX2_versionIn_9 : decode cX2_versionIn 9 = .ok (.aaload, 1) := by decide +kernel
theorem dX2_versionIn_10 : decode cX2_versionIn 10 = .ok (.areturn, 1) := by decide +kernel
set_option maxRecDepth 20000 in
theorem ggX2_putJoint_X0_put : GoodIn wsX2_putJoint wsX0_put := goodIn_r _ [6, 7, 8, 15, 16] (by decide +kernel) (by decide +kernel)
set_option maxRecDepth 20000 in
theorem gX2_putJoint_X0_put : GoodIn wsX2_putJoint (wsV RX2 109 RX0 yX0_put wsX0_put) := goodIn_app (goodIn_of _ (by decide +kernel)) ggX2_putJoint_X0_put
theorem dX2_putJoint_0 : decode cX2_putJoint 0 = .ok (.iload_n 1, 1) := by decide +kernel
theorem dX2_putJoint_1 : decode cX2_putJoint 1 = .ok (.bipush 110, 2) := by decide +kernel
theorem dX2_putJoint_3 : decode cX2_putJoint 3 = .ok (.if_icmp .eq 11, 3) := by decide +kernel
theorem dX2_putJoint_6 : decode cX2_putJoint 6 = .ok (.aload_n 0, 1) := by decide +kernel
theorem dX2_putJoint_7 : decode cX2_putJoint 7 = .ok (.getfield 10, 3) := by decide +kernel
theorem dX2_putJoint_10 : decode cX2_putJoint 10 = .ok (.iload_n 1, 1) := by decide +kernel
theorem dX2_putJoint_11 : decode cX2_putJoint 11 = .ok (.invokevirtual 109, 3) := by decide +kernel
theorem dX2_putJoint_14 : decode cX2_putJoint 14 = .ok (.return_, 1) := by decide +kernel
set_option maxRecDepth 20000 in
theorem ggX2_exchangeSpare_X2_versionIn : GoodIn wsX2_exchangeSpare wsX2_versionIn := goodIn_ca (goodIn_r _ [7, 2, 8, 9, 6, 10, 11, 12, 66, 67, 68, 69, 70, 71] (by decide +kernel) (by decide +kernel)) (goodIn_sub (fun _ h => List.mem_cons_of_mem _ (List.mem_append_right _ h)) (by decide +kernel))
set_option maxRecDepth 20000 in
theorem gX2_exchangeSpare_X2_versionIn : GoodIn wsX2_exchangeSpare (wsV RX2 112 RX2 yX2_versionIn wsX2_versionIn) := goodIn_app (goodIn_of _ (by decide +kernel)) ggX2_exchangeSpare_X2_versionIn
set_option maxRecDepth 20000 in
theorem ggX2_exchangeSpare_X1_orderTo : GoodIn wsX2_exchangeSpare wsX1_orderTo := goodIn_r _ [17, 18, 19, 20, 16, 21, 22, 23, 24, 25, 26, 27, 28, 29, 30, 31, 32, 33, 34, 35, 36, 37, 38, 39, 40, 41, 42, 43, 44, 45, 46, 47, 48, 49, 50, 51, 52, 53, 54, 55, 56, 57, 58, 59, 60, 61, 6, 62, 63, 64, 65, 72, 73, 74, 75, 76, 77] (by decide +kernel) (by decide +kernel)
set_option maxRecDepth 20000 in
theorem gX2_exchangeSpare_X1_orderTo : GoodIn wsX2_exchangeSpare (wsV RX2 135 RX1 yX1_orderTo wsX1_orderTo) := goodIn_app (goodIn_of _ (by decide +kernel)) ggX2_exchangeSpare_X1_orderTo
theorem dX2_exchangeSpare_0 : decode cX2_exchangeSpare 0 = .ok (.aload_n 0, 1) := by decide +kernel
theorem dX2_exchangeSpare_1 : decode cX2_exchangeSpare 1 = .ok (.iload_n 1, 1) := by decide +kernel
theorem dX2_exchangeSpare_2 : decode cX2_exchangeSpare 2 = .ok (.invokevirtual 112, 3) := by decide +kernel
theorem dX2_exchangeSpare_5 : decode cX2_exchangeSpare 5 = .ok (.astore_n 2, 1) := by decide +kernel
theorem dX2_exchangeSpare_6 : decode cX2_exchangeSpare 6 = .ok (.aload_n 0, 1) := by decide +kernel
theorem dX2_exchangeSpare_7 : decode cX2_exchangeSpare 7 = .ok (.getfield 33, 3) := by decide +kernel
theorem dX2_exchangeSpare_10 : decode cX2_exchangeSpare 10 = .ok (.aload_n 2, 1) := by decide +kernel
theorem dX2_exchangeSpare_11 : decode cX2_exchangeSpare 11 = .ok (.invokevirtual 135, 3) := by decide +kernel
theorem dX2_exchangeSpare_14 : decode cX2_exchangeSpare 14 = .ok (.istore_n 3, 1) := by decide +kernel
theorem dX2_exchangeSpare_15 : decode cX2_exchangeSpare 15 = .ok (.aload_n 0, 1) := by decide +kernel
theorem dX2_exchangeSpare_16 : decode cX2_exchangeSpare 16 = .ok (.getfield 18, 3) := by decide +kernel
theorem dX2_exchangeSpare_19 : decode cX2_exchangeSpare 19 = .ok (.iload_n 1, 1) := by decide +kernel
theorem dX2_exchangeSpare_20 : decode cX2_exchangeSpare 20 = .ok (.aload_n 0, 1) := by decide +kernel
theorem dX2_exchangeSpare_21 : decode cX2_exchangeSpare 21 = .ok (.getfield 33, 3) := by decide +kernel
theorem dX2_exchangeSpare_24 : decode cX2_exchangeSpare 24 = .ok (.aastore, 1) := by decide +kernel
theorem dX2_exchangeSpare_25 : decode cX2_exchangeSpare 25 = .ok (.aload_n 0, 1) := by decide +kernel
theorem dX2_exchangeSpare_26 : decode cX2_exchangeSpare 26 = .ok (.aload_n 2, 1) := by decide +kernel
theorem dX2_exchangeSpare_27 : decode cX2_exchangeSpare 27 = .ok (.putfield 33, 3) := by decide +kernel
theorem dX2_exchangeSpare_30 : decode cX2_exchangeSpare 30 = .ok (.iload_n 3, 1) := by decide +kernel
theorem dX2_exchangeSpare_31 : decode cX2_exchangeSpare 31 = .ok (.ireturn, 1) := by decide +kernel
set_option maxRecDepth 20000 in
theorem ggX2_parseAnew_X1_tell : GoodIn wsX2_parseAnew wsX1_tell := goodIn_r _ [6, 7, 8, 9, 10, 11, 12, 13, 14, 15, 16, 17, 18, 19, 20, 21, 22, 23, 24, 25, 26, 27, 28, 29, 30, 68, 69, 70, 71, 72, 73] (by decide +kernel) (by decide +kernel)
set_option maxRecDepth 20000 in
theorem gX2_parseAnew_X1_tell : GoodIn wsX2_parseAnew (wsV RX2 96 RX1 yX1_tell wsX1_tell) := goodIn_app (goodIn_of _ (by decide +kernel)) ggX2_parseAnew_X1_tell
set_option maxRecDepth 20000 in
theorem ggX2_parseAnew_X1_readTokens : GoodIn wsX2_parseAnew wsX1_readTokens := goodIn_r _ [34, 35, 7, 36, 19, 20, 11, 21, 13, 37, 23, 24, 25, 26, 38, 39, 40, 41, 42, 5, 43, 44, 45, 46, 47, 48, 49, 50, 51, 52, 53, 54, 55, 56, 57, 58, 59, 60, 61, 68, 69, 70, 71, 72, 73] (by decide +kernel) (by decide +kernel)
set_option maxRecDepth 20000 in
theorem gX2_parseAnew_X1_readTokens : GoodIn wsX2_parseAnew (wsV RX2 100 RX1 yX1_readTokens wsX1_readTokens) := goodIn_app (goodIn_of _ (by decide +kernel)) ggX2_parseAnew_X1_readTokens
theorem dX2_parseAnew_0 : decode cX2_parseAnew 0 = .ok (.aload_n 0, 1) := by decide +kernel
theorem dX2_parseAnew_1 : decode cX2_parseAnew 1 = .ok (.getfield 33, 3) := by decide +kernel
theorem dX2_parseAnew_4 : decode cX2_parseAnew 4 = .ok (.aload_n 1, 1) := by decide +kernel
theorem dX2_parseAnew_5 : decode cX2_parseAnew 5 = .ok (.getfield 106, 3) := by decide +kernel
theorem dX2_parseAnew_8 : decode cX2_parseAnew 8 = .ok (.invokevirtual 96, 3) := by decide +kernel
theorem dX2_parseAnew_11 : decode cX2_parseAnew 11 = .ok (.aload_n 0, 1) := by decide +kernel
theorem dX2_parseAnew_12 : decode cX2_parseAnew 12 = .ok (.getfield 33, 3) := by decide +kernel
theorem dX2_parseAnew_15 : decode cX2_parseAnew 15 = .ok (.invokevirtual 100, 3) := by decide +kernel
theorem dX2_parseAnew_18 : decode cX2_parseAnew 18 = .ok (.return_, 1) := by decide +kernel
set_option maxRecDepth 20000 in
theorem ggX2_parseWithNumberBehind_X1_tell : GoodIn wsX2_parseWithNumberBehind wsX1_tell := goodIn_r _ [6, 7, 8, 9, 10, 11, 12, 13, 14, 15, 16, 17, 18, 19, 20, 21, 22, 23, 24, 25, 26, 27, 28, 29, 30, 74, 75, 76, 77, 78, 79] (by decide +kernel) (by decide +kernel)
set_option maxRecDepth 20000 in
theorem gX2_parseWithNumberBehind_X1_tell : GoodIn wsX2_parseWithNumberBehind (wsV RX2 96 RX1 yX1_tell wsX1_tell) := goodIn_app (goodIn_of _ (by decide +kernel)) ggX2_parseWithNumberBehind_X1_tell
set_option maxRecDepth 20000 in
theorem ggX2_parseWithNumberBehind_X0_put : GoodIn wsX2_parseWithNumberBehind wsX0_put := goodIn_r _ [30, 13, 26, 78, 79] (by decide +kernel) (by decide +kernel)
set_option maxRecDepth 20000 in
theorem gX2_parseWithNumberBehind_X0_put : GoodIn wsX2_parseWithNumberBehind (wsV RX2 109 RX0 yX0_put wsX0_put) := goodIn_app (goodIn_of _ (by decide +kernel)) ggX2_parseWithNumberBehind_X0_put
set_option maxRecDepth 20000 in
theorem ggX2_parseWithNumberBehind_X0_putNumber : GoodIn wsX2_parseWithNumberBehind wsX0_putNumber := goodIn_r _ [35, 36, 27, 28, 29, 11, 30, 13, 26, 78, 79] (by decide +kernel) (by decide +kernel)
set_option maxRecDepth 20000 in
theorem gX2_parseWithNumberBehind_X0_putNumber : GoodIn wsX2_parseWithNumberBehind (wsV RX2 49 RX0 yX0_putNumber wsX0_putNumber) := goodIn_app (goodIn_of _ (by decide +kernel)) ggX2_parseWithNumberBehind_X0_putNumber
set_option maxRecDepth 20000 in
theorem ggX2_parseWithNumberBehind_X1_readTokens : GoodIn wsX2_parseWithNumberBehind wsX1_readTokens := goodIn_r _ [40, 41, 7, 42, 19, 20, 11, 21, 13, 43, 23, 24, 25, 26, 44, 45, 46, 47, 48, 5, 49, 50, 51, 52, 53, 54, 55, 56, 57, 58, 59, 60, 61, 62, 63, 64, 65, 66, 67, 74, 75, 76, 77, 78, 79] (by decide +kernel) (by decide +kernel)
set_option maxRecDepth 20000 in
theorem gX2_parseWithNumberBehind_X1_readTokens : GoodIn wsX2_parseWithNumberBehind (wsV RX2 100 RX1 yX1_readTokens wsX1_readTokens) := goodIn_app (goodIn_of _ (by decide +kernel)) ggX2_parseWithNumberBehind_X1_readTokens
theorem dX2_parseWithNumberBehind_0 : decode cX2_parseWithNumberBehind 0 = .ok (.aload_n 0, 1) := by decide +kernel
theorem dX2_parseWithNumberBehind_1 : decode cX2_parseWithNumberBehind 1 = .ok (.getfield 33, 3) := by decide +kernel
theorem dX2_parseWithNumberBehind_4 : decode cX2_parseWithNumberBehind 4 = .ok (.aload_n 1, 1) := by decide +kernel
theorem dX2_parseWithNumberBehind_5 : decode cX2_parseWithNumberBehind 5 = .ok (.getfield 106, 3) := by decide +kernel
theorem dX2_parseWithNumberBehind_8 : decode cX2_parseWithNumberBehind 8 = .ok (.invokevirtual 96, 3) := by decide +kernel
theorem dX2_parseWithNumberBehind_11 : decode cX2_parseWithNumberBehind 11 = .ok (.aload_n 0, 1) := by decide +kernel
theorem dX2_parseWithNumberBehind_12 : decode cX2_parseWithNumberBehind 12 = .ok (.getfield 33, 3) := by decide +kernel
theorem dX2_parseWithNumberBehind_15 : decode cX2_parseWithNumberBehind 15 = .ok (.getfield 106, 3) := by decide +kernel
theorem dX2_parseWithNumberBehind_18 : decode cX2_parseWithNumberBehind 18 = .ok (.iload_n 2, 1) := by decide +kernel
theorem dX2_parseWithNumberBehind_19 : decode cX2_parseWithNumberBehind 19 = .ok (.invokevirtual 109, 3) := by decide +kernel
theorem dX2_parseWithNumberBehind_22 : decode cX2_parseWithNumberBehind 22 = .ok (.aload_n 0, 1) := by decide +kernel
theorem dX2_parseWithNumberBehind_23 : decode cX2_parseWithNumberBehind 23 = .ok (.getfield 33, 3) := by decide +kernel
theorem dX2_parseWithNumberBehind_26 : decode cX2_parseWithNumberBehind 26 = .ok (.getfield 106, 3) := by decide +kernel
theorem dX2_parseWithNumberBehind_29 : decode cX2_parseWithNumberBehind 29 = .ok (.iload_n 3, 1) := by decide +kernel
theorem dX2_parseWithNumberBehind_30 : decode cX2_parseWithNumberBehind 30 = .ok (.iconst 0, 1) := by decide +kernel
theorem dX2_parseWithNumberBehind_31 : decode cX2_parseWithNumberBehind 31 = .ok (.invokevirtual 49, 3) := by decide +kernel
theorem dX2_parseWithNumberBehind_34 : decode cX2_parseWithNumberBehind 34 = .ok (.aload_n 0, 1) := by decide +kernel
theorem dX2_parseWithNumberBehind_35 : decode cX2_parseWithNumberBehind 35 = .ok (.getfield 33, 3) := by decide +kernel
theorem dX2_parseWithNumberBehind_38 : decode cX2_parseWithNumberBehind 38 = .ok (.invokevirtual 100, 3) := by decide +kernel
theorem dX2_parseWithNumberBehind_41 : decode cX2_parseWithNumberBehind 41 = .ok (.return_, 1) := by decide +kernel
set_option maxRecDepth 20000 in
theorem ggX2_parseWithLetterBehind_X1_tell : GoodIn wsX2_parseWithLetterBehind wsX1_tell := goodIn_r _ [6, 7, 8, 9, 10, 11, 12, 13, 14, 15, 16, 17, 18, 19, 20, 21, 22, 23, 24, 25, 26, 27, 28, 29, 30, 69, 70, 71, 72, 73, 74] (by decide +kernel) (by decide +kernel)
set_option maxRecDepth 20000 in
theorem gX2_parseWithLetterBehind_X1_tell : GoodIn wsX2_parseWithLetterBehind (wsV RX2 96 RX1 yX1_tell wsX1_tell) := goodIn_app (goodIn_of _ (by decide +kernel)) ggX2_parseWithLetterBehind_X1_tell
set_option maxRecDepth 20000 in
theorem ggX2_parseWithLetterBehind_X0_put : GoodIn wsX2_parseWithLetterBehind wsX0_put := goodIn_r _ [30, 13, 26, 73, 74] (by decide +kernel) (by decide +kernel)
set_option maxRecDepth 20000 in
theorem gX2_parseWithLetterBehind_X0_put : GoodIn wsX2_parseWithLetterBehind (wsV RX2 109 RX0 yX0_put wsX0_put) := goodIn_app (goodIn_of _ (by decide +kernel)) ggX2_parseWithLetterBehind_X0_put
set_option maxRecDepth 20000 in
theorem ggX2_parseWithLetterBehind_X1_readTokens : GoodIn wsX2_parseWithLetterBehind wsX1_readTokens := goodIn_r _ [35, 36, 7, 37, 19, 20, 11, 21, 13, 38, 23, 24, 25, 26, 39, 40, 41, 42, 43, 5, 44, 45, 46, 47, 48, 49, 50, 51, 52, 53, 54, 55, 56, 57, 58, 59, 60, 61, 62, 69, 70, 71, 72, 73, 74] (by decide +kernel) (by decide +kernel)
set_option maxRecDepth 20000 in
theorem gX2_parseWithLetterBehind_X1_readTokens : GoodIn wsX2_parseWithLetterBehind (wsV RX2 100 RX1 yX1_readTokens wsX1_readTokens) := goodIn_app (goodIn_of _ (by decide +kernel)) ggX2_parseWithLetterBehind_X1_readTokens
theorem dX2_parseWithLetterBehind_0 : decode cX2_parseWithLetterBehind 0 = .ok (.aload_n 0, 1) := by decide +kernel
theorem dX2_parseWithLetterBehind_1 : decode cX2_parseWithLetterBehind 1 = .ok (.getfield 33, 3) := by decide +kernel
theorem dX2_parseWithLetterBehind_4 : decode cX2_parseWithLetterBehind 4 = .ok (.aload_n 1, 1) := by decide +kernel
theorem dX2_parseWithLetterBehind_5 : decode cX2_parseWithLetterBehind 5 = .ok (.getfield 106, 3) := by decide +kernel
theorem dX2_parseWithLetterBehind_8 : decode cX2_parseWithLetterBehind 8 = .ok (.invokevirtual 96, 3) := by decide +kernel
theorem dX2_parseWithLetterBehind_11 : decode cX2_parseWithLetterBehind 11 = .ok (.aload_n 0, 1) := by decide +kernel
theorem dX2_parseWithLetterBehind_12 : decode cX2_parseWithLetterBehind 12 = .ok (.getfield 33, 3) := by decide +kernel
theorem dX2_parseWithLetterBehind_15 : decode cX2_parseWithLetterBehind 15 = .ok (.getfield 106, 3) := by decide +kernel
theorem dX2_parseWithLetterBehind_18 : decode cX2_parseWithLetterBehind 18 = .ok (.bipush 45, 2) := by decide +kernel
theorem dX2_parseWithLetterBehind_20 : decode cX2_parseWithLetterBehind 20 = .ok (.invokevirtual 109, 3) := by decide +kernel
theorem dX2_parseWithLetterBehind_23 : decode cX2_parseWithLetterBehind 23 = .ok (.aload_n 0, 1) := by decide +kernel
theorem dX2_parseWithLetterBehind_24 : decode cX2_parseWithLetterBehind 24 = .ok (.getfield 33, 3) := by decide +kernel
theorem dX2_parseWithLetterBehind_27 : decode cX2_parseWithLetterBehind 27 = .ok (.getfield 106, 3) := by decide +kernel
theorem dX2_parseWithLetterBehind_30 : decode cX2_parseWithLetterBehind 30 = .ok (.iload_n 2, 1) := by decide +kernel
theorem dX2_parseWithLetterBehind_31 : decode cX2_parseWithLetterBehind 31 = .ok (.invokevirtual 109, 3) := by decide +kernel
theorem dX2_parseWithLetterBehind_34 : decode cX2_parseWithLetterBehind 34 = .ok (.aload_n 0, 1) := by decide +kernel
theorem dX2_parseWithLetterBehind_35 : decode cX2_parseWithLetterBehind 35 = .ok (.getfield 33, 3) := by decide +kernel
theorem dX2_parseWithLetterBehind_38 : decode cX2_parseWithLetterBehind 38 = .ok (.invokevirtual 100, 3) := by decide +kernel
theorem dX2_parseWithLetterBehind_41 : decode cX2_parseWithLetterBehind 41 = .ok (.return_, 1) := by decide +kernel
set_option maxRecDepth 20000 in
theorem ggX2_orderSlots_X2_versionIn : GoodIn wsX2_orderSlots wsX2_versionIn := goodIn_ca (goodIn_r _ [7, 1, 8, 9, 6, 10, 11, 12, 66, 67, 68, 69, 70, 71] (by decide +kernel) (by decide +kernel)) (goodIn_sub (fun _ h => List.mem_cons_of_mem _ (List.mem_append_right _ h)) (by decide +kernel))
set_option maxRecDepth 20000 in
theorem gX2_orderSlots_X2_versionIn : GoodIn wsX2_orderSlots (wsV RX2 112 RX2 yX2_versionIn wsX2_versionIn) := goodIn_app (goodIn_of _ (by decide +kernel)) ggX2_orderSlots_X2_versionIn
set_option maxRecDepth 20000 in
theorem ggX2_orderSlots_X1_orderTo : GoodIn wsX2_orderSlots wsX1_orderTo := goodIn_r _ [17, 18, 19, 20, 16, 21, 22, 23, 24, 25, 26, 27, 28, 29, 30, 31, 32, 33, 34, 35, 36, 37, 38, 39, 40, 41, 42, 43, 44, 45, 46, 47, 48, 49, 50, 51, 52, 53, 54, 55, 56, 57, 58, 59, 60, 61, 6, 62, 63, 64, 65, 72, 73, 74, 75, 76, 77] (by decide +kernel) (by decide +kernel)
set_option maxRecDepth 20000 in
theorem gX2_orderSlots_X1_orderTo : GoodIn wsX2_orderSlots (wsV RX2 135 RX1 yX1_orderTo wsX1_orderTo) := goodIn_app (goodIn_of _ (by decide +kernel)) ggX2_orderSlots_X1_orderTo
theorem dX2_orderSlots_0 : decode cX2_orderSlots 0 = .ok (.iconst 0, 1) := by decide +kernel
theorem dX2_orderSlots_1 : decode cX2_orderSlots 1 = .ok (.istore_n 1, 1) := by decide +kernel
theorem dX2_orderSlots_2 : decode cX2_orderSlots 2 = .ok (.iload_n 1, 1) := by decide +kernel
theorem dX2_orderSlots_3 : decode cX2_orderSlots 3 = .ok (.bipush 8, 2) := by decide +kernel
theorem dX2_orderSlots_5 : decode cX2_orderSlots 5 = .ok (.if_icmp .ge 66, 3) := by decide +kernel
theorem dX2_orderSlots_8 : decode cX2_orderSlots 8 = .ok (.iload_n 1, 1) := by decide +kernel
theorem dX2_orderSlots_9 : decode cX2_orderSlots 9 = .ok (.istore_n 2, 1) := by decide +kernel
theorem dX2_orderSlots_10 : decode cX2_orderSlots 10 = .ok (.iload_n 2, 1) := by decide +kernel
theorem dX2_orderSlots_11 : decode cX2_orderSlots 11 = .ok (.ifCond .le 47, 3) := by decide +kernel
theorem dX2_orderSlots_14 : decode cX2_orderSlots 14 = .ok (.aload_n 0, 1) := by decide +kernel
theorem dX2_orderSlots_15 : decode cX2_orderSlots 15 = .ok (.getfield 18, 3) := by decide +kernel
theorem dX2_orderSlots_18 : decode cX2_orderSlots 18 = .ok (.iload_n 1, 1) := by decide +kernel
theorem dX2_orderSlots_19 : decode cX2_orderSlots 19 = .ok (.aaload, 1) := by decide +kernel
theorem dX2_orderSlots_20 : decode cX2_orderSlots 20 = .ok (.aload_n 0, 1) := by decide +kernel
theorem dX2_orderSlots_21 : decode cX2_orderSlots 21 = .ok (.aload_n 0, 1) := by decide +kernel
theorem dX2_orderSlots_22 : decode cX2_orderSlots 22 = .ok (.getfield 25, 3) := by decide +kernel
theorem dX2_orderSlots_25 : decode cX2_orderSlots 25 = .ok (.iload_n 2, 1) := by decide +kernel
theorem dX2_orderSlots_26 : decode cX2_orderSlots 26 = .ok (.iconst 1, 1) := by decide +kernel
theorem dX2_orderSlots_27 : decode cX2_orderSlots 27 = .ok (.isub, 1) := by decide +kernel
theorem dX2_orderSlots_28 : decode cX2_orderSlots 28 = .ok (.iaload, 1) := by decide +kernel
theorem dX2_orderSlots_29 : decode cX2_orderSlots 29 = .ok (.invokevirtual 112, 3) := by decide +kernel
theorem dX2_orderSlots_32 : decode cX2_orderSlots 32 = .ok (.invokevirtual 135, 3) := by decide +kernel
theorem dX2_orderSlots_35 : decode cX2_orderSlots 35 = .ok (.ifCond .ge 23, 3) := by decide +kernel
theorem dX2_orderSlots_38 : decode cX2_orderSlots 38 = .ok (.aload_n 0, 1) := by decide +kernel
theorem dX2_orderSlots_39 : decode cX2_orderSlots 39 = .ok (.getfield 25, 3) := by decide +kernel
theorem dX2_orderSlots_42 : decode cX2_orderSlots 42 = .ok (.iload_n 2, 1) := by decide +kernel
theorem dX2_orderSlots_43 : decode cX2_orderSlots 43 = .ok (.aload_n 0, 1) := by decide +kernel
theorem dX2_orderSlots_44 : decode cX2_orderSlots 44 = .ok (.getfield 25, 3) := by decide +kernel
theorem dX2_orderSlots_47 : decode cX2_orderSlots 47 = .ok (.iload_n 2, 1) := by decide +kernel
theorem dX2_orderSlots_48 : decode cX2_orderSlots 48 = .ok (.iconst 1, 1) := by decide +kernel
theorem dX2_orderSlots_49 : decode cX2_orderSlots 49 = .ok (.isub, 1) := by decide +kernel
theorem dX2_orderSlots_50 : decode cX2_orderSlots 50 = .ok (.iaload, 1) := by decide +kernel
theorem dX2_orderSlots_51 : decode cX2_orderSlots 51 = .ok (.iastore, 1) := by decide +kernel
theorem dX2_orderSlots_52 : decode cX2_orderSlots 52 = .ok (.iinc 2 (-1), 3) := by decide +kernel
theorem dX2_orderSlots_55 : decode cX2_orderSlots 55 = .ok (.goto (-45), 3) := by decide +kernel
theorem dX2_orderSlots_58 : decode cX2_orderSlots 58 = .ok (.aload_n 0, 1) := by decide +kernel
theorem dX2_orderSlots_59 : decode cX2_orderSlots 59 = .ok (.getfield 25, 3) := by decide +kernel
theorem dX2_orderSlots_62 : decode cX2_orderSlots 62 = .ok (.iload_n 2, 1) := by decide +kernel
theorem dX2_orderSlots_63 : decode cX2_orderSlots 63 = .ok (.iload_n 1, 1) := by decide +kernel
theorem dX2_orderSlots_64 : decode cX2_orderSlots 64 = .ok (.iastore, 1) := by decide +kernel
theorem dX2_orderSlots_65 : decode cX2_orderSlots 65 = .ok (.iinc 1 1, 3) := by decide +kernel
theorem dX2_orderSlots_68 : decode cX2_orderSlots 68 = .ok (.goto (-66), 3) := by decide +kernel
theorem dX2_orderSlots_71 : decode cX2_orderSlots 71 = .ok (.return_, 1) := by decide +kernel
set_option maxRecDepth 20000 in
theorem ggX2_fillOrders_X1_orderTo : GoodIn wsX2_fillOrders wsX1_orderTo := goodIn_r _ [7, 8, 9, 10, 6, 11, 12, 13, 14, 15, 16, 17, 18, 19, 20, 21, 22, 23, 24, 25, 26, 27, 28, 29, 30, 31, 32, 33, 34, 35, 36, 37, 38, 39, 40, 41, 42, 43, 44, 45, 46, 47, 48, 49, 50, 51, 52, 53, 54, 55, 56, 63, 64, 65, 66, 67, 68] (by decide +kernel) (by decide +kernel)
set_option maxRecDepth 20000 in
theorem gX2_fillOrders_X1_orderTo : GoodIn wsX2_fillOrders (wsV RX2 135 RX1 yX1_orderTo wsX1_orderTo) := goodIn_app (goodIn_of _ (by decide +kernel)) ggX2_fillOrders_X1_orderTo
theorem dX2_fillOrders_0 : decode cX2_fillOrders 0 = .ok (.iconst 0, 1) := by decide +kernel
theorem dX2_fillOrders_1 : decode cX2_fillOrders 1 = .ok (.istore_n 1, 1) := by decide +kernel
theorem dX2_fillOrders_2 : decode cX2_fillOrders 2 = .ok (.iload_n 1, 1) := by decide +kernel
theorem dX2_fillOrders_3 : decode cX2_fillOrders 3 = .ok (.bipush 8, 2) := by decide +kernel
theorem dX2_fillOrders_5 : decode cX2_fillOrders 5 = .ok (.if_icmp .ge 49, 3) := by decide +kernel
theorem dX2_fillOrders_8 : decode cX2_fillOrders 8 = .ok (.iconst 0, 1) := by decide +kernel
theorem dX2_fillOrders_9 : decode cX2_fillOrders 9 = .ok (.istore_n 2, 1) := by decide +kernel
theorem dX2_fillOrders_10 : decode cX2_fillOrders 10 = .ok (.iload_n 2, 1) := by decide +kernel
theorem dX2_fillOrders_11 : decode cX2_fillOrders 11 = .ok (.bipush 8, 2) := by decide +kernel
theorem dX2_fillOrders_13 : decode cX2_fillOrders 13 = .ok (.if_icmp .ge 35, 3) := by decide +kernel
theorem dX2_fillOrders_16 : decode cX2_fillOrders 16 = .ok (.aload_n 0, 1) := by decide +kernel
theorem dX2_fillOrders_17 : decode cX2_fillOrders 17 = .ok (.getfield 29, 3) := by decide +kernel
theorem dX2_fillOrders_20 : decode cX2_fillOrders 20 = .ok (.iload_n 1, 1) := by decide +kernel
theorem dX2_fillOrders_21 : decode cX2_fillOrders 21 = .ok (.bipush 8, 2) := by decide +kernel
theorem dX2_fillOrders_23 : decode cX2_fillOrders 23 = .ok (.imul, 1) := by decide +kernel
theorem dX2_fillOrders_24 : decode cX2_fillOrders 24 = .ok (.iload_n 2, 1) := by decide +kernel
theorem dX2_fillOrders_25 : decode cX2_fillOrders 25 = .ok (.iadd, 1) := by decide +kernel
theorem dX2_fillOrders_26 : decode cX2_fillOrders 26 = .ok (.aload_n 0, 1) := by decide +kernel
theorem dX2_fillOrders_27 : decode cX2_fillOrders 27 = .ok (.getfield 18, 3) := by decide +kernel
theorem dX2_fillOrders_30 : decode cX2_fillOrders 30 = .ok (.iload_n 1, 1) := by decide +kernel
theorem dX2_fillOrders_31 : decode cX2_fillOrders 31 = .ok (.aaload, 1) := by decide +kernel
theorem dX2_fillOrders_32 : decode cX2_fillOrders 32 = .ok (.aload_n 0, 1) := by decide +kernel
theorem dX2_fillOrders_33 : decode cX2_fillOrders 33 = .ok (.getfield 18, 3) := by decide +kernel
theorem dX2_fillOrders_36 : decode cX2_fillOrders 36 = .ok (.iload_n 2, 1) := by decide +kernel
theorem dX2_fillOrders_37 : decode cX2_fillOrders 37 = .ok (.aaload, 1) := by decide +kernel
theorem dX2_fillOrders_38 : decode cX2_fillOrders 38 = .ok (.invokevirtual 135, 3) := by decide +kernel
theorem dX2_fillOrders_41 : decode cX2_fillOrders 41 = .ok (.iastore, 1) := by decide +kernel
theorem dX2_fillOrders_42 : decode cX2_fillOrders 42 = .ok (.iinc 2 1, 3) := by decide +kernel
theorem dX2_fillOrders_45 : decode cX2_fillOrders 45 = .ok (.goto (-35), 3) := by decide +kernel
theorem dX2_fillOrders_48 : decode cX2_fillOrders 48 = .ok (.iinc 1 1, 3) := by decide +kernel
theorem dX2_fillOrders_51 : decode cX2_fillOrders 51 = .ok (.goto (-49), 3) := by decide +kernel
theorem dX2_fillOrders_54 : decode cX2_fillOrders 54 = .ok (.return_, 1) := by decide +kernel
set_option maxRecDepth 20000 in
theorem ggX2_orderOf_X2_checkSlot : GoodIn wsX2_orderOf wsX2_checkSlot := goodIn_ca (goodIn_r _ [5, 6, 7] (by decide +kernel) (by decide +kernel)) (goodIn_sub (fun _ h => List.mem_cons_of_mem _ (List.mem_append_right _ h)) (by decide +kernel))
set_option maxRecDepth 20000 in
theorem gX2_orderOf_X2_checkSlot : GoodIn wsX2_orderOf (va_wsS RX2 91 yX2_checkSlot wsX2_checkSlot) := goodIn_app (goodIn_of _ (by decide +kernel)) ggX2_orderOf_X2_checkSlot
theorem dX2_orderOf_0 : decode cX2_orderOf 0 = .ok (.iload_n 1, 1) := by decide +kernel
theorem dX2_orderOf_1 : decode cX2_orderOf 1 = .ok (.invokestatic 91, 3) := by decide +kernel
theorem dX2_orderOf_4 : decode cX2_orderOf 4 = .ok (.iload_n 2, 1) := by decide +kernel
theorem dX2_orderOf_5 : decode cX2_orderOf 5 = .ok (.invokestatic 91, 3) := by decide +kernel
theorem dX2_orderOf_8 : decode cX2_orderOf 8 = .ok (.aload_n 0, 1) := by decide +kernel
theorem dX2_orderOf_9 : decode cX2_orderOf 9 = .ok (.getfield 29, 3) := by decide +kernel
theorem dX2_orderOf_12 : decode cX2_orderOf 12 = .ok (.iload_n 1, 1) := by decide +kernel
theorem dX2_orderOf_13 : decode cX2_orderOf 13 = .ok (.bipush 8, 2) := by decide +kernel
theorem dX2_orderOf_15 : decode cX2_orderOf 15 = .ok (.imul, 1) := by decide +kernel
theorem dX2_orderOf_16 : decode cX2_orderOf 16 = .ok (.iload_n 2, 1) := by decide +kernel
theorem dX2_orderOf_17 : decode cX2_orderOf 17 = .ok (.iadd, 1) := by decide +kernel
theorem dX2_orderOf_18 : decode cX2_orderOf 18 = .ok (.iaload, 1) := by decide +kernel
theorem dX2_orderOf_19 : decode cX2_orderOf 19 = .ok (.ireturn, 1) := by decide +kernel
set_option maxRecDepth 20000 in
theorem ggX2_isTrueOfOne_X2_parseAnew : GoodIn wsX2_isTrueOfOne wsX2_parseAnew := goodIn_r _ [6, 1, 7, 8, 9, 10, 11, 12, 13, 14, 15, 16, 17, 18, 19, 20, 21, 22, 23, 24, 25, 26, 27, 28, 29, 30, 31, 32, 33, 34, 35, 36, 37, 38, 39, 40, 41, 42, 43, 5, 44, 45, 46, 47, 48, 49, 50, 51, 52, 53, 54, 55, 56, 57, 58, 59, 60, 61, 62, 63, 64, 65, 119, 120, 121, 122, 123, 124, 125, 126, 127, 128, 129, 130] (by decide +kernel) (by decide +kernel)
set_option maxRecDepth 20000 in
theorem gX2_isTrueOfOne_X2_parseAnew : GoodIn wsX2_isTrueOfOne (wsV RX2 116 RX2 yX2_parseAnew wsX2_parseAnew) := goodIn_app (goodIn_of _ (by decide +kernel)) ggX2_isTrueOfOne_X2_parseAnew
set_option maxRecDepth 20000 in
theorem ggX2_isTrueOfOne_X0_isLike : GoodIn wsX2_isTrueOfOne wsX0_isLike := goodIn_r _ [69, 18, 23, 24, 25, 16, 26, 27, 28, 29, 30, 31, 129, 130] (by decide +kernel) (by decide +kernel)
set_option maxRecDepth 20000 in
theorem gX2_isTrueOfOne_X0_isLike : GoodIn wsX2_isTrueOfOne (wsV RX2 229 RX0 yX0_isLike wsX0_isLike) := goodIn_app (goodIn_of _ (by decide +kernel)) ggX2_isTrueOfOne_X0_isLike
set_option maxRecDepth 20000 in
theorem ggX2_isTrueOfOne_X1_orderTo : GoodIn wsX2_isTrueOfOne wsX1_orderTo := goodIn_r _ [73, 74, 75, 76, 10, 77, 78, 79, 80, 81, 82, 83, 84, 85, 54, 55, 56, 57, 40, 86, 87, 88, 89, 53, 62, 63, 64, 65, 90, 91, 92, 93, 12, 94, 95, 96, 97, 52, 42, 28, 29, 16, 30, 18, 31, 98, 5, 99, 100, 101, 102, 125, 126, 127, 128, 129, 130] (by decide +kernel) (by decide +kernel)
set_option maxRecDepth 20000 in
theorem gX2_isTrueOfOne_X1_orderTo : GoodIn wsX2_isTrueOfOne (wsV RX2 135 RX1 yX1_orderTo wsX1_orderTo) := goodIn_app (goodIn_of _ (by decide +kernel)) ggX2_isTrueOfOne_X1_orderTo
set_option maxRecDepth 20000 in
theorem ggX2_isTrueOfOne_X0_length : GoodIn wsX2_isTrueOfOne wsX0_length := goodIn_r _ [26, 18, 129, 130] (by decide +kernel) (by decide +kernel)
set_option maxRecDepth 20000 in
theorem gX2_isTrueOfOne_X0_length : GoodIn wsX2_isTrueOfOne (wsV RX2 53 RX0 yX0_length wsX0_length) := goodIn_app (goodIn_of _ (by decide +kernel)) ggX2_isTrueOfOne_X0_length
set_option maxRecDepth 20000 in
theorem ggX2_isTrueOfOne_X2_parseWithNumberBehind : GoodIn wsX2_isTrueOfOne wsX2_parseWithNumberBehind := goodIn_r _ [107, 1, 7, 8, 9, 10, 11, 12, 13, 14, 15, 16, 17, 18, 19, 20, 21, 22, 23, 24, 25, 26, 27, 28, 29, 30, 31, 32, 33, 34, 35, 108, 109, 110, 111, 112, 113, 36, 37, 38, 39, 40, 41, 42, 43, 5, 44, 45, 46, 47, 48, 49, 50, 51, 52, 53, 54, 55, 56, 57, 58, 59, 60, 61, 62, 63, 64, 65, 119, 120, 121, 122, 123, 124, 125, 126, 127, 128, 129, 130] (by decide +kernel) (by decide +kernel)
set_option maxRecDepth 20000 in
theorem gX2_isTrueOfOne_X2_parseWithNumberBehind : GoodIn wsX2_isTrueOfOne (wsV RX2 150 RX2 yX2_parseWithNumberBehind wsX2_parseWithNumberBehind) := goodIn_app (goodIn_of _ (by decide +kernel)) ggX2_isTrueOfOne_X2_parseWithNumberBehind
set_option maxRecDepth 20000 in
theorem ggX2_isTrueOfOne_X1_hasRow : GoodIn wsX2_isTrueOfOne wsX1_hasRow := goodIn_r _ [85, 54, 55, 56, 10, 57, 40, 125, 126, 127, 128] (by decide +kernel) (by decide +kernel)
set_option maxRecDepth 20000 in
theorem gX2_isTrueOfOne_X1_hasRow : GoodIn wsX2_isTrueOfOne (wsV RX2 156 RX1 yX1_hasRow wsX1_hasRow) := goodIn_app (goodIn_of _ (by decide +kernel)) ggX2_isTrueOfOne_X1_hasRow
set_option maxRecDepth 20000 in
theorem ggX2_isTrueOfOne_X2_parseWithLetterBehind : GoodIn wsX2_isTrueOfOne wsX2_parseWithLetterBehind := goodIn_r _ [118, 1, 7, 8, 9, 10, 11, 12, 13, 14, 15, 16, 17, 18, 19, 20, 21, 22, 23, 24, 25, 26, 27, 28, 29, 30, 31, 32, 33, 34, 35, 108, 36, 37, 38, 39, 40, 41, 42, 43, 5, 44, 45, 46, 47, 48, 49, 50, 51, 52, 53, 54, 55, 56, 57, 58, 59, 60, 61, 62, 63, 64, 65, 119, 120, 121, 122, 123, 124, 125, 126, 127, 128, 129, 130] (by decide +kernel) (by decide +kernel)
set_option maxRecDepth 20000 in
theorem gX2_isTrueOfOne_X2_parseWithLetterBehind : GoodIn wsX2_isTrueOfOne (wsV RX2 165 RX2 yX2_parseWithLetterBehind wsX2_parseWithLetterBehind) := goodIn_app (goodIn_of _ (by decide +kernel)) ggX2_isTrueOfOne_X2_parseWithLetterBehind
theorem dX2_isTrueOfOne_0 : decode cX2_isTrueOfOne 0 = .ok (.aload_n 0, 1) := by decide +kernel
theorem dX2_isTrueOfOne_1 : decode cX2_isTrueOfOne 1 = .ok (.aload_n 1, 1) := by decide +kernel
theorem dX2_isTrueOfOne_2 : decode cX2_isTrueOfOne 2 = .ok (.invokevirtual 116, 3) := by decide +kernel
theorem dX2_isTrueOfOne_5 : decode cX2_isTrueOfOne 5 = .ok (.aload_n 0, 1) := by decide +kernel
theorem dX2_isTrueOfOne_6 : decode cX2_isTrueOfOne 6 = .ok (.getfield 33, 3) := by decide +kernel
theorem dX2_isTrueOfOne_9 : decode cX2_isTrueOfOne 9 = .ok (.getfield 106, 3) := by decide +kernel
theorem dX2_isTrueOfOne_12 : decode cX2_isTrueOfOne 12 = .ok (.aload_n 1, 1) := by decide +kernel
theorem dX2_isTrueOfOne_13 : decode cX2_isTrueOfOne 13 = .ok (.getfield 106, 3) := by decide +kernel
theorem dX2_isTrueOfOne_16 : decode cX2_isTrueOfOne 16 = .ok (.invokevirtual 229, 3) := by decide +kernel
theorem dX2_isTrueOfOne_19 : decode cX2_isTrueOfOne 19 = .ok (.ifCond .eq 18, 3) := by decide +kernel
theorem dX2_isTrueOfOne_22 : decode cX2_isTrueOfOne 22 = .ok (.aload_n 0, 1) := by decide +kernel
theorem dX2_isTrueOfOne_23 : decode cX2_isTrueOfOne 23 = .ok (.getfield 33, 3) := by decide +kernel
theorem dX2_isTrueOfOne_26 : decode cX2_isTrueOfOne 26 = .ok (.aload_n 1, 1) := by decide +kernel
theorem dX2_isTrueOfOne_27 : decode cX2_isTrueOfOne 27 = .ok (.invokevirtual 135, 3) := by decide +kernel
theorem dX2_isTrueOfOne_30 : decode cX2_isTrueOfOne 30 = .ok (.ifCond .ne 7, 3) := by decide +kernel
theorem dX2_isTrueOfOne_33 : decode cX2_isTrueOfOne 33 = .ok (.iconst 1, 1) := by decide +kernel
theorem dX2_isTrueOfOne_34 : decode cX2_isTrueOfOne 34 = .ok (.goto 4, 3) := by decide +kernel
theorem dX2_isTrueOfOne_37 : decode cX2_isTrueOfOne 37 = .ok (.iconst 0, 1) := by decide +kernel
theorem dX2_isTrueOfOne_38 : decode cX2_isTrueOfOne 38 = .ok (.istore_n 2, 1) := by decide +kernel
theorem dX2_isTrueOfOne_39 : decode cX2_isTrueOfOne 39 = .ok (.aload_n 1, 1) := by decide +kernel
theorem dX2_isTrueOfOne_40 : decode cX2_isTrueOfOne 40 = .ok (.getfield 106, 3) := by decide +kernel
theorem dX2_isTrueOfOne_43 : decode cX2_isTrueOfOne 43 = .ok (.invokevirtual 53, 3) := by decide +kernel
theorem dX2_isTrueOfOne_46 : decode cX2_isTrueOfOne 46 = .ok (.iconst 2, 1) := by decide +kernel
theorem dX2_isTrueOfOne_47 : decode cX2_isTrueOfOne 47 = .ok (.iadd, 1) := by decide +kernel
theorem dX2_isTrueOfOne_48 : decode cX2_isTrueOfOne 48 = .ok (.bipush 60, 2) := by decide +kernel
theorem dX2_isTrueOfOne_50 : decode cX2_isTrueOfOne 50 = .ok (.if_icmp .gt 7, 3) := by decide +kernel
theorem dX2_isTrueOfOne_53 : decode cX2_isTrueOfOne 53 = .ok (.iconst 1, 1) := by decide +kernel
theorem dX2_isTrueOfOne_54 : decode cX2_isTrueOfOne 54 = .ok (.goto 4, 3) := by decide +kernel
theorem dX2_isTrueOfOne_57 : decode cX2_isTrueOfOne 57 = .ok (.iconst 0, 1) := by decide +kernel
theorem dX2_isTrueOfOne_58 : decode cX2_isTrueOfOne 58 = .ok (.istore_n 3, 1) := by decide +kernel
theorem dX2_isTrueOfOne_59 : decode cX2_isTrueOfOne 59 = .ok (.iload_n 3, 1) := by decide +kernel
theorem dX2_isTrueOfOne_60 : decode cX2_isTrueOfOne 60 = .ok (.ifCond .eq 61, 3) := by decide +kernel
theorem dX2_isTrueOfOne_63 : decode cX2_isTrueOfOne 63 = .ok (.aload_n 0, 1) := by decide +kernel
theorem dX2_isTrueOfOne_64 : decode cX2_isTrueOfOne 64 = .ok (.aload_n 1, 1) := by decide +kernel
theorem dX2_isTrueOfOne_65 : decode cX2_isTrueOfOne 65 = .ok (.bipush 46, 2) := by decide +kernel
theorem dX2_isTrueOfOne_67 : decode cX2_isTrueOfOne 67 = .ok (.iconst 0, 1) := by decide +kernel
theorem dX2_isTrueOfOne_68 : decode cX2_isTrueOfOne 68 = .ok (.invokevirtual 150, 3) := by decide +kernel
theorem dX2_isTrueOfOne_71 : decode cX2_isTrueOfOne 71 = .ok (.iload_n 2, 1) := by decide +kernel
theorem dX2_isTrueOfOne_72 : decode cX2_isTrueOfOne 72 = .ok (.ifCond .eq 18, 3) := by decide +kernel
theorem dX2_isTrueOfOne_75 : decode cX2_isTrueOfOne 75 = .ok (.aload_n 0, 1) := by decide +kernel
theorem dX2_isTrueOfOne_76 : decode cX2_isTrueOfOne 76 = .ok (.getfield 33, 3) := by decide +kernel
theorem dX2_isTrueOfOne_79 : decode cX2_isTrueOfOne 79 = .ok (.aload_n 1, 1) := by decide +kernel
theorem dX2_isTrueOfOne_80 : decode cX2_isTrueOfOne 80 = .ok (.invokevirtual 135, 3) := by decide +kernel
theorem dX2_isTrueOfOne_83 : decode cX2_isTrueOfOne 83 = .ok (.ifCond .ne 7, 3) := by decide +kernel
theorem dX2_isTrueOfOne_86 : decode cX2_isTrueOfOne 86 = .ok (.iconst 1, 1) := by decide +kernel
theorem dX2_isTrueOfOne_87 : decode cX2_isTrueOfOne 87 = .ok (.goto 4, 3) := by decide +kernel
theorem dX2_isTrueOfOne_90 : decode cX2_isTrueOfOne 90 = .ok (.iconst 0, 1) := by decide +kernel
theorem dX2_isTrueOfOne_91 : decode cX2_isTrueOfOne 91 = .ok (.istore_n 2, 1) := by decide +kernel
theorem dX2_isTrueOfOne_92 : decode cX2_isTrueOfOne 92 = .ok (.aload_n 0, 1) := by decide +kernel
theorem dX2_isTrueOfOne_93 : decode cX2_isTrueOfOne 93 = .ok (.aload_n 1, 1) := by decide +kernel
theorem dX2_isTrueOfOne_94 : decode cX2_isTrueOfOne 94 = .ok (.bipush 46, 2) := by decide +kernel
theorem dX2_isTrueOfOne_96 : decode cX2_isTrueOfOne 96 = .ok (.iconst 1, 1) := by decide +kernel
theorem dX2_isTrueOfOne_97 : decode cX2_isTrueOfOne 97 = .ok (.invokevirtual 150, 3) := by decide +kernel
theorem dX2_isTrueOfOne_100 : decode cX2_isTrueOfOne 100 = .ok (.iload_n 2, 1) := by decide +kernel
theorem dX2_isTrueOfOne_101 : decode cX2_isTrueOfOne 101 = .ok (.ifCond .eq 18, 3) := by decide +kernel
theorem dX2_isTrueOfOne_104 : decode cX2_isTrueOfOne 104 = .ok (.aload_n 0, 1) := by decide +kernel
theorem dX2_isTrueOfOne_105 : decode cX2_isTrueOfOne 105 = .ok (.getfield 33, 3) := by decide +kernel
theorem dX2_isTrueOfOne_108 : decode cX2_isTrueOfOne 108 = .ok (.aload_n 1, 1) := by decide +kernel
theorem dX2_isTrueOfOne_109 : decode cX2_isTrueOfOne 109 = .ok (.invokevirtual 135, 3) := by decide +kernel
theorem dX2_isTrueOfOne_112 : decode cX2_isTrueOfOne 112 = .ok (.ifCond .le 7, 3) := by decide +kernel
theorem dX2_isTrueOfOne_115 : decode cX2_isTrueOfOne 115 = .ok (.iconst 1, 1) := by decide +kernel
theorem dX2_isTrueOfOne_116 : decode cX2_isTrueOfOne 116 = .ok (.goto 4, 3) := by decide +kernel
theorem dX2_isTrueOfOne_119 : decode cX2_isTrueOfOne 119 = .ok (.iconst 0, 1) := by decide +kernel
theorem dX2_isTrueOfOne_120 : decode cX2_isTrueOfOne 120 = .ok (.istore_n 2, 1) := by decide +kernel
theorem dX2_isTrueOfOne_121 : decode cX2_isTrueOfOne 121 = .ok (.iload_n 3, 1) := by decide +kernel
theorem dX2_isTrueOfOne_122 : decode cX2_isTrueOfOne 122 = .ok (.ifCond .eq 39, 3) := by decide +kernel
theorem dX2_isTrueOfOne_125 : decode cX2_isTrueOfOne 125 = .ok (.aload_n 1, 1) := by decide +kernel
theorem dX2_isTrueOfOne_126 : decode cX2_isTrueOfOne 126 = .ok (.iconst 1, 1) := by decide +kernel
theorem dX2_isTrueOfOne_127 : decode cX2_isTrueOfOne 127 = .ok (.invokevirtual 156, 3) := by decide +kernel
theorem dX2_isTrueOfOne_130 : decode cX2_isTrueOfOne 130 = .ok (.ifCond .ne 31, 3) := by decide +kernel
theorem dX2_isTrueOfOne_133 : decode cX2_isTrueOfOne 133 = .ok (.aload_n 0, 1) := by decide +kernel
theorem dX2_isTrueOfOne_134 : decode cX2_isTrueOfOne 134 = .ok (.aload_n 1, 1) := by decide +kernel
theorem dX2_isTrueOfOne_135 : decode cX2_isTrueOfOne 135 = .ok (.bipush 97, 2) := by decide +kernel
theorem dX2_isTrueOfOne_137 : decode cX2_isTrueOfOne 137 = .ok (.invokevirtual 165, 3) := by decide +kernel
theorem dX2_isTrueOfOne_140 : decode cX2_isTrueOfOne 140 = .ok (.iload_n 2, 1) := by decide +kernel
theorem dX2_isTrueOfOne_141 : decode cX2_isTrueOfOne 141 = .ok (.ifCond .eq 18, 3) := by decide +kernel
theorem dX2_isTrueOfOne_144 : decode cX2_isTrueOfOne 144 = .ok (.aload_n 0, 1) := by decide +kernel
theorem dX2_isTrueOfOne_145 : decode cX2_isTrueOfOne 145 = .ok (.getfield 33, 3) := by decide +kernel
theorem dX2_isTrueOfOne_148 : decode cX2_isTrueOfOne 148 = .ok (.aload_n 1, 1) := by decide +kernel
theorem dX2_isTrueOfOne_149 : decode cX2_isTrueOfOne 149 = .ok (.invokevirtual 135, 3) := by decide +kernel
theorem dX2_isTrueOfOne_152 : decode cX2_isTrueOfOne 152 = .ok (.ifCond .ge 7, 3) := by decide +kernel
theorem dX2_isTrueOfOne_155 : decode cX2_isTrueOfOne 155 = .ok (.iconst 1, 1) := by decide +kernel
theorem dX2_isTrueOfOne_156 : decode cX2_isTrueOfOne 156 = .ok (.goto 4, 3) := by decide +kernel
theorem dX2_isTrueOfOne_159 : decode cX2_isTrueOfOne 159 = .ok (.iconst 0, 1) := by decide +kernel
theorem dX2_isTrueOfOne_160 : decode cX2_isTrueOfOne 160 = .ok (.istore_n 2, 1) := by decide +kernel
theorem dX2_isTrueOfOne_161 : decode cX2_isTrueOfOne 161 = .ok (.iload_n 2, 1) := by decide +kernel
theorem dX2_isTrueOfOne_162 : decode cX2_isTrueOfOne 162 = .ok (.ireturn, 1) := by decide +kernel
set_option maxRecDepth 20000 in
theorem ggX2_isTrueOfTwo_X2_orderOf : GoodIn wsX2_isTrueOfTwo wsX2_orderOf := goodIn_ca (goodIn_r _ [5, 6, 7, 8, 4, 9, 10, 11, 70, 71, 72, 73, 74, 75] (by decide +kernel) (by decide +kernel)) (goodIn_sub (fun _ h => List.mem_cons_of_mem _ (List.mem_append_right _ h)) (by decide +kernel))
set_option maxRecDepth 20000 in
theorem gX2_isTrueOfTwo_X2_orderOf : GoodIn wsX2_isTrueOfTwo (wsV RX2 197 RX2 yX2_orderOf wsX2_orderOf) := goodIn_app (goodIn_of _ (by decide +kernel)) ggX2_isTrueOfTwo_X2_orderOf
set_option maxRecDepth 20000 in
theorem ggX2_isTrueOfTwo_X2_versionIn : GoodIn wsX2_isTrueOfTwo wsX2_versionIn := goodIn_ca (goodIn_r _ [15, 16, 7, 8, 4, 9, 10, 11, 70, 71, 72, 73, 74, 75] (by decide +kernel) (by decide +kernel)) (goodIn_sub (fun _ h => List.mem_cons_of_mem _ (List.mem_append_right _ h)) (by decide +kernel))
set_option maxRecDepth 20000 in
theorem gX2_isTrueOfTwo_X2_versionIn : GoodIn wsX2_isTrueOfTwo (wsV RX2 112 RX2 yX2_versionIn wsX2_versionIn) := goodIn_app (goodIn_of _ (by decide +kernel)) ggX2_isTrueOfTwo_X2_versionIn
set_option maxRecDepth 20000 in
theorem ggX2_isTrueOfTwo_X1_tellingRow : GoodIn wsX2_isTrueOfTwo wsX1_tellingRow := goodIn_r _ [21, 22, 23, 24, 20, 25, 26, 27, 28, 29, 30, 31, 32, 33, 34, 35, 36, 37, 38, 39, 40, 41, 42, 43, 44, 45, 46, 47, 48, 49, 50, 51, 52, 53, 54, 55, 56, 57, 58, 59, 60, 61, 62, 63, 64, 65, 4, 66, 67, 68, 69, 76, 77, 78, 79, 80, 81] (by decide +kernel) (by decide +kernel)
set_option maxRecDepth 20000 in
theorem gX2_isTrueOfTwo_X1_tellingRow : GoodIn wsX2_isTrueOfTwo (wsV RX2 139 RX1 yX1_tellingRow wsX1_tellingRow) := goodIn_app (goodIn_of _ (by decide +kernel)) ggX2_isTrueOfTwo_X1_tellingRow
theorem dX2_isTrueOfTwo_0 : decode cX2_isTrueOfTwo 0 = .ok (.aload_n 0, 1) := by decide +kernel
theorem dX2_isTrueOfTwo_1 : decode cX2_isTrueOfTwo 1 = .ok (.iload_n 1, 1) := by decide +kernel
theorem dX2_isTrueOfTwo_2 : decode cX2_isTrueOfTwo 2 = .ok (.iload_n 2, 1) := by decide +kernel
theorem dX2_isTrueOfTwo_3 : decode cX2_isTrueOfTwo 3 = .ok (.invokevirtual 197, 3) := by decide +kernel
theorem dX2_isTrueOfTwo_6 : decode cX2_isTrueOfTwo 6 = .ok (.istore_n 3, 1) := by decide +kernel
theorem dX2_isTrueOfTwo_7 : decode cX2_isTrueOfTwo 7 = .ok (.aload_n 0, 1) := by decide +kernel
theorem dX2_isTrueOfTwo_8 : decode cX2_isTrueOfTwo 8 = .ok (.iload_n 1, 1) := by decide +kernel
theorem dX2_isTrueOfTwo_9 : decode cX2_isTrueOfTwo 9 = .ok (.invokevirtual 112, 3) := by decide +kernel
theorem dX2_isTrueOfTwo_12 : decode cX2_isTrueOfTwo 12 = .ok (.aload_n 0, 1) := by decide +kernel
theorem dX2_isTrueOfTwo_13 : decode cX2_isTrueOfTwo 13 = .ok (.iload_n 2, 1) := by decide +kernel
theorem dX2_isTrueOfTwo_14 : decode cX2_isTrueOfTwo 14 = .ok (.invokevirtual 112, 3) := by decide +kernel
theorem dX2_isTrueOfTwo_17 : decode cX2_isTrueOfTwo 17 = .ok (.invokevirtual 139, 3) := by decide +kernel
theorem dX2_isTrueOfTwo_20 : decode cX2_isTrueOfTwo 20 = .ok (.istore 4, 2) := by decide +kernel
theorem dX2_isTrueOfTwo_22 : decode cX2_isTrueOfTwo 22 = .ok (.iload_n 3, 1) := by decide +kernel
theorem dX2_isTrueOfTwo_23 : decode cX2_isTrueOfTwo 23 = .ok (.aload_n 0, 1) := by decide +kernel
theorem dX2_isTrueOfTwo_24 : decode cX2_isTrueOfTwo 24 = .ok (.iload_n 2, 1) := by decide +kernel
theorem dX2_isTrueOfTwo_25 : decode cX2_isTrueOfTwo 25 = .ok (.iload_n 1, 1) := by decide +kernel
theorem dX2_isTrueOfTwo_26 : decode cX2_isTrueOfTwo 26 = .ok (.invokevirtual 197, 3) := by decide +kernel
theorem dX2_isTrueOfTwo_29 : decode cX2_isTrueOfTwo 29 = .ok (.ineg, 1) := by decide +kernel
theorem dX2_isTrueOfTwo_30 : decode cX2_isTrueOfTwo 30 = .ok (.if_icmp .ne 30, 3) := by decide +kernel
theorem dX2_isTrueOfTwo_33 : decode cX2_isTrueOfTwo 33 = .ok (.iload_n 3, 1) := by decide +kernel
theorem dX2_isTrueOfTwo_34 : decode cX2_isTrueOfTwo 34 = .ok (.ifCond .ne 7, 3) := by decide +kernel
theorem dX2_isTrueOfTwo_37 : decode cX2_isTrueOfTwo 37 = .ok (.iconst 1, 1) := by decide +kernel
theorem dX2_isTrueOfTwo_38 : decode cX2_isTrueOfTwo 38 = .ok (.goto 4, 3) := by decide +kernel
theorem dX2_isTrueOfTwo_41 : decode cX2_isTrueOfTwo 41 = .ok (.iconst 0, 1) := by decide +kernel
theorem dX2_isTrueOfTwo_42 : decode cX2_isTrueOfTwo 42 = .ok (.iload 4, 2) := by decide +kernel
theorem dX2_isTrueOfTwo_44 : decode cX2_isTrueOfTwo 44 = .ok (.iconst (-1), 1) := by decide +kernel
theorem dX2_isTrueOfTwo_45 : decode cX2_isTrueOfTwo 45 = .ok (.if_icmp .ne 7, 3) := by decide +kernel
theorem dX2_isTrueOfTwo_48 : decode cX2_isTrueOfTwo 48 = .ok (.iconst 1, 1) := by decide +kernel
theorem dX2_isTrueOfTwo_49 : decode cX2_isTrueOfTwo 49 = .ok (.goto 4, 3) := by decide +kernel
theorem dX2_isTrueOfTwo_52 : decode cX2_isTrueOfTwo 52 = .ok (.iconst 0, 1) := by decide +kernel
theorem dX2_isTrueOfTwo_53 : decode cX2_isTrueOfTwo 53 = .ok (.if_icmp .ne 7, 3) := by decide +kernel
theorem dX2_isTrueOfTwo_56 : decode cX2_isTrueOfTwo 56 = .ok (.iconst 1, 1) := by decide +kernel
theorem dX2_isTrueOfTwo_57 : decode cX2_isTrueOfTwo 57 = .ok (.goto 4, 3) := by decide +kernel
theorem dX2_isTrueOfTwo_60 : decode cX2_isTrueOfTwo 60 = .ok (.iconst 0, 1) := by decide +kernel
theorem dX2_isTrueOfTwo_61 : decode cX2_isTrueOfTwo 61 = .ok (.ireturn, 1) := by decide +kernel
theorem dX2_isTrueOfThree_0 : decode cX2_isTrueOfThree 0 = .ok (.iload_n 0, 1) := by decide +kernel
theorem dX2_isTrueOfThree_1 : decode cX2_isTrueOfThree 1 = .ok (.ifCond .ne 14, 3) := by decide +kernel
theorem dX2_isTrueOfThree_4 : decode cX2_isTrueOfThree 4 = .ok (.iload_n 2, 1) := by decide +kernel
theorem dX2_isTrueOfThree_5 : decode cX2_isTrueOfThree 5 = .ok (.iload_n 1, 1) := by decide +kernel
theorem dX2_isTrueOfThree_6 : decode cX2_isTrueOfThree 6 = .ok (.if_icmp .ne 7, 3) := by decide +kernel
theorem dX2_isTrueOfThree_9 : decode cX2_isTrueOfThree 9 = .ok (.iconst 1, 1) := by decide +kernel
theorem dX2_isTrueOfThree_10 : decode cX2_isTrueOfThree 10 = .ok (.goto 4, 3) := by decide +kernel
theorem dX2_isTrueOfThree_13 : decode cX2_isTrueOfThree 13 = .ok (.iconst 0, 1) := by decide +kernel
theorem dX2_isTrueOfThree_14 : decode cX2_isTrueOfThree 14 = .ok (.ireturn, 1) := by decide +kernel
theorem dX2_isTrueOfThree_15 : decode cX2_isTrueOfThree 15 = .ok (.iload_n 0, 1) := by decide +kernel
theorem dX2_isTrueOfThree_16 : decode cX2_isTrueOfThree 16 = .ok (.ifCond .gt 11, 3) := by decide +kernel
theorem dX2_isTrueOfThree_19 : decode cX2_isTrueOfThree 19 = .ok (.iload_n 1, 1) := by decide +kernel
theorem dX2_isTrueOfThree_20 : decode cX2_isTrueOfThree 20 = .ok (.ifCond .ge 7, 3) := by decide +kernel
theorem dX2_isTrueOfThree_23 : decode cX2_isTrueOfThree 23 = .ok (.iload_n 2, 1) := by decide +kernel
theorem dX2_isTrueOfThree_24 : decode cX2_isTrueOfThree 24 = .ok (.ifCond .ge 7, 3) := by decide +kernel
theorem dX2_isTrueOfThree_27 : decode cX2_isTrueOfThree 27 = .ok (.iconst 1, 1) := by decide +kernel
theorem dX2_isTrueOfThree_28 : decode cX2_isTrueOfThree 28 = .ok (.goto 4, 3) := by decide +kernel
theorem dX2_isTrueOfThree_31 : decode cX2_isTrueOfThree 31 = .ok (.iconst 0, 1) := by decide +kernel
theorem dX2_isTrueOfThree_32 : decode cX2_isTrueOfThree 32 = .ok (.ireturn, 1) := by decide +kernel
theorem dX2_kindOf_0 : decode cX2_kindOf 0 = .ok (.iload_n 0, 1) := by decide +kernel
theorem dX2_kindOf_1 : decode cX2_kindOf 1 = .ok (.bipush 48, 2) := by decide +kernel
theorem dX2_kindOf_3 : decode cX2_kindOf 3 = .ok (.if_icmp .lt 11, 3) := by decide +kernel
theorem dX2_kindOf_6 : decode cX2_kindOf 6 = .ok (.iload_n 0, 1) := by decide +kernel
theorem dX2_kindOf_7 : decode cX2_kindOf 7 = .ok (.bipush 57, 2) := by decide +kernel
theorem dX2_kindOf_9 : decode cX2_kindOf 9 = .ok (.if_icmp .gt 5, 3) := by decide +kernel
theorem dX2_kindOf_12 : decode cX2_kindOf 12 = .ok (.iconst 1, 1) := by decide +kernel
theorem dX2_kindOf_13 : decode cX2_kindOf 13 = .ok (.ireturn, 1) := by decide +kernel
theorem dX2_kindOf_14 : decode cX2_kindOf 14 = .ok (.iload_n 0, 1) := by decide +kernel
theorem dX2_kindOf_15 : decode cX2_kindOf 15 = .ok (.bipush 46, 2) := by decide +kernel
theorem dX2_kindOf_17 : decode cX2_kindOf 17 = .ok (.if_icmp .eq 15, 3) := by decide +kernel
theorem dX2_kindOf_20 : decode cX2_kindOf 20 = .ok (.iload_n 0, 1) := by decide +kernel
theorem dX2_kindOf_21 : decode cX2_kindOf 21 = .ok (.bipush 45, 2) := by decide +kernel
theorem dX2_kindOf_23 : decode cX2_kindOf 23 = .ok (.if_icmp .eq 9, 3) := by decide +kernel
theorem dX2_kindOf_26 : decode cX2_kindOf 26 = .ok (.iload_n 0, 1) := by decide +kernel
theorem dX2_kindOf_27 : decode cX2_kindOf 27 = .ok (.bipush 43, 2) := by decide +kernel
theorem dX2_kindOf_29 : decode cX2_kindOf 29 = .ok (.if_icmp .ne 7, 3) := by decide +kernel
theorem dX2_kindOf_32 : decode cX2_kindOf 32 = .ok (.iconst 0, 1) := by decide +kernel
theorem dX2_kindOf_33 : decode cX2_kindOf 33 = .ok (.goto 4, 3) := by decide +kernel
theorem dX2_kindOf_36 : decode cX2_kindOf 36 = .ok (.iconst 2, 1) := by decide +kernel
theorem dX2_kindOf_37 : decode cX2_kindOf 37 = .ok (.ireturn, 1) := by decide +kernel
theorem dX2_digitsOf_0 : decode cX2_digitsOf 0 = .ok (.iconst 1, 1) := by decide +kernel
theorem dX2_digitsOf_1 : decode cX2_digitsOf 1 = .ok (.istore_n 1, 1) := by decide +kernel
theorem dX2_digitsOf_2 : decode cX2_digitsOf 2 = .ok (.iload_n 0, 1) := by decide +kernel
theorem dX2_digitsOf_3 : decode cX2_digitsOf 3 = .ok (.istore_n 2, 1) := by decide +kernel
theorem dX2_digitsOf_4 : decode cX2_digitsOf 4 = .ok (.iload_n 2, 1) := by decide +kernel
theorem dX2_digitsOf_5 : decode cX2_digitsOf 5 = .ok (.bipush 10, 2) := by decide +kernel
theorem dX2_digitsOf_7 : decode cX2_digitsOf 7 = .ok (.if_icmp .lt 14, 3) := by decide +kernel
theorem dX2_digitsOf_10 : decode cX2_digitsOf 10 = .ok (.iinc 1 1, 3) := by decide +kernel
theorem dX2_digitsOf_13 : decode cX2_digitsOf 13 = .ok (.iload_n 2, 1) := by decide +kernel
theorem dX2_digitsOf_14 : decode cX2_digitsOf 14 = .ok (.bipush 10, 2) := by decide +kernel
theorem dX2_digitsOf_16 : decode cX2_digitsOf 16 = .ok (.idiv, 1) := by decide +kernel
theorem dX2_digitsOf_17 : decode cX2_digitsOf 17 = .ok (.istore_n 2, 1) := by decide +kernel
theorem dX2_digitsOf_18 : decode cX2_digitsOf 18 = .ok (.goto (-14), 3) := by decide +kernel
theorem dX2_digitsOf_21 : decode cX2_digitsOf 21 = .ok (.iload_n 1, 1) := by decide +kernel
theorem dX2_digitsOf_22 : decode cX2_digitsOf 22 = .ok (.ireturn, 1) := by decide +kernel
theorem dX2_letterOf_0 : decode cX2_letterOf 0 = .ok (.iload_n 0, 1) := by decide +kernel
theorem dX2_letterOf_1 : decode cX2_letterOf 1 = .ok (.bipush 26, 2) := by decide +kernel
theorem dX2_letterOf_3 : decode cX2_letterOf 3 = .ok (.if_icmp .ge 11, 3) := by decide +kernel
theorem dX2_letterOf_6 : decode cX2_letterOf 6 = .ok (.bipush 97, 2) := by decide +kernel
theorem dX2_letterOf_8 : decode cX2_letterOf 8 = .ok (.iload_n 0, 1) := by decide +kernel
theorem dX2_letterOf_9 : decode cX2_letterOf 9 = .ok (.iadd, 1) := by decide +kernel
theorem dX2_letterOf_10 : decode cX2_letterOf 10 = .ok (.i2c, 1) := by decide +kernel
theorem dX2_letterOf_11 : decode cX2_letterOf 11 = .ok (.goto 11, 3) := by decide +kernel
theorem dX2_letterOf_14 : decode cX2_letterOf 14 = .ok (.bipush 65, 2) := by decide +kernel
theorem dX2_letterOf_16 : decode cX2_letterOf 16 = .ok (.iload_n 0, 1) := by decide +kernel
theorem dX2_letterOf_17 : decode cX2_letterOf 17 = .ok (.iadd, 1) := by decide +kernel
theorem dX2_letterOf_18 : decode cX2_letterOf 18 = .ok (.bipush 26, 2) := by decide +kernel
theorem dX2_letterOf_20 : decode cX2_letterOf 20 = .ok (.isub, 1) := by decide +kernel
theorem dX2_letterOf_21 : decode cX2_letterOf 21 = .ok (.i2c, 1) := by decide +kernel
theorem dX2_letterOf_22 : decode cX2_letterOf 22 = .ok (.ireturn, 1) := by decide +kernel
theorem dX2_orderOfNumbers_0 : decode cX2_orderOfNumbers 0 = .ok (.iload_n 0, 1) := by decide +kernel
theorem dX2_orderOfNumbers_1 : decode cX2_orderOfNumbers 1 = .ok (.iload_n 1, 1) := by decide +kernel
theorem dX2_orderOfNumbers_2 : decode cX2_orderOfNumbers 2 = .ok (.if_icmp .ne 5, 3) := by decide +kernel
theorem dX2_orderOfNumbers_5 : decode cX2_orderOfNumbers 5 = .ok (.iconst 0, 1) := by decide +kernel
theorem dX2_orderOfNumbers_6 : decode cX2_orderOfNumbers 6 = .ok (.ireturn, 1) := by decide +kernel
theorem dX2_orderOfNumbers_7 : decode cX2_orderOfNumbers 7 = .ok (.iload_n 0, 1) := by decide +kernel
theorem dX2_orderOfNumbers_8 : decode cX2_orderOfNumbers 8 = .ok (.iload_n 1, 1) := by decide +kernel
theorem dX2_orderOfNumbers_9 : decode cX2_orderOfNumbers 9 = .ok (.if_icmp .ge 7, 3) := by decide +kernel
theorem dX2_orderOfNumbers_12 : decode cX2_orderOfNumbers 12 = .ok (.iconst (-1), 1) := by decide +kernel
theorem dX2_orderOfNumbers_13 : decode cX2_orderOfNumbers 13 = .ok (.goto 4, 3) := by decide +kernel
theorem dX2_orderOfNumbers_16 : decode cX2_orderOfNumbers 16 = .ok (.iconst 1, 1) := by decide +kernel
theorem dX2_orderOfNumbers_17 : decode cX2_orderOfNumbers 17 = .ok (.ireturn, 1) := by decide +kernel

