theorem dX0_init_0 : decode cX0_init 0 = .ok (.aload_n 0, 1) := by decide +kernel
theorem dX0_init_1 : decode cX0_init 1 = .ok (.invokespecial 3, 3) := by decide +kernel
theorem dX0_init_4 : decode cX0_init 4 = .ok (.aload_n 0, 1) := by decide +kernel
theorem dX0_init_5 : decode cX0_init 5 = .ok (.bipush 60, 2) := by decide +kernel
theorem dX0_init_7 : decode cX0_init 7 = .ok (.newarray .char, 2) := by decide +kernel
theorem dX0_init_9 : decode cX0_init 9 = .ok (.putfield 9, 3) := by decide +kernel
theorem dX0_init_12 : decode cX0_init 12 = .ok (.aload_n 0, 1) := by decide +kernel
theorem dX0_init_13 : decode cX0_init 13 = .ok (.iconst 0, 1) := by decide +kernel
theorem dX0_init_14 : decode cX0_init 14 = .ok (.putfield 15, 3) := by decide +kernel
theorem dX0_init_17 : decode cX0_init 17 = .ok (.return_, 1) := by decide +kernel
theorem dX0_length_0 : decode cX0_length 0 = .ok (.aload_n 0, 1) := by decide +kernel
theorem dX0_length_1 : decode cX0_length 1 = .ok (.getfield 15, 3) := by decide +kernel
theorem dX0_length_4 : decode cX0_length 4 = .ok (.ireturn, 1) := by decide +kernel
theorem dX0_signAt_0 : decode cX0_signAt 0 = .ok (.iload_n 1, 1) := by decide +kernel
theorem dX0_signAt_1 : decode cX0_signAt 1 = .ok (.ifCond .lt 20, 3) := by decide +kernel
theorem dX0_signAt_4 : decode cX0_signAt 4 = .ok (.iload_n 1, 1) := by decide +kernel
theorem dX0_signAt_5 : decode cX0_signAt 5 = .ok (.aload_n 0, 1) := by decide +kernel
theorem dX0_signAt_6 : decode cX0_signAt 6 = .ok (.getfield 15, 3) := by decide +kernel
theorem dX0_signAt_9 : decode cX0_signAt 9 = .ok (.if_icmp .ge 12, 3) := by decide +kernel
theorem dX0_signAt_12 : decode cX0_signAt 12 = .ok (.aload_n 0, 1) := by decide +kernel
theorem dX0_signAt_13 : decode cX0_signAt 13 = .ok (.getfield 9, 3) := by decide +kernel
theorem dX0_signAt_16 : decode cX0_signAt 16 = .ok (.iload_n 1, 1) := by decide +kernel
theorem dX0_signAt_17 : decode cX0_signAt 17 = .ok (.caload, 1) := by decide +kernel
theorem dX0_signAt_18 : decode cX0_signAt 18 = .ok (.goto 5, 3) := by decide +kernel
theorem dX0_signAt_21 : decode cX0_signAt 21 = .ok (.bipush 32, 2) := by decide +kernel
theorem dX0_signAt_23 : decode cX0_signAt 23 = .ok (.ireturn, 1) := by decide +kernel
theorem dX0_clear_0 : decode cX0_clear 0 = .ok (.aload_n 0, 1) := by decide +kernel
theorem dX0_clear_1 : decode cX0_clear 1 = .ok (.iconst 0, 1) := by decide +kernel
theorem dX0_clear_2 : decode cX0_clear 2 = .ok (.putfield 15, 3) := by decide +kernel
theorem dX0_clear_5 : decode cX0_clear 5 = .ok (.return_, 1) := by decide +kernel
theorem dX0_put_0 : decode cX0_put 0 = .ok (.aload_n 0, 1) := by decide +kernel
theorem dX0_put_1 : decode cX0_put 1 = .ok (.getfield 15, 3) := by decide +kernel
theorem dX0_put_4 : decode cX0_put 4 = .ok (.bipush 60, 2) := by decide +kernel
theorem dX0_put_6 : decode cX0_put 6 = .ok (.if_icmp .ge 23, 3) := by decide +kernel
theorem dX0_put_9 : decode cX0_put 9 = .ok (.aload_n 0, 1) := by decide +kernel
theorem dX0_put_10 : decode cX0_put 10 = .ok (.getfield 9, 3) := by decide +kernel
theorem dX0_put_13 : decode cX0_put 13 = .ok (.aload_n 0, 1) := by decide +kernel
theorem dX0_put_14 : decode cX0_put 14 = .ok (.getfield 15, 3) := by decide +kernel
theorem dX0_put_17 : decode cX0_put 17 = .ok (.iload_n 1, 1) := by decide +kernel
theorem dX0_put_18 : decode cX0_put 18 = .ok (.castore, 1) := by decide +kernel
theorem dX0_put_19 : decode cX0_put 19 = .ok (.aload_n 0, 1) := by decide +kernel
theorem dX0_put_20 : decode cX0_put 20 = .ok (.dup, 1) := by decide +kernel
theorem dX0_put_21 : decode cX0_put 21 = .ok (.getfield 15, 3) := by decide +kernel
theorem dX0_put_24 : decode cX0_put 24 = .ok (.iconst 1, 1) := by decide +kernel
theorem dX0_put_25 : decode cX0_put 25 = .ok (.iadd, 1) := by decide +kernel
theorem dX0_put_26 : decode cX0_put 26 = .ok (.putfield 15, 3) := by decide +kernel
theorem dX0_put_29 : decode cX0_put 29 = .ok (.return_, 1) := by decide +kernel
set_option maxRecDepth 20000 in
theorem ggX0_putAll_X0_length : GoodIn wsX0_putAll wsX0_length := goodIn_r _ [5, 6, 16, 17] (by decide +kernel) (by decide +kernel)
set_option maxRecDepth 20000 in
theorem gX0_putAll_X0_length : GoodIn wsX0_putAll (wsV RX0 19 RX0 yX0_length wsX0_length) := goodIn_app (goodIn_of _ (by decide +kernel)) ggX0_putAll_X0_length
set_option maxRecDepth 20000 in
theorem ggX0_putAll_X0_signAt : GoodIn wsX0_putAll wsX0_signAt := goodIn_r _ [10, 6, 11, 16, 17] (by decide +kernel) (by decide +kernel)
set_option maxRecDepth 20000 in
theorem gX0_putAll_X0_signAt : GoodIn wsX0_putAll (wsV RX0 23 RX0 yX0_signAt wsX0_signAt) := goodIn_app (goodIn_of _ (by decide +kernel)) ggX0_putAll_X0_signAt
set_option maxRecDepth 20000 in
theorem ggX0_putAll_X0_put : GoodIn wsX0_putAll wsX0_put := goodIn_r _ [15, 6, 11, 16, 17] (by decide +kernel) (by decide +kernel)
set_option maxRecDepth 20000 in
theorem gX0_putAll_X0_put : GoodIn wsX0_putAll (wsV RX0 27 RX0 yX0_put wsX0_put) := goodIn_app (goodIn_of _ (by decide +kernel)) ggX0_putAll_X0_put
theorem dX0_putAll_0 : decode cX0_putAll 0 = .ok (.iconst 0, 1) := by decide +kernel
theorem dX0_putAll_1 : decode cX0_putAll 1 = .ok (.istore_n 2, 1) := by decide +kernel
theorem dX0_putAll_2 : decode cX0_putAll 2 = .ok (.iload_n 2, 1) := by decide +kernel
theorem dX0_putAll_3 : decode cX0_putAll 3 = .ok (.aload_n 1, 1) := by decide +kernel
theorem dX0_putAll_4 : decode cX0_putAll 4 = .ok (.invokevirtual 19, 3) := by decide +kernel
theorem dX0_putAll_7 : decode cX0_putAll 7 = .ok (.if_icmp .ge 18, 3) := by decide +kernel
theorem dX0_putAll_10 : decode cX0_putAll 10 = .ok (.aload_n 0, 1) := by decide +kernel
theorem dX0_putAll_11 : decode cX0_putAll 11 = .ok (.aload_n 1, 1) := by decide +kernel
theorem dX0_putAll_12 : decode cX0_putAll 12 = .ok (.iload_n 2, 1) := by decide +kernel
theorem dX0_putAll_13 : decode cX0_putAll 13 = .ok (.invokevirtual 23, 3) := by decide +kernel
theorem dX0_putAll_16 : decode cX0_putAll 16 = .ok (.invokevirtual 27, 3) := by decide +kernel
theorem dX0_putAll_19 : decode cX0_putAll 19 = .ok (.iinc 2 1, 3) := by decide +kernel
theorem dX0_putAll_22 : decode cX0_putAll 22 = .ok (.goto (-20), 3) := by decide +kernel
theorem dX0_putAll_25 : decode cX0_putAll 25 = .ok (.return_, 1) := by decide +kernel
set_option maxRecDepth 20000 in
theorem ggX0_putNumber_X0_put : GoodIn wsX0_putNumber wsX0_put := goodIn_r _ [6, 7, 8, 9, 10] (by decide +kernel) (by decide +kernel)
set_option maxRecDepth 20000 in
theorem gX0_putNumber_X0_put : GoodIn wsX0_putNumber (wsV RX0 27 RX0 yX0_put wsX0_put) := goodIn_app (goodIn_of _ (by decide +kernel)) ggX0_putNumber_X0_put
theorem dX0_putNumber_0 : decode cX0_putNumber 0 = .ok (.iconst 0, 1) := by decide +kernel
theorem dX0_putNumber_1 : decode cX0_putNumber 1 = .ok (.istore_n 3, 1) := by decide +kernel
theorem dX0_putNumber_2 : decode cX0_putNumber 2 = .ok (.iload_n 3, 1) := by decide +kernel
theorem dX0_putNumber_3 : decode cX0_putNumber 3 = .ok (.iload_n 2, 1) := by decide +kernel
theorem dX0_putNumber_4 : decode cX0_putNumber 4 = .ok (.if_icmp .ge 15, 3) := by decide +kernel
theorem dX0_putNumber_7 : decode cX0_putNumber 7 = .ok (.aload_n 0, 1) := by decide +kernel
theorem dX0_putNumber_8 : decode cX0_putNumber 8 = .ok (.bipush 48, 2) := by decide +kernel
theorem dX0_putNumber_10 : decode cX0_putNumber 10 = .ok (.invokevirtual 27, 3) := by decide +kernel
theorem dX0_putNumber_13 : decode cX0_putNumber 13 = .ok (.iinc 3 1, 3) := by decide +kernel
theorem dX0_putNumber_16 : decode cX0_putNumber 16 = .ok (.goto (-14), 3) := by decide +kernel
theorem dX0_putNumber_19 : decode cX0_putNumber 19 = .ok (.ldc 31, 2) := by decide +kernel
theorem dX0_putNumber_21 : decode cX0_putNumber 21 = .ok (.istore_n 3, 1) := by decide +kernel
theorem dX0_putNumber_22 : decode cX0_putNumber 22 = .ok (.iload_n 3, 1) := by decide +kernel
theorem dX0_putNumber_23 : decode cX0_putNumber 23 = .ok (.ifCond .le 35, 3) := by decide +kernel
theorem dX0_putNumber_26 : decode cX0_putNumber 26 = .ok (.iload_n 1, 1) := by decide +kernel
theorem dX0_putNumber_27 : decode cX0_putNumber 27 = .ok (.iload_n 3, 1) := by decide +kernel
theorem dX0_putNumber_28 : decode cX0_putNumber 28 = .ok (.if_icmp .ge 8, 3) := by decide +kernel
theorem dX0_putNumber_31 : decode cX0_putNumber 31 = .ok (.iload_n 3, 1) := by decide +kernel
theorem dX0_putNumber_32 : decode cX0_putNumber 32 = .ok (.iconst 1, 1) := by decide +kernel
theorem dX0_putNumber_33 : decode cX0_putNumber 33 = .ok (.if_icmp .ne 17, 3) := by decide +kernel
theorem dX0_putNumber_36 : decode cX0_putNumber 36 = .ok (.aload_n 0, 1) := by decide +kernel
theorem dX0_putNumber_37 : decode cX0_putNumber 37 = .ok (.bipush 48, 2) := by decide +kernel
theorem dX0_putNumber_39 : decode cX0_putNumber 39 = .ok (.iload_n 1, 1) := by decide +kernel
theorem dX0_putNumber_40 : decode cX0_putNumber 40 = .ok (.iload_n 3, 1) := by decide +kernel
theorem dX0_putNumber_41 : decode cX0_putNumber 41 = .ok (.idiv, 1) := by decide +kernel
theorem dX0_putNumber_42 : decode cX0_putNumber 42 = .ok (.bipush 10, 2) := by decide +kernel
theorem dX0_putNumber_44 : decode cX0_putNumber 44 = .ok (.irem, 1) := by decide +kernel
theorem dX0_putNumber_45 : decode cX0_putNumber 45 = .ok (.iadd, 1) := by decide +kernel
theorem dX0_putNumber_46 : decode cX0_putNumber 46 = .ok (.i2c, 1) := by decide +kernel
theorem dX0_putNumber_47 : decode cX0_putNumber 47 = .ok (.invokevirtual 27, 3) := by decide +kernel
theorem dX0_putNumber_50 : decode cX0_putNumber 50 = .ok (.iload_n 3, 1) := by decide +kernel
theorem dX0_putNumber_51 : decode cX0_putNumber 51 = .ok (.bipush 10, 2) := by decide +kernel
theorem dX0_putNumber_53 : decode cX0_putNumber 53 = .ok (.idiv, 1) := by decide +kernel
theorem dX0_putNumber_54 : decode cX0_putNumber 54 = .ok (.istore_n 3, 1) := by decide +kernel
theorem dX0_putNumber_55 : decode cX0_putNumber 55 = .ok (.goto (-33), 3) := by decide +kernel
theorem dX0_putNumber_58 : decode cX0_putNumber 58 = .ok (.return_, 1) := by decide +kernel
set_option maxRecDepth 20000 in
theorem ggX0_putWord_X2_letterOf : GoodIn wsX0_putWord wsX2_letterOf := goodIn_r _ [4] (by decide +kernel) (by decide +kernel)
set_option maxRecDepth 20000 in
theorem gX0_putWord_X2_letterOf_n33 : GoodIn wsX0_putWord (wsX2_letterOf) := ggX0_putWord_X2_letterOf
set_option maxRecDepth 20000 in
theorem ggX0_putWord_X0_put : GoodIn wsX0_putWord wsX0_put := goodIn_r _ [9, 10, 11, 12, 13] (by decide +kernel) (by decide +kernel)
set_option maxRecDepth 20000 in
theorem gX0_putWord_X0_put : GoodIn wsX0_putWord (wsV RX0 27 RX0 yX0_put wsX0_put) := goodIn_app (goodIn_of _ (by decide +kernel)) ggX0_putWord_X0_put
theorem dX0_putWord_0 : decode cX0_putWord 0 = .ok (.iload_n 1, 1) := by decide +kernel
theorem dX0_putWord_1 : decode cX0_putWord 1 = .ok (.ldc 32, 2) := by decide +kernel
theorem dX0_putWord_3 : decode cX0_putWord 3 = .ok (.iand, 1) := by decide +kernel
theorem dX0_putWord_4 : decode cX0_putWord 4 = .ok (.istore_n 3, 1) := by decide +kernel
theorem dX0_putWord_5 : decode cX0_putWord 5 = .ok (.iconst 0, 1) := by decide +kernel
theorem dX0_putWord_6 : decode cX0_putWord 6 = .ok (.istore 4, 2) := by decide +kernel
theorem dX0_putWord_8 : decode cX0_putWord 8 = .ok (.iload 4, 2) := by decide +kernel
theorem dX0_putWord_10 : decode cX0_putWord 10 = .ok (.iload_n 2, 1) := by decide +kernel
theorem dX0_putWord_11 : decode cX0_putWord 11 = .ok (.if_icmp .ge 25, 3) := by decide +kernel
theorem dX0_putWord_14 : decode cX0_putWord 14 = .ok (.aload_n 0, 1) := by decide +kernel
theorem dX0_putWord_15 : decode cX0_putWord 15 = .ok (.iload_n 3, 1) := by decide +kernel
theorem dX0_putWord_16 : decode cX0_putWord 16 = .ok (.bipush 52, 2) := by decide +kernel
theorem dX0_putWord_18 : decode cX0_putWord 18 = .ok (.irem, 1) := by decide +kernel
theorem dX0_putWord_19 : decode cX0_putWord 19 = .ok (.invokestatic 33, 3) := by decide +kernel
theorem dX0_putWord_22 : decode cX0_putWord 22 = .ok (.invokevirtual 27, 3) := by decide +kernel
theorem dX0_putWord_25 : decode cX0_putWord 25 = .ok (.iload_n 3, 1) := by decide +kernel
theorem dX0_putWord_26 : decode cX0_putWord 26 = .ok (.bipush 52, 2) := by decide +kernel
theorem dX0_putWord_28 : decode cX0_putWord 28 = .ok (.idiv, 1) := by decide +kernel
theorem dX0_putWord_29 : decode cX0_putWord 29 = .ok (.istore_n 3, 1) := by decide +kernel
theorem dX0_putWord_30 : decode cX0_putWord 30 = .ok (.iinc 4 1, 3) := by decide +kernel
theorem dX0_putWord_33 : decode cX0_putWord 33 = .ok (.goto (-25), 3) := by decide +kernel
theorem dX0_putWord_36 : decode cX0_putWord 36 = .ok (.return_, 1) := by decide +kernel
set_option maxRecDepth 20000 in
theorem ggX0_lastKind_X0_signAt : GoodIn wsX0_lastKind wsX0_signAt := goodIn_r _ [6, 1, 7, 11, 12] (by decide +kernel) (by decide +kernel)
set_option maxRecDepth 20000 in
theorem gX0_lastKind_X0_signAt : GoodIn wsX0_lastKind (wsV RX0 23 RX0 yX0_signAt wsX0_signAt) := goodIn_app (goodIn_of _ (by decide +kernel)) ggX0_lastKind_X0_signAt
set_option maxRecDepth 20000 in
theorem ggX0_lastKind_X2_kindOf : GoodIn wsX0_lastKind wsX2_kindOf := goodIn_r _ [10] (by decide +kernel) (by decide +kernel)
set_option maxRecDepth 20000 in
theorem gX0_lastKind_X2_kindOf_n36 : GoodIn wsX0_lastKind (wsX2_kindOf) := ggX0_lastKind_X2_kindOf
theorem dX0_lastKind_0 : decode cX0_lastKind 0 = .ok (.aload_n 0, 1) := by decide +kernel
theorem dX0_lastKind_1 : decode cX0_lastKind 1 = .ok (.aload_n 0, 1) := by decide +kernel
theorem dX0_lastKind_2 : decode cX0_lastKind 2 = .ok (.getfield 15, 3) := by decide +kernel
theorem dX0_lastKind_5 : decode cX0_lastKind 5 = .ok (.iconst 1, 1) := by decide +kernel
theorem dX0_lastKind_6 : decode cX0_lastKind 6 = .ok (.isub, 1) := by decide +kernel
theorem dX0_lastKind_7 : decode cX0_lastKind 7 = .ok (.invokevirtual 23, 3) := by decide +kernel
theorem dX0_lastKind_10 : decode cX0_lastKind 10 = .ok (.invokestatic 36, 3) := by decide +kernel
theorem dX0_lastKind_13 : decode cX0_lastKind 13 = .ok (.ireturn, 1) := by decide +kernel
set_option maxRecDepth 20000 in
theorem ggX0_has_X0_signAt : GoodIn wsX0_has wsX0_signAt := goodIn_r _ [6, 1, 7, 8, 9] (by decide +kernel) (by decide +kernel)
set_option maxRecDepth 20000 in
theorem gX0_has_X0_signAt : GoodIn wsX0_has (wsV RX0 23 RX0 yX0_signAt wsX0_signAt) := goodIn_app (goodIn_of _ (by decide +kernel)) ggX0_has_X0_signAt
theorem dX0_has_0 : decode cX0_has 0 = .ok (.iconst 0, 1) := by decide +kernel
theorem dX0_has_1 : decode cX0_has 1 = .ok (.istore_n 2, 1) := by decide +kernel
theorem dX0_has_2 : decode cX0_has 2 = .ok (.iload_n 2, 1) := by decide +kernel
theorem dX0_has_3 : decode cX0_has 3 = .ok (.aload_n 0, 1) := by decide +kernel
theorem dX0_has_4 : decode cX0_has 4 = .ok (.getfield 15, 3) := by decide +kernel
theorem dX0_has_7 : decode cX0_has 7 = .ok (.if_icmp .ge 20, 3) := by decide +kernel
theorem dX0_has_10 : decode cX0_has 10 = .ok (.aload_n 0, 1) := by decide +kernel
theorem dX0_has_11 : decode cX0_has 11 = .ok (.iload_n 2, 1) := by decide +kernel
theorem dX0_has_12 : decode cX0_has 12 = .ok (.invokevirtual 23, 3) := by decide +kernel
theorem dX0_has_15 : decode cX0_has 15 = .ok (.iload_n 1, 1) := by decide +kernel
theorem dX0_has_16 : decode cX0_has 16 = .ok (.if_icmp .ne 5, 3) := by decide +kernel
theorem dX0_has_19 : decode cX0_has 19 = .ok (.iconst 1, 1) := by decide +kernel
theorem dX0_has_20 : decode cX0_has 20 = .ok (.ireturn, 1) := by decide +kernel
theorem dX0_has_21 : decode cX0_has 21 = .ok (.iinc 2 1, 3) := by decide +kernel
theorem dX0_has_24 : decode cX0_has 24 = .ok (.goto (-22), 3) := by decide +kernel
theorem dX0_has_27 : decode cX0_has 27 = .ok (.iconst 0, 1) := by decide +kernel
theorem dX0_has_28 : decode cX0_has 28 = .ok (.ireturn, 1) := by decide +kernel
set_option maxRecDepth 20000 in
theorem ggX0_isLike_X0_length : GoodIn wsX0_isLike wsX0_length := goodIn_r _ [6, 1, 12, 13] (by decide +kernel) (by decide +kernel)
set_option maxRecDepth 20000 in
theorem gX0_isLike_X0_length : GoodIn wsX0_isLike (wsV RX0 19 RX0 yX0_length wsX0_length) := goodIn_app (goodIn_of _ (by decide +kernel)) ggX0_isLike_X0_length
set_option maxRecDepth 20000 in
theorem ggX0_isLike_X0_signAt : GoodIn wsX0_isLike wsX0_signAt := goodIn_r _ [10, 1, 11, 12, 13] (by decide +kernel) (by decide +kernel)
set_option maxRecDepth 20000 in
theorem gX0_isLike_X0_signAt : GoodIn wsX0_isLike (wsV RX0 23 RX0 yX0_signAt wsX0_signAt) := goodIn_app (goodIn_of _ (by decide +kernel)) ggX0_isLike_X0_signAt
theorem dX0_isLike_0 : decode cX0_isLike 0 = .ok (.aload_n 0, 1) := by decide +kernel
theorem dX0_isLike_1 : decode cX0_isLike 1 = .ok (.getfield 15, 3) := by decide +kernel
theorem dX0_isLike_4 : decode cX0_isLike 4 = .ok (.aload_n 1, 1) := by decide +kernel
theorem dX0_isLike_5 : decode cX0_isLike 5 = .ok (.invokevirtual 19, 3) := by decide +kernel
theorem dX0_isLike_8 : decode cX0_isLike 8 = .ok (.if_icmp .eq 5, 3) := by decide +kernel
theorem dX0_isLike_11 : decode cX0_isLike 11 = .ok (.iconst 0, 1) := by decide +kernel
theorem dX0_isLike_12 : decode cX0_isLike 12 = .ok (.ireturn, 1) := by decide +kernel
theorem dX0_isLike_13 : decode cX0_isLike 13 = .ok (.iconst 0, 1) := by decide +kernel
theorem dX0_isLike_14 : decode cX0_isLike 14 = .ok (.istore_n 2, 1) := by decide +kernel
theorem dX0_isLike_15 : decode cX0_isLike 15 = .ok (.iload_n 2, 1) := by decide +kernel
theorem dX0_isLike_16 : decode cX0_isLike 16 = .ok (.aload_n 0, 1) := by decide +kernel
theorem dX0_isLike_17 : decode cX0_isLike 17 = .ok (.getfield 15, 3) := by decide +kernel
theorem dX0_isLike_20 : decode cX0_isLike 20 = .ok (.if_icmp .ge 24, 3) := by decide +kernel
theorem dX0_isLike_23 : decode cX0_isLike 23 = .ok (.aload_n 0, 1) := by decide +kernel
theorem dX0_isLike_24 : decode cX0_isLike 24 = .ok (.iload_n 2, 1) := by decide +kernel
theorem dX0_isLike_25 : decode cX0_isLike 25 = .ok (.invokevirtual 23, 3) := by decide +kernel
theorem dX0_isLike_28 : decode cX0_isLike 28 = .ok (.aload_n 1, 1) := by decide +kernel
theorem dX0_isLike_29 : decode cX0_isLike 29 = .ok (.iload_n 2, 1) := by decide +kernel
theorem dX0_isLike_30 : decode cX0_isLike 30 = .ok (.invokevirtual 23, 3) := by decide +kernel
theorem dX0_isLike_33 : decode cX0_isLike 33 = .ok (.if_icmp .eq 5, 3) := by decide +kernel
theorem dX0_isLike_36 : decode cX0_isLike 36 = .ok (.iconst 0, 1) := by decide +kernel
theorem dX0_isLike_37 : decode cX0_isLike 37 = .ok (.ireturn, 1) := by decide +kernel
theorem dX0_isLike_38 : decode cX0_isLike 38 = .ok (.iinc 2 1, 3) := by decide +kernel
theorem dX0_isLike_41 : decode cX0_isLike 41 = .ok (.goto (-26), 3) := by decide +kernel
theorem dX0_isLike_44 : decode cX0_isLike 44 = .ok (.iconst 1, 1) := by decide +kernel
theorem dX0_isLike_45 : decode cX0_isLike 45 = .ok (.ireturn, 1) := by decide +kernel
set_option maxRecDepth 20000 in
theorem ggX0_hash_X0_signAt : GoodIn wsX0_hash wsX0_signAt := goodIn_r _ [6, 1, 7, 8, 9] (by decide +kernel) (by decide +kernel)
set_option maxRecDepth 20000 in
theorem gX0_hash_X0_signAt : GoodIn wsX0_hash (wsV RX0 23 RX0 yX0_signAt wsX0_signAt) := goodIn_app (goodIn_of _ (by decide +kernel)) ggX0_hash_X0_signAt
theorem dX0_hash_0 : decode cX0_hash 0 = .ok (.iconst 0, 1) := by decide +kernel
theorem dX0_hash_1 : decode cX0_hash 1 = .ok (.istore_n 1, 1) := by decide +kernel
theorem dX0_hash_2 : decode cX0_hash 2 = .ok (.iconst 0, 1) := by decide +kernel
theorem dX0_hash_3 : decode cX0_hash 3 = .ok (.istore_n 2, 1) := by decide +kernel
theorem dX0_hash_4 : decode cX0_hash 4 = .ok (.iload_n 2, 1) := by decide +kernel
theorem dX0_hash_5 : decode cX0_hash 5 = .ok (.aload_n 0, 1) := by decide +kernel
theorem dX0_hash_6 : decode cX0_hash 6 = .ok (.getfield 15, 3) := by decide +kernel
theorem dX0_hash_9 : decode cX0_hash 9 = .ok (.if_icmp .ge 20, 3) := by decide +kernel
theorem dX0_hash_12 : decode cX0_hash 12 = .ok (.bipush 31, 2) := by decide +kernel
theorem dX0_hash_14 : decode cX0_hash 14 = .ok (.iload_n 1, 1) := by decide +kernel
theorem dX0_hash_15 : decode cX0_hash 15 = .ok (.imul, 1) := by decide +kernel
theorem dX0_hash_16 : decode cX0_hash 16 = .ok (.aload_n 0, 1) := by decide +kernel
theorem dX0_hash_17 : decode cX0_hash 17 = .ok (.iload_n 2, 1) := by decide +kernel
theorem dX0_hash_18 : decode cX0_hash 18 = .ok (.invokevirtual 23, 3) := by decide +kernel
theorem dX0_hash_21 : decode cX0_hash 21 = .ok (.iadd, 1) := by decide +kernel
theorem dX0_hash_22 : decode cX0_hash 22 = .ok (.istore_n 1, 1) := by decide +kernel
theorem dX0_hash_23 : decode cX0_hash 23 = .ok (.iinc 2 1, 3) := by decide +kernel
theorem dX0_hash_26 : decode cX0_hash 26 = .ok (.goto (-22), 3) := by decide +kernel
theorem dX0_hash_29 : decode cX0_hash 29 = .ok (.iload_n 1, 1) := by decide +kernel
theorem dX0_hash_30 : decode cX0_hash 30 = .ok (.ireturn, 1) := by decide +kernel
set_option maxRecDepth 20000 in
theorem ggX0_addTo_X0_signAt : GoodIn wsX0_addTo wsX0_signAt := goodIn_r _ [7, 2, 8, 9, 10] (by decide +kernel) (by decide +kernel)
set_option maxRecDepth 20000 in
theorem gX0_addTo_X0_signAt : GoodIn wsX0_addTo (wsV RX0 23 RX0 yX0_signAt wsX0_signAt) := goodIn_app (goodIn_of _ (by decide +kernel)) ggX0_addTo_X0_signAt
theorem dX0_addTo_0 : decode cX0_addTo 0 = .ok (.ldc2_w 40, 3) := by decide +kernel
theorem dX0_addTo_3 : decode cX0_addTo 3 = .ok (.lload_n 1, 1) := by decide +kernel
theorem dX0_addTo_4 : decode cX0_addTo 4 = .ok (.lmul, 1) := by decide +kernel
theorem dX0_addTo_5 : decode cX0_addTo 5 = .ok (.aload_n 0, 1) := by decide +kernel
theorem dX0_addTo_6 : decode cX0_addTo 6 = .ok (.getfield 15, 3) := by decide +kernel
theorem dX0_addTo_9 : decode cX0_addTo 9 = .ok (.i2l, 1) := by decide +kernel
theorem dX0_addTo_10 : decode cX0_addTo 10 = .ok (.ladd, 1) := by decide +kernel
theorem dX0_addTo_11 : decode cX0_addTo 11 = .ok (.lstore_n 3, 1) := by decide +kernel
theorem dX0_addTo_12 : decode cX0_addTo 12 = .ok (.iconst 0, 1) := by decide +kernel
theorem dX0_addTo_13 : decode cX0_addTo 13 = .ok (.istore 5, 2) := by decide +kernel
theorem dX0_addTo_15 : decode cX0_addTo 15 = .ok (.iload 5, 2) := by decide +kernel
theorem dX0_addTo_17 : decode cX0_addTo 17 = .ok (.aload_n 0, 1) := by decide +kernel
theorem dX0_addTo_18 : decode cX0_addTo 18 = .ok (.getfield 15, 3) := by decide +kernel
theorem dX0_addTo_21 : decode cX0_addTo 21 = .ok (.if_icmp .ge 23, 3) := by decide +kernel
theorem dX0_addTo_24 : decode cX0_addTo 24 = .ok (.ldc2_w 40, 3) := by decide +kernel
theorem dX0_addTo_27 : decode cX0_addTo 27 = .ok (.lload_n 3, 1) := by decide +kernel
theorem dX0_addTo_28 : decode cX0_addTo 28 = .ok (.lmul, 1) := by decide +kernel
theorem dX0_addTo_29 : decode cX0_addTo 29 = .ok (.aload_n 0, 1) := by decide +kernel
theorem dX0_addTo_30 : decode cX0_addTo 30 = .ok (.iload 5, 2) := by decide +kernel
theorem dX0_addTo_32 : decode cX0_addTo 32 = .ok (.invokevirtual 23, 3) := by decide +kernel
theorem dX0_addTo_35 : decode cX0_addTo 35 = .ok (.i2l, 1) := by decide +kernel
theorem dX0_addTo_36 : decode cX0_addTo 36 = .ok (.ladd, 1) := by decide +kernel
theorem dX0_addTo_37 : decode cX0_addTo 37 = .ok (.lstore_n 3, 1) := by decide +kernel
theorem dX0_addTo_38 : decode cX0_addTo 38 = .ok (.iinc 5 1, 3) := by decide +kernel
theorem dX0_addTo_41 : decode cX0_addTo 41 = .ok (.goto (-26), 3) := by decide +kernel
theorem dX0_addTo_44 : decode cX0_addTo 44 = .ok (.lload_n 3, 1) := by decide +kernel
theorem dX0_addTo_45 : decode cX0_addTo 45 = .ok (.lreturn, 1) := by decide +kernel
set_option maxRecDepth 20000 in
theorem ggX1_init_X0_init : GoodIn wsX1_init wsX0_init := goodIn_r _ [14, 15, 2, 3, 16, 17, 18, 58, 59] (by decide +kernel) (by decide +kernel)
set_option maxRecDepth 20000 in
theorem gX1_init_X0_init_n11 : GoodIn wsX1_init (wsX0_init) := ggX1_init_X0_init
set_option maxRecDepth 20000 in
theorem ggX1_init_X0_put : GoodIn wsX1_init wsX0_put := goodIn_r _ [22, 18, 17, 58, 59] (by decide +kernel) (by decide +kernel)
set_option maxRecDepth 20000 in
theorem gX1_init_X0_put : GoodIn wsX1_init (wsV RX1 30 RX0 yX0_put wsX0_put) := goodIn_app (goodIn_of _ (by decide +kernel)) ggX1_init_X0_put
set_option maxRecDepth 20000 in
theorem ggX1_init_X1_readTokens : GoodIn wsX1_init wsX1_readTokens := goodIn_r _ [27, 12, 7, 28, 29, 30, 6, 31, 18, 32, 33, 34, 35, 17, 36, 37, 38, 39, 40, 26, 41, 42, 43, 44, 45, 10, 11, 46, 47, 48, 49, 50, 51, 52, 53, 54, 55, 56, 57, 60, 61, 62, 63, 58, 59] (by decide +kernel) (by decide +kernel)
set_option maxRecDepth 20000 in
theorem gX1_init_X1_readTokens : GoodIn wsX1_init (wsV RX1 34 RX1 yX1_readTokens wsX1_readTokens) := goodIn_app (goodIn_of _ (by decide +kernel)) ggX1_init_X1_readTokens
theorem dX1_init_0 : decode cX1_init 0 = .ok (.aload_n 0, 1) := by decide +kernel
theorem dX1_init_1 : decode cX1_init 1 = .ok (.invokespecial 3, 3) := by decide +kernel
theorem dX1_init_4 : decode cX1_init 4 = .ok (.aload_n 0, 1) := by decide +kernel
theorem dX1_init_5 : decode cX1_init 5 = .ok (.new 9, 3) := by decide +kernel
theorem dX1_init_8 : decode cX1_init 8 = .ok (.dup, 1) := by decide +kernel
theorem dX1_init_9 : decode cX1_init 9 = .ok (.invokespecial 11, 3) := by decide +kernel
theorem dX1_init_12 : decode cX1_init 12 = .ok (.putfield 12, 3) := by decide +kernel
theorem dX1_init_15 : decode cX1_init 15 = .ok (.aload_n 0, 1) := by decide +kernel
theorem dX1_init_16 : decode cX1_init 16 = .ok (.iconst 3, 1) := by decide +kernel
theorem dX1_init_17 : decode cX1_init 17 = .ok (.bipush 60, 2) := by decide +kernel
theorem dX1_init_19 : decode cX1_init 19 = .ok (.multianewarray 18 2, 4) := by decide +kernel
theorem dX1_init_23 : decode cX1_init 23 = .ok (.putfield 20, 3) := by decide +kernel
theorem dX1_init_26 : decode cX1_init 26 = .ok (.aload_n 0, 1) := by decide +kernel
theorem dX1_init_27 : decode cX1_init 27 = .ok (.iconst 3, 1) := by decide +kernel
theorem dX1_init_28 : decode cX1_init 28 = .ok (.bipush 60, 2) := by decide +kernel
theorem dX1_init_30 : decode cX1_init 30 = .ok (.multianewarray 18 2, 4) := by decide +kernel
theorem dX1_init_34 : decode cX1_init 34 = .ok (.putfield 23, 3) := by decide +kernel
theorem dX1_init_37 : decode cX1_init 37 = .ok (.aload_n 0, 1) := by decide +kernel
theorem dX1_init_38 : decode cX1_init 38 = .ok (.iconst 3, 1) := by decide +kernel
theorem dX1_init_39 : decode cX1_init 39 = .ok (.newarray .int, 2) := by decide +kernel
theorem dX1_init_41 : decode cX1_init 41 = .ok (.putfield 26, 3) := by decide +kernel
theorem dX1_init_44 : decode cX1_init 44 = .ok (.aload_n 0, 1) := by decide +kernel
theorem dX1_init_45 : decode cX1_init 45 = .ok (.getfield 12, 3) := by decide +kernel
theorem dX1_init_48 : decode cX1_init 48 = .ok (.bipush 48, 2) := by decide +kernel
theorem dX1_init_50 : decode cX1_init 50 = .ok (.invokevirtual 30, 3) := by decide +kernel
theorem dX1_init_53 : decode cX1_init 53 = .ok (.aload_n 0, 1) := by decide +kernel
theorem dX1_init_54 : decode cX1_init 54 = .ok (.invokevirtual 34, 3) := by decide +kernel
theorem dX1_init_57 : decode cX1_init 57 = .ok (.return_, 1) := by decide +kernel
set_option maxRecDepth 20000 in
theorem ggX1_tell_X0_clear : GoodIn wsX1_tell wsX0_clear := goodIn_r _ [6, 7, 29, 30] (by decide +kernel) (by decide +kernel)
set_option maxRecDepth 20000 in
theorem gX1_tell_X0_clear : GoodIn wsX1_tell (wsV RX1 37 RX0 yX0_clear wsX0_clear) := goodIn_app (goodIn_of _ (by decide +kernel)) ggX1_tell_X0_clear
set_option maxRecDepth 20000 in
theorem ggX1_tell_X0_putAll : GoodIn wsX1_tell wsX0_putAll := goodIn_r _ [11, 12, 13, 14, 5, 15, 7, 16, 17, 18, 19, 20, 21, 22, 23, 24, 29, 30] (by decide +kernel) (by decide +kernel)
set_option maxRecDepth 20000 in
theorem gX1_tell_X0_putAll : GoodIn wsX1_tell (wsV RX1 40 RX0 yX0_putAll wsX0_putAll) := goodIn_app (goodIn_of _ (by decide +kernel)) ggX1_tell_X0_putAll
theorem dX1_tell_0 : decode cX1_tell 0 = .ok (.aload_n 0, 1) := by decide +kernel
theorem dX1_tell_1 : decode cX1_tell 1 = .ok (.getfield 12, 3) := by decide +kernel
theorem dX1_tell_4 : decode cX1_tell 4 = .ok (.invokevirtual 37, 3) := by decide +kernel
theorem dX1_tell_7 : decode cX1_tell 7 = .ok (.aload_n 0, 1) := by decide +kernel
theorem dX1_tell_8 : decode cX1_tell 8 = .ok (.getfield 12, 3) := by decide +kernel
theorem dX1_tell_11 : decode cX1_tell 11 = .ok (.aload_n 1, 1) := by decide +kernel
theorem dX1_tell_12 : decode cX1_tell 12 = .ok (.invokevirtual 40, 3) := by decide +kernel
theorem dX1_tell_15 : decode cX1_tell 15 = .ok (.return_, 1) := by decide +kernel
set_option maxRecDepth 20000 in
theorem ggX1_readTokens_X0_length : GoodIn wsX1_readTokens wsX0_length := goodIn_r _ [7, 8, 43, 44] (by decide +kernel) (by decide +kernel)
set_option maxRecDepth 20000 in
theorem gX1_readTokens_X0_length : GoodIn wsX1_readTokens (wsV RX1 44 RX0 yX0_length wsX0_length) := goodIn_app (goodIn_of _ (by decide +kernel)) ggX1_readTokens_X0_length
set_option maxRecDepth 20000 in
theorem ggX1_readTokens_X0_signAt : GoodIn wsX1_readTokens wsX0_signAt := goodIn_r _ [12, 8, 13, 43, 44] (by decide +kernel) (by decide +kernel)
set_option maxRecDepth 20000 in
theorem gX1_readTokens_X0_signAt : GoodIn wsX1_readTokens (wsV RX1 48 RX0 yX0_signAt wsX0_signAt) := goodIn_app (goodIn_of _ (by decide +kernel)) ggX1_readTokens_X0_signAt
set_option maxRecDepth 20000 in
theorem ggX1_readTokens_X2_kindOf : GoodIn wsX1_readTokens wsX2_kindOf := goodIn_r _ [16] (by decide +kernel) (by decide +kernel)
set_option maxRecDepth 20000 in
theorem gX1_readTokens_X2_kindOf_n52 : GoodIn wsX1_readTokens (wsX2_kindOf) := ggX1_readTokens_X2_kindOf
set_option maxRecDepth 20000 in
theorem ggX1_readTokens_X1_rowBehind : GoodIn wsX1_readTokens wsX1_rowBehind := goodIn_r _ [20] (by decide +kernel) (by decide +kernel)
set_option maxRecDepth 20000 in
theorem gX1_readTokens_X1_rowBehind : GoodIn wsX1_readTokens (va_wsS RX1 56 yX1_rowBehind wsX1_rowBehind) := goodIn_app (goodIn_of _ (by decide +kernel)) ggX1_readTokens_X1_rowBehind
set_option maxRecDepth 20000 in
theorem ggX1_readTokens_X1_openToken : GoodIn wsX1_readTokens wsX1_openToken := goodIn_r _ [24, 25, 26, 1, 27, 28, 29, 19, 30, 39, 40, 41, 42] (by decide +kernel) (by decide +kernel)
set_option maxRecDepth 20000 in
theorem gX1_readTokens_X1_openToken : GoodIn wsX1_readTokens (wsV RX1 60 RX1 yX1_openToken wsX1_openToken) := goodIn_app (goodIn_of _ (by decide +kernel)) ggX1_readTokens_X1_openToken
set_option maxRecDepth 20000 in
theorem ggX1_readTokens_X1_growToken : GoodIn wsX1_readTokens wsX1_growToken := goodIn_r _ [34, 26, 27, 28, 29, 19, 30, 1, 35, 36, 37, 38, 39, 40, 41, 42] (by decide +kernel) (by decide +kernel)
set_option maxRecDepth 20000 in
theorem gX1_readTokens_X1_growToken : GoodIn wsX1_readTokens (wsV RX1 64 RX1 yX1_growToken wsX1_growToken) := goodIn_app (goodIn_of _ (by decide +kernel)) ggX1_readTokens_X1_growToken
theorem dX1_readTokens_0 : decode cX1_readTokens 0 = .ok (.iconst 0, 1) := by decide +kernel
theorem dX1_readTokens_1 : decode cX1_readTokens 1 = .ok (.istore_n 1, 1) := by decide +kernel
theorem dX1_readTokens_2 : decode cX1_readTokens 2 = .ok (.iload_n 1, 1) := by decide +kernel
theorem dX1_readTokens_3 : decode cX1_readTokens 3 = .ok (.iconst 3, 1) := by decide +kernel
theorem dX1_readTokens_4 : decode cX1_readTokens 4 = .ok (.if_icmp .ge 16, 3) := by decide +kernel
theorem dX1_readTokens_7 : decode cX1_readTokens 7 = .ok (.aload_n 0, 1) := by decide +kernel
theorem dX1_readTokens_8 : decode cX1_readTokens 8 = .ok (.getfield 26, 3) := by decide +kernel
theorem dX1_readTokens_11 : decode cX1_readTokens 11 = .ok (.iload_n 1, 1) := by decide +kernel
theorem dX1_readTokens_12 : decode cX1_readTokens 12 = .ok (.iconst 0, 1) := by decide +kernel
theorem dX1_readTokens_13 : decode cX1_readTokens 13 = .ok (.iastore, 1) := by decide +kernel
theorem dX1_readTokens_14 : decode cX1_readTokens 14 = .ok (.iinc 1 1, 3) := by decide +kernel
theorem dX1_readTokens_17 : decode cX1_readTokens 17 = .ok (.goto (-15), 3) := by decide +kernel
theorem dX1_readTokens_20 : decode cX1_readTokens 20 = .ok (.iconst 0, 1) := by decide +kernel
theorem dX1_readTokens_21 : decode cX1_readTokens 21 = .ok (.istore_n 1, 1) := by decide +kernel
theorem dX1_readTokens_22 : decode cX1_readTokens 22 = .ok (.iconst 0, 1) := by decide +kernel
theorem dX1_readTokens_23 : decode cX1_readTokens 23 = .ok (.istore_n 2, 1) := by decide +kernel
theorem dX1_readTokens_24 : decode cX1_readTokens 24 = .ok (.iconst 0, 1) := by decide +kernel
theorem dX1_readTokens_25 : decode cX1_readTokens 25 = .ok (.istore_n 3, 1) := by decide +kernel
theorem dX1_readTokens_26 : decode cX1_readTokens 26 = .ok (.iload_n 3, 1) := by decide +kernel
theorem dX1_readTokens_27 : decode cX1_readTokens 27 = .ok (.aload_n 0, 1) := by decide +kernel
theorem dX1_readTokens_28 : decode cX1_readTokens 28 = .ok (.getfield 12, 3) := by decide +kernel
theorem dX1_readTokens_31 : decode cX1_readTokens 31 = .ok (.invokevirtual 44, 3) := by decide +kernel
theorem dX1_readTokens_34 : decode cX1_readTokens 34 = .ok (.if_icmp .ge 67, 3) := by decide +kernel
theorem dX1_readTokens_37 : decode cX1_readTokens 37 = .ok (.aload_n 0, 1) := by decide +kernel
theorem dX1_readTokens_38 : decode cX1_readTokens 38 = .ok (.getfield 12, 3) := by decide +kernel
theorem dX1_readTokens_41 : decode cX1_readTokens 41 = .ok (.iload_n 3, 1) := by decide +kernel
theorem dX1_readTokens_42 : decode cX1_readTokens 42 = .ok (.invokevirtual 48, 3) := by decide +kernel
theorem dX1_readTokens_45 : decode cX1_readTokens 45 = .ok (.istore 4, 2) := by decide +kernel
theorem dX1_readTokens_47 : decode cX1_readTokens 47 = .ok (.iload 4, 2) := by decide +kernel
theorem dX1_readTokens_49 : decode cX1_readTokens 49 = .ok (.invokestatic 52, 3) := by decide +kernel
theorem dX1_readTokens_52 : decode cX1_readTokens 52 = .ok (.istore 5, 2) := by decide +kernel
theorem dX1_readTokens_54 : decode cX1_readTokens 54 = .ok (.iload 5, 2) := by decide +kernel
theorem dX1_readTokens_56 : decode cX1_readTokens 56 = .ok (.ifCond .ne 13, 3) := by decide +kernel
theorem dX1_readTokens_59 : decode cX1_readTokens 59 = .ok (.iload_n 1, 1) := by decide +kernel
theorem dX1_readTokens_60 : decode cX1_readTokens 60 = .ok (.iload 4, 2) := by decide +kernel
theorem dX1_readTokens_62 : decode cX1_readTokens 62 = .ok (.invokestatic 56, 3) := by decide +kernel
theorem dX1_readTokens_65 : decode cX1_readTokens 65 = .ok (.istore_n 1, 1) := by decide +kernel
theorem dX1_readTokens_66 : decode cX1_readTokens 66 = .ok (.goto 26, 3) := by decide +kernel
theorem dX1_readTokens_69 : decode cX1_readTokens 69 = .ok (.iload 5, 2) := by decide +kernel
theorem dX1_readTokens_71 : decode cX1_readTokens 71 = .ok (.iload_n 2, 1) := by decide +kernel
theorem dX1_readTokens_72 : decode cX1_readTokens 72 = .ok (.if_icmp .eq 11, 3) := by decide +kernel
theorem dX1_readTokens_75 : decode cX1_readTokens 75 = .ok (.aload_n 0, 1) := by decide +kernel
theorem dX1_readTokens_76 : decode cX1_readTokens 76 = .ok (.iload_n 1, 1) := by decide +kernel
theorem dX1_readTokens_77 : decode cX1_readTokens 77 = .ok (.iload 5, 2) := by decide +kernel
theorem dX1_readTokens_79 : decode cX1_readTokens 79 = .ok (.iload_n 3, 1) := by decide +kernel
theorem dX1_readTokens_80 : decode cX1_readTokens 80 = .ok (.invokevirtual 60, 3) := by decide +kernel
theorem dX1_readTokens_83 : decode cX1_readTokens 83 = .ok (.aload_n 0, 1) := by decide +kernel
theorem dX1_readTokens_84 : decode cX1_readTokens 84 = .ok (.iload_n 1, 1) := by decide +kernel
theorem dX1_readTokens_85 : decode cX1_readTokens 85 = .ok (.iload 5, 2) := by decide +kernel
theorem dX1_readTokens_87 : decode cX1_readTokens 87 = .ok (.iload 4, 2) := by decide +kernel
theorem dX1_readTokens_89 : decode cX1_readTokens 89 = .ok (.invokevirtual 64, 3) := by decide +kernel
theorem dX1_readTokens_92 : decode cX1_readTokens 92 = .ok (.iload 5, 2) := by decide +kernel
theorem dX1_readTokens_94 : decode cX1_readTokens 94 = .ok (.istore_n 2, 1) := by decide +kernel
theorem dX1_readTokens_95 : decode cX1_readTokens 95 = .ok (.iinc 3 1, 3) := by decide +kernel
theorem dX1_readTokens_98 : decode cX1_readTokens 98 = .ok (.goto (-72), 3) := by decide +kernel
theorem dX1_readTokens_101 : decode cX1_readTokens 101 = .ok (.return_, 1) := by decide +kernel
theorem dX1_rowBehind_0 : decode cX1_rowBehind 0 = .ok (.iload_n 0, 1) := by decide +kernel
theorem dX1_rowBehind_1 : decode cX1_rowBehind 1 = .ok (.ifCond .ne 11, 3) := by decide +kernel
theorem dX1_rowBehind_4 : decode cX1_rowBehind 4 = .ok (.iload_n 1, 1) := by decide +kernel
theorem dX1_rowBehind_5 : decode cX1_rowBehind 5 = .ok (.bipush 45, 2) := by decide +kernel
theorem dX1_rowBehind_7 : decode cX1_rowBehind 7 = .ok (.if_icmp .ne 5, 3) := by decide +kernel
theorem dX1_rowBehind_10 : decode cX1_rowBehind 10 = .ok (.iconst 1, 1) := by decide +kernel
theorem dX1_rowBehind_11 : decode cX1_rowBehind 11 = .ok (.ireturn, 1) := by decide +kernel
theorem dX1_rowBehind_12 : decode cX1_rowBehind 12 = .ok (.iload_n 0, 1) := by decide +kernel
theorem dX1_rowBehind_13 : decode cX1_rowBehind 13 = .ok (.iconst 1, 1) := by decide +kernel
theorem dX1_rowBehind_14 : decode cX1_rowBehind 14 = .ok (.if_icmp .ne 11, 3) := by decide +kernel
theorem dX1_rowBehind_17 : decode cX1_rowBehind 17 = .ok (.iload_n 1, 1) := by decide +kernel
theorem dX1_rowBehind_18 : decode cX1_rowBehind 18 = .ok (.bipush 43, 2) := by decide +kernel
theorem dX1_rowBehind_20 : decode cX1_rowBehind 20 = .ok (.if_icmp .ne 5, 3) := by decide +kernel
theorem dX1_rowBehind_23 : decode cX1_rowBehind 23 = .ok (.iconst 2, 1) := by decide +kernel
theorem dX1_rowBehind_24 : decode cX1_rowBehind 24 = .ok (.ireturn, 1) := by decide +kernel
theorem dX1_rowBehind_25 : decode cX1_rowBehind 25 = .ok (.iload_n 0, 1) := by decide +kernel
theorem dX1_rowBehind_26 : decode cX1_rowBehind 26 = .ok (.ireturn, 1) := by decide +kernel
set_option maxRecDepth 20000 in
theorem ggX1_openToken_X1_tokensIn : GoodIn wsX1_openToken wsX1_tokensIn := goodIn_r _ [8, 3, 9, 10, 11, 12] (by decide +kernel) (by decide +kernel)
set_option maxRecDepth 20000 in
theorem gX1_openToken_X1_tokensIn : GoodIn wsX1_openToken (wsV RX1 68 RX1 yX1_tokensIn wsX1_tokensIn) := goodIn_app (goodIn_of _ (by decide +kernel)) ggX1_openToken_X1_tokensIn
theorem dX1_openToken_0 : decode cX1_openToken 0 = .ok (.aload_n 0, 1) := by decide +kernel
theorem dX1_openToken_1 : decode cX1_openToken 1 = .ok (.iload_n 1, 1) := by decide +kernel
theorem dX1_openToken_2 : decode cX1_openToken 2 = .ok (.invokevirtual 68, 3) := by decide +kernel
theorem dX1_openToken_5 : decode cX1_openToken 5 = .ok (.istore 4, 2) := by decide +kernel
theorem dX1_openToken_7 : decode cX1_openToken 7 = .ok (.iload_n 1, 1) := by decide +kernel
theorem dX1_openToken_8 : decode cX1_openToken 8 = .ok (.ifCond .lt 54, 3) := by decide +kernel
theorem dX1_openToken_11 : decode cX1_openToken 11 = .ok (.iload_n 1, 1) := by decide +kernel
theorem dX1_openToken_12 : decode cX1_openToken 12 = .ok (.iconst 3, 1) := by decide +kernel
theorem dX1_openToken_13 : decode cX1_openToken 13 = .ok (.if_icmp .ge 49, 3) := by decide +kernel
theorem dX1_openToken_16 : decode cX1_openToken 16 = .ok (.iload 4, 2) := by decide +kernel
theorem dX1_openToken_18 : decode cX1_openToken 18 = .ok (.bipush 60, 2) := by decide +kernel
theorem dX1_openToken_20 : decode cX1_openToken 20 = .ok (.if_icmp .ge 42, 3) := by decide +kernel
theorem dX1_openToken_23 : decode cX1_openToken 23 = .ok (.aload_n 0, 1) := by decide +kernel
theorem dX1_openToken_24 : decode cX1_openToken 24 = .ok (.getfield 20, 3) := by decide +kernel
theorem dX1_openToken_27 : decode cX1_openToken 27 = .ok (.iload_n 1, 1) := by decide +kernel
theorem dX1_openToken_28 : decode cX1_openToken 28 = .ok (.aaload, 1) := by decide +kernel
theorem dX1_openToken_29 : decode cX1_openToken 29 = .ok (.iload 4, 2) := by decide +kernel
theorem dX1_openToken_31 : decode cX1_openToken 31 = .ok (.iload_n 3, 1) := by decide +kernel
theorem dX1_openToken_32 : decode cX1_openToken 32 = .ok (.iastore, 1) := by decide +kernel
theorem dX1_openToken_33 : decode cX1_openToken 33 = .ok (.aload_n 0, 1) := by decide +kernel
theorem dX1_openToken_34 : decode cX1_openToken 34 = .ok (.getfield 23, 3) := by decide +kernel
theorem dX1_openToken_37 : decode cX1_openToken 37 = .ok (.iload_n 1, 1) := by decide +kernel
theorem dX1_openToken_38 : decode cX1_openToken 38 = .ok (.aaload, 1) := by decide +kernel
theorem dX1_openToken_39 : decode cX1_openToken 39 = .ok (.iload 4, 2) := by decide +kernel
theorem dX1_openToken_41 : decode cX1_openToken 41 = .ok (.iload_n 2, 1) := by decide +kernel
theorem dX1_openToken_42 : decode cX1_openToken 42 = .ok (.iconst 1, 1) := by decide +kernel
theorem dX1_openToken_43 : decode cX1_openToken 43 = .ok (.if_icmp .ne 7, 3) := by decide +kernel
theorem dX1_openToken_46 : decode cX1_openToken 46 = .ok (.iconst 0, 1) := by decide +kernel
theorem dX1_openToken_47 : decode cX1_openToken 47 = .ok (.goto 4, 3) := by decide +kernel
theorem dX1_openToken_50 : decode cX1_openToken 50 = .ok (.iconst (-1), 1) := by decide +kernel
theorem dX1_openToken_51 : decode cX1_openToken 51 = .ok (.iastore, 1) := by decide +kernel
theorem dX1_openToken_52 : decode cX1_openToken 52 = .ok (.aload_n 0, 1) := by decide +kernel
theorem dX1_openToken_53 : decode cX1_openToken 53 = .ok (.getfield 26, 3) := by decide +kernel
theorem dX1_openToken_56 : decode cX1_openToken 56 = .ok (.iload_n 1, 1) := by decide +kernel
theorem dX1_openToken_57 : decode cX1_openToken 57 = .ok (.dup2, 1) := by decide +kernel
theorem dX1_openToken_58 : decode cX1_openToken 58 = .ok (.iaload, 1) := by decide +kernel
theorem dX1_openToken_59 : decode cX1_openToken 59 = .ok (.iconst 1, 1) := by decide +kernel
theorem dX1_openToken_60 : decode cX1_openToken 60 = .ok (.iadd, 1) := by decide +kernel
theorem dX1_openToken_61 : decode cX1_openToken 61 = .ok (.iastore, 1) := by decide +kernel
theorem dX1_openToken_62 : decode cX1_openToken 62 = .ok (.return_, 1) := by decide +kernel
set_option maxRecDepth 20000 in
theorem ggX1_growToken_X1_tokensIn : GoodIn wsX1_growToken wsX1_tokensIn := goodIn_r _ [6, 7, 12, 13, 14, 15] (by decide +kernel) (by decide +kernel)
set_option maxRecDepth 20000 in
theorem gX1_growToken_X1_tokensIn : GoodIn wsX1_growToken (wsV RX1 68 RX1 yX1_tokensIn wsX1_tokensIn) := goodIn_app (goodIn_of _ (by decide +kernel)) ggX1_growToken_X1_tokensIn
set_option maxRecDepth 20000 in
theorem ggX1_growToken_X1_hasToken : GoodIn wsX1_growToken wsX1_hasToken := goodIn_r _ [11, 7, 12, 13, 14, 15] (by decide +kernel) (by decide +kernel)
set_option maxRecDepth 20000 in
theorem gX1_growToken_X1_hasToken : GoodIn wsX1_growToken (wsV RX1 72 RX1 yX1_hasToken wsX1_hasToken) := goodIn_app (goodIn_of _ (by decide +kernel)) ggX1_growToken_X1_hasToken
theorem dX1_growToken_0 : decode cX1_growToken 0 = .ok (.aload_n 0, 1) := by decide +kernel
theorem dX1_growToken_1 : decode cX1_growToken 1 = .ok (.iload_n 1, 1) := by decide +kernel
theorem dX1_growToken_2 : decode cX1_growToken 2 = .ok (.invokevirtual 68, 3) := by decide +kernel
theorem dX1_growToken_5 : decode cX1_growToken 5 = .ok (.iconst 1, 1) := by decide +kernel
theorem dX1_growToken_6 : decode cX1_growToken 6 = .ok (.isub, 1) := by decide +kernel
theorem dX1_growToken_7 : decode cX1_growToken 7 = .ok (.istore 4, 2) := by decide +kernel
theorem dX1_growToken_9 : decode cX1_growToken 9 = .ok (.aload_n 0, 1) := by decide +kernel
theorem dX1_growToken_10 : decode cX1_growToken 10 = .ok (.iload_n 1, 1) := by decide +kernel
theorem dX1_growToken_11 : decode cX1_growToken 11 = .ok (.iload 4, 2) := by decide +kernel
theorem dX1_growToken_13 : decode cX1_growToken 13 = .ok (.invokevirtual 72, 3) := by decide +kernel
theorem dX1_growToken_16 : decode cX1_growToken 16 = .ok (.ifCond .eq 45, 3) := by decide +kernel
theorem dX1_growToken_19 : decode cX1_growToken 19 = .ok (.aload_n 0, 1) := by decide +kernel
theorem dX1_growToken_20 : decode cX1_growToken 20 = .ok (.getfield 23, 3) := by decide +kernel
theorem dX1_growToken_23 : decode cX1_growToken 23 = .ok (.iload_n 1, 1) := by decide +kernel
theorem dX1_growToken_24 : decode cX1_growToken 24 = .ok (.aaload, 1) := by decide +kernel
theorem dX1_growToken_25 : decode cX1_growToken 25 = .ok (.iload 4, 2) := by decide +kernel
theorem dX1_growToken_27 : decode cX1_growToken 27 = .ok (.iaload, 1) := by decide +kernel
theorem dX1_growToken_28 : decode cX1_growToken 28 = .ok (.istore 5, 2) := by decide +kernel
theorem dX1_growToken_30 : decode cX1_growToken 30 = .ok (.aload_n 0, 1) := by decide +kernel
theorem dX1_growToken_31 : decode cX1_growToken 31 = .ok (.getfield 23, 3) := by decide +kernel
theorem dX1_growToken_34 : decode cX1_growToken 34 = .ok (.iload_n 1, 1) := by decide +kernel
theorem dX1_growToken_35 : decode cX1_growToken 35 = .ok (.aaload, 1) := by decide +kernel
theorem dX1_growToken_36 : decode cX1_growToken 36 = .ok (.iload 4, 2) := by decide +kernel
theorem dX1_growToken_38 : decode cX1_growToken 38 = .ok (.iload_n 2, 1) := by decide +kernel
theorem dX1_growToken_39 : decode cX1_growToken 39 = .ok (.iconst 1, 1) := by decide +kernel
theorem dX1_growToken_40 : decode cX1_growToken 40 = .ok (.if_icmp .ne 16, 3) := by decide +kernel
theorem dX1_growToken_43 : decode cX1_growToken 43 = .ok (.bipush 10, 2) := by decide +kernel
theorem dX1_growToken_45 : decode cX1_growToken 45 = .ok (.iload 5, 2) := by decide +kernel
theorem dX1_growToken_47 : decode cX1_growToken 47 = .ok (.imul, 1) := by decide +kernel
theorem dX1_growToken_48 : decode cX1_growToken 48 = .ok (.iload_n 3, 1) := by decide +kernel
theorem dX1_growToken_49 : decode cX1_growToken 49 = .ok (.bipush 48, 2) := by decide +kernel
theorem dX1_growToken_51 : decode cX1_growToken 51 = .ok (.isub, 1) := by decide +kernel
theorem dX1_growToken_52 : decode cX1_growToken 52 = .ok (.iadd, 1) := by decide +kernel
theorem dX1_growToken_53 : decode cX1_growToken 53 = .ok (.goto 7, 3) := by decide +kernel
theorem dX1_growToken_56 : decode cX1_growToken 56 = .ok (.iload 5, 2) := by decide +kernel
theorem dX1_growToken_58 : decode cX1_growToken 58 = .ok (.iconst 1, 1) := by decide +kernel
theorem dX1_growToken_59 : decode cX1_growToken 59 = .ok (.isub, 1) := by decide +kernel
theorem dX1_growToken_60 : decode cX1_growToken 60 = .ok (.iastore, 1) := by decide +kernel
theorem dX1_growToken_61 : decode cX1_growToken 61 = .ok (.return_, 1) := by decide +kernel
theorem dX1_tokensIn_0 : decode cX1_tokensIn 0 = .ok (.iload_n 1, 1) := by decide +kernel
theorem dX1_tokensIn_1 : decode cX1_tokensIn 1 = .ok (.ifCond .lt 17, 3) := by decide +kernel
theorem dX1_tokensIn_4 : decode cX1_tokensIn 4 = .ok (.iload_n 1, 1) := by decide +kernel
theorem dX1_tokensIn_5 : decode cX1_tokensIn 5 = .ok (.iconst 3, 1) := by decide +kernel
theorem dX1_tokensIn_6 : decode cX1_tokensIn 6 = .ok (.if_icmp .ge 12, 3) := by decide +kernel
theorem dX1_tokensIn_9 : decode cX1_tokensIn 9 = .ok (.aload_n 0, 1) := by decide +kernel
theorem dX1_tokensIn_10 : decode cX1_tokensIn 10 = .ok (.getfield 26, 3) := by decide +kernel
theorem dX1_tokensIn_13 : decode cX1_tokensIn 13 = .ok (.iload_n 1, 1) := by decide +kernel
theorem dX1_tokensIn_14 : decode cX1_tokensIn 14 = .ok (.iaload, 1) := by decide +kernel
theorem dX1_tokensIn_15 : decode cX1_tokensIn 15 = .ok (.goto 4, 3) := by decide +kernel
theorem dX1_tokensIn_18 : decode cX1_tokensIn 18 = .ok (.iconst 0, 1) := by decide +kernel
theorem dX1_tokensIn_19 : decode cX1_tokensIn 19 = .ok (.ireturn, 1) := by decide +kernel
set_option maxRecDepth 20000 in
theorem ggX1_hasRow_X1_tokensIn : GoodIn wsX1_hasRow wsX1_tokensIn := goodIn_r _ [5, 6, 7, 8, 9, 10] (by decide +kernel) (by decide +kernel)
set_option maxRecDepth 20000 in
theorem gX1_hasRow_X1_tokensIn : GoodIn wsX1_hasRow (wsV RX1 68 RX1 yX1_tokensIn wsX1_tokensIn) := goodIn_app (goodIn_of _ (by decide +kernel)) ggX1_hasRow_X1_tokensIn
theorem dX1_hasRow_0 : decode cX1_hasRow 0 = .ok (.aload_n 0, 1) := by decide +kernel
theorem dX1_hasRow_1 : decode cX1_hasRow 1 = .ok (.iload_n 1, 1) := by decide +kernel
theorem dX1_hasRow_2 : decode cX1_hasRow 2 = .ok (.invokevirtual 68, 3) := by decide +kernel
theorem dX1_hasRow_5 : decode cX1_hasRow 5 = .ok (.ifCond .le 7, 3) := by decide +kernel
theorem dX1_hasRow_8 : decode cX1_hasRow 8 = .ok (.iconst 1, 1) := by decide +kernel
theorem dX1_hasRow_9 : decode cX1_hasRow 9 = .ok (.goto 4, 3) := by decide +kernel
theorem dX1_hasRow_12 : decode cX1_hasRow 12 = .ok (.iconst 0, 1) := by decide +kernel
theorem dX1_hasRow_13 : decode cX1_hasRow 13 = .ok (.ireturn, 1) := by decide +kernel
theorem dX1_hasToken_0 : decode cX1_hasToken 0 = .ok (.iload_n 1, 1) := by decide +kernel
theorem dX1_hasToken_1 : decode cX1_hasToken 1 = .ok (.ifCond .lt 26, 3) := by decide +kernel
theorem dX1_hasToken_4 : decode cX1_hasToken 4 = .ok (.iload_n 1, 1) := by decide +kernel
theorem dX1_hasToken_5 : decode cX1_hasToken 5 = .ok (.iconst 3, 1) := by decide +kernel
theorem dX1_hasToken_6 : decode cX1_hasToken 6 = .ok (.if_icmp .ge 21, 3) := by decide +kernel
theorem dX1_hasToken_9 : decode cX1_hasToken 9 = .ok (.iload_n 2, 1) := by decide +kernel
theorem dX1_hasToken_10 : decode cX1_hasToken 10 = .ok (.ifCond .lt 17, 3) := by decide +kernel
theorem dX1_hasToken_13 : decode cX1_hasToken 13 = .ok (.iload_n 2, 1) := by decide +kernel
theorem dX1_hasToken_14 : decode cX1_hasToken 14 = .ok (.aload_n 0, 1) := by decide +kernel
theorem dX1_hasToken_15 : decode cX1_hasToken 15 = .ok (.getfield 26, 3) := by decide +kernel
theorem dX1_hasToken_18 : decode cX1_hasToken 18 = .ok (.iload_n 1, 1) := by decide +kernel
theorem dX1_hasToken_19 : decode cX1_hasToken 19 = .ok (.iaload, 1) := by decide +kernel
theorem dX1_hasToken_20 : decode cX1_hasToken 20 = .ok (.if_icmp .ge 7, 3) := by decide +kernel
theorem dX1_hasToken_23 : decode cX1_hasToken 23 = .ok (.iconst 1, 1) := by decide +kernel
theorem dX1_hasToken_24 : decode cX1_hasToken 24 = .ok (.goto 4, 3) := by decide +kernel
theorem dX1_hasToken_27 : decode cX1_hasToken 27 = .ok (.iconst 0, 1) := by decide +kernel
theorem dX1_hasToken_28 : decode cX1_hasToken 28 = .ok (.ireturn, 1) := by decide +kernel
theorem dX1_allTokens_0 : decode cX1_allTokens 0 = .ok (.iconst 0, 1) := by decide +kernel
theorem dX1_allTokens_1 : decode cX1_allTokens 1 = .ok (.istore_n 1, 1) := by decide +kernel
theorem dX1_allTokens_2 : decode cX1_allTokens 2 = .ok (.iconst 0, 1) := by decide +kernel
theorem dX1_allTokens_3 : decode cX1_allTokens 3 = .ok (.istore_n 2, 1) := by decide +kernel
theorem dX1_allTokens_4 : decode cX1_allTokens 4 = .ok (.iload_n 2, 1) := by decide +kernel
theorem dX1_allTokens_5 : decode cX1_allTokens 5 = .ok (.iconst 3, 1) := by decide +kernel
theorem dX1_allTokens_6 : decode cX1_allTokens 6 = .ok (.if_icmp .ge 18, 3) := by decide +kernel
theorem dX1_allTokens_9 : decode cX1_allTokens 9 = .ok (.iload_n 1, 1) := by decide +kernel
theorem dX1_allTokens_10 : decode cX1_allTokens 10 = .ok (.aload_n 0, 1) := by decide +kernel
theorem dX1_allTokens_11 : decode cX1_allTokens 11 = .ok (.getfield 26, 3) := by decide +kernel
theorem dX1_allTokens_14 : decode cX1_allTokens 14 = .ok (.iload_n 2, 1) := by decide +kernel
theorem dX1_allTokens_15 : decode cX1_allTokens 15 = .ok (.iaload, 1) := by decide +kernel
theorem dX1_allTokens_16 : decode cX1_allTokens 16 = .ok (.iadd, 1) := by decide +kernel
theorem dX1_allTokens_17 : decode cX1_allTokens 17 = .ok (.istore_n 1, 1) := by decide +kernel
theorem dX1_allTokens_18 : decode cX1_allTokens 18 = .ok (.iinc 2 1, 3) := by decide +kernel
theorem dX1_allTokens_21 : decode cX1_allTokens 21 = .ok (.goto (-17), 3) := by decide +kernel
theorem dX1_allTokens_24 : decode cX1_allTokens 24 = .ok (.iload_n 1, 1) := by decide +kernel
theorem dX1_allTokens_25 : decode cX1_allTokens 25 = .ok (.ireturn, 1) := by decide +kernel
theorem dX1_words_0 : decode cX1_words 0 = .ok (.iconst 0, 1) := by decide +kernel
theorem dX1_words_1 : decode cX1_words 1 = .ok (.istore_n 1, 1) := by decide +kernel
theorem dX1_words_2 : decode cX1_words 2 = .ok (.iconst 0, 1) := by decide +kernel
theorem dX1_words_3 : decode cX1_words 3 = .ok (.istore_n 2, 1) := by decide +kernel
theorem dX1_words_4 : decode cX1_words 4 = .ok (.iload_n 2, 1) := by decide +kernel
theorem dX1_words_5 : decode cX1_words 5 = .ok (.iconst 3, 1) := by decide +kernel
theorem dX1_words_6 : decode cX1_words 6 = .ok (.if_icmp .ge 41, 3) := by decide +kernel
theorem dX1_words_9 : decode cX1_words 9 = .ok (.iconst 0, 1) := by decide +kernel
theorem dX1_words_10 : decode cX1_words 10 = .ok (.istore_n 3, 1) := by decide +kernel
theorem dX1_words_11 : decode cX1_words 11 = .ok (.iload_n 3, 1) := by decide +kernel
theorem dX1_words_12 : decode cX1_words 12 = .ok (.aload_n 0, 1) := by decide +kernel
theorem dX1_words_13 : decode cX1_words 13 = .ok (.getfield 26, 3) := by decide +kernel
theorem dX1_words_16 : decode cX1_words 16 = .ok (.iload_n 2, 1) := by decide +kernel
theorem dX1_words_17 : decode cX1_words 17 = .ok (.iaload, 1) := by decide +kernel
theorem dX1_words_18 : decode cX1_words 18 = .ok (.if_icmp .ge 23, 3) := by decide +kernel
theorem dX1_words_21 : decode cX1_words 21 = .ok (.aload_n 0, 1) := by decide +kernel
theorem dX1_words_22 : decode cX1_words 22 = .ok (.getfield 23, 3) := by decide +kernel
theorem dX1_words_25 : decode cX1_words 25 = .ok (.iload_n 2, 1) := by decide +kernel
theorem dX1_words_26 : decode cX1_words 26 = .ok (.aaload, 1) := by decide +kernel
theorem dX1_words_27 : decode cX1_words 27 = .ok (.iload_n 3, 1) := by decide +kernel
theorem dX1_words_28 : decode cX1_words 28 = .ok (.iaload, 1) := by decide +kernel
theorem dX1_words_29 : decode cX1_words 29 = .ok (.ifCond .ge 6, 3) := by decide +kernel
theorem dX1_words_32 : decode cX1_words 32 = .ok (.iinc 1 1, 3) := by decide +kernel
theorem dX1_words_35 : decode cX1_words 35 = .ok (.iinc 3 1, 3) := by decide +kernel
theorem dX1_words_38 : decode cX1_words 38 = .ok (.goto (-27), 3) := by decide +kernel
theorem dX1_words_41 : decode cX1_words 41 = .ok (.iinc 2 1, 3) := by decide +kernel
theorem dX1_words_44 : decode cX1_words 44 = .ok (.goto (-40), 3) := by decide +kernel
theorem dX1_words_47 : decode cX1_words 47 = .ok (.iload_n 1, 1) := by decide +kernel
theorem dX1_words_48 : decode cX1_words 48 = .ok (.ireturn, 1) := by decide +kernel
set_option maxRecDepth 20000 in
theorem ggX1_sizeAt_X1_hasToken : GoodIn wsX1_sizeAt wsX1_hasToken := goodIn_r _ [6, 7, 8, 9, 10, 11] (by decide +kernel) (by decide +kernel)
set_option maxRecDepth 20000 in
theorem gX1_sizeAt_X1_hasToken : GoodIn wsX1_sizeAt (wsV RX1 72 RX1 yX1_hasToken wsX1_hasToken) := goodIn_app (goodIn_of _ (by decide +kernel)) ggX1_sizeAt_X1_hasToken
theorem dX1_sizeAt_0 : decode cX1_sizeAt 0 = .ok (.aload_n 0, 1) := by decide +kernel
theorem dX1_sizeAt_1 : decode cX1_sizeAt 1 = .ok (.iload_n 1, 1) := by decide +kernel
theorem dX1_sizeAt_2 : decode cX1_sizeAt 2 = .ok (.iload_n 2, 1) := by decide +kernel
theorem dX1_sizeAt_3 : decode cX1_sizeAt 3 = .ok (.invokevirtual 72, 3) := by decide +kernel
theorem dX1_sizeAt_6 : decode cX1_sizeAt 6 = .ok (.ifCond .eq 14, 3) := by decide +kernel
theorem dX1_sizeAt_9 : decode cX1_sizeAt 9 = .ok (.aload_n 0, 1) := by decide +kernel
theorem dX1_sizeAt_10 : decode cX1_sizeAt 10 = .ok (.getfield 23, 3) := by decide +kernel
theorem dX1_sizeAt_13 : decode cX1_sizeAt 13 = .ok (.iload_n 1, 1) := by decide +kernel
theorem dX1_sizeAt_14 : decode cX1_sizeAt 14 = .ok (.aaload, 1) := by decide +kernel
theorem dX1_sizeAt_15 : decode cX1_sizeAt 15 = .ok (.iload_n 2, 1) := by decide +kernel
theorem dX1_sizeAt_16 : decode cX1_sizeAt 16 = .ok (.iaload, 1) := by decide +kernel
theorem dX1_sizeAt_17 : decode cX1_sizeAt 17 = .ok (.goto 4, 3) := by decide +kernel
theorem dX1_sizeAt_20 : decode cX1_sizeAt 20 = .ok (.iconst 0, 1) := by decide +kernel
theorem dX1_sizeAt_21 : decode cX1_sizeAt 21 = .ok (.ireturn, 1) := by decide +kernel
set_option maxRecDepth 20000 in
theorem ggX1_startAt_X1_hasToken : GoodIn wsX1_startAt wsX1_hasToken := goodIn_r _ [6, 7, 8, 9, 10, 11] (by decide +kernel) (by decide +kernel)
set_option maxRecDepth 20000 in
theorem gX1_startAt_X1_hasToken : GoodIn wsX1_startAt (wsV RX1 72 RX1 yX1_hasToken wsX1_hasToken) := goodIn_app (goodIn_of _ (by decide +kernel)) ggX1_startAt_X1_hasToken
theorem dX1_startAt_0 : decode cX1_startAt 0 = .ok (.aload_n 0, 1) := by decide +kernel
theorem dX1_startAt_1 : decode cX1_startAt 1 = .ok (.iload_n 1, 1) := by decide +kernel
theorem dX1_startAt_2 : decode cX1_startAt 2 = .ok (.iload_n 2, 1) := by decide +kernel
theorem dX1_startAt_3 : decode cX1_startAt 3 = .ok (.invokevirtual 72, 3) := by decide +kernel
theorem dX1_startAt_6 : decode cX1_startAt 6 = .ok (.ifCond .eq 14, 3) := by decide +kernel
theorem dX1_startAt_9 : decode cX1_startAt 9 = .ok (.aload_n 0, 1) := by decide +kernel
theorem dX1_startAt_10 : decode cX1_startAt 10 = .ok (.getfield 20, 3) := by decide +kernel
theorem dX1_startAt_13 : decode cX1_startAt 13 = .ok (.iload_n 1, 1) := by decide +kernel
theorem dX1_startAt_14 : decode cX1_startAt 14 = .ok (.aaload, 1) := by decide +kernel
theorem dX1_startAt_15 : decode cX1_startAt 15 = .ok (.iload_n 2, 1) := by decide +kernel
theorem dX1_startAt_16 : decode cX1_startAt 16 = .ok (.iaload, 1) := by decide +kernel
theorem dX1_startAt_17 : decode cX1_startAt 17 = .ok (.goto 4, 3) := by decide +kernel
theorem dX1_startAt_20 : decode cX1_startAt 20 = .ok (.iconst 0, 1) := by decide +kernel
theorem dX1_startAt_21 : decode cX1_startAt 21 = .ok (.ireturn, 1) := by decide +kernel
set_option maxRecDepth 20000 in
theorem ggX1_orderTo_X1_orderOfRow : GoodIn wsX1_orderTo wsX1_orderOfRow := goodIn_r _ [5, 6, 7, 8, 9, 10, 11, 12, 4, 13, 14, 15, 16, 17, 18, 19, 20, 21, 22, 23, 24, 25, 26, 27, 28, 29, 30, 31, 32, 33, 34, 35, 36, 37, 38, 39, 40, 41, 42, 43, 44, 45, 46, 47, 48, 49, 50, 51, 52, 53, 54, 55, 56] (by decide +kernel) (by decide +kernel)
set_option maxRecDepth 20000 in
theorem gX1_orderTo_X1_orderOfRow : GoodIn wsX1_orderTo (wsV RX1 76 RX1 yX1_orderOfRow wsX1_orderOfRow) := goodIn_app (goodIn_of _ (by decide +kernel)) ggX1_orderTo_X1_orderOfRow
theorem dX1_orderTo_0 : decode cX1_orderTo 0 = .ok (.iconst 0, 1) := by decide +kernel
theorem dX1_orderTo_1 : decode cX1_orderTo 1 = .ok (.istore_n 2, 1) := by decide +kernel
theorem dX1_orderTo_2 : decode cX1_orderTo 2 = .ok (.iload_n 2, 1) := by decide +kernel
theorem dX1_orderTo_3 : decode cX1_orderTo 3 = .ok (.iconst 3, 1) := by decide +kernel
theorem dX1_orderTo_4 : decode cX1_orderTo 4 = .ok (.if_icmp .ge 22, 3) := by decide +kernel
theorem dX1_orderTo_7 : decode cX1_orderTo 7 = .ok (.aload_n 0, 1) := by decide +kernel
theorem dX1_orderTo_8 : decode cX1_orderTo 8 = .ok (.iload_n 2, 1) := by decide +kernel
theorem dX1_orderTo_9 : decode cX1_orderTo 9 = .ok (.aload_n 1, 1) := by decide +kernel
theorem dX1_orderTo_10 : decode cX1_orderTo 10 = .ok (.invokevirtual 76, 3) := by decide +kernel
theorem dX1_orderTo_13 : decode cX1_orderTo 13 = .ok (.istore_n 3, 1) := by decide +kernel
theorem dX1_orderTo_14 : decode cX1_orderTo 14 = .ok (.iload_n 3, 1) := by decide +kernel
theorem dX1_orderTo_15 : decode cX1_orderTo 15 = .ok (.ifCond .eq 5, 3) := by decide +kernel
theorem dX1_orderTo_18 : decode cX1_orderTo 18 = .ok (.iload_n 3, 1) := by decide +kernel
theorem dX1_orderTo_19 : decode cX1_orderTo 19 = .ok (.ireturn, 1) := by decide +kernel
theorem dX1_orderTo_20 : decode cX1_orderTo 20 = .ok (.iinc 2 1, 3) := by decide +kernel
theorem dX1_orderTo_23 : decode cX1_orderTo 23 = .ok (.goto (-21), 3) := by decide +kernel
theorem dX1_orderTo_26 : decode cX1_orderTo 26 = .ok (.iconst 0, 1) := by decide +kernel
theorem dX1_orderTo_27 : decode cX1_orderTo 27 = .ok (.ireturn, 1) := by decide +kernel
set_option maxRecDepth 20000 in
theorem ggX1_tellingRow_X1_orderOfRow : GoodIn wsX1_tellingRow wsX1_orderOfRow := goodIn_r _ [5, 6, 7, 8, 9, 10, 11, 12, 4, 13, 14, 15, 16, 17, 18, 19, 20, 21, 22, 23, 24, 25, 26, 27, 28, 29, 30, 31, 32, 33, 34, 35, 36, 37, 38, 39, 40, 41, 42, 43, 44, 45, 46, 47, 48, 49, 50, 51, 52, 53, 54, 55, 56] (by decide +kernel) (by decide +kernel)
set_option maxRecDepth 20000 in
theorem gX1_tellingRow_X1_orderOfRow : GoodIn wsX1_tellingRow (wsV RX1 76 RX1 yX1_orderOfRow wsX1_orderOfRow) := goodIn_app (goodIn_of _ (by decide +kernel)) ggX1_tellingRow_X1_orderOfRow
theorem dX1_tellingRow_0 : decode cX1_tellingRow 0 = .ok (.iconst 0, 1) := by decide +kernel
theorem dX1_tellingRow_1 : decode cX1_tellingRow 1 = .ok (.istore_n 2, 1) := by decide +kernel
theorem dX1_tellingRow_2 : decode cX1_tellingRow 2 = .ok (.iload_n 2, 1) := by decide +kernel
theorem dX1_tellingRow_3 : decode cX1_tellingRow 3 = .ok (.iconst 3, 1) := by decide +kernel
theorem dX1_tellingRow_4 : decode cX1_tellingRow 4 = .ok (.if_icmp .ge 20, 3) := by decide +kernel
theorem dX1_tellingRow_7 : decode cX1_tellingRow 7 = .ok (.aload_n 0, 1) := by decide +kernel
theorem dX1_tellingRow_8 : decode cX1_tellingRow 8 = .ok (.iload_n 2, 1) := by decide +kernel
theorem dX1_tellingRow_9 : decode cX1_tellingRow 9 = .ok (.aload_n 1, 1) := by decide +kernel
theorem dX1_tellingRow_10 : decode cX1_tellingRow 10 = .ok (.invokevirtual 76, 3) := by decide +kernel
theorem dX1_tellingRow_13 : decode cX1_tellingRow 13 = .ok (.ifCond .eq 5, 3) := by decide +kernel
theorem dX1_tellingRow_16 : decode cX1_tellingRow 16 = .ok (.iload_n 2, 1) := by decide +kernel
theorem dX1_tellingRow_17 : decode cX1_tellingRow 17 = .ok (.ireturn, 1) := by decide +kernel
theorem dX1_tellingRow_18 : decode cX1_tellingRow 18 = .ok (.iinc 2 1, 3) := by decide +kernel
theorem dX1_tellingRow_21 : decode cX1_tellingRow 21 = .ok (.goto (-19), 3) := by decide +kernel
theorem dX1_tellingRow_24 : decode cX1_tellingRow 24 = .ok (.iconst (-1), 1) := by decide +kernel
theorem dX1_tellingRow_25 : decode cX1_tellingRow 25 = .ok (.ireturn, 1) := by decide +kernel
set_option maxRecDepth 20000 in
theorem ggX1_orderOfRow_X1_hasRow : GoodIn wsX1_orderOfRow wsX1_hasRow := goodIn_r _ [9, 10, 11, 12, 8, 13, 14, 47, 48, 49, 50] (by decide +kernel) (by decide +kernel)
set_option maxRecDepth 20000 in
theorem gX1_orderOfRow_X1_hasRow : GoodIn wsX1_orderOfRow (wsV RX1 80 RX1 yX1_hasRow wsX1_hasRow) := goodIn_app (goodIn_of _ (by decide +kernel)) ggX1_orderOfRow_X1_hasRow
set_option maxRecDepth 20000 in
theorem ggX1_orderOfRow_X1_tokensIn : GoodIn wsX1_orderOfRow wsX1_tokensIn := goodIn_r _ [13, 14, 47, 48, 49, 50] (by decide +kernel) (by decide +kernel)
set_option maxRecDepth 20000 in
theorem gX1_orderOfRow_X1_tokensIn : GoodIn wsX1_orderOfRow (wsV RX1 68 RX1 yX1_tokensIn wsX1_tokensIn) := goodIn_app (goodIn_of _ (by decide +kernel)) ggX1_orderOfRow_X1_tokensIn
set_option maxRecDepth 20000 in
theorem ggX1_orderOfRow_X1_sizeAt : GoodIn wsX1_orderOfRow wsX1_sizeAt := goodIn_r _ [18, 19, 20, 21, 22, 8, 23, 14, 47, 48, 49, 50] (by decide +kernel) (by decide +kernel)
set_option maxRecDepth 20000 in
theorem gX1_orderOfRow_X1_sizeAt : GoodIn wsX1_orderOfRow (wsV RX1 90 RX1 yX1_sizeAt wsX1_sizeAt) := goodIn_app (goodIn_of _ (by decide +kernel)) ggX1_orderOfRow_X1_sizeAt
set_option maxRecDepth 20000 in
theorem ggX1_orderOfRow_X1_orderOfWords : GoodIn wsX1_orderOfRow wsX1_orderOfWords := goodIn_r _ [27, 28, 15, 16, 17, 8, 18, 19, 20, 21, 22, 23, 14, 29, 30, 31, 32, 33, 34, 35, 36, 37, 38, 39, 40, 41, 42, 43, 47, 48, 49, 50, 51, 52] (by decide +kernel) (by decide +kernel)
set_option maxRecDepth 20000 in
theorem gX1_orderOfRow_X1_orderOfWords : GoodIn wsX1_orderOfRow (wsV RX1 93 RX1 yX1_orderOfWords wsX1_orderOfWords) := goodIn_app (goodIn_of _ (by decide +kernel)) ggX1_orderOfRow_X1_orderOfWords
set_option maxRecDepth 20000 in
theorem ggX1_orderOfRow_X1_orderOfSizes : GoodIn wsX1_orderOfRow wsX1_orderOfSizes := goodIn_r _ [46, 41, 42, 43] (by decide +kernel) (by decide +kernel)
set_option maxRecDepth 20000 in
theorem gX1_orderOfRow_X1_orderOfSizes : GoodIn wsX1_orderOfRow (va_wsS RX1 97 yX1_orderOfSizes wsX1_orderOfSizes) := goodIn_app (goodIn_of _ (by decide +kernel)) ggX1_orderOfRow_X1_orderOfSizes
theorem dX1_orderOfRow_0 : decode cX1_orderOfRow 0 = .ok (.iload_n 1, 1) := by decide +kernel
theorem dX1_orderOfRow_1 : decode cX1_orderOfRow 1 = .ok (.iconst 1, 1) := by decide +kernel
theorem dX1_orderOfRow_2 : decode cX1_orderOfRow 2 = .ok (.if_icmp .ne 30, 3) := by decide +kernel
theorem dX1_orderOfRow_5 : decode cX1_orderOfRow 5 = .ok (.aload_n 0, 1) := by decide +kernel
theorem dX1_orderOfRow_6 : decode cX1_orderOfRow 6 = .ok (.iload_n 1, 1) := by decide +kernel
theorem dX1_orderOfRow_7 : decode cX1_orderOfRow 7 = .ok (.invokevirtual 80, 3) := by decide +kernel
theorem dX1_orderOfRow_10 : decode cX1_orderOfRow 10 = .ok (.aload_n 2, 1) := by decide +kernel
theorem dX1_orderOfRow_11 : decode cX1_orderOfRow 11 = .ok (.iload_n 1, 1) := by decide +kernel
theorem dX1_orderOfRow_12 : decode cX1_orderOfRow 12 = .ok (.invokevirtual 80, 3) := by decide +kernel
theorem dX1_orderOfRow_15 : decode cX1_orderOfRow 15 = .ok (.if_icmp .eq 17, 3) := by decide +kernel
theorem dX1_orderOfRow_18 : decode cX1_orderOfRow 18 = .ok (.aload_n 0, 1) := by decide +kernel
theorem dX1_orderOfRow_19 : decode cX1_orderOfRow 19 = .ok (.iload_n 1, 1) := by decide +kernel
theorem dX1_orderOfRow_20 : decode cX1_orderOfRow 20 = .ok (.invokevirtual 80, 3) := by decide +kernel
theorem dX1_orderOfRow_23 : decode cX1_orderOfRow 23 = .ok (.ifCond .eq 7, 3) := by decide +kernel
theorem dX1_orderOfRow_26 : decode cX1_orderOfRow 26 = .ok (.iconst (-1), 1) := by decide +kernel
theorem dX1_orderOfRow_27 : decode cX1_orderOfRow 27 = .ok (.goto 4, 3) := by decide +kernel
theorem dX1_orderOfRow_30 : decode cX1_orderOfRow 30 = .ok (.iconst 1, 1) := by decide +kernel
theorem dX1_orderOfRow_31 : decode cX1_orderOfRow 31 = .ok (.ireturn, 1) := by decide +kernel
theorem dX1_orderOfRow_32 : decode cX1_orderOfRow 32 = .ok (.aload_n 0, 1) := by decide +kernel
theorem dX1_orderOfRow_33 : decode cX1_orderOfRow 33 = .ok (.iload_n 1, 1) := by decide +kernel
theorem dX1_orderOfRow_34 : decode cX1_orderOfRow 34 = .ok (.invokevirtual 68, 3) := by decide +kernel
theorem dX1_orderOfRow_37 : decode cX1_orderOfRow 37 = .ok (.aload_n 2, 1) := by decide +kernel
theorem dX1_orderOfRow_38 : decode cX1_orderOfRow 38 = .ok (.iload_n 1, 1) := by decide +kernel
theorem dX1_orderOfRow_39 : decode cX1_orderOfRow 39 = .ok (.invokevirtual 68, 3) := by decide +kernel
theorem dX1_orderOfRow_42 : decode cX1_orderOfRow 42 = .ok (.invokestatic 84, 3) := by decide +kernel
theorem dX1_orderOfRow_45 : decode cX1_orderOfRow 45 = .ok (.istore_n 3, 1) := by decide +kernel
theorem dX1_orderOfRow_46 : decode cX1_orderOfRow 46 = .ok (.iconst 0, 1) := by decide +kernel
theorem dX1_orderOfRow_47 : decode cX1_orderOfRow 47 = .ok (.istore 4, 2) := by decide +kernel
theorem dX1_orderOfRow_49 : decode cX1_orderOfRow 49 = .ok (.iload 4, 2) := by decide +kernel
theorem dX1_orderOfRow_51 : decode cX1_orderOfRow 51 = .ok (.iload_n 3, 1) := by decide +kernel
theorem dX1_orderOfRow_52 : decode cX1_orderOfRow 52 = .ok (.if_icmp .ge 65, 3) := by decide +kernel
theorem dX1_orderOfRow_55 : decode cX1_orderOfRow 55 = .ok (.aload_n 0, 1) := by decide +kernel
theorem dX1_orderOfRow_56 : decode cX1_orderOfRow 56 = .ok (.iload_n 1, 1) := by decide +kernel
theorem dX1_orderOfRow_57 : decode cX1_orderOfRow 57 = .ok (.iload 4, 2) := by decide +kernel
theorem dX1_orderOfRow_59 : decode cX1_orderOfRow 59 = .ok (.invokevirtual 90, 3) := by decide +kernel
theorem dX1_orderOfRow_62 : decode cX1_orderOfRow 62 = .ok (.istore 5, 2) := by decide +kernel
theorem dX1_orderOfRow_64 : decode cX1_orderOfRow 64 = .ok (.aload_n 2, 1) := by decide +kernel
theorem dX1_orderOfRow_65 : decode cX1_orderOfRow 65 = .ok (.iload_n 1, 1) := by decide +kernel
theorem dX1_orderOfRow_66 : decode cX1_orderOfRow 66 = .ok (.iload 4, 2) := by decide +kernel
theorem dX1_orderOfRow_68 : decode cX1_orderOfRow 68 = .ok (.invokevirtual 90, 3) := by decide +kernel
theorem dX1_orderOfRow_71 : decode cX1_orderOfRow 71 = .ok (.istore 6, 2) := by decide +kernel
theorem dX1_orderOfRow_73 : decode cX1_orderOfRow 73 = .ok (.iload 5, 2) := by decide +kernel
theorem dX1_orderOfRow_75 : decode cX1_orderOfRow 75 = .ok (.ifCond .ge 19, 3) := by decide +kernel
theorem dX1_orderOfRow_78 : decode cX1_orderOfRow 78 = .ok (.iload 6, 2) := by decide +kernel
theorem dX1_orderOfRow_80 : decode cX1_orderOfRow 80 = .ok (.ifCond .ge 14, 3) := by decide +kernel
theorem dX1_orderOfRow_83 : decode cX1_orderOfRow 83 = .ok (.aload_n 0, 1) := by decide +kernel
theorem dX1_orderOfRow_84 : decode cX1_orderOfRow 84 = .ok (.iload_n 1, 1) := by decide +kernel
theorem dX1_orderOfRow_85 : decode cX1_orderOfRow 85 = .ok (.iload 4, 2) := by decide +kernel
theorem dX1_orderOfRow_87 : decode cX1_orderOfRow 87 = .ok (.aload_n 2, 1) := by decide +kernel
theorem dX1_orderOfRow_88 : decode cX1_orderOfRow 88 = .ok (.invokevirtual 93, 3) := by decide +kernel
theorem dX1_orderOfRow_91 : decode cX1_orderOfRow 91 = .ok (.goto 10, 3) := by decide +kernel
theorem dX1_orderOfRow_94 : decode cX1_orderOfRow 94 = .ok (.iload 5, 2) := by decide +kernel
theorem dX1_orderOfRow_96 : decode cX1_orderOfRow 96 = .ok (.iload 6, 2) := by decide +kernel
theorem dX1_orderOfRow_98 : decode cX1_orderOfRow 98 = .ok (.invokestatic 97, 3) := by decide +kernel
theorem dX1_orderOfRow_101 : decode cX1_orderOfRow 101 = .ok (.istore 7, 2) := by decide +kernel
theorem dX1_orderOfRow_103 : decode cX1_orderOfRow 103 = .ok (.iload 7, 2) := by decide +kernel
theorem dX1_orderOfRow_105 : decode cX1_orderOfRow 105 = .ok (.ifCond .eq 6, 3) := by decide +kernel
theorem dX1_orderOfRow_108 : decode cX1_orderOfRow 108 = .ok (.iload 7, 2) := by decide +kernel
theorem dX1_orderOfRow_110 : decode cX1_orderOfRow 110 = .ok (.ireturn, 1) := by decide +kernel
theorem dX1_orderOfRow_111 : decode cX1_orderOfRow 111 = .ok (.iinc 4 1, 3) := by decide +kernel
theorem dX1_orderOfRow_114 : decode cX1_orderOfRow 114 = .ok (.goto (-65), 3) := by decide +kernel
theorem dX1_orderOfRow_117 : decode cX1_orderOfRow 117 = .ok (.iconst 0, 1) := by decide +kernel
theorem dX1_orderOfRow_118 : decode cX1_orderOfRow 118 = .ok (.ireturn, 1) := by decide +kernel
set_option maxRecDepth 20000 in
theorem ggX1_orderOfSizes_X2_orderOfNumbers : GoodIn wsX1_orderOfSizes wsX2_orderOfNumbers := goodIn_r _ [3] (by decide +kernel) (by decide +kernel)
set_option maxRecDepth 20000 in
theorem gX1_orderOfSizes_X2_orderOfNumbers_n100 : GoodIn wsX1_orderOfSizes (wsX2_orderOfNumbers) := ggX1_orderOfSizes_X2_orderOfNumbers
theorem dX1_orderOfSizes_0 : decode cX1_orderOfSizes 0 = .ok (.iload_n 0, 1) := by decide +kernel
theorem dX1_orderOfSizes_1 : decode cX1_orderOfSizes 1 = .ok (.ifCond .ge 5, 3) := by decide +kernel
theorem dX1_orderOfSizes_4 : decode cX1_orderOfSizes 4 = .ok (.iconst 1, 1) := by decide +kernel
theorem dX1_orderOfSizes_5 : decode cX1_orderOfSizes 5 = .ok (.ireturn, 1) := by decide +kernel
theorem dX1_orderOfSizes_6 : decode cX1_orderOfSizes 6 = .ok (.iload_n 1, 1) := by decide +kernel
theorem dX1_orderOfSizes_7 : decode cX1_orderOfSizes 7 = .ok (.ifCond .ge 7, 3) := by decide +kernel
theorem dX1_orderOfSizes_10 : decode cX1_orderOfSizes 10 = .ok (.iconst (-1), 1) := by decide +kernel
theorem dX1_orderOfSizes_11 : decode cX1_orderOfSizes 11 = .ok (.goto 8, 3) := by decide +kernel
theorem dX1_orderOfSizes_14 : decode cX1_orderOfSizes 14 = .ok (.iload_n 0, 1) := by decide +kernel
theorem dX1_orderOfSizes_15 : decode cX1_orderOfSizes 15 = .ok (.iload_n 1, 1) := by decide +kernel
theorem dX1_orderOfSizes_16 : decode cX1_orderOfSizes 16 = .ok (.invokestatic 100, 3) := by decide +kernel
theorem dX1_orderOfSizes_19 : decode cX1_orderOfSizes 19 = .ok (.ireturn, 1) := by decide +kernel
set_option maxRecDepth 20000 in
theorem ggX1_orderOfWords_X1_sizeAt : GoodIn wsX1_orderOfWords wsX1_sizeAt := goodIn_r _ [6, 7, 8, 9, 10, 5, 11, 12, 28, 29, 30, 31] (by decide +kernel) (by decide +kernel)
set_option maxRecDepth 20000 in
theorem gX1_orderOfWords_X1_sizeAt : GoodIn wsX1_orderOfWords (wsV RX1 90 RX1 yX1_sizeAt wsX1_sizeAt) := goodIn_app (goodIn_of _ (by decide +kernel)) ggX1_orderOfWords_X1_sizeAt
set_option maxRecDepth 20000 in
theorem ggX1_orderOfWords_X1_startAt : GoodIn wsX1_orderOfWords wsX1_startAt := goodIn_r _ [16, 17, 8, 9, 10, 5, 11, 12, 28, 29, 30, 31] (by decide +kernel) (by decide +kernel)
set_option maxRecDepth 20000 in
theorem gX1_orderOfWords_X1_startAt : GoodIn wsX1_orderOfWords (wsV RX1 103 RX1 yX1_startAt wsX1_startAt) := goodIn_app (goodIn_of _ (by decide +kernel)) ggX1_orderOfWords_X1_startAt
set_option maxRecDepth 20000 in
theorem ggX1_orderOfWords_X0_signAt : GoodIn wsX1_orderOfWords wsX0_signAt := goodIn_r _ [22, 23, 24, 32, 33] (by decide +kernel) (by decide +kernel)
set_option maxRecDepth 20000 in
theorem gX1_orderOfWords_X0_signAt : GoodIn wsX1_orderOfWords (wsV RX1 48 RX0 yX0_signAt wsX0_signAt) := goodIn_app (goodIn_of _ (by decide +kernel)) ggX1_orderOfWords_X0_signAt
set_option maxRecDepth 20000 in
theorem ggX1_orderOfWords_X2_orderOfNumbers : GoodIn wsX1_orderOfWords wsX2_orderOfNumbers := goodIn_r _ [27] (by decide +kernel) (by decide +kernel)
set_option maxRecDepth 20000 in
theorem gX1_orderOfWords_X2_orderOfNumbers_n100 : GoodIn wsX1_orderOfWords (wsX2_orderOfNumbers) := ggX1_orderOfWords_X2_orderOfNumbers
theorem dX1_orderOfWords_0 : decode cX1_orderOfWords 0 = .ok (.iconst (-1), 1) := by decide +kernel
theorem dX1_orderOfWords_1 : decode cX1_orderOfWords 1 = .ok (.aload_n 0, 1) := by decide +kernel
theorem dX1_orderOfWords_2 : decode cX1_orderOfWords 2 = .ok (.iload_n 1, 1) := by decide +kernel
theorem dX1_orderOfWords_3 : decode cX1_orderOfWords 3 = .ok (.iload_n 2, 1) := by decide +kernel
theorem dX1_orderOfWords_4 : decode cX1_orderOfWords 4 = .ok (.invokevirtual 90, 3) := by decide +kernel
theorem dX1_orderOfWords_7 : decode cX1_orderOfWords 7 = .ok (.isub, 1) := by decide +kernel
theorem dX1_orderOfWords_8 : decode cX1_orderOfWords 8 = .ok (.istore 4, 2) := by decide +kernel
theorem dX1_orderOfWords_10 : decode cX1_orderOfWords 10 = .ok (.iconst (-1), 1) := by decide +kernel
theorem dX1_orderOfWords_11 : decode cX1_orderOfWords 11 = .ok (.aload_n 3, 1) := by decide +kernel
theorem dX1_orderOfWords_12 : decode cX1_orderOfWords 12 = .ok (.iload_n 1, 1) := by decide +kernel
theorem dX1_orderOfWords_13 : decode cX1_orderOfWords 13 = .ok (.iload_n 2, 1) := by decide +kernel
theorem dX1_orderOfWords_14 : decode cX1_orderOfWords 14 = .ok (.invokevirtual 90, 3) := by decide +kernel
theorem dX1_orderOfWords_17 : decode cX1_orderOfWords 17 = .ok (.isub, 1) := by decide +kernel
theorem dX1_orderOfWords_18 : decode cX1_orderOfWords 18 = .ok (.istore 5, 2) := by decide +kernel
theorem dX1_orderOfWords_20 : decode cX1_orderOfWords 20 = .ok (.aload_n 0, 1) := by decide +kernel
theorem dX1_orderOfWords_21 : decode cX1_orderOfWords 21 = .ok (.iload_n 1, 1) := by decide +kernel
theorem dX1_orderOfWords_22 : decode cX1_orderOfWords 22 = .ok (.iload_n 2, 1) := by decide +kernel
theorem dX1_orderOfWords_23 : decode cX1_orderOfWords 23 = .ok (.invokevirtual 103, 3) := by decide +kernel
theorem dX1_orderOfWords_26 : decode cX1_orderOfWords 26 = .ok (.istore 6, 2) := by decide +kernel
theorem dX1_orderOfWords_28 : decode cX1_orderOfWords 28 = .ok (.aload_n 3, 1) := by decide +kernel
theorem dX1_orderOfWords_29 : decode cX1_orderOfWords 29 = .ok (.iload_n 1, 1) := by decide +kernel
theorem dX1_orderOfWords_30 : decode cX1_orderOfWords 30 = .ok (.iload_n 2, 1) := by decide +kernel
theorem dX1_orderOfWords_31 : decode cX1_orderOfWords 31 = .ok (.invokevirtual 103, 3) := by decide +kernel
theorem dX1_orderOfWords_34 : decode cX1_orderOfWords 34 = .ok (.istore 7, 2) := by decide +kernel
theorem dX1_orderOfWords_36 : decode cX1_orderOfWords 36 = .ok (.iconst 0, 1) := by decide +kernel
theorem dX1_orderOfWords_37 : decode cX1_orderOfWords 37 = .ok (.istore 8, 2) := by decide +kernel
theorem dX1_orderOfWords_39 : decode cX1_orderOfWords 39 = .ok (.iload 8, 2) := by decide +kernel
theorem dX1_orderOfWords_41 : decode cX1_orderOfWords 41 = .ok (.iload 4, 2) := by decide +kernel
theorem dX1_orderOfWords_43 : decode cX1_orderOfWords 43 = .ok (.if_icmp .ge 53, 3) := by decide +kernel
theorem dX1_orderOfWords_46 : decode cX1_orderOfWords 46 = .ok (.iload 8, 2) := by decide +kernel
theorem dX1_orderOfWords_48 : decode cX1_orderOfWords 48 = .ok (.iload 5, 2) := by decide +kernel
theorem dX1_orderOfWords_50 : decode cX1_orderOfWords 50 = .ok (.if_icmp .ge 46, 3) := by decide +kernel
theorem dX1_orderOfWords_53 : decode cX1_orderOfWords 53 = .ok (.aload_n 0, 1) := by decide +kernel
theorem dX1_orderOfWords_54 : decode cX1_orderOfWords 54 = .ok (.getfield 12, 3) := by decide +kernel
theorem dX1_orderOfWords_57 : decode cX1_orderOfWords 57 = .ok (.iload 6, 2) := by decide +kernel
theorem dX1_orderOfWords_59 : decode cX1_orderOfWords 59 = .ok (.iload 8, 2) := by decide +kernel
theorem dX1_orderOfWords_61 : decode cX1_orderOfWords 61 = .ok (.iadd, 1) := by decide +kernel
theorem dX1_orderOfWords_62 : decode cX1_orderOfWords 62 = .ok (.invokevirtual 48, 3) := by decide +kernel
theorem dX1_orderOfWords_65 : decode cX1_orderOfWords 65 = .ok (.aload_n 3, 1) := by decide +kernel
theorem dX1_orderOfWords_66 : decode cX1_orderOfWords 66 = .ok (.getfield 12, 3) := by decide +kernel
theorem dX1_orderOfWords_69 : decode cX1_orderOfWords 69 = .ok (.iload 7, 2) := by decide +kernel
theorem dX1_orderOfWords_71 : decode cX1_orderOfWords 71 = .ok (.iload 8, 2) := by decide +kernel
theorem dX1_orderOfWords_73 : decode cX1_orderOfWords 73 = .ok (.iadd, 1) := by decide +kernel
theorem dX1_orderOfWords_74 : decode cX1_orderOfWords 74 = .ok (.invokevirtual 48, 3) := by decide +kernel
theorem dX1_orderOfWords_77 : decode cX1_orderOfWords 77 = .ok (.invokestatic 100, 3) := by decide +kernel
theorem dX1_orderOfWords_80 : decode cX1_orderOfWords 80 = .ok (.istore 9, 2) := by decide +kernel
theorem dX1_orderOfWords_82 : decode cX1_orderOfWords 82 = .ok (.iload 9, 2) := by decide +kernel
theorem dX1_orderOfWords_84 : decode cX1_orderOfWords 84 = .ok (.ifCond .eq 6, 3) := by decide +kernel
theorem dX1_orderOfWords_87 : decode cX1_orderOfWords 87 = .ok (.iload 9, 2) := by decide +kernel
theorem dX1_orderOfWords_89 : decode cX1_orderOfWords 89 = .ok (.ireturn, 1) := by decide +kernel
theorem dX1_orderOfWords_90 : decode cX1_orderOfWords 90 = .ok (.iinc 8 1, 3) := by decide +kernel
theorem dX1_orderOfWords_93 : decode cX1_orderOfWords 93 = .ok (.goto (-54), 3) := by decide +kernel
theorem dX1_orderOfWords_96 : decode cX1_orderOfWords 96 = .ok (.iload 4, 2) := by decide +kernel
theorem dX1_orderOfWords_98 : decode cX1_orderOfWords 98 = .ok (.iload 5, 2) := by decide +kernel
theorem dX1_orderOfWords_100 : decode cX1_orderOfWords 100 = .ok (.invokestatic 100, 3) := by decide +kernel
theorem dX1_orderOfWords_103 : decode cX1_orderOfWords 103 = .ok (.ireturn, 1) := by decide +kernel
set_option maxRecDepth 20000 in
theorem ggX2_init_X0_init : GoodIn wsX2_init wsX0_init := goodIn_r _ [18, 19, 2, 3, 20, 21, 22, 71, 72] (by decide +kernel) (by decide +kernel)
set_option maxRecDepth 20000 in
theorem gX2_init_X0_init_n9 : GoodIn wsX2_init (wsX0_init) := ggX2_init_X0_init
set_option maxRecDepth 20000 in
theorem ggX2_init_X1_init : GoodIn wsX2_init wsX1_init := goodIn_r _ [25, 26, 2, 3, 27, 5, 6, 28, 29, 11, 30, 31, 32, 17, 18, 19, 20, 21, 22, 33, 34, 35, 36, 37, 38, 39, 15, 40, 41, 42, 43, 44, 45, 46, 47, 48, 49, 50, 51, 52, 53, 54, 55, 56, 57, 58, 59, 60, 61, 62, 63, 64, 65, 66, 67, 68, 69, 70, 71, 72, 79, 80, 81, 82] (by decide +kernel) (by decide +kernel)
set_option maxRecDepth 20000 in
theorem gX2_init_X1_init : GoodIn wsX2_init (wsX1_init) := ggX2_init_X1_init
