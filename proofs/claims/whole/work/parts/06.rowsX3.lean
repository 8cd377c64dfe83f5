theorem dX3_init_0 : decode cX3_init 0 = .ok (.aload_n 0, 1) := by decide +kernel
theorem dX3_init_1 : decode cX3_init 1 = .ok (.invokespecial 1, 3) := by decide +kernel
theorem dX3_init_4 : decode cX3_init 4 = .ok (.aload_n 0, 1) := by decide +kernel
theorem dX3_init_5 : decode cX3_init 5 = .ok (.bipush 60, 2) := by decide +kernel
theorem dX3_init_7 : decode cX3_init 7 = .ok (.newarray .char, 2) := by decide +kernel
theorem dX3_init_9 : decode cX3_init 9 = .ok (.putfield 9, 3) := by decide +kernel
theorem dX3_init_12 : decode cX3_init 12 = .ok (.aload_n 0, 1) := by decide +kernel
theorem dX3_init_13 : decode cX3_init 13 = .ok (.bipush 8, 2) := by decide +kernel
theorem dX3_init_15 : decode cX3_init 15 = .ok (.bipush 60, 2) := by decide +kernel
theorem dX3_init_17 : decode cX3_init 17 = .ok (.multianewarray 13 2, 4) := by decide +kernel
theorem dX3_init_21 : decode cX3_init 21 = .ok (.putfield 15, 3) := by decide +kernel
theorem dX3_init_24 : decode cX3_init 24 = .ok (.aload_n 0, 1) := by decide +kernel
theorem dX3_init_25 : decode cX3_init 25 = .ok (.bipush 8, 2) := by decide +kernel
theorem dX3_init_27 : decode cX3_init 27 = .ok (.newarray .int, 2) := by decide +kernel
theorem dX3_init_29 : decode cX3_init 29 = .ok (.putfield 18, 3) := by decide +kernel
theorem dX3_init_32 : decode cX3_init 32 = .ok (.aload_n 0, 1) := by decide +kernel
theorem dX3_init_33 : decode cX3_init 33 = .ok (.iconst 2, 1) := by decide +kernel
theorem dX3_init_34 : decode cX3_init 34 = .ok (.anewarray 22, 3) := by decide +kernel
theorem dX3_init_37 : decode cX3_init 37 = .ok (.putfield 23, 3) := by decide +kernel
theorem dX3_init_40 : decode cX3_init 40 = .ok (.aload_n 0, 1) := by decide +kernel
theorem dX3_init_41 : decode cX3_init 41 = .ok (.iconst 2, 1) := by decide +kernel
theorem dX3_init_42 : decode cX3_init 42 = .ok (.iconst 3, 1) := by decide +kernel
theorem dX3_init_43 : decode cX3_init 43 = .ok (.multianewarray 26 2, 4) := by decide +kernel
theorem dX3_init_47 : decode cX3_init 47 = .ok (.putfield 28, 3) := by decide +kernel
theorem dX3_init_50 : decode cX3_init 50 = .ok (.aload_n 0, 1) := by decide +kernel
theorem dX3_init_51 : decode cX3_init 51 = .ok (.iconst 2, 1) := by decide +kernel
theorem dX3_init_52 : decode cX3_init 52 = .ok (.iconst 3, 1) := by decide +kernel
theorem dX3_init_53 : decode cX3_init 53 = .ok (.bipush 60, 2) := by decide +kernel
theorem dX3_init_55 : decode cX3_init 55 = .ok (.multianewarray 31 3, 4) := by decide +kernel
theorem dX3_init_59 : decode cX3_init 59 = .ok (.putfield 33, 3) := by decide +kernel
theorem dX3_init_62 : decode cX3_init 62 = .ok (.aload_n 0, 1) := by decide +kernel
theorem dX3_init_63 : decode cX3_init 63 = .ok (.iconst 2, 1) := by decide +kernel
theorem dX3_init_64 : decode cX3_init 64 = .ok (.iconst 3, 1) := by decide +kernel
theorem dX3_init_65 : decode cX3_init 65 = .ok (.bipush 60, 2) := by decide +kernel
theorem dX3_init_67 : decode cX3_init 67 = .ok (.multianewarray 31 3, 4) := by decide +kernel
theorem dX3_init_71 : decode cX3_init 71 = .ok (.putfield 36, 3) := by decide +kernel
theorem dX3_init_74 : decode cX3_init 74 = .ok (.iconst 0, 1) := by decide +kernel
theorem dX3_init_75 : decode cX3_init 75 = .ok (.istore_n 1, 1) := by decide +kernel
theorem dX3_init_76 : decode cX3_init 76 = .ok (.iload_n 1, 1) := by decide +kernel
theorem dX3_init_77 : decode cX3_init 77 = .ok (.bipush 8, 2) := by decide +kernel
theorem dX3_init_79 : decode cX3_init 79 = .ok (.if_icmp .ge 26, 3) := by decide +kernel
theorem dX3_init_82 : decode cX3_init 82 = .ok (.aload_n 0, 1) := by decide +kernel
theorem dX3_init_83 : decode cX3_init 83 = .ok (.getfield 15, 3) := by decide +kernel
theorem dX3_init_86 : decode cX3_init 86 = .ok (.iload_n 1, 1) := by decide +kernel
theorem dX3_init_87 : decode cX3_init 87 = .ok (.aaload, 1) := by decide +kernel
theorem dX3_init_88 : decode cX3_init 88 = .ok (.iconst 0, 1) := by decide +kernel
theorem dX3_init_89 : decode cX3_init 89 = .ok (.bipush 48, 2) := by decide +kernel
theorem dX3_init_91 : decode cX3_init 91 = .ok (.castore, 1) := by decide +kernel
theorem dX3_init_92 : decode cX3_init 92 = .ok (.aload_n 0, 1) := by decide +kernel
theorem dX3_init_93 : decode cX3_init 93 = .ok (.getfield 18, 3) := by decide +kernel
theorem dX3_init_96 : decode cX3_init 96 = .ok (.iload_n 1, 1) := by decide +kernel
theorem dX3_init_97 : decode cX3_init 97 = .ok (.iconst 1, 1) := by decide +kernel
theorem dX3_init_98 : decode cX3_init 98 = .ok (.iastore, 1) := by decide +kernel
theorem dX3_init_99 : decode cX3_init 99 = .ok (.iinc 1 1, 3) := by decide +kernel
theorem dX3_init_102 : decode cX3_init 102 = .ok (.goto (-26), 3) := by decide +kernel
theorem dX3_init_105 : decode cX3_init 105 = .ok (.return_, 1) := by decide +kernel
theorem dX3_thrown_0 : decode cX3_thrown 0 = .ok (.aload_n 0, 1) := by decide +kernel
theorem dX3_thrown_1 : decode cX3_thrown 1 = .ok (.getfield 39, 3) := by decide +kernel
theorem dX3_thrown_4 : decode cX3_thrown 4 = .ok (.ireturn, 1) := by decide +kernel
theorem dX3_no_0 : decode cX3_no 0 = .ok (.aload_n 0, 1) := by decide +kernel
theorem dX3_no_1 : decode cX3_no 1 = .ok (.iload_n 1, 1) := by decide +kernel
theorem dX3_no_2 : decode cX3_no 2 = .ok (.ifCond .eq 7, 3) := by decide +kernel
theorem dX3_no_5 : decode cX3_no 5 = .ok (.iconst 0, 1) := by decide +kernel
theorem dX3_no_6 : decode cX3_no 6 = .ok (.goto 4, 3) := by decide +kernel
theorem dX3_no_9 : decode cX3_no 9 = .ok (.iload_n 2, 1) := by decide +kernel
theorem dX3_no_10 : decode cX3_no 10 = .ok (.putfield 39, 3) := by decide +kernel
theorem dX3_no_13 : decode cX3_no 13 = .ok (.iload_n 1, 1) := by decide +kernel
theorem dX3_no_14 : decode cX3_no 14 = .ok (.ifCond .ne 7, 3) := by decide +kernel
theorem dX3_no_17 : decode cX3_no 17 = .ok (.iconst 1, 1) := by decide +kernel
theorem dX3_no_18 : decode cX3_no 18 = .ok (.goto 4, 3) := by decide +kernel
theorem dX3_no_21 : decode cX3_no 21 = .ok (.iconst 0, 1) := by decide +kernel
theorem dX3_no_22 : decode cX3_no 22 = .ok (.ireturn, 1) := by decide +kernel
theorem dX3_in_0 : decode cX3_in 0 = .ok (.iload_n 0, 1) := by decide +kernel
theorem dX3_in_1 : decode cX3_in 1 = .ok (.iload_n 1, 1) := by decide +kernel
theorem dX3_in_2 : decode cX3_in 2 = .ok (.if_icmp .lt 12, 3) := by decide +kernel
theorem dX3_in_5 : decode cX3_in 5 = .ok (.iload_n 0, 1) := by decide +kernel
theorem dX3_in_6 : decode cX3_in 6 = .ok (.iload_n 2, 1) := by decide +kernel
theorem dX3_in_7 : decode cX3_in 7 = .ok (.if_icmp .gt 7, 3) := by decide +kernel
theorem dX3_in_10 : decode cX3_in 10 = .ok (.iconst 1, 1) := by decide +kernel
theorem dX3_in_11 : decode cX3_in 11 = .ok (.goto 4, 3) := by decide +kernel
theorem dX3_in_14 : decode cX3_in 14 = .ok (.iconst 0, 1) := by decide +kernel
theorem dX3_in_15 : decode cX3_in 15 = .ok (.ireturn, 1) := by decide +kernel
set_option maxRecDepth 20000 in
theorem ggX3_isSlot_X3_in : GoodIn wsX3_isSlot wsX3_in := goodIn_r _ [4] (by decide +kernel) (by decide +kernel)
set_option maxRecDepth 20000 in
theorem gX3_isSlot_X3_in : GoodIn wsX3_isSlot (va_wsS RX3 43 yX3_in wsX3_in) := goodIn_app (goodIn_of _ (by decide +kernel)) ggX3_isSlot_X3_in
theorem dX3_isSlot_0 : decode cX3_isSlot 0 = .ok (.iload_n 0, 1) := by decide +kernel
theorem dX3_isSlot_1 : decode cX3_isSlot 1 = .ok (.iconst 0, 1) := by decide +kernel
theorem dX3_isSlot_2 : decode cX3_isSlot 2 = .ok (.bipush 7, 2) := by decide +kernel
theorem dX3_isSlot_4 : decode cX3_isSlot 4 = .ok (.invokestatic 43, 3) := by decide +kernel
theorem dX3_isSlot_7 : decode cX3_isSlot 7 = .ok (.ireturn, 1) := by decide +kernel
theorem dX3_isDigit_0 : decode cX3_isDigit 0 = .ok (.iload_n 0, 1) := by decide +kernel
theorem dX3_isDigit_1 : decode cX3_isDigit 1 = .ok (.bipush 48, 2) := by decide +kernel
theorem dX3_isDigit_3 : decode cX3_isDigit 3 = .ok (.if_icmp .lt 13, 3) := by decide +kernel
theorem dX3_isDigit_6 : decode cX3_isDigit 6 = .ok (.iload_n 0, 1) := by decide +kernel
theorem dX3_isDigit_7 : decode cX3_isDigit 7 = .ok (.bipush 57, 2) := by decide +kernel
theorem dX3_isDigit_9 : decode cX3_isDigit 9 = .ok (.if_icmp .gt 7, 3) := by decide +kernel
theorem dX3_isDigit_12 : decode cX3_isDigit 12 = .ok (.iconst 1, 1) := by decide +kernel
theorem dX3_isDigit_13 : decode cX3_isDigit 13 = .ok (.goto 4, 3) := by decide +kernel
theorem dX3_isDigit_16 : decode cX3_isDigit 16 = .ok (.iconst 0, 1) := by decide +kernel
theorem dX3_isDigit_17 : decode cX3_isDigit 17 = .ok (.ireturn, 1) := by decide +kernel
theorem dX3_isPoint_0 : decode cX3_isPoint 0 = .ok (.iload_n 0, 1) := by decide +kernel
theorem dX3_isPoint_1 : decode cX3_isPoint 1 = .ok (.bipush 46, 2) := by decide +kernel
theorem dX3_isPoint_3 : decode cX3_isPoint 3 = .ok (.if_icmp .eq 15, 3) := by decide +kernel
theorem dX3_isPoint_6 : decode cX3_isPoint 6 = .ok (.iload_n 0, 1) := by decide +kernel
theorem dX3_isPoint_7 : decode cX3_isPoint 7 = .ok (.bipush 45, 2) := by decide +kernel
theorem dX3_isPoint_9 : decode cX3_isPoint 9 = .ok (.if_icmp .eq 9, 3) := by decide +kernel
theorem dX3_isPoint_12 : decode cX3_isPoint 12 = .ok (.iload_n 0, 1) := by decide +kernel
theorem dX3_isPoint_13 : decode cX3_isPoint 13 = .ok (.bipush 43, 2) := by decide +kernel
theorem dX3_isPoint_15 : decode cX3_isPoint 15 = .ok (.if_icmp .ne 7, 3) := by decide +kernel
theorem dX3_isPoint_18 : decode cX3_isPoint 18 = .ok (.iconst 1, 1) := by decide +kernel
theorem dX3_isPoint_19 : decode cX3_isPoint 19 = .ok (.goto 4, 3) := by decide +kernel
theorem dX3_isPoint_22 : decode cX3_isPoint 22 = .ok (.iconst 0, 1) := by decide +kernel
theorem dX3_isPoint_23 : decode cX3_isPoint 23 = .ok (.ireturn, 1) := by decide +kernel
set_option maxRecDepth 20000 in
theorem ggX3_look_X3_isPoint : GoodIn wsX3_look wsX3_isPoint := goodIn_r _ [8] (by decide +kernel) (by decide +kernel)
set_option maxRecDepth 20000 in
theorem gX3_look_X3_isPoint : GoodIn wsX3_look (va_wsS RX3 47 yX3_isPoint wsX3_isPoint) := goodIn_app (goodIn_of _ (by decide +kernel)) ggX3_look_X3_isPoint
set_option maxRecDepth 20000 in
theorem ggX3_look_X3_isDigit : GoodIn wsX3_look wsX3_isDigit := goodIn_r _ [11] (by decide +kernel) (by decide +kernel)
set_option maxRecDepth 20000 in
theorem gX3_look_X3_isDigit : GoodIn wsX3_look (va_wsS RX3 51 yX3_isDigit wsX3_isDigit) := goodIn_app (goodIn_of _ (by decide +kernel)) ggX3_look_X3_isDigit
theorem dX3_look_0 : decode cX3_look 0 = .ok (.aload_n 0, 1) := by decide +kernel
theorem dX3_look_1 : decode cX3_look 1 = .ok (.getfield 23, 3) := by decide +kernel
theorem dX3_look_4 : decode cX3_look 4 = .ok (.iload_n 1, 1) := by decide +kernel
theorem dX3_look_5 : decode cX3_look 5 = .ok (.aload_n 2, 1) := by decide +kernel
theorem dX3_look_6 : decode cX3_look 6 = .ok (.aastore, 1) := by decide +kernel
theorem dX3_look_7 : decode cX3_look 7 = .ok (.iconst 0, 1) := by decide +kernel
theorem dX3_look_8 : decode cX3_look 8 = .ok (.istore 4, 2) := by decide +kernel
theorem dX3_look_10 : decode cX3_look 10 = .ok (.aload_n 0, 1) := by decide +kernel
theorem dX3_look_11 : decode cX3_look 11 = .ok (.getfield 28, 3) := by decide +kernel
theorem dX3_look_14 : decode cX3_look 14 = .ok (.iload_n 1, 1) := by decide +kernel
theorem dX3_look_15 : decode cX3_look 15 = .ok (.aaload, 1) := by decide +kernel
theorem dX3_look_16 : decode cX3_look 16 = .ok (.iconst 0, 1) := by decide +kernel
theorem dX3_look_17 : decode cX3_look 17 = .ok (.iconst 0, 1) := by decide +kernel
theorem dX3_look_18 : decode cX3_look 18 = .ok (.iastore, 1) := by decide +kernel
theorem dX3_look_19 : decode cX3_look 19 = .ok (.aload_n 0, 1) := by decide +kernel
theorem dX3_look_20 : decode cX3_look 20 = .ok (.getfield 28, 3) := by decide +kernel
theorem dX3_look_23 : decode cX3_look 23 = .ok (.iload_n 1, 1) := by decide +kernel
theorem dX3_look_24 : decode cX3_look 24 = .ok (.aaload, 1) := by decide +kernel
theorem dX3_look_25 : decode cX3_look 25 = .ok (.iconst 1, 1) := by decide +kernel
theorem dX3_look_26 : decode cX3_look 26 = .ok (.iconst 0, 1) := by decide +kernel
theorem dX3_look_27 : decode cX3_look 27 = .ok (.iastore, 1) := by decide +kernel
theorem dX3_look_28 : decode cX3_look 28 = .ok (.aload_n 0, 1) := by decide +kernel
theorem dX3_look_29 : decode cX3_look 29 = .ok (.getfield 28, 3) := by decide +kernel
theorem dX3_look_32 : decode cX3_look 32 = .ok (.iload_n 1, 1) := by decide +kernel
theorem dX3_look_33 : decode cX3_look 33 = .ok (.aaload, 1) := by decide +kernel
theorem dX3_look_34 : decode cX3_look 34 = .ok (.iconst 2, 1) := by decide +kernel
theorem dX3_look_35 : decode cX3_look 35 = .ok (.iconst 0, 1) := by decide +kernel
theorem dX3_look_36 : decode cX3_look 36 = .ok (.iastore, 1) := by decide +kernel
theorem dX3_look_37 : decode cX3_look 37 = .ok (.iconst 0, 1) := by decide +kernel
theorem dX3_look_38 : decode cX3_look 38 = .ok (.istore 5, 2) := by decide +kernel
theorem dX3_look_40 : decode cX3_look 40 = .ok (.iload 5, 2) := by decide +kernel
theorem dX3_look_42 : decode cX3_look 42 = .ok (.iload_n 3, 1) := by decide +kernel
theorem dX3_look_43 : decode cX3_look 43 = .ok (.if_icmp .ge 165, 3) := by decide +kernel
theorem dX3_look_46 : decode cX3_look 46 = .ok (.aload_n 2, 1) := by decide +kernel
theorem dX3_look_47 : decode cX3_look 47 = .ok (.iload 5, 2) := by decide +kernel
theorem dX3_look_49 : decode cX3_look 49 = .ok (.caload, 1) := by decide +kernel
theorem dX3_look_50 : decode cX3_look 50 = .ok (.istore 6, 2) := by decide +kernel
theorem dX3_look_52 : decode cX3_look 52 = .ok (.iload 6, 2) := by decide +kernel
theorem dX3_look_54 : decode cX3_look 54 = .ok (.invokestatic 47, 3) := by decide +kernel
theorem dX3_look_57 : decode cX3_look 57 = .ok (.ifCond .eq 46, 3) := by decide +kernel
theorem dX3_look_60 : decode cX3_look 60 = .ok (.iload 6, 2) := by decide +kernel
theorem dX3_look_62 : decode cX3_look 62 = .ok (.bipush 45, 2) := by decide +kernel
theorem dX3_look_64 : decode cX3_look 64 = .ok (.if_icmp .ne 12, 3) := by decide +kernel
theorem dX3_look_67 : decode cX3_look 67 = .ok (.iload 4, 2) := by decide +kernel
theorem dX3_look_69 : decode cX3_look 69 = .ok (.ifCond .ne 7, 3) := by decide +kernel
theorem dX3_look_72 : decode cX3_look 72 = .ok (.iconst 1, 1) := by decide +kernel
theorem dX3_look_73 : decode cX3_look 73 = .ok (.goto 22, 3) := by decide +kernel
theorem dX3_look_76 : decode cX3_look 76 = .ok (.iload 6, 2) := by decide +kernel
theorem dX3_look_78 : decode cX3_look 78 = .ok (.bipush 43, 2) := by decide +kernel
theorem dX3_look_80 : decode cX3_look 80 = .ok (.if_icmp .ne 13, 3) := by decide +kernel
theorem dX3_look_83 : decode cX3_look 83 = .ok (.iload 4, 2) := by decide +kernel
theorem dX3_look_85 : decode cX3_look 85 = .ok (.iconst 1, 1) := by decide +kernel
theorem dX3_look_86 : decode cX3_look 86 = .ok (.if_icmp .ne 7, 3) := by decide +kernel
theorem dX3_look_89 : decode cX3_look 89 = .ok (.iconst 2, 1) := by decide +kernel
theorem dX3_look_90 : decode cX3_look 90 = .ok (.goto 5, 3) := by decide +kernel
theorem dX3_look_93 : decode cX3_look 93 = .ok (.iload 4, 2) := by decide +kernel
theorem dX3_look_95 : decode cX3_look 95 = .ok (.istore 4, 2) := by decide +kernel
theorem dX3_look_97 : decode cX3_look 97 = .ok (.iinc 5 1, 3) := by decide +kernel
theorem dX3_look_100 : decode cX3_look 100 = .ok (.goto (-60), 3) := by decide +kernel
theorem dX3_look_103 : decode cX3_look 103 = .ok (.iload 5, 2) := by decide +kernel
theorem dX3_look_105 : decode cX3_look 105 = .ok (.iconst 1, 1) := by decide +kernel
theorem dX3_look_106 : decode cX3_look 106 = .ok (.iadd, 1) := by decide +kernel
theorem dX3_look_107 : decode cX3_look 107 = .ok (.istore 7, 2) := by decide +kernel
theorem dX3_look_109 : decode cX3_look 109 = .ok (.iload 7, 2) := by decide +kernel
theorem dX3_look_111 : decode cX3_look 111 = .ok (.iload_n 3, 1) := by decide +kernel
theorem dX3_look_112 : decode cX3_look 112 = .ok (.if_icmp .ge 34, 3) := by decide +kernel
theorem dX3_look_115 : decode cX3_look 115 = .ok (.aload_n 2, 1) := by decide +kernel
theorem dX3_look_116 : decode cX3_look 116 = .ok (.iload 7, 2) := by decide +kernel
theorem dX3_look_118 : decode cX3_look 118 = .ok (.caload, 1) := by decide +kernel
theorem dX3_look_119 : decode cX3_look 119 = .ok (.invokestatic 47, 3) := by decide +kernel
theorem dX3_look_122 : decode cX3_look 122 = .ok (.ifCond .ne 24, 3) := by decide +kernel
theorem dX3_look_125 : decode cX3_look 125 = .ok (.aload_n 2, 1) := by decide +kernel
theorem dX3_look_126 : decode cX3_look 126 = .ok (.iload 7, 2) := by decide +kernel
theorem dX3_look_128 : decode cX3_look 128 = .ok (.caload, 1) := by decide +kernel
theorem dX3_look_129 : decode cX3_look 129 = .ok (.invokestatic 51, 3) := by decide +kernel
theorem dX3_look_132 : decode cX3_look 132 = .ok (.iload 6, 2) := by decide +kernel
theorem dX3_look_134 : decode cX3_look 134 = .ok (.invokestatic 51, 3) := by decide +kernel
theorem dX3_look_137 : decode cX3_look 137 = .ok (.if_icmp .ne 9, 3) := by decide +kernel
theorem dX3_look_140 : decode cX3_look 140 = .ok (.iinc 7 1, 3) := by decide +kernel
theorem dX3_look_143 : decode cX3_look 143 = .ok (.goto (-34), 3) := by decide +kernel
theorem dX3_look_146 : decode cX3_look 146 = .ok (.aload_n 0, 1) := by decide +kernel
theorem dX3_look_147 : decode cX3_look 147 = .ok (.getfield 33, 3) := by decide +kernel
theorem dX3_look_150 : decode cX3_look 150 = .ok (.iload_n 1, 1) := by decide +kernel
theorem dX3_look_151 : decode cX3_look 151 = .ok (.aaload, 1) := by decide +kernel
theorem dX3_look_152 : decode cX3_look 152 = .ok (.iload 4, 2) := by decide +kernel
theorem dX3_look_154 : decode cX3_look 154 = .ok (.aaload, 1) := by decide +kernel
theorem dX3_look_155 : decode cX3_look 155 = .ok (.aload_n 0, 1) := by decide +kernel
theorem dX3_look_156 : decode cX3_look 156 = .ok (.getfield 28, 3) := by decide +kernel
theorem dX3_look_159 : decode cX3_look 159 = .ok (.iload_n 1, 1) := by decide +kernel
theorem dX3_look_160 : decode cX3_look 160 = .ok (.aaload, 1) := by decide +kernel
theorem dX3_look_161 : decode cX3_look 161 = .ok (.iload 4, 2) := by decide +kernel
theorem dX3_look_163 : decode cX3_look 163 = .ok (.iaload, 1) := by decide +kernel
theorem dX3_look_164 : decode cX3_look 164 = .ok (.iload 5, 2) := by decide +kernel
theorem dX3_look_166 : decode cX3_look 166 = .ok (.iastore, 1) := by decide +kernel
theorem dX3_look_167 : decode cX3_look 167 = .ok (.aload_n 0, 1) := by decide +kernel
theorem dX3_look_168 : decode cX3_look 168 = .ok (.getfield 36, 3) := by decide +kernel
theorem dX3_look_171 : decode cX3_look 171 = .ok (.iload_n 1, 1) := by decide +kernel
theorem dX3_look_172 : decode cX3_look 172 = .ok (.aaload, 1) := by decide +kernel
theorem dX3_look_173 : decode cX3_look 173 = .ok (.iload 4, 2) := by decide +kernel
theorem dX3_look_175 : decode cX3_look 175 = .ok (.aaload, 1) := by decide +kernel
theorem dX3_look_176 : decode cX3_look 176 = .ok (.aload_n 0, 1) := by decide +kernel
theorem dX3_look_177 : decode cX3_look 177 = .ok (.getfield 28, 3) := by decide +kernel
theorem dX3_look_180 : decode cX3_look 180 = .ok (.iload_n 1, 1) := by decide +kernel
theorem dX3_look_181 : decode cX3_look 181 = .ok (.aaload, 1) := by decide +kernel
theorem dX3_look_182 : decode cX3_look 182 = .ok (.iload 4, 2) := by decide +kernel
theorem dX3_look_184 : decode cX3_look 184 = .ok (.iaload, 1) := by decide +kernel
theorem dX3_look_185 : decode cX3_look 185 = .ok (.iload 7, 2) := by decide +kernel
theorem dX3_look_187 : decode cX3_look 187 = .ok (.iastore, 1) := by decide +kernel
theorem dX3_look_188 : decode cX3_look 188 = .ok (.aload_n 0, 1) := by decide +kernel
theorem dX3_look_189 : decode cX3_look 189 = .ok (.getfield 28, 3) := by decide +kernel
theorem dX3_look_192 : decode cX3_look 192 = .ok (.iload_n 1, 1) := by decide +kernel
theorem dX3_look_193 : decode cX3_look 193 = .ok (.aaload, 1) := by decide +kernel
theorem dX3_look_194 : decode cX3_look 194 = .ok (.iload 4, 2) := by decide +kernel
theorem dX3_look_196 : decode cX3_look 196 = .ok (.dup2, 1) := by decide +kernel
theorem dX3_look_197 : decode cX3_look 197 = .ok (.iaload, 1) := by decide +kernel
theorem dX3_look_198 : decode cX3_look 198 = .ok (.iconst 1, 1) := by decide +kernel
theorem dX3_look_199 : decode cX3_look 199 = .ok (.iadd, 1) := by decide +kernel
theorem dX3_look_200 : decode cX3_look 200 = .ok (.iastore, 1) := by decide +kernel
theorem dX3_look_201 : decode cX3_look 201 = .ok (.iload 7, 2) := by decide +kernel
theorem dX3_look_203 : decode cX3_look 203 = .ok (.istore 5, 2) := by decide +kernel
theorem dX3_look_205 : decode cX3_look 205 = .ok (.goto (-165), 3) := by decide +kernel
theorem dX3_look_208 : decode cX3_look 208 = .ok (.return_, 1) := by decide +kernel
set_option maxRecDepth 20000 in
theorem ggX3_look__X3_look : GoodIn wsX3_look_ wsX3_look := goodIn_r _ [7, 8, 9, 10, 11, 12, 13, 6, 14, 15, 16, 17, 18, 19, 20, 21, 22, 23, 24, 25, 26] (by decide +kernel) (by decide +kernel)
set_option maxRecDepth 20000 in
theorem gX3_look__X3_look : GoodIn wsX3_look_ (wsV RX3 54 RX3 yX3_look wsX3_look) := goodIn_app (goodIn_of _ (by decide +kernel)) ggX3_look__X3_look
theorem dX3_look__0 : decode cX3_look_ 0 = .ok (.aload_n 0, 1) := by decide +kernel
theorem dX3_look__1 : decode cX3_look_ 1 = .ok (.iload_n 1, 1) := by decide +kernel
theorem dX3_look__2 : decode cX3_look_ 2 = .ok (.aload_n 0, 1) := by decide +kernel
theorem dX3_look__3 : decode cX3_look_ 3 = .ok (.getfield 15, 3) := by decide +kernel
theorem dX3_look__6 : decode cX3_look_ 6 = .ok (.iload_n 2, 1) := by decide +kernel
theorem dX3_look__7 : decode cX3_look_ 7 = .ok (.aaload, 1) := by decide +kernel
theorem dX3_look__8 : decode cX3_look_ 8 = .ok (.aload_n 0, 1) := by decide +kernel
theorem dX3_look__9 : decode cX3_look_ 9 = .ok (.getfield 18, 3) := by decide +kernel
theorem dX3_look__12 : decode cX3_look_ 12 = .ok (.iload_n 2, 1) := by decide +kernel
theorem dX3_look__13 : decode cX3_look_ 13 = .ok (.iaload, 1) := by decide +kernel
theorem dX3_look__14 : decode cX3_look_ 14 = .ok (.invokevirtual 54, 3) := by decide +kernel
theorem dX3_look__17 : decode cX3_look_ 17 = .ok (.return_, 1) := by decide +kernel
set_option maxRecDepth 20000 in
theorem ggX3_isNumber_X3_isDigit : GoodIn wsX3_isNumber wsX3_isDigit := goodIn_r _ [7] (by decide +kernel) (by decide +kernel)
set_option maxRecDepth 20000 in
theorem gX3_isNumber_X3_isDigit : GoodIn wsX3_isNumber (va_wsS RX3 51 yX3_isDigit wsX3_isDigit) := goodIn_app (goodIn_of _ (by decide +kernel)) ggX3_isNumber_X3_isDigit
theorem dX3_isNumber_0 : decode cX3_isNumber 0 = .ok (.iload_n 3, 1) := by decide +kernel
theorem dX3_isNumber_1 : decode cX3_isNumber 1 = .ok (.aload_n 0, 1) := by decide +kernel
theorem dX3_isNumber_2 : decode cX3_isNumber 2 = .ok (.getfield 28, 3) := by decide +kernel
theorem dX3_isNumber_5 : decode cX3_isNumber 5 = .ok (.iload_n 1, 1) := by decide +kernel
theorem dX3_isNumber_6 : decode cX3_isNumber 6 = .ok (.aaload, 1) := by decide +kernel
theorem dX3_isNumber_7 : decode cX3_isNumber 7 = .ok (.iload_n 2, 1) := by decide +kernel
theorem dX3_isNumber_8 : decode cX3_isNumber 8 = .ok (.iaload, 1) := by decide +kernel
theorem dX3_isNumber_9 : decode cX3_isNumber 9 = .ok (.if_icmp .ge 26, 3) := by decide +kernel
theorem dX3_isNumber_12 : decode cX3_isNumber 12 = .ok (.aload_n 0, 1) := by decide +kernel
theorem dX3_isNumber_13 : decode cX3_isNumber 13 = .ok (.getfield 23, 3) := by decide +kernel
theorem dX3_isNumber_16 : decode cX3_isNumber 16 = .ok (.iload_n 1, 1) := by decide +kernel
theorem dX3_isNumber_17 : decode cX3_isNumber 17 = .ok (.aaload, 1) := by decide +kernel
theorem dX3_isNumber_18 : decode cX3_isNumber 18 = .ok (.aload_n 0, 1) := by decide +kernel
theorem dX3_isNumber_19 : decode cX3_isNumber 19 = .ok (.getfield 33, 3) := by decide +kernel
theorem dX3_isNumber_22 : decode cX3_isNumber 22 = .ok (.iload_n 1, 1) := by decide +kernel
theorem dX3_isNumber_23 : decode cX3_isNumber 23 = .ok (.aaload, 1) := by decide +kernel
theorem dX3_isNumber_24 : decode cX3_isNumber 24 = .ok (.iload_n 2, 1) := by decide +kernel
theorem dX3_isNumber_25 : decode cX3_isNumber 25 = .ok (.aaload, 1) := by decide +kernel
theorem dX3_isNumber_26 : decode cX3_isNumber 26 = .ok (.iload_n 3, 1) := by decide +kernel
theorem dX3_isNumber_27 : decode cX3_isNumber 27 = .ok (.iaload, 1) := by decide +kernel
theorem dX3_isNumber_28 : decode cX3_isNumber 28 = .ok (.caload, 1) := by decide +kernel
theorem dX3_isNumber_29 : decode cX3_isNumber 29 = .ok (.invokestatic 51, 3) := by decide +kernel
theorem dX3_isNumber_32 : decode cX3_isNumber 32 = .ok (.ifCond .eq 7, 3) := by decide +kernel
theorem dX3_isNumber_35 : decode cX3_isNumber 35 = .ok (.iconst 1, 1) := by decide +kernel
theorem dX3_isNumber_36 : decode cX3_isNumber 36 = .ok (.goto 4, 3) := by decide +kernel
theorem dX3_isNumber_39 : decode cX3_isNumber 39 = .ok (.iconst 0, 1) := by decide +kernel
theorem dX3_isNumber_40 : decode cX3_isNumber 40 = .ok (.ireturn, 1) := by decide +kernel
theorem dX3_number_0 : decode cX3_number 0 = .ok (.iconst 0, 1) := by decide +kernel
theorem dX3_number_1 : decode cX3_number 1 = .ok (.istore 4, 2) := by decide +kernel
theorem dX3_number_3 : decode cX3_number 3 = .ok (.iload_n 3, 1) := by decide +kernel
theorem dX3_number_4 : decode cX3_number 4 = .ok (.aload_n 0, 1) := by decide +kernel
theorem dX3_number_5 : decode cX3_number 5 = .ok (.getfield 28, 3) := by decide +kernel
theorem dX3_number_8 : decode cX3_number 8 = .ok (.iload_n 1, 1) := by decide +kernel
theorem dX3_number_9 : decode cX3_number 9 = .ok (.aaload, 1) := by decide +kernel
theorem dX3_number_10 : decode cX3_number 10 = .ok (.iload_n 2, 1) := by decide +kernel
theorem dX3_number_11 : decode cX3_number 11 = .ok (.iaload, 1) := by decide +kernel
theorem dX3_number_12 : decode cX3_number 12 = .ok (.if_icmp .ge 16, 3) := by decide +kernel
theorem dX3_number_15 : decode cX3_number 15 = .ok (.aload_n 0, 1) := by decide +kernel
theorem dX3_number_16 : decode cX3_number 16 = .ok (.getfield 33, 3) := by decide +kernel
theorem dX3_number_19 : decode cX3_number 19 = .ok (.iload_n 1, 1) := by decide +kernel
theorem dX3_number_20 : decode cX3_number 20 = .ok (.aaload, 1) := by decide +kernel
theorem dX3_number_21 : decode cX3_number 21 = .ok (.iload_n 2, 1) := by decide +kernel
theorem dX3_number_22 : decode cX3_number 22 = .ok (.aaload, 1) := by decide +kernel
theorem dX3_number_23 : decode cX3_number 23 = .ok (.iload_n 3, 1) := by decide +kernel
theorem dX3_number_24 : decode cX3_number 24 = .ok (.iaload, 1) := by decide +kernel
theorem dX3_number_25 : decode cX3_number 25 = .ok (.goto 5, 3) := by decide +kernel
theorem dX3_number_28 : decode cX3_number 28 = .ok (.bipush 60, 2) := by decide +kernel
theorem dX3_number_30 : decode cX3_number 30 = .ok (.istore 5, 2) := by decide +kernel
theorem dX3_number_32 : decode cX3_number 32 = .ok (.iload 5, 2) := by decide +kernel
theorem dX3_number_34 : decode cX3_number 34 = .ok (.bipush 60, 2) := by decide +kernel
theorem dX3_number_36 : decode cX3_number 36 = .ok (.if_icmp .ge 44, 3) := by decide +kernel
theorem dX3_number_39 : decode cX3_number 39 = .ok (.iload 5, 2) := by decide +kernel
theorem dX3_number_41 : decode cX3_number 41 = .ok (.aload_n 0, 1) := by decide +kernel
theorem dX3_number_42 : decode cX3_number 42 = .ok (.getfield 36, 3) := by decide +kernel
theorem dX3_number_45 : decode cX3_number 45 = .ok (.iload_n 1, 1) := by decide +kernel
theorem dX3_number_46 : decode cX3_number 46 = .ok (.aaload, 1) := by decide +kernel
theorem dX3_number_47 : decode cX3_number 47 = .ok (.iload_n 2, 1) := by decide +kernel
theorem dX3_number_48 : decode cX3_number 48 = .ok (.aaload, 1) := by decide +kernel
theorem dX3_number_49 : decode cX3_number 49 = .ok (.iload_n 3, 1) := by decide +kernel
theorem dX3_number_50 : decode cX3_number 50 = .ok (.iaload, 1) := by decide +kernel
theorem dX3_number_51 : decode cX3_number 51 = .ok (.if_icmp .ge 29, 3) := by decide +kernel
theorem dX3_number_54 : decode cX3_number 54 = .ok (.bipush 10, 2) := by decide +kernel
theorem dX3_number_56 : decode cX3_number 56 = .ok (.iload 4, 2) := by decide +kernel
theorem dX3_number_58 : decode cX3_number 58 = .ok (.imul, 1) := by decide +kernel
theorem dX3_number_59 : decode cX3_number 59 = .ok (.aload_n 0, 1) := by decide +kernel
theorem dX3_number_60 : decode cX3_number 60 = .ok (.getfield 23, 3) := by decide +kernel
theorem dX3_number_63 : decode cX3_number 63 = .ok (.iload_n 1, 1) := by decide +kernel
theorem dX3_number_64 : decode cX3_number 64 = .ok (.aaload, 1) := by decide +kernel
theorem dX3_number_65 : decode cX3_number 65 = .ok (.iload 5, 2) := by decide +kernel
theorem dX3_number_67 : decode cX3_number 67 = .ok (.caload, 1) := by decide +kernel
theorem dX3_number_68 : decode cX3_number 68 = .ok (.bipush 48, 2) := by decide +kernel
theorem dX3_number_70 : decode cX3_number 70 = .ok (.isub, 1) := by decide +kernel
theorem dX3_number_71 : decode cX3_number 71 = .ok (.iadd, 1) := by decide +kernel
theorem dX3_number_72 : decode cX3_number 72 = .ok (.istore 4, 2) := by decide +kernel
theorem dX3_number_74 : decode cX3_number 74 = .ok (.iinc 5 1, 3) := by decide +kernel
theorem dX3_number_77 : decode cX3_number 77 = .ok (.goto (-45), 3) := by decide +kernel
theorem dX3_number_80 : decode cX3_number 80 = .ok (.iload 4, 2) := by decide +kernel
theorem dX3_number_82 : decode cX3_number 82 = .ok (.ireturn, 1) := by decide +kernel
theorem dX3_words_0 : decode cX3_words 0 = .ok (.aload_n 0, 1) := by decide +kernel
theorem dX3_words_1 : decode cX3_words 1 = .ok (.getfield 36, 3) := by decide +kernel
theorem dX3_words_4 : decode cX3_words 4 = .ok (.iconst 0, 1) := by decide +kernel
theorem dX3_words_5 : decode cX3_words 5 = .ok (.aaload, 1) := by decide +kernel
theorem dX3_words_6 : decode cX3_words 6 = .ok (.iload_n 1, 1) := by decide +kernel
theorem dX3_words_7 : decode cX3_words 7 = .ok (.aaload, 1) := by decide +kernel
theorem dX3_words_8 : decode cX3_words 8 = .ok (.iload_n 2, 1) := by decide +kernel
theorem dX3_words_9 : decode cX3_words 9 = .ok (.iaload, 1) := by decide +kernel
theorem dX3_words_10 : decode cX3_words 10 = .ok (.aload_n 0, 1) := by decide +kernel
theorem dX3_words_11 : decode cX3_words 11 = .ok (.getfield 33, 3) := by decide +kernel
theorem dX3_words_14 : decode cX3_words 14 = .ok (.iconst 0, 1) := by decide +kernel
theorem dX3_words_15 : decode cX3_words 15 = .ok (.aaload, 1) := by decide +kernel
theorem dX3_words_16 : decode cX3_words 16 = .ok (.iload_n 1, 1) := by decide +kernel
theorem dX3_words_17 : decode cX3_words 17 = .ok (.aaload, 1) := by decide +kernel
theorem dX3_words_18 : decode cX3_words 18 = .ok (.iload_n 2, 1) := by decide +kernel
theorem dX3_words_19 : decode cX3_words 19 = .ok (.iaload, 1) := by decide +kernel
theorem dX3_words_20 : decode cX3_words 20 = .ok (.isub, 1) := by decide +kernel
theorem dX3_words_21 : decode cX3_words 21 = .ok (.istore_n 3, 1) := by decide +kernel
theorem dX3_words_22 : decode cX3_words 22 = .ok (.aload_n 0, 1) := by decide +kernel
theorem dX3_words_23 : decode cX3_words 23 = .ok (.getfield 36, 3) := by decide +kernel
theorem dX3_words_26 : decode cX3_words 26 = .ok (.iconst 1, 1) := by decide +kernel
theorem dX3_words_27 : decode cX3_words 27 = .ok (.aaload, 1) := by decide +kernel
theorem dX3_words_28 : decode cX3_words 28 = .ok (.iload_n 1, 1) := by decide +kernel
theorem dX3_words_29 : decode cX3_words 29 = .ok (.aaload, 1) := by decide +kernel
theorem dX3_words_30 : decode cX3_words 30 = .ok (.iload_n 2, 1) := by decide +kernel
theorem dX3_words_31 : decode cX3_words 31 = .ok (.iaload, 1) := by decide +kernel
theorem dX3_words_32 : decode cX3_words 32 = .ok (.aload_n 0, 1) := by decide +kernel
theorem dX3_words_33 : decode cX3_words 33 = .ok (.getfield 33, 3) := by decide +kernel
theorem dX3_words_36 : decode cX3_words 36 = .ok (.iconst 1, 1) := by decide +kernel
theorem dX3_words_37 : decode cX3_words 37 = .ok (.aaload, 1) := by decide +kernel
theorem dX3_words_38 : decode cX3_words 38 = .ok (.iload_n 1, 1) := by decide +kernel
theorem dX3_words_39 : decode cX3_words 39 = .ok (.aaload, 1) := by decide +kernel
theorem dX3_words_40 : decode cX3_words 40 = .ok (.iload_n 2, 1) := by decide +kernel
theorem dX3_words_41 : decode cX3_words 41 = .ok (.iaload, 1) := by decide +kernel
theorem dX3_words_42 : decode cX3_words 42 = .ok (.isub, 1) := by decide +kernel
theorem dX3_words_43 : decode cX3_words 43 = .ok (.istore 4, 2) := by decide +kernel
theorem dX3_words_45 : decode cX3_words 45 = .ok (.iconst 0, 1) := by decide +kernel
theorem dX3_words_46 : decode cX3_words 46 = .ok (.istore 5, 2) := by decide +kernel
theorem dX3_words_48 : decode cX3_words 48 = .ok (.iload 5, 2) := by decide +kernel
theorem dX3_words_50 : decode cX3_words 50 = .ok (.iload_n 3, 1) := by decide +kernel
theorem dX3_words_51 : decode cX3_words 51 = .ok (.if_icmp .ge 80, 3) := by decide +kernel
theorem dX3_words_54 : decode cX3_words 54 = .ok (.iload 5, 2) := by decide +kernel
theorem dX3_words_56 : decode cX3_words 56 = .ok (.iload 4, 2) := by decide +kernel
theorem dX3_words_58 : decode cX3_words 58 = .ok (.if_icmp .ge 73, 3) := by decide +kernel
theorem dX3_words_61 : decode cX3_words 61 = .ok (.aload_n 0, 1) := by decide +kernel
theorem dX3_words_62 : decode cX3_words 62 = .ok (.getfield 23, 3) := by decide +kernel
theorem dX3_words_65 : decode cX3_words 65 = .ok (.iconst 0, 1) := by decide +kernel
theorem dX3_words_66 : decode cX3_words 66 = .ok (.aaload, 1) := by decide +kernel
theorem dX3_words_67 : decode cX3_words 67 = .ok (.aload_n 0, 1) := by decide +kernel
theorem dX3_words_68 : decode cX3_words 68 = .ok (.getfield 33, 3) := by decide +kernel
theorem dX3_words_71 : decode cX3_words 71 = .ok (.iconst 0, 1) := by decide +kernel
theorem dX3_words_72 : decode cX3_words 72 = .ok (.aaload, 1) := by decide +kernel
theorem dX3_words_73 : decode cX3_words 73 = .ok (.iload_n 1, 1) := by decide +kernel
theorem dX3_words_74 : decode cX3_words 74 = .ok (.aaload, 1) := by decide +kernel
theorem dX3_words_75 : decode cX3_words 75 = .ok (.iload_n 2, 1) := by decide +kernel
theorem dX3_words_76 : decode cX3_words 76 = .ok (.iaload, 1) := by decide +kernel
theorem dX3_words_77 : decode cX3_words 77 = .ok (.iload 5, 2) := by decide +kernel
theorem dX3_words_79 : decode cX3_words 79 = .ok (.iadd, 1) := by decide +kernel
theorem dX3_words_80 : decode cX3_words 80 = .ok (.caload, 1) := by decide +kernel
theorem dX3_words_81 : decode cX3_words 81 = .ok (.istore 6, 2) := by decide +kernel
theorem dX3_words_83 : decode cX3_words 83 = .ok (.aload_n 0, 1) := by decide +kernel
theorem dX3_words_84 : decode cX3_words 84 = .ok (.getfield 23, 3) := by decide +kernel
theorem dX3_words_87 : decode cX3_words 87 = .ok (.iconst 1, 1) := by decide +kernel
theorem dX3_words_88 : decode cX3_words 88 = .ok (.aaload, 1) := by decide +kernel
theorem dX3_words_89 : decode cX3_words 89 = .ok (.aload_n 0, 1) := by decide +kernel
theorem dX3_words_90 : decode cX3_words 90 = .ok (.getfield 33, 3) := by decide +kernel
theorem dX3_words_93 : decode cX3_words 93 = .ok (.iconst 1, 1) := by decide +kernel
theorem dX3_words_94 : decode cX3_words 94 = .ok (.aaload, 1) := by decide +kernel
theorem dX3_words_95 : decode cX3_words 95 = .ok (.iload_n 1, 1) := by decide +kernel
theorem dX3_words_96 : decode cX3_words 96 = .ok (.aaload, 1) := by decide +kernel
theorem dX3_words_97 : decode cX3_words 97 = .ok (.iload_n 2, 1) := by decide +kernel
theorem dX3_words_98 : decode cX3_words 98 = .ok (.iaload, 1) := by decide +kernel
theorem dX3_words_99 : decode cX3_words 99 = .ok (.iload 5, 2) := by decide +kernel
theorem dX3_words_101 : decode cX3_words 101 = .ok (.iadd, 1) := by decide +kernel
theorem dX3_words_102 : decode cX3_words 102 = .ok (.caload, 1) := by decide +kernel
theorem dX3_words_103 : decode cX3_words 103 = .ok (.istore 7, 2) := by decide +kernel
theorem dX3_words_105 : decode cX3_words 105 = .ok (.iload 6, 2) := by decide +kernel
theorem dX3_words_107 : decode cX3_words 107 = .ok (.iload 7, 2) := by decide +kernel
theorem dX3_words_109 : decode cX3_words 109 = .ok (.if_icmp .eq 16, 3) := by decide +kernel
theorem dX3_words_112 : decode cX3_words 112 = .ok (.iload 6, 2) := by decide +kernel
theorem dX3_words_114 : decode cX3_words 114 = .ok (.iload 7, 2) := by decide +kernel
theorem dX3_words_116 : decode cX3_words 116 = .ok (.if_icmp .ge 7, 3) := by decide +kernel
theorem dX3_words_119 : decode cX3_words 119 = .ok (.iconst (-1), 1) := by decide +kernel
theorem dX3_words_120 : decode cX3_words 120 = .ok (.goto 4, 3) := by decide +kernel
theorem dX3_words_123 : decode cX3_words 123 = .ok (.iconst 1, 1) := by decide +kernel
theorem dX3_words_124 : decode cX3_words 124 = .ok (.ireturn, 1) := by decide +kernel
theorem dX3_words_125 : decode cX3_words 125 = .ok (.iinc 5 1, 3) := by decide +kernel
theorem dX3_words_128 : decode cX3_words 128 = .ok (.goto (-80), 3) := by decide +kernel
theorem dX3_words_131 : decode cX3_words 131 = .ok (.iload_n 3, 1) := by decide +kernel
theorem dX3_words_132 : decode cX3_words 132 = .ok (.iload 4, 2) := by decide +kernel
theorem dX3_words_134 : decode cX3_words 134 = .ok (.if_icmp .ge 7, 3) := by decide +kernel
theorem dX3_words_137 : decode cX3_words 137 = .ok (.iconst (-1), 1) := by decide +kernel
theorem dX3_words_138 : decode cX3_words 138 = .ok (.goto 14, 3) := by decide +kernel
theorem dX3_words_141 : decode cX3_words 141 = .ok (.iload_n 3, 1) := by decide +kernel
theorem dX3_words_142 : decode cX3_words 142 = .ok (.iload 4, 2) := by decide +kernel
theorem dX3_words_144 : decode cX3_words 144 = .ok (.if_icmp .le 7, 3) := by decide +kernel
theorem dX3_words_147 : decode cX3_words 147 = .ok (.iconst 1, 1) := by decide +kernel
theorem dX3_words_148 : decode cX3_words 148 = .ok (.goto 4, 3) := by decide +kernel
theorem dX3_words_151 : decode cX3_words 151 = .ok (.iconst 0, 1) := by decide +kernel
theorem dX3_words_152 : decode cX3_words 152 = .ok (.ireturn, 1) := by decide +kernel
set_option maxRecDepth 20000 in
theorem ggX3_rows_X3_isNumber : GoodIn wsX3_rows wsX3_isNumber := goodIn_r _ [6, 1, 7, 8, 9, 10, 5, 11, 21, 22, 23, 24, 25, 26, 27, 28, 29] (by decide +kernel) (by decide +kernel)
set_option maxRecDepth 20000 in
theorem gX3_rows_X3_isNumber : GoodIn wsX3_rows (wsV RX3 58 RX3 yX3_isNumber wsX3_isNumber) := goodIn_app (goodIn_of _ (by decide +kernel)) ggX3_rows_X3_isNumber
set_option maxRecDepth 20000 in
theorem ggX3_rows_X3_number : GoodIn wsX3_rows wsX3_number := goodIn_r _ [15, 1, 8, 16, 7, 21, 22, 23, 24, 25, 26, 27, 28, 29] (by decide +kernel) (by decide +kernel)
set_option maxRecDepth 20000 in
theorem gX3_rows_X3_number : GoodIn wsX3_rows (wsV RX3 61 RX3 yX3_number wsX3_number) := goodIn_app (goodIn_of _ (by decide +kernel)) ggX3_rows_X3_number
set_option maxRecDepth 20000 in
theorem ggX3_rows_X3_words : GoodIn wsX3_rows wsX3_words := goodIn_r _ [20, 16, 8, 7, 21, 22, 23, 24, 25, 26, 27, 28, 29] (by decide +kernel) (by decide +kernel)
set_option maxRecDepth 20000 in
theorem gX3_rows_X3_words : GoodIn wsX3_rows (wsV RX3 65 RX3 yX3_words wsX3_words) := goodIn_app (goodIn_of _ (by decide +kernel)) ggX3_rows_X3_words
theorem dX3_rows_0 : decode cX3_rows 0 = .ok (.iconst 0, 1) := by decide +kernel
theorem dX3_rows_1 : decode cX3_rows 1 = .ok (.istore_n 2, 1) := by decide +kernel
theorem dX3_rows_2 : decode cX3_rows 2 = .ok (.iload_n 2, 1) := by decide +kernel
theorem dX3_rows_3 : decode cX3_rows 3 = .ok (.aload_n 0, 1) := by decide +kernel
theorem dX3_rows_4 : decode cX3_rows 4 = .ok (.getfield 28, 3) := by decide +kernel
theorem dX3_rows_7 : decode cX3_rows 7 = .ok (.iconst 0, 1) := by decide +kernel
theorem dX3_rows_8 : decode cX3_rows 8 = .ok (.aaload, 1) := by decide +kernel
theorem dX3_rows_9 : decode cX3_rows 9 = .ok (.iload_n 1, 1) := by decide +kernel
theorem dX3_rows_10 : decode cX3_rows 10 = .ok (.iaload, 1) := by decide +kernel
theorem dX3_rows_11 : decode cX3_rows 11 = .ok (.if_icmp .lt 15, 3) := by decide +kernel
theorem dX3_rows_14 : decode cX3_rows 14 = .ok (.iload_n 2, 1) := by decide +kernel
theorem dX3_rows_15 : decode cX3_rows 15 = .ok (.aload_n 0, 1) := by decide +kernel
theorem dX3_rows_16 : decode cX3_rows 16 = .ok (.getfield 28, 3) := by decide +kernel
theorem dX3_rows_19 : decode cX3_rows 19 = .ok (.iconst 1, 1) := by decide +kernel
theorem dX3_rows_20 : decode cX3_rows 20 = .ok (.aaload, 1) := by decide +kernel
theorem dX3_rows_21 : decode cX3_rows 21 = .ok (.iload_n 1, 1) := by decide +kernel
theorem dX3_rows_22 : decode cX3_rows 22 = .ok (.iaload, 1) := by decide +kernel
theorem dX3_rows_23 : decode cX3_rows 23 = .ok (.if_icmp .ge 101, 3) := by decide +kernel
theorem dX3_rows_26 : decode cX3_rows 26 = .ok (.aload_n 0, 1) := by decide +kernel
theorem dX3_rows_27 : decode cX3_rows 27 = .ok (.iconst 0, 1) := by decide +kernel
theorem dX3_rows_28 : decode cX3_rows 28 = .ok (.iload_n 1, 1) := by decide +kernel
theorem dX3_rows_29 : decode cX3_rows 29 = .ok (.iload_n 2, 1) := by decide +kernel
theorem dX3_rows_30 : decode cX3_rows 30 = .ok (.invokevirtual 58, 3) := by decide +kernel
theorem dX3_rows_33 : decode cX3_rows 33 = .ok (.istore_n 3, 1) := by decide +kernel
theorem dX3_rows_34 : decode cX3_rows 34 = .ok (.aload_n 0, 1) := by decide +kernel
theorem dX3_rows_35 : decode cX3_rows 35 = .ok (.iconst 1, 1) := by decide +kernel
theorem dX3_rows_36 : decode cX3_rows 36 = .ok (.iload_n 1, 1) := by decide +kernel
theorem dX3_rows_37 : decode cX3_rows 37 = .ok (.iload_n 2, 1) := by decide +kernel
theorem dX3_rows_38 : decode cX3_rows 38 = .ok (.invokevirtual 58, 3) := by decide +kernel
theorem dX3_rows_41 : decode cX3_rows 41 = .ok (.istore 4, 2) := by decide +kernel
theorem dX3_rows_43 : decode cX3_rows 43 = .ok (.iload_n 3, 1) := by decide +kernel
theorem dX3_rows_44 : decode cX3_rows 44 = .ok (.iload 4, 2) := by decide +kernel
theorem dX3_rows_46 : decode cX3_rows 46 = .ok (.if_icmp .eq 13, 3) := by decide +kernel
theorem dX3_rows_49 : decode cX3_rows 49 = .ok (.iload_n 3, 1) := by decide +kernel
theorem dX3_rows_50 : decode cX3_rows 50 = .ok (.ifCond .eq 7, 3) := by decide +kernel
theorem dX3_rows_53 : decode cX3_rows 53 = .ok (.iconst (-1), 1) := by decide +kernel
theorem dX3_rows_54 : decode cX3_rows 54 = .ok (.goto 4, 3) := by decide +kernel
theorem dX3_rows_57 : decode cX3_rows 57 = .ok (.iconst 1, 1) := by decide +kernel
theorem dX3_rows_58 : decode cX3_rows 58 = .ok (.ireturn, 1) := by decide +kernel
theorem dX3_rows_59 : decode cX3_rows 59 = .ok (.iload_n 3, 1) := by decide +kernel
theorem dX3_rows_60 : decode cX3_rows 60 = .ok (.ifCond .eq 13, 3) := by decide +kernel
theorem dX3_rows_63 : decode cX3_rows 63 = .ok (.aload_n 0, 1) := by decide +kernel
theorem dX3_rows_64 : decode cX3_rows 64 = .ok (.iconst 0, 1) := by decide +kernel
theorem dX3_rows_65 : decode cX3_rows 65 = .ok (.iload_n 1, 1) := by decide +kernel
theorem dX3_rows_66 : decode cX3_rows 66 = .ok (.iload_n 2, 1) := by decide +kernel
theorem dX3_rows_67 : decode cX3_rows 67 = .ok (.invokevirtual 61, 3) := by decide +kernel
theorem dX3_rows_70 : decode cX3_rows 70 = .ok (.goto 9, 3) := by decide +kernel
theorem dX3_rows_73 : decode cX3_rows 73 = .ok (.aload_n 0, 1) := by decide +kernel
theorem dX3_rows_74 : decode cX3_rows 74 = .ok (.iload_n 1, 1) := by decide +kernel
theorem dX3_rows_75 : decode cX3_rows 75 = .ok (.iload_n 2, 1) := by decide +kernel
theorem dX3_rows_76 : decode cX3_rows 76 = .ok (.invokevirtual 65, 3) := by decide +kernel
theorem dX3_rows_79 : decode cX3_rows 79 = .ok (.istore 5, 2) := by decide +kernel
theorem dX3_rows_81 : decode cX3_rows 81 = .ok (.iload_n 3, 1) := by decide +kernel
theorem dX3_rows_82 : decode cX3_rows 82 = .ok (.ifCond .eq 13, 3) := by decide +kernel
theorem dX3_rows_85 : decode cX3_rows 85 = .ok (.aload_n 0, 1) := by decide +kernel
theorem dX3_rows_86 : decode cX3_rows 86 = .ok (.iconst 1, 1) := by decide +kernel
theorem dX3_rows_87 : decode cX3_rows 87 = .ok (.iload_n 1, 1) := by decide +kernel
theorem dX3_rows_88 : decode cX3_rows 88 = .ok (.iload_n 2, 1) := by decide +kernel
theorem dX3_rows_89 : decode cX3_rows 89 = .ok (.invokevirtual 61, 3) := by decide +kernel
theorem dX3_rows_92 : decode cX3_rows 92 = .ok (.goto 4, 3) := by decide +kernel
theorem dX3_rows_95 : decode cX3_rows 95 = .ok (.iconst 0, 1) := by decide +kernel
theorem dX3_rows_96 : decode cX3_rows 96 = .ok (.istore 6, 2) := by decide +kernel
theorem dX3_rows_98 : decode cX3_rows 98 = .ok (.iload 5, 2) := by decide +kernel
theorem dX3_rows_100 : decode cX3_rows 100 = .ok (.iload 6, 2) := by decide +kernel
theorem dX3_rows_102 : decode cX3_rows 102 = .ok (.if_icmp .eq 16, 3) := by decide +kernel
theorem dX3_rows_105 : decode cX3_rows 105 = .ok (.iload 5, 2) := by decide +kernel
theorem dX3_rows_107 : decode cX3_rows 107 = .ok (.iload 6, 2) := by decide +kernel
theorem dX3_rows_109 : decode cX3_rows 109 = .ok (.if_icmp .ge 7, 3) := by decide +kernel
theorem dX3_rows_112 : decode cX3_rows 112 = .ok (.iconst (-1), 1) := by decide +kernel
theorem dX3_rows_113 : decode cX3_rows 113 = .ok (.goto 4, 3) := by decide +kernel
theorem dX3_rows_116 : decode cX3_rows 116 = .ok (.iconst 1, 1) := by decide +kernel
theorem dX3_rows_117 : decode cX3_rows 117 = .ok (.ireturn, 1) := by decide +kernel
theorem dX3_rows_118 : decode cX3_rows 118 = .ok (.iinc 2 1, 3) := by decide +kernel
theorem dX3_rows_121 : decode cX3_rows 121 = .ok (.goto (-119), 3) := by decide +kernel
theorem dX3_rows_124 : decode cX3_rows 124 = .ok (.iconst 0, 1) := by decide +kernel
theorem dX3_rows_125 : decode cX3_rows 125 = .ok (.ireturn, 1) := by decide +kernel
set_option maxRecDepth 20000 in
theorem ggX3_judged_X3_rows : GoodIn wsX3_judged wsX3_rows := goodIn_r _ [7, 2, 8, 9, 10, 6, 11, 12, 13, 14, 15, 16, 17, 18, 19, 20, 21, 22, 23, 24, 25, 26, 27, 28, 29, 30, 31, 32, 33, 34] (by decide +kernel) (by decide +kernel)
set_option maxRecDepth 20000 in
theorem gX3_judged_X3_rows : GoodIn wsX3_judged (wsV RX3 69 RX3 yX3_rows wsX3_rows) := goodIn_app (goodIn_of _ (by decide +kernel)) ggX3_judged_X3_rows
theorem dX3_judged_0 : decode cX3_judged 0 = .ok (.aload_n 0, 1) := by decide +kernel
theorem dX3_judged_1 : decode cX3_judged 1 = .ok (.iconst 0, 1) := by decide +kernel
theorem dX3_judged_2 : decode cX3_judged 2 = .ok (.invokevirtual 69, 3) := by decide +kernel
theorem dX3_judged_5 : decode cX3_judged 5 = .ok (.istore_n 1, 1) := by decide +kernel
theorem dX3_judged_6 : decode cX3_judged 6 = .ok (.iload_n 1, 1) := by decide +kernel
theorem dX3_judged_7 : decode cX3_judged 7 = .ok (.ifCond .eq 15, 3) := by decide +kernel
theorem dX3_judged_10 : decode cX3_judged 10 = .ok (.iconst 2, 1) := by decide +kernel
theorem dX3_judged_11 : decode cX3_judged 11 = .ok (.newarray .int, 2) := by decide +kernel
theorem dX3_judged_13 : decode cX3_judged 13 = .ok (.dup, 1) := by decide +kernel
theorem dX3_judged_14 : decode cX3_judged 14 = .ok (.iconst 0, 1) := by decide +kernel
theorem dX3_judged_15 : decode cX3_judged 15 = .ok (.iload_n 1, 1) := by decide +kernel
theorem dX3_judged_16 : decode cX3_judged 16 = .ok (.iastore, 1) := by decide +kernel
theorem dX3_judged_17 : decode cX3_judged 17 = .ok (.dup, 1) := by decide +kernel
theorem dX3_judged_18 : decode cX3_judged 18 = .ok (.iconst 1, 1) := by decide +kernel
theorem dX3_judged_19 : decode cX3_judged 19 = .ok (.iconst 0, 1) := by decide +kernel
theorem dX3_judged_20 : decode cX3_judged 20 = .ok (.iastore, 1) := by decide +kernel
theorem dX3_judged_21 : decode cX3_judged 21 = .ok (.areturn, 1) := by decide +kernel
theorem dX3_judged_22 : decode cX3_judged 22 = .ok (.aload_n 0, 1) := by decide +kernel
theorem dX3_judged_23 : decode cX3_judged 23 = .ok (.getfield 28, 3) := by decide +kernel
theorem dX3_judged_26 : decode cX3_judged 26 = .ok (.iconst 0, 1) := by decide +kernel
theorem dX3_judged_27 : decode cX3_judged 27 = .ok (.aaload, 1) := by decide +kernel
theorem dX3_judged_28 : decode cX3_judged 28 = .ok (.iconst 1, 1) := by decide +kernel
theorem dX3_judged_29 : decode cX3_judged 29 = .ok (.iaload, 1) := by decide +kernel
theorem dX3_judged_30 : decode cX3_judged 30 = .ok (.ifCond .ne 7, 3) := by decide +kernel
theorem dX3_judged_33 : decode cX3_judged 33 = .ok (.iconst 1, 1) := by decide +kernel
theorem dX3_judged_34 : decode cX3_judged 34 = .ok (.goto 4, 3) := by decide +kernel
theorem dX3_judged_37 : decode cX3_judged 37 = .ok (.iconst 0, 1) := by decide +kernel
theorem dX3_judged_38 : decode cX3_judged 38 = .ok (.aload_n 0, 1) := by decide +kernel
theorem dX3_judged_39 : decode cX3_judged 39 = .ok (.getfield 28, 3) := by decide +kernel
theorem dX3_judged_42 : decode cX3_judged 42 = .ok (.iconst 1, 1) := by decide +kernel
theorem dX3_judged_43 : decode cX3_judged 43 = .ok (.aaload, 1) := by decide +kernel
theorem dX3_judged_44 : decode cX3_judged 44 = .ok (.iconst 1, 1) := by decide +kernel
theorem dX3_judged_45 : decode cX3_judged 45 = .ok (.iaload, 1) := by decide +kernel
theorem dX3_judged_46 : decode cX3_judged 46 = .ok (.ifCond .ne 7, 3) := by decide +kernel
theorem dX3_judged_49 : decode cX3_judged 49 = .ok (.iconst 1, 1) := by decide +kernel
theorem dX3_judged_50 : decode cX3_judged 50 = .ok (.goto 4, 3) := by decide +kernel
theorem dX3_judged_53 : decode cX3_judged 53 = .ok (.iconst 0, 1) := by decide +kernel
theorem dX3_judged_54 : decode cX3_judged 54 = .ok (.if_icmp .eq 30, 3) := by decide +kernel
theorem dX3_judged_57 : decode cX3_judged 57 = .ok (.iconst 2, 1) := by decide +kernel
theorem dX3_judged_58 : decode cX3_judged 58 = .ok (.newarray .int, 2) := by decide +kernel
theorem dX3_judged_60 : decode cX3_judged 60 = .ok (.dup, 1) := by decide +kernel
theorem dX3_judged_61 : decode cX3_judged 61 = .ok (.iconst 0, 1) := by decide +kernel
theorem dX3_judged_62 : decode cX3_judged 62 = .ok (.aload_n 0, 1) := by decide +kernel
theorem dX3_judged_63 : decode cX3_judged 63 = .ok (.getfield 28, 3) := by decide +kernel
theorem dX3_judged_66 : decode cX3_judged 66 = .ok (.iconst 0, 1) := by decide +kernel
theorem dX3_judged_67 : decode cX3_judged 67 = .ok (.aaload, 1) := by decide +kernel
theorem dX3_judged_68 : decode cX3_judged 68 = .ok (.iconst 1, 1) := by decide +kernel
theorem dX3_judged_69 : decode cX3_judged 69 = .ok (.iaload, 1) := by decide +kernel
theorem dX3_judged_70 : decode cX3_judged 70 = .ok (.ifCond .ne 7, 3) := by decide +kernel
theorem dX3_judged_73 : decode cX3_judged 73 = .ok (.iconst 1, 1) := by decide +kernel
theorem dX3_judged_74 : decode cX3_judged 74 = .ok (.goto 4, 3) := by decide +kernel
theorem dX3_judged_77 : decode cX3_judged 77 = .ok (.iconst (-1), 1) := by decide +kernel
theorem dX3_judged_78 : decode cX3_judged 78 = .ok (.iastore, 1) := by decide +kernel
theorem dX3_judged_79 : decode cX3_judged 79 = .ok (.dup, 1) := by decide +kernel
theorem dX3_judged_80 : decode cX3_judged 80 = .ok (.iconst 1, 1) := by decide +kernel
theorem dX3_judged_81 : decode cX3_judged 81 = .ok (.iconst 1, 1) := by decide +kernel
theorem dX3_judged_82 : decode cX3_judged 82 = .ok (.iastore, 1) := by decide +kernel
theorem dX3_judged_83 : decode cX3_judged 83 = .ok (.areturn, 1) := by decide +kernel
theorem dX3_judged_84 : decode cX3_judged 84 = .ok (.aload_n 0, 1) := by decide +kernel
theorem dX3_judged_85 : decode cX3_judged 85 = .ok (.iconst 1, 1) := by decide +kernel
theorem dX3_judged_86 : decode cX3_judged 86 = .ok (.invokevirtual 69, 3) := by decide +kernel
theorem dX3_judged_89 : decode cX3_judged 89 = .ok (.istore_n 1, 1) := by decide +kernel
theorem dX3_judged_90 : decode cX3_judged 90 = .ok (.iload_n 1, 1) := by decide +kernel
theorem dX3_judged_91 : decode cX3_judged 91 = .ok (.ifCond .eq 15, 3) := by decide +kernel
theorem dX3_judged_94 : decode cX3_judged 94 = .ok (.iconst 2, 1) := by decide +kernel
theorem dX3_judged_95 : decode cX3_judged 95 = .ok (.newarray .int, 2) := by decide +kernel
theorem dX3_judged_97 : decode cX3_judged 97 = .ok (.dup, 1) := by decide +kernel
theorem dX3_judged_98 : decode cX3_judged 98 = .ok (.iconst 0, 1) := by decide +kernel
theorem dX3_judged_99 : decode cX3_judged 99 = .ok (.iload_n 1, 1) := by decide +kernel
theorem dX3_judged_100 : decode cX3_judged 100 = .ok (.iastore, 1) := by decide +kernel
theorem dX3_judged_101 : decode cX3_judged 101 = .ok (.dup, 1) := by decide +kernel
theorem dX3_judged_102 : decode cX3_judged 102 = .ok (.iconst 1, 1) := by decide +kernel
theorem dX3_judged_103 : decode cX3_judged 103 = .ok (.iconst 1, 1) := by decide +kernel
theorem dX3_judged_104 : decode cX3_judged 104 = .ok (.iastore, 1) := by decide +kernel
theorem dX3_judged_105 : decode cX3_judged 105 = .ok (.areturn, 1) := by decide +kernel
theorem dX3_judged_106 : decode cX3_judged 106 = .ok (.aload_n 0, 1) := by decide +kernel
theorem dX3_judged_107 : decode cX3_judged 107 = .ok (.iconst 2, 1) := by decide +kernel
theorem dX3_judged_108 : decode cX3_judged 108 = .ok (.invokevirtual 69, 3) := by decide +kernel
theorem dX3_judged_111 : decode cX3_judged 111 = .ok (.istore_n 1, 1) := by decide +kernel
theorem dX3_judged_112 : decode cX3_judged 112 = .ok (.iconst 2, 1) := by decide +kernel
theorem dX3_judged_113 : decode cX3_judged 113 = .ok (.newarray .int, 2) := by decide +kernel
theorem dX3_judged_115 : decode cX3_judged 115 = .ok (.dup, 1) := by decide +kernel
theorem dX3_judged_116 : decode cX3_judged 116 = .ok (.iconst 0, 1) := by decide +kernel
theorem dX3_judged_117 : decode cX3_judged 117 = .ok (.iload_n 1, 1) := by decide +kernel
theorem dX3_judged_118 : decode cX3_judged 118 = .ok (.iastore, 1) := by decide +kernel
theorem dX3_judged_119 : decode cX3_judged 119 = .ok (.dup, 1) := by decide +kernel
theorem dX3_judged_120 : decode cX3_judged 120 = .ok (.iconst 1, 1) := by decide +kernel
theorem dX3_judged_121 : decode cX3_judged 121 = .ok (.iload_n 1, 1) := by decide +kernel
theorem dX3_judged_122 : decode cX3_judged 122 = .ok (.ifCond .ne 7, 3) := by decide +kernel
theorem dX3_judged_125 : decode cX3_judged 125 = .ok (.iconst (-1), 1) := by decide +kernel
theorem dX3_judged_126 : decode cX3_judged 126 = .ok (.goto 4, 3) := by decide +kernel
theorem dX3_judged_129 : decode cX3_judged 129 = .ok (.iconst 2, 1) := by decide +kernel
theorem dX3_judged_130 : decode cX3_judged 130 = .ok (.iastore, 1) := by decide +kernel
theorem dX3_judged_131 : decode cX3_judged 131 = .ok (.areturn, 1) := by decide +kernel
set_option maxRecDepth 20000 in
theorem ggX3_order_X3_look_ : GoodIn wsX3_order wsX3_look_ := goodIn_r _ [5, 6, 7, 8, 9, 10, 4, 11, 12, 13, 14, 15, 16, 17, 18, 19, 20, 21, 43, 44, 45, 46, 47, 48, 49, 50, 51] (by decide +kernel) (by decide +kernel)
set_option maxRecDepth 20000 in
theorem gX3_order_X3_look_ : GoodIn wsX3_order (wsV RX3 73 RX3 yX3_look_ wsX3_look_) := goodIn_app (goodIn_of _ (by decide +kernel)) ggX3_order_X3_look_
set_option maxRecDepth 20000 in
theorem ggX3_order_X3_judged : GoodIn wsX3_order wsX3_judged := goodIn_r _ [25, 26, 13, 27, 28, 29, 4, 30, 31, 32, 33, 34, 12, 14, 19, 20, 21, 35, 36, 37, 38, 15, 39, 40, 41, 42, 43, 44, 45, 46, 47, 48, 49, 50, 51] (by decide +kernel) (by decide +kernel)
set_option maxRecDepth 20000 in
theorem gX3_order_X3_judged : GoodIn wsX3_order (wsV RX3 76 RX3 yX3_judged wsX3_judged) := goodIn_app (goodIn_of _ (by decide +kernel)) ggX3_order_X3_judged
theorem dX3_order_0 : decode cX3_order 0 = .ok (.aload_n 0, 1) := by decide +kernel
theorem dX3_order_1 : decode cX3_order 1 = .ok (.iconst 0, 1) := by decide +kernel
theorem dX3_order_2 : decode cX3_order 2 = .ok (.iload_n 1, 1) := by decide +kernel
theorem dX3_order_3 : decode cX3_order 3 = .ok (.invokevirtual 73, 3) := by decide +kernel
theorem dX3_order_6 : decode cX3_order 6 = .ok (.aload_n 0, 1) := by decide +kernel
theorem dX3_order_7 : decode cX3_order 7 = .ok (.iconst 1, 1) := by decide +kernel
theorem dX3_order_8 : decode cX3_order 8 = .ok (.iload_n 2, 1) := by decide +kernel
theorem dX3_order_9 : decode cX3_order 9 = .ok (.invokevirtual 73, 3) := by decide +kernel
theorem dX3_order_12 : decode cX3_order 12 = .ok (.aload_n 0, 1) := by decide +kernel
theorem dX3_order_13 : decode cX3_order 13 = .ok (.invokevirtual 76, 3) := by decide +kernel
theorem dX3_order_16 : decode cX3_order 16 = .ok (.iconst 0, 1) := by decide +kernel
theorem dX3_order_17 : decode cX3_order 17 = .ok (.iaload, 1) := by decide +kernel
theorem dX3_order_18 : decode cX3_order 18 = .ok (.ireturn, 1) := by decide +kernel
set_option maxRecDepth 20000 in
theorem ggX3_lay_X3_look : GoodIn wsX3_lay wsX3_look := goodIn_r _ [8, 9, 10, 11, 12, 13, 14, 7, 15, 16, 17, 18, 44, 45, 46, 47, 48, 49, 50, 51, 52] (by decide +kernel) (by decide +kernel)
set_option maxRecDepth 20000 in
theorem gX3_lay_X3_look : GoodIn wsX3_lay (wsV RX3 54 RX3 yX3_look wsX3_look) := goodIn_app (goodIn_of _ (by decide +kernel)) ggX3_lay_X3_look
set_option maxRecDepth 20000 in
theorem ggX3_lay_X3_look_ : GoodIn wsX3_lay wsX3_look_ := goodIn_r _ [22, 2, 3, 4, 5, 6, 7, 8, 9, 10, 11, 12, 13, 14, 15, 16, 17, 18, 44, 45, 46, 47, 48, 49, 50, 51, 52] (by decide +kernel) (by decide +kernel)
set_option maxRecDepth 20000 in
theorem gX3_lay_X3_look_ : GoodIn wsX3_lay (wsV RX3 73 RX3 yX3_look_ wsX3_look_) := goodIn_app (goodIn_of _ (by decide +kernel)) ggX3_lay_X3_look_
set_option maxRecDepth 20000 in
theorem ggX3_lay_X3_judged : GoodIn wsX3_lay wsX3_judged := goodIn_r _ [26, 27, 10, 28, 29, 30, 7, 31, 32, 33, 34, 35, 9, 11, 16, 17, 18, 36, 37, 38, 39, 12, 40, 41, 42, 43, 44, 45, 46, 47, 48, 49, 50, 51, 52] (by decide +kernel) (by decide +kernel)
set_option maxRecDepth 20000 in
theorem gX3_lay_X3_judged : GoodIn wsX3_lay (wsV RX3 76 RX3 yX3_judged wsX3_judged) := goodIn_app (goodIn_of _ (by decide +kernel)) ggX3_lay_X3_judged
theorem dX3_lay_0 : decode cX3_lay 0 = .ok (.aload_n 0, 1) := by decide +kernel
theorem dX3_lay_1 : decode cX3_lay 1 = .ok (.iconst 0, 1) := by decide +kernel
theorem dX3_lay_2 : decode cX3_lay 2 = .ok (.aload_n 2, 1) := by decide +kernel
theorem dX3_lay_3 : decode cX3_lay 3 = .ok (.iload_n 3, 1) := by decide +kernel
theorem dX3_lay_4 : decode cX3_lay 4 = .ok (.invokevirtual 54, 3) := by decide +kernel
theorem dX3_lay_7 : decode cX3_lay 7 = .ok (.aload_n 0, 1) := by decide +kernel
theorem dX3_lay_8 : decode cX3_lay 8 = .ok (.iconst 1, 1) := by decide +kernel
theorem dX3_lay_9 : decode cX3_lay 9 = .ok (.iload_n 1, 1) := by decide +kernel
theorem dX3_lay_10 : decode cX3_lay 10 = .ok (.invokevirtual 73, 3) := by decide +kernel
theorem dX3_lay_13 : decode cX3_lay 13 = .ok (.aload_n 0, 1) := by decide +kernel
theorem dX3_lay_14 : decode cX3_lay 14 = .ok (.invokevirtual 76, 3) := by decide +kernel
theorem dX3_lay_17 : decode cX3_lay 17 = .ok (.iconst 0, 1) := by decide +kernel
theorem dX3_lay_18 : decode cX3_lay 18 = .ok (.iaload, 1) := by decide +kernel
theorem dX3_lay_19 : decode cX3_lay 19 = .ok (.istore 4, 2) := by decide +kernel
theorem dX3_lay_21 : decode cX3_lay 21 = .ok (.bipush 60, 2) := by decide +kernel
theorem dX3_lay_23 : decode cX3_lay 23 = .ok (.newarray .char, 2) := by decide +kernel
theorem dX3_lay_25 : decode cX3_lay 25 = .ok (.astore 5, 2) := by decide +kernel
theorem dX3_lay_27 : decode cX3_lay 27 = .ok (.iconst 0, 1) := by decide +kernel
theorem dX3_lay_28 : decode cX3_lay 28 = .ok (.istore 6, 2) := by decide +kernel
theorem dX3_lay_30 : decode cX3_lay 30 = .ok (.iload 6, 2) := by decide +kernel
theorem dX3_lay_32 : decode cX3_lay 32 = .ok (.iload_n 3, 1) := by decide +kernel
theorem dX3_lay_33 : decode cX3_lay 33 = .ok (.if_icmp .ge 18, 3) := by decide +kernel
theorem dX3_lay_36 : decode cX3_lay 36 = .ok (.aload 5, 2) := by decide +kernel
theorem dX3_lay_38 : decode cX3_lay 38 = .ok (.iload 6, 2) := by decide +kernel
theorem dX3_lay_40 : decode cX3_lay 40 = .ok (.aload_n 2, 1) := by decide +kernel
theorem dX3_lay_41 : decode cX3_lay 41 = .ok (.iload 6, 2) := by decide +kernel
theorem dX3_lay_43 : decode cX3_lay 43 = .ok (.caload, 1) := by decide +kernel
theorem dX3_lay_44 : decode cX3_lay 44 = .ok (.castore, 1) := by decide +kernel
theorem dX3_lay_45 : decode cX3_lay 45 = .ok (.iinc 6 1, 3) := by decide +kernel
theorem dX3_lay_48 : decode cX3_lay 48 = .ok (.goto (-18), 3) := by decide +kernel
theorem dX3_lay_51 : decode cX3_lay 51 = .ok (.aload_n 0, 1) := by decide +kernel
theorem dX3_lay_52 : decode cX3_lay 52 = .ok (.getfield 15, 3) := by decide +kernel
theorem dX3_lay_55 : decode cX3_lay 55 = .ok (.iload_n 1, 1) := by decide +kernel
theorem dX3_lay_56 : decode cX3_lay 56 = .ok (.aload 5, 2) := by decide +kernel
theorem dX3_lay_58 : decode cX3_lay 58 = .ok (.aastore, 1) := by decide +kernel
theorem dX3_lay_59 : decode cX3_lay 59 = .ok (.aload_n 0, 1) := by decide +kernel
theorem dX3_lay_60 : decode cX3_lay 60 = .ok (.getfield 18, 3) := by decide +kernel
theorem dX3_lay_63 : decode cX3_lay 63 = .ok (.iload_n 1, 1) := by decide +kernel
theorem dX3_lay_64 : decode cX3_lay 64 = .ok (.iload_n 3, 1) := by decide +kernel
theorem dX3_lay_65 : decode cX3_lay 65 = .ok (.iastore, 1) := by decide +kernel
theorem dX3_lay_66 : decode cX3_lay 66 = .ok (.iload 4, 2) := by decide +kernel
theorem dX3_lay_68 : decode cX3_lay 68 = .ok (.ireturn, 1) := by decide +kernel
theorem dX3_length_0 : decode cX3_length 0 = .ok (.iconst 1, 1) := by decide +kernel
theorem dX3_length_1 : decode cX3_length 1 = .ok (.istore_n 1, 1) := by decide +kernel
theorem dX3_length_2 : decode cX3_length 2 = .ok (.iload_n 0, 1) := by decide +kernel
theorem dX3_length_3 : decode cX3_length 3 = .ok (.bipush 10, 2) := by decide +kernel
theorem dX3_length_5 : decode cX3_length 5 = .ok (.idiv, 1) := by decide +kernel
theorem dX3_length_6 : decode cX3_length 6 = .ok (.istore_n 2, 1) := by decide +kernel
theorem dX3_length_7 : decode cX3_length 7 = .ok (.iload_n 2, 1) := by decide +kernel
theorem dX3_length_8 : decode cX3_length 8 = .ok (.ifCond .le 14, 3) := by decide +kernel
theorem dX3_length_11 : decode cX3_length 11 = .ok (.iinc 1 1, 3) := by decide +kernel
theorem dX3_length_14 : decode cX3_length 14 = .ok (.iload_n 2, 1) := by decide +kernel
theorem dX3_length_15 : decode cX3_length 15 = .ok (.bipush 10, 2) := by decide +kernel
theorem dX3_length_17 : decode cX3_length 17 = .ok (.idiv, 1) := by decide +kernel
theorem dX3_length_18 : decode cX3_length 18 = .ok (.istore_n 2, 1) := by decide +kernel
theorem dX3_length_19 : decode cX3_length 19 = .ok (.goto (-12), 3) := by decide +kernel
theorem dX3_length_22 : decode cX3_length 22 = .ok (.iload_n 1, 1) := by decide +kernel
theorem dX3_length_23 : decode cX3_length 23 = .ok (.ireturn, 1) := by decide +kernel
set_option maxRecDepth 20000 in
theorem ggX3_digits_X3_length : GoodIn wsX3_digits wsX3_length := goodIn_r _ [4] (by decide +kernel) (by decide +kernel)
set_option maxRecDepth 20000 in
theorem gX3_digits_X3_length : GoodIn wsX3_digits (va_wsS RX3 80 yX3_length wsX3_length) := goodIn_app (goodIn_of _ (by decide +kernel)) ggX3_digits_X3_length
theorem dX3_digits_0 : decode cX3_digits 0 = .ok (.iload_n 3, 1) := by decide +kernel
theorem dX3_digits_1 : decode cX3_digits 1 = .ok (.iload_n 2, 1) := by decide +kernel
theorem dX3_digits_2 : decode cX3_digits 2 = .ok (.invokestatic 80, 3) := by decide +kernel
theorem dX3_digits_5 : decode cX3_digits 5 = .ok (.iadd, 1) := by decide +kernel
theorem dX3_digits_6 : decode cX3_digits 6 = .ok (.istore 4, 2) := by decide +kernel
theorem dX3_digits_8 : decode cX3_digits 8 = .ok (.iload_n 2, 1) := by decide +kernel
theorem dX3_digits_9 : decode cX3_digits 9 = .ok (.istore 5, 2) := by decide +kernel
theorem dX3_digits_11 : decode cX3_digits 11 = .ok (.iload 4, 2) := by decide +kernel
theorem dX3_digits_13 : decode cX3_digits 13 = .ok (.iconst 1, 1) := by decide +kernel
theorem dX3_digits_14 : decode cX3_digits 14 = .ok (.isub, 1) := by decide +kernel
theorem dX3_digits_15 : decode cX3_digits 15 = .ok (.istore 6, 2) := by decide +kernel
theorem dX3_digits_17 : decode cX3_digits 17 = .ok (.iload 6, 2) := by decide +kernel
theorem dX3_digits_19 : decode cX3_digits 19 = .ok (.ifCond .lt 31, 3) := by decide +kernel
theorem dX3_digits_22 : decode cX3_digits 22 = .ok (.aload_n 0, 1) := by decide +kernel
theorem dX3_digits_23 : decode cX3_digits 23 = .ok (.iload_n 1, 1) := by decide +kernel
theorem dX3_digits_24 : decode cX3_digits 24 = .ok (.iload 6, 2) := by decide +kernel
theorem dX3_digits_26 : decode cX3_digits 26 = .ok (.iadd, 1) := by decide +kernel
theorem dX3_digits_27 : decode cX3_digits 27 = .ok (.bipush 48, 2) := by decide +kernel
theorem dX3_digits_29 : decode cX3_digits 29 = .ok (.iload 5, 2) := by decide +kernel
theorem dX3_digits_31 : decode cX3_digits 31 = .ok (.bipush 10, 2) := by decide +kernel
theorem dX3_digits_33 : decode cX3_digits 33 = .ok (.irem, 1) := by decide +kernel
theorem dX3_digits_34 : decode cX3_digits 34 = .ok (.iadd, 1) := by decide +kernel
theorem dX3_digits_35 : decode cX3_digits 35 = .ok (.i2c, 1) := by decide +kernel
theorem dX3_digits_36 : decode cX3_digits 36 = .ok (.castore, 1) := by decide +kernel
theorem dX3_digits_37 : decode cX3_digits 37 = .ok (.iload 5, 2) := by decide +kernel
theorem dX3_digits_39 : decode cX3_digits 39 = .ok (.bipush 10, 2) := by decide +kernel
theorem dX3_digits_41 : decode cX3_digits 41 = .ok (.idiv, 1) := by decide +kernel
theorem dX3_digits_42 : decode cX3_digits 42 = .ok (.istore 5, 2) := by decide +kernel
theorem dX3_digits_44 : decode cX3_digits 44 = .ok (.iinc 6 (-1), 3) := by decide +kernel
theorem dX3_digits_47 : decode cX3_digits 47 = .ok (.goto (-30), 3) := by decide +kernel
theorem dX3_digits_50 : decode cX3_digits 50 = .ok (.iload_n 1, 1) := by decide +kernel
theorem dX3_digits_51 : decode cX3_digits 51 = .ok (.iload 4, 2) := by decide +kernel
theorem dX3_digits_53 : decode cX3_digits 53 = .ok (.iadd, 1) := by decide +kernel
theorem dX3_digits_54 : decode cX3_digits 54 = .ok (.ireturn, 1) := by decide +kernel
set_option maxRecDepth 20000 in
theorem ggX3_begin_X3_in : GoodIn wsX3_begin wsX3_in := goodIn_r _ [7] (by decide +kernel) (by decide +kernel)
set_option maxRecDepth 20000 in
theorem gX3_begin_X3_in : GoodIn wsX3_begin (va_wsS RX3 43 yX3_in wsX3_in) := goodIn_app (goodIn_of _ (by decide +kernel)) ggX3_begin_X3_in
set_option maxRecDepth 20000 in
theorem ggX3_begin_X3_no : GoodIn wsX3_begin wsX3_no := goodIn_r _ [11, 12, 19, 20, 21, 22, 23, 24, 25, 26, 27] (by decide +kernel) (by decide +kernel)
set_option maxRecDepth 20000 in
theorem gX3_begin_X3_no : GoodIn wsX3_begin (wsV RX3 84 RX3 yX3_no wsX3_no) := goodIn_app (goodIn_of _ (by decide +kernel)) ggX3_begin_X3_no
set_option maxRecDepth 20000 in
theorem ggX3_begin_X3_digits : GoodIn wsX3_begin wsX3_digits := goodIn_r _ [15, 16, 17, 6, 18] (by decide +kernel) (by decide +kernel)
set_option maxRecDepth 20000 in
theorem gX3_begin_X3_digits : GoodIn wsX3_begin (va_wsS RX3 88 yX3_digits wsX3_digits) := goodIn_app (goodIn_of _ (by decide +kernel)) ggX3_begin_X3_digits
theorem dX3_begin_0 : decode cX3_begin 0 = .ok (.aload_n 0, 1) := by decide +kernel
theorem dX3_begin_1 : decode cX3_begin 1 = .ok (.iload_n 1, 1) := by decide +kernel
theorem dX3_begin_2 : decode cX3_begin 2 = .ok (.iconst 0, 1) := by decide +kernel
theorem dX3_begin_3 : decode cX3_begin 3 = .ok (.ldc 83, 2) := by decide +kernel
theorem dX3_begin_5 : decode cX3_begin 5 = .ok (.invokestatic 43, 3) := by decide +kernel
theorem dX3_begin_8 : decode cX3_begin 8 = .ok (.ifCond .eq 16, 3) := by decide +kernel
theorem dX3_begin_11 : decode cX3_begin 11 = .ok (.iload_n 2, 1) := by decide +kernel
theorem dX3_begin_12 : decode cX3_begin 12 = .ok (.iconst 0, 1) := by decide +kernel
theorem dX3_begin_13 : decode cX3_begin 13 = .ok (.iconst 3, 1) := by decide +kernel
theorem dX3_begin_14 : decode cX3_begin 14 = .ok (.invokestatic 43, 3) := by decide +kernel
theorem dX3_begin_17 : decode cX3_begin 17 = .ok (.ifCond .eq 7, 3) := by decide +kernel
theorem dX3_begin_20 : decode cX3_begin 20 = .ok (.iconst 1, 1) := by decide +kernel
theorem dX3_begin_21 : decode cX3_begin 21 = .ok (.goto 4, 3) := by decide +kernel
theorem dX3_begin_24 : decode cX3_begin 24 = .ok (.iconst 0, 1) := by decide +kernel
theorem dX3_begin_25 : decode cX3_begin 25 = .ok (.iconst 1, 1) := by decide +kernel
theorem dX3_begin_26 : decode cX3_begin 26 = .ok (.invokevirtual 84, 3) := by decide +kernel
theorem dX3_begin_29 : decode cX3_begin 29 = .ok (.ifCond .eq 5, 3) := by decide +kernel
theorem dX3_begin_32 : decode cX3_begin 32 = .ok (.iconst 0, 1) := by decide +kernel
theorem dX3_begin_33 : decode cX3_begin 33 = .ok (.ireturn, 1) := by decide +kernel
theorem dX3_begin_34 : decode cX3_begin 34 = .ok (.aload_n 0, 1) := by decide +kernel
theorem dX3_begin_35 : decode cX3_begin 35 = .ok (.aload_n 0, 1) := by decide +kernel
theorem dX3_begin_36 : decode cX3_begin 36 = .ok (.getfield 9, 3) := by decide +kernel
theorem dX3_begin_39 : decode cX3_begin 39 = .ok (.iconst 0, 1) := by decide +kernel
theorem dX3_begin_40 : decode cX3_begin 40 = .ok (.iload_n 1, 1) := by decide +kernel
theorem dX3_begin_41 : decode cX3_begin 41 = .ok (.iload_n 2, 1) := by decide +kernel
theorem dX3_begin_42 : decode cX3_begin 42 = .ok (.invokestatic 88, 3) := by decide +kernel
theorem dX3_begin_45 : decode cX3_begin 45 = .ok (.putfield 92, 3) := by decide +kernel
theorem dX3_begin_48 : decode cX3_begin 48 = .ok (.aload_n 0, 1) := by decide +kernel
theorem dX3_begin_49 : decode cX3_begin 49 = .ok (.getfield 92, 3) := by decide +kernel
theorem dX3_begin_52 : decode cX3_begin 52 = .ok (.ireturn, 1) := by decide +kernel
set_option maxRecDepth 20000 in
theorem ggX3_isWay_X3_isPoint : GoodIn wsX3_isWay wsX3_isPoint := goodIn_r _ [4] (by decide +kernel) (by decide +kernel)
set_option maxRecDepth 20000 in
theorem gX3_isWay_X3_isPoint : GoodIn wsX3_isWay (va_wsS RX3 47 yX3_isPoint wsX3_isPoint) := goodIn_app (goodIn_of _ (by decide +kernel)) ggX3_isWay_X3_isPoint
theorem dX3_isWay_0 : decode cX3_isWay 0 = .ok (.iload_n 0, 1) := by decide +kernel
theorem dX3_isWay_1 : decode cX3_isWay 1 = .ok (.bipush 110, 2) := by decide +kernel
theorem dX3_isWay_3 : decode cX3_isWay 3 = .ok (.if_icmp .eq 10, 3) := by decide +kernel
theorem dX3_isWay_6 : decode cX3_isWay 6 = .ok (.iload_n 0, 1) := by decide +kernel
theorem dX3_isWay_7 : decode cX3_isWay 7 = .ok (.invokestatic 47, 3) := by decide +kernel
theorem dX3_isWay_10 : decode cX3_isWay 10 = .ok (.ifCond .eq 7, 3) := by decide +kernel
theorem dX3_isWay_13 : decode cX3_isWay 13 = .ok (.iconst 1, 1) := by decide +kernel
theorem dX3_isWay_14 : decode cX3_isWay 14 = .ok (.goto 4, 3) := by decide +kernel
theorem dX3_isWay_17 : decode cX3_isWay 17 = .ok (.iconst 0, 1) := by decide +kernel
theorem dX3_isWay_18 : decode cX3_isWay 18 = .ok (.ireturn, 1) := by decide +kernel
set_option maxRecDepth 20000 in
theorem ggX3_isJoined_X3_isDigit : GoodIn wsX3_isJoined wsX3_isDigit := goodIn_r _ [6] (by decide +kernel) (by decide +kernel)
set_option maxRecDepth 20000 in
theorem gX3_isJoined_X3_isDigit : GoodIn wsX3_isJoined (va_wsS RX3 51 yX3_isDigit wsX3_isDigit) := goodIn_app (goodIn_of _ (by decide +kernel)) ggX3_isJoined_X3_isDigit
theorem dX3_isJoined_0 : decode cX3_isJoined 0 = .ok (.aload_n 0, 1) := by decide +kernel
theorem dX3_isJoined_1 : decode cX3_isJoined 1 = .ok (.getfield 92, 3) := by decide +kernel
theorem dX3_isJoined_4 : decode cX3_isJoined 4 = .ok (.ifCond .eq 26, 3) := by decide +kernel
theorem dX3_isJoined_7 : decode cX3_isJoined 7 = .ok (.aload_n 0, 1) := by decide +kernel
theorem dX3_isJoined_8 : decode cX3_isJoined 8 = .ok (.getfield 92, 3) := by decide +kernel
theorem dX3_isJoined_11 : decode cX3_isJoined 11 = .ok (.iload_n 3, 1) := by decide +kernel
theorem dX3_isJoined_12 : decode cX3_isJoined 12 = .ok (.iadd, 1) := by decide +kernel
theorem dX3_isJoined_13 : decode cX3_isJoined 13 = .ok (.iload_n 2, 1) := by decide +kernel
theorem dX3_isJoined_14 : decode cX3_isJoined 14 = .ok (.bipush 110, 2) := by decide +kernel
theorem dX3_isJoined_16 : decode cX3_isJoined 16 = .ok (.if_icmp .ne 7, 3) := by decide +kernel
theorem dX3_isJoined_19 : decode cX3_isJoined 19 = .ok (.iconst 0, 1) := by decide +kernel
theorem dX3_isJoined_20 : decode cX3_isJoined 20 = .ok (.goto 4, 3) := by decide +kernel
theorem dX3_isJoined_23 : decode cX3_isJoined 23 = .ok (.iconst 1, 1) := by decide +kernel
theorem dX3_isJoined_24 : decode cX3_isJoined 24 = .ok (.iadd, 1) := by decide +kernel
theorem dX3_isJoined_25 : decode cX3_isJoined 25 = .ok (.bipush 60, 2) := by decide +kernel
theorem dX3_isJoined_27 : decode cX3_isJoined 27 = .ok (.if_icmp .le 5, 3) := by decide +kernel
theorem dX3_isJoined_30 : decode cX3_isJoined 30 = .ok (.iconst 0, 1) := by decide +kernel
theorem dX3_isJoined_31 : decode cX3_isJoined 31 = .ok (.ireturn, 1) := by decide +kernel
theorem dX3_isJoined_32 : decode cX3_isJoined 32 = .ok (.iconst 0, 1) := by decide +kernel
theorem dX3_isJoined_33 : decode cX3_isJoined 33 = .ok (.istore 4, 2) := by decide +kernel
theorem dX3_isJoined_35 : decode cX3_isJoined 35 = .ok (.iconst 0, 1) := by decide +kernel
theorem dX3_isJoined_36 : decode cX3_isJoined 36 = .ok (.istore 5, 2) := by decide +kernel
theorem dX3_isJoined_38 : decode cX3_isJoined 38 = .ok (.iload 5, 2) := by decide +kernel
theorem dX3_isJoined_40 : decode cX3_isJoined 40 = .ok (.aload_n 0, 1) := by decide +kernel
theorem dX3_isJoined_41 : decode cX3_isJoined 41 = .ok (.getfield 92, 3) := by decide +kernel
theorem dX3_isJoined_44 : decode cX3_isJoined 44 = .ok (.if_icmp .ge 33, 3) := by decide +kernel
theorem dX3_isJoined_47 : decode cX3_isJoined 47 = .ok (.iload 4, 2) := by decide +kernel
theorem dX3_isJoined_49 : decode cX3_isJoined 49 = .ok (.ifCond .ne 15, 3) := by decide +kernel
theorem dX3_isJoined_52 : decode cX3_isJoined 52 = .ok (.aload_n 0, 1) := by decide +kernel
theorem dX3_isJoined_53 : decode cX3_isJoined 53 = .ok (.getfield 9, 3) := by decide +kernel
theorem dX3_isJoined_56 : decode cX3_isJoined 56 = .ok (.iload 5, 2) := by decide +kernel
theorem dX3_isJoined_58 : decode cX3_isJoined 58 = .ok (.caload, 1) := by decide +kernel
theorem dX3_isJoined_59 : decode cX3_isJoined 59 = .ok (.bipush 45, 2) := by decide +kernel
theorem dX3_isJoined_61 : decode cX3_isJoined 61 = .ok (.if_icmp .ne 7, 3) := by decide +kernel
theorem dX3_isJoined_64 : decode cX3_isJoined 64 = .ok (.iconst 1, 1) := by decide +kernel
theorem dX3_isJoined_65 : decode cX3_isJoined 65 = .ok (.goto 4, 3) := by decide +kernel
theorem dX3_isJoined_68 : decode cX3_isJoined 68 = .ok (.iconst 0, 1) := by decide +kernel
theorem dX3_isJoined_69 : decode cX3_isJoined 69 = .ok (.istore 4, 2) := by decide +kernel
theorem dX3_isJoined_71 : decode cX3_isJoined 71 = .ok (.iinc 5 1, 3) := by decide +kernel
theorem dX3_isJoined_74 : decode cX3_isJoined 74 = .ok (.goto (-36), 3) := by decide +kernel
theorem dX3_isJoined_77 : decode cX3_isJoined 77 = .ok (.iload_n 2, 1) := by decide +kernel
theorem dX3_isJoined_78 : decode cX3_isJoined 78 = .ok (.bipush 110, 2) := by decide +kernel
theorem dX3_isJoined_80 : decode cX3_isJoined 80 = .ok (.if_icmp .ne 29, 3) := by decide +kernel
theorem dX3_isJoined_83 : decode cX3_isJoined 83 = .ok (.aload_n 0, 1) := by decide +kernel
theorem dX3_isJoined_84 : decode cX3_isJoined 84 = .ok (.getfield 9, 3) := by decide +kernel
theorem dX3_isJoined_87 : decode cX3_isJoined 87 = .ok (.aload_n 0, 1) := by decide +kernel
theorem dX3_isJoined_88 : decode cX3_isJoined 88 = .ok (.getfield 92, 3) := by decide +kernel
theorem dX3_isJoined_91 : decode cX3_isJoined 91 = .ok (.iconst 1, 1) := by decide +kernel
theorem dX3_isJoined_92 : decode cX3_isJoined 92 = .ok (.isub, 1) := by decide +kernel
theorem dX3_isJoined_93 : decode cX3_isJoined 93 = .ok (.caload, 1) := by decide +kernel
theorem dX3_isJoined_94 : decode cX3_isJoined 94 = .ok (.invokestatic 51, 3) := by decide +kernel
theorem dX3_isJoined_97 : decode cX3_isJoined 97 = .ok (.iload_n 1, 1) := by decide +kernel
theorem dX3_isJoined_98 : decode cX3_isJoined 98 = .ok (.if_icmp .eq 7, 3) := by decide +kernel
theorem dX3_isJoined_101 : decode cX3_isJoined 101 = .ok (.iconst 1, 1) := by decide +kernel
theorem dX3_isJoined_102 : decode cX3_isJoined 102 = .ok (.goto 23, 3) := by decide +kernel
theorem dX3_isJoined_105 : decode cX3_isJoined 105 = .ok (.iconst 0, 1) := by decide +kernel
theorem dX3_isJoined_106 : decode cX3_isJoined 106 = .ok (.goto 19, 3) := by decide +kernel
theorem dX3_isJoined_109 : decode cX3_isJoined 109 = .ok (.iload_n 2, 1) := by decide +kernel
theorem dX3_isJoined_110 : decode cX3_isJoined 110 = .ok (.bipush 43, 2) := by decide +kernel
theorem dX3_isJoined_112 : decode cX3_isJoined 112 = .ok (.if_icmp .ne 8, 3) := by decide +kernel
theorem dX3_isJoined_115 : decode cX3_isJoined 115 = .ok (.iload 4, 2) := by decide +kernel
theorem dX3_isJoined_117 : decode cX3_isJoined 117 = .ok (.ifCond .eq 7, 3) := by decide +kernel
theorem dX3_isJoined_120 : decode cX3_isJoined 120 = .ok (.iconst 1, 1) := by decide +kernel
theorem dX3_isJoined_121 : decode cX3_isJoined 121 = .ok (.goto 4, 3) := by decide +kernel
theorem dX3_isJoined_124 : decode cX3_isJoined 124 = .ok (.iconst 0, 1) := by decide +kernel
theorem dX3_isJoined_125 : decode cX3_isJoined 125 = .ok (.ireturn, 1) := by decide +kernel
theorem dX3_join_0 : decode cX3_join 0 = .ok (.iload_n 1, 1) := by decide +kernel
theorem dX3_join_1 : decode cX3_join 1 = .ok (.bipush 110, 2) := by decide +kernel
theorem dX3_join_3 : decode cX3_join 3 = .ok (.if_icmp .eq 23, 3) := by decide +kernel
theorem dX3_join_6 : decode cX3_join 6 = .ok (.aload_n 0, 1) := by decide +kernel
theorem dX3_join_7 : decode cX3_join 7 = .ok (.getfield 9, 3) := by decide +kernel
theorem dX3_join_10 : decode cX3_join 10 = .ok (.aload_n 0, 1) := by decide +kernel
theorem dX3_join_11 : decode cX3_join 11 = .ok (.getfield 92, 3) := by decide +kernel
theorem dX3_join_14 : decode cX3_join 14 = .ok (.iload_n 1, 1) := by decide +kernel
theorem dX3_join_15 : decode cX3_join 15 = .ok (.castore, 1) := by decide +kernel
theorem dX3_join_16 : decode cX3_join 16 = .ok (.aload_n 0, 1) := by decide +kernel
theorem dX3_join_17 : decode cX3_join 17 = .ok (.dup, 1) := by decide +kernel
theorem dX3_join_18 : decode cX3_join 18 = .ok (.getfield 92, 3) := by decide +kernel
theorem dX3_join_21 : decode cX3_join 21 = .ok (.iconst 1, 1) := by decide +kernel
theorem dX3_join_22 : decode cX3_join 22 = .ok (.iadd, 1) := by decide +kernel
theorem dX3_join_23 : decode cX3_join 23 = .ok (.putfield 92, 3) := by decide +kernel
theorem dX3_join_26 : decode cX3_join 26 = .ok (.return_, 1) := by decide +kernel
set_option maxRecDepth 20000 in
theorem ggX3_add_X3_in : GoodIn wsX3_add wsX3_in := goodIn_r _ [7] (by decide +kernel) (by decide +kernel)
set_option maxRecDepth 20000 in
theorem gX3_add_X3_in : GoodIn wsX3_add (va_wsS RX3 43 yX3_in wsX3_in) := goodIn_app (goodIn_of _ (by decide +kernel)) ggX3_add_X3_in
set_option maxRecDepth 20000 in
theorem ggX3_add_X3_isWay : GoodIn wsX3_add wsX3_isWay := goodIn_r _ [10, 11, 12, 6, 13] (by decide +kernel) (by decide +kernel)
set_option maxRecDepth 20000 in
theorem gX3_add_X3_isWay : GoodIn wsX3_add (va_wsS RX3 96 yX3_isWay wsX3_isWay) := goodIn_app (goodIn_of _ (by decide +kernel)) ggX3_add_X3_isWay
set_option maxRecDepth 20000 in
theorem ggX3_add_X3_no : GoodIn wsX3_add wsX3_no := goodIn_r _ [17, 18, 36, 37, 38, 39, 40, 41, 42, 43, 44] (by decide +kernel) (by decide +kernel)
set_option maxRecDepth 20000 in
theorem gX3_add_X3_no : GoodIn wsX3_add (wsV RX3 84 RX3 yX3_no wsX3_no) := goodIn_app (goodIn_of _ (by decide +kernel)) ggX3_add_X3_no
set_option maxRecDepth 20000 in
theorem ggX3_add_X3_length : GoodIn wsX3_add wsX3_length := goodIn_r _ [21] (by decide +kernel) (by decide +kernel)
set_option maxRecDepth 20000 in
theorem gX3_add_X3_length : GoodIn wsX3_add (va_wsS RX3 80 yX3_length wsX3_length) := goodIn_app (goodIn_of _ (by decide +kernel)) ggX3_add_X3_length
set_option maxRecDepth 20000 in
theorem ggX3_add_X3_isJoined : GoodIn wsX3_add wsX3_isJoined := goodIn_r _ [25, 3, 2, 26, 27, 6, 28, 36, 37, 38, 39, 40, 41, 42, 43, 44] (by decide +kernel) (by decide +kernel)
set_option maxRecDepth 20000 in
theorem gX3_add_X3_isJoined : GoodIn wsX3_add (wsV RX3 99 RX3 yX3_isJoined wsX3_isJoined) := goodIn_app (goodIn_of _ (by decide +kernel)) ggX3_add_X3_isJoined
set_option maxRecDepth 20000 in
theorem ggX3_add_X3_join : GoodIn wsX3_add wsX3_join := goodIn_r _ [32, 2, 3, 36, 37, 38, 39, 40, 41, 42, 43, 44] (by decide +kernel) (by decide +kernel)
set_option maxRecDepth 20000 in
theorem gX3_add_X3_join : GoodIn wsX3_add (wsV RX3 103 RX3 yX3_join wsX3_join) := goodIn_app (goodIn_of _ (by decide +kernel)) ggX3_add_X3_join
set_option maxRecDepth 20000 in
theorem ggX3_add_X3_digits : GoodIn wsX3_add wsX3_digits := goodIn_r _ [35, 19, 20, 6, 21] (by decide +kernel) (by decide +kernel)
set_option maxRecDepth 20000 in
theorem gX3_add_X3_digits : GoodIn wsX3_add (va_wsS RX3 88 yX3_digits wsX3_digits) := goodIn_app (goodIn_of _ (by decide +kernel)) ggX3_add_X3_digits
theorem dX3_add_0 : decode cX3_add 0 = .ok (.aload_n 0, 1) := by decide +kernel
theorem dX3_add_1 : decode cX3_add 1 = .ok (.iload_n 1, 1) := by decide +kernel
theorem dX3_add_2 : decode cX3_add 2 = .ok (.iconst 0, 1) := by decide +kernel
theorem dX3_add_3 : decode cX3_add 3 = .ok (.ldc 95, 2) := by decide +kernel
theorem dX3_add_5 : decode cX3_add 5 = .ok (.invokestatic 43, 3) := by decide +kernel
theorem dX3_add_8 : decode cX3_add 8 = .ok (.ifCond .eq 23, 3) := by decide +kernel
theorem dX3_add_11 : decode cX3_add 11 = .ok (.iload_n 2, 1) := by decide +kernel
theorem dX3_add_12 : decode cX3_add 12 = .ok (.iconst 0, 1) := by decide +kernel
theorem dX3_add_13 : decode cX3_add 13 = .ok (.iconst 3, 1) := by decide +kernel
theorem dX3_add_14 : decode cX3_add 14 = .ok (.invokestatic 43, 3) := by decide +kernel
theorem dX3_add_17 : decode cX3_add 17 = .ok (.ifCond .eq 14, 3) := by decide +kernel
theorem dX3_add_20 : decode cX3_add 20 = .ok (.iload_n 3, 1) := by decide +kernel
theorem dX3_add_21 : decode cX3_add 21 = .ok (.invokestatic 96, 3) := by decide +kernel
theorem dX3_add_24 : decode cX3_add 24 = .ok (.ifCond .eq 7, 3) := by decide +kernel
theorem dX3_add_27 : decode cX3_add 27 = .ok (.iconst 1, 1) := by decide +kernel
theorem dX3_add_28 : decode cX3_add 28 = .ok (.goto 4, 3) := by decide +kernel
theorem dX3_add_31 : decode cX3_add 31 = .ok (.iconst 0, 1) := by decide +kernel
theorem dX3_add_32 : decode cX3_add 32 = .ok (.iconst 1, 1) := by decide +kernel
theorem dX3_add_33 : decode cX3_add 33 = .ok (.invokevirtual 84, 3) := by decide +kernel
theorem dX3_add_36 : decode cX3_add 36 = .ok (.ifCond .ne 23, 3) := by decide +kernel
theorem dX3_add_39 : decode cX3_add 39 = .ok (.aload_n 0, 1) := by decide +kernel
theorem dX3_add_40 : decode cX3_add 40 = .ok (.aload_n 0, 1) := by decide +kernel
theorem dX3_add_41 : decode cX3_add 41 = .ok (.iconst 1, 1) := by decide +kernel
theorem dX3_add_42 : decode cX3_add 42 = .ok (.iload_n 3, 1) := by decide +kernel
theorem dX3_add_43 : decode cX3_add 43 = .ok (.iload_n 2, 1) := by decide +kernel
theorem dX3_add_44 : decode cX3_add 44 = .ok (.iload_n 1, 1) := by decide +kernel
theorem dX3_add_45 : decode cX3_add 45 = .ok (.invokestatic 80, 3) := by decide +kernel
theorem dX3_add_48 : decode cX3_add 48 = .ok (.iadd, 1) := by decide +kernel
theorem dX3_add_49 : decode cX3_add 49 = .ok (.invokevirtual 99, 3) := by decide +kernel
theorem dX3_add_52 : decode cX3_add 52 = .ok (.iconst 2, 1) := by decide +kernel
theorem dX3_add_53 : decode cX3_add 53 = .ok (.invokevirtual 84, 3) := by decide +kernel
theorem dX3_add_56 : decode cX3_add 56 = .ok (.ifCond .eq 5, 3) := by decide +kernel
theorem dX3_add_59 : decode cX3_add 59 = .ok (.iconst 0, 1) := by decide +kernel
theorem dX3_add_60 : decode cX3_add 60 = .ok (.ireturn, 1) := by decide +kernel
theorem dX3_add_61 : decode cX3_add 61 = .ok (.aload_n 0, 1) := by decide +kernel
theorem dX3_add_62 : decode cX3_add 62 = .ok (.iload_n 3, 1) := by decide +kernel
theorem dX3_add_63 : decode cX3_add 63 = .ok (.invokevirtual 103, 3) := by decide +kernel
theorem dX3_add_66 : decode cX3_add 66 = .ok (.aload_n 0, 1) := by decide +kernel
theorem dX3_add_67 : decode cX3_add 67 = .ok (.aload_n 0, 1) := by decide +kernel
theorem dX3_add_68 : decode cX3_add 68 = .ok (.getfield 9, 3) := by decide +kernel
theorem dX3_add_71 : decode cX3_add 71 = .ok (.aload_n 0, 1) := by decide +kernel
theorem dX3_add_72 : decode cX3_add 72 = .ok (.getfield 92, 3) := by decide +kernel
theorem dX3_add_75 : decode cX3_add 75 = .ok (.iload_n 1, 1) := by decide +kernel
theorem dX3_add_76 : decode cX3_add 76 = .ok (.iload_n 2, 1) := by decide +kernel
theorem dX3_add_77 : decode cX3_add 77 = .ok (.invokestatic 88, 3) := by decide +kernel
theorem dX3_add_80 : decode cX3_add 80 = .ok (.putfield 92, 3) := by decide +kernel
theorem dX3_add_83 : decode cX3_add 83 = .ok (.aload_n 0, 1) := by decide +kernel
theorem dX3_add_84 : decode cX3_add 84 = .ok (.getfield 92, 3) := by decide +kernel
theorem dX3_add_87 : decode cX3_add 87 = .ok (.ireturn, 1) := by decide +kernel
set_option maxRecDepth 20000 in
theorem ggX3_word_X3_in : GoodIn wsX3_word wsX3_in := goodIn_r _ [7] (by decide +kernel) (by decide +kernel)
set_option maxRecDepth 20000 in
theorem gX3_word_X3_in : GoodIn wsX3_word (va_wsS RX3 43 yX3_in wsX3_in) := goodIn_app (goodIn_of _ (by decide +kernel)) ggX3_word_X3_in
set_option maxRecDepth 20000 in
theorem ggX3_word_X3_isWay : GoodIn wsX3_word wsX3_isWay := goodIn_r _ [10, 11, 12, 6, 13] (by decide +kernel) (by decide +kernel)
set_option maxRecDepth 20000 in
theorem gX3_word_X3_isWay : GoodIn wsX3_word (va_wsS RX3 96 yX3_isWay wsX3_isWay) := goodIn_app (goodIn_of _ (by decide +kernel)) ggX3_word_X3_isWay
set_option maxRecDepth 20000 in
theorem ggX3_word_X3_no : GoodIn wsX3_word wsX3_no := goodIn_r _ [17, 18, 30, 31, 32, 33, 34, 35, 36, 37, 38] (by decide +kernel) (by decide +kernel)
set_option maxRecDepth 20000 in
theorem gX3_word_X3_no : GoodIn wsX3_word (wsV RX3 84 RX3 yX3_no wsX3_no) := goodIn_app (goodIn_of _ (by decide +kernel)) ggX3_word_X3_no
set_option maxRecDepth 20000 in
theorem ggX3_word_X3_isJoined : GoodIn wsX3_word wsX3_isJoined := goodIn_r _ [22, 3, 2, 23, 24, 6, 25, 30, 31, 32, 33, 34, 35, 36, 37, 38] (by decide +kernel) (by decide +kernel)
set_option maxRecDepth 20000 in
theorem gX3_word_X3_isJoined : GoodIn wsX3_word (wsV RX3 99 RX3 yX3_isJoined wsX3_isJoined) := goodIn_app (goodIn_of _ (by decide +kernel)) ggX3_word_X3_isJoined
set_option maxRecDepth 20000 in
theorem ggX3_word_X3_join : GoodIn wsX3_word wsX3_join := goodIn_r _ [29, 2, 3, 30, 31, 32, 33, 34, 35, 36, 37, 38] (by decide +kernel) (by decide +kernel)
set_option maxRecDepth 20000 in
theorem gX3_word_X3_join : GoodIn wsX3_word (wsV RX3 103 RX3 yX3_join wsX3_join) := goodIn_app (goodIn_of _ (by decide +kernel)) ggX3_word_X3_join
theorem dX3_word_0 : decode cX3_word 0 = .ok (.aload_n 0, 1) := by decide +kernel
theorem dX3_word_1 : decode cX3_word 1 = .ok (.iload_n 2, 1) := by decide +kernel
theorem dX3_word_2 : decode cX3_word 2 = .ok (.iconst 1, 1) := by decide +kernel
theorem dX3_word_3 : decode cX3_word 3 = .ok (.iconst 5, 1) := by decide +kernel
theorem dX3_word_4 : decode cX3_word 4 = .ok (.invokestatic 43, 3) := by decide +kernel
theorem dX3_word_7 : decode cX3_word 7 = .ok (.ifCond .eq 14, 3) := by decide +kernel
theorem dX3_word_10 : decode cX3_word 10 = .ok (.iload_n 3, 1) := by decide +kernel
theorem dX3_word_11 : decode cX3_word 11 = .ok (.invokestatic 96, 3) := by decide +kernel
theorem dX3_word_14 : decode cX3_word 14 = .ok (.ifCond .eq 7, 3) := by decide +kernel
theorem dX3_word_17 : decode cX3_word 17 = .ok (.iconst 1, 1) := by decide +kernel
theorem dX3_word_18 : decode cX3_word 18 = .ok (.goto 4, 3) := by decide +kernel
theorem dX3_word_21 : decode cX3_word 21 = .ok (.iconst 0, 1) := by decide +kernel
theorem dX3_word_22 : decode cX3_word 22 = .ok (.iconst 1, 1) := by decide +kernel
theorem dX3_word_23 : decode cX3_word 23 = .ok (.invokevirtual 84, 3) := by decide +kernel
theorem dX3_word_26 : decode cX3_word 26 = .ok (.ifCond .ne 18, 3) := by decide +kernel
theorem dX3_word_29 : decode cX3_word 29 = .ok (.aload_n 0, 1) := by decide +kernel
theorem dX3_word_30 : decode cX3_word 30 = .ok (.aload_n 0, 1) := by decide +kernel
theorem dX3_word_31 : decode cX3_word 31 = .ok (.iconst 0, 1) := by decide +kernel
theorem dX3_word_32 : decode cX3_word 32 = .ok (.iload_n 3, 1) := by decide +kernel
theorem dX3_word_33 : decode cX3_word 33 = .ok (.iload_n 2, 1) := by decide +kernel
theorem dX3_word_34 : decode cX3_word 34 = .ok (.invokevirtual 99, 3) := by decide +kernel
theorem dX3_word_37 : decode cX3_word 37 = .ok (.iconst 2, 1) := by decide +kernel
theorem dX3_word_38 : decode cX3_word 38 = .ok (.invokevirtual 84, 3) := by decide +kernel
theorem dX3_word_41 : decode cX3_word 41 = .ok (.ifCond .eq 5, 3) := by decide +kernel
theorem dX3_word_44 : decode cX3_word 44 = .ok (.iconst 0, 1) := by decide +kernel
theorem dX3_word_45 : decode cX3_word 45 = .ok (.ireturn, 1) := by decide +kernel
theorem dX3_word_46 : decode cX3_word 46 = .ok (.aload_n 0, 1) := by decide +kernel
theorem dX3_word_47 : decode cX3_word 47 = .ok (.iload_n 3, 1) := by decide +kernel
theorem dX3_word_48 : decode cX3_word 48 = .ok (.invokevirtual 103, 3) := by decide +kernel
theorem dX3_word_51 : decode cX3_word 51 = .ok (.iload_n 1, 1) := by decide +kernel
theorem dX3_word_52 : decode cX3_word 52 = .ok (.ldc 107, 2) := by decide +kernel
theorem dX3_word_54 : decode cX3_word 54 = .ok (.iand, 1) := by decide +kernel
theorem dX3_word_55 : decode cX3_word 55 = .ok (.istore 4, 2) := by decide +kernel
theorem dX3_word_57 : decode cX3_word 57 = .ok (.iconst 0, 1) := by decide +kernel
theorem dX3_word_58 : decode cX3_word 58 = .ok (.istore 5, 2) := by decide +kernel
theorem dX3_word_60 : decode cX3_word 60 = .ok (.iload 5, 2) := by decide +kernel
theorem dX3_word_62 : decode cX3_word 62 = .ok (.iload_n 2, 1) := by decide +kernel
theorem dX3_word_63 : decode cX3_word 63 = .ok (.if_icmp .ge 66, 3) := by decide +kernel
theorem dX3_word_66 : decode cX3_word 66 = .ok (.iload 4, 2) := by decide +kernel
theorem dX3_word_68 : decode cX3_word 68 = .ok (.bipush 52, 2) := by decide +kernel
theorem dX3_word_70 : decode cX3_word 70 = .ok (.irem, 1) := by decide +kernel
theorem dX3_word_71 : decode cX3_word 71 = .ok (.istore 6, 2) := by decide +kernel
theorem dX3_word_73 : decode cX3_word 73 = .ok (.aload_n 0, 1) := by decide +kernel
theorem dX3_word_74 : decode cX3_word 74 = .ok (.getfield 9, 3) := by decide +kernel
theorem dX3_word_77 : decode cX3_word 77 = .ok (.aload_n 0, 1) := by decide +kernel
theorem dX3_word_78 : decode cX3_word 78 = .ok (.getfield 92, 3) := by decide +kernel
theorem dX3_word_81 : decode cX3_word 81 = .ok (.iload 6, 2) := by decide +kernel
theorem dX3_word_83 : decode cX3_word 83 = .ok (.bipush 26, 2) := by decide +kernel
theorem dX3_word_85 : decode cX3_word 85 = .ok (.if_icmp .ge 11, 3) := by decide +kernel
theorem dX3_word_88 : decode cX3_word 88 = .ok (.bipush 97, 2) := by decide +kernel
theorem dX3_word_90 : decode cX3_word 90 = .ok (.iload 6, 2) := by decide +kernel
theorem dX3_word_92 : decode cX3_word 92 = .ok (.iadd, 1) := by decide +kernel
theorem dX3_word_93 : decode cX3_word 93 = .ok (.goto 11, 3) := by decide +kernel
theorem dX3_word_96 : decode cX3_word 96 = .ok (.bipush 65, 2) := by decide +kernel
theorem dX3_word_98 : decode cX3_word 98 = .ok (.iload 6, 2) := by decide +kernel
theorem dX3_word_100 : decode cX3_word 100 = .ok (.iadd, 1) := by decide +kernel
theorem dX3_word_101 : decode cX3_word 101 = .ok (.bipush 26, 2) := by decide +kernel
theorem dX3_word_103 : decode cX3_word 103 = .ok (.isub, 1) := by decide +kernel
theorem dX3_word_104 : decode cX3_word 104 = .ok (.i2c, 1) := by decide +kernel
theorem dX3_word_105 : decode cX3_word 105 = .ok (.castore, 1) := by decide +kernel
theorem dX3_word_106 : decode cX3_word 106 = .ok (.aload_n 0, 1) := by decide +kernel
theorem dX3_word_107 : decode cX3_word 107 = .ok (.dup, 1) := by decide +kernel
theorem dX3_word_108 : decode cX3_word 108 = .ok (.getfield 92, 3) := by decide +kernel
theorem dX3_word_111 : decode cX3_word 111 = .ok (.iconst 1, 1) := by decide +kernel
theorem dX3_word_112 : decode cX3_word 112 = .ok (.iadd, 1) := by decide +kernel
theorem dX3_word_113 : decode cX3_word 113 = .ok (.putfield 92, 3) := by decide +kernel
theorem dX3_word_116 : decode cX3_word 116 = .ok (.iload 4, 2) := by decide +kernel
theorem dX3_word_118 : decode cX3_word 118 = .ok (.bipush 52, 2) := by decide +kernel
theorem dX3_word_120 : decode cX3_word 120 = .ok (.idiv, 1) := by decide +kernel
theorem dX3_word_121 : decode cX3_word 121 = .ok (.istore 4, 2) := by decide +kernel
theorem dX3_word_123 : decode cX3_word 123 = .ok (.iinc 5 1, 3) := by decide +kernel
theorem dX3_word_126 : decode cX3_word 126 = .ok (.goto (-66), 3) := by decide +kernel
theorem dX3_word_129 : decode cX3_word 129 = .ok (.aload_n 0, 1) := by decide +kernel
theorem dX3_word_130 : decode cX3_word 130 = .ok (.getfield 92, 3) := by decide +kernel
theorem dX3_word_133 : decode cX3_word 133 = .ok (.ireturn, 1) := by decide +kernel
theorem dX3_drop_0 : decode cX3_drop 0 = .ok (.aload_n 0, 1) := by decide +kernel
theorem dX3_drop_1 : decode cX3_drop 1 = .ok (.iconst 0, 1) := by decide +kernel
theorem dX3_drop_2 : decode cX3_drop 2 = .ok (.putfield 39, 3) := by decide +kernel
theorem dX3_drop_5 : decode cX3_drop 5 = .ok (.aload_n 0, 1) := by decide +kernel
theorem dX3_drop_6 : decode cX3_drop 6 = .ok (.getfield 92, 3) := by decide +kernel
theorem dX3_drop_9 : decode cX3_drop 9 = .ok (.istore_n 1, 1) := by decide +kernel
theorem dX3_drop_10 : decode cX3_drop 10 = .ok (.aload_n 0, 1) := by decide +kernel
theorem dX3_drop_11 : decode cX3_drop 11 = .ok (.iconst 0, 1) := by decide +kernel
theorem dX3_drop_12 : decode cX3_drop 12 = .ok (.putfield 92, 3) := by decide +kernel
theorem dX3_drop_15 : decode cX3_drop 15 = .ok (.iload_n 1, 1) := by decide +kernel
theorem dX3_drop_16 : decode cX3_drop 16 = .ok (.ireturn, 1) := by decide +kernel
set_option maxRecDepth 20000 in
theorem ggX3_sign_X3_in : GoodIn wsX3_sign wsX3_in := goodIn_r _ [6] (by decide +kernel) (by decide +kernel)
set_option maxRecDepth 20000 in
theorem gX3_sign_X3_in : GoodIn wsX3_sign (va_wsS RX3 43 yX3_in wsX3_in) := goodIn_app (goodIn_of _ (by decide +kernel)) ggX3_sign_X3_in
set_option maxRecDepth 20000 in
theorem ggX3_sign_X3_no : GoodIn wsX3_sign wsX3_no := goodIn_r _ [10, 11, 12, 13, 14, 15, 16, 17, 18, 19, 20] (by decide +kernel) (by decide +kernel)
set_option maxRecDepth 20000 in
theorem gX3_sign_X3_no : GoodIn wsX3_sign (wsV RX3 84 RX3 yX3_no wsX3_no) := goodIn_app (goodIn_of _ (by decide +kernel)) ggX3_sign_X3_no
theorem dX3_sign_0 : decode cX3_sign 0 = .ok (.aload_n 0, 1) := by decide +kernel
theorem dX3_sign_1 : decode cX3_sign 1 = .ok (.iload_n 1, 1) := by decide +kernel
theorem dX3_sign_2 : decode cX3_sign 2 = .ok (.iconst 0, 1) := by decide +kernel
theorem dX3_sign_3 : decode cX3_sign 3 = .ok (.aload_n 0, 1) := by decide +kernel
theorem dX3_sign_4 : decode cX3_sign 4 = .ok (.getfield 92, 3) := by decide +kernel
theorem dX3_sign_7 : decode cX3_sign 7 = .ok (.iconst 1, 1) := by decide +kernel
theorem dX3_sign_8 : decode cX3_sign 8 = .ok (.isub, 1) := by decide +kernel
theorem dX3_sign_9 : decode cX3_sign 9 = .ok (.invokestatic 43, 3) := by decide +kernel
theorem dX3_sign_12 : decode cX3_sign 12 = .ok (.iconst 1, 1) := by decide +kernel
theorem dX3_sign_13 : decode cX3_sign 13 = .ok (.invokevirtual 84, 3) := by decide +kernel
theorem dX3_sign_16 : decode cX3_sign 16 = .ok (.ifCond .eq 8, 3) := by decide +kernel
theorem dX3_sign_19 : decode cX3_sign 19 = .ok (.bipush 32, 2) := by decide +kernel
theorem dX3_sign_21 : decode cX3_sign 21 = .ok (.goto 9, 3) := by decide +kernel
theorem dX3_sign_24 : decode cX3_sign 24 = .ok (.aload_n 0, 1) := by decide +kernel
theorem dX3_sign_25 : decode cX3_sign 25 = .ok (.getfield 9, 3) := by decide +kernel
theorem dX3_sign_28 : decode cX3_sign 28 = .ok (.iload_n 1, 1) := by decide +kernel
theorem dX3_sign_29 : decode cX3_sign 29 = .ok (.caload, 1) := by decide +kernel
theorem dX3_sign_30 : decode cX3_sign 30 = .ok (.ireturn, 1) := by decide +kernel
set_option maxRecDepth 20000 in
theorem ggX3_parse_X3_isSlot : GoodIn wsX3_parse wsX3_isSlot := goodIn_r _ [6, 7, 8, 5, 9] (by decide +kernel) (by decide +kernel)
set_option maxRecDepth 20000 in
theorem gX3_parse_X3_isSlot : GoodIn wsX3_parse (va_wsS RX3 108 yX3_isSlot wsX3_isSlot) := goodIn_app (goodIn_of _ (by decide +kernel)) ggX3_parse_X3_isSlot
set_option maxRecDepth 20000 in
theorem ggX3_parse_X3_no : GoodIn wsX3_parse wsX3_no := goodIn_r _ [13, 14, 61, 62, 63, 64, 65, 66, 67, 68, 69] (by decide +kernel) (by decide +kernel)
set_option maxRecDepth 20000 in
theorem gX3_parse_X3_no : GoodIn wsX3_parse (wsV RX3 84 RX3 yX3_no wsX3_no) := goodIn_app (goodIn_of _ (by decide +kernel)) ggX3_parse_X3_no
set_option maxRecDepth 20000 in
theorem ggX3_parse_X3_lay : GoodIn wsX3_parse wsX3_lay := goodIn_r _ [18, 19, 20, 21, 22, 23, 24, 5, 25, 26, 27, 28, 29, 30, 31, 32, 33, 34, 35, 36, 37, 38, 39, 40, 41, 42, 43, 44, 45, 46, 47, 48, 49, 50, 51, 52, 53, 54, 55, 56, 57, 58, 59, 60, 61, 62, 63, 64, 65, 66, 67, 68, 69] (by decide +kernel) (by decide +kernel)
set_option maxRecDepth 20000 in
theorem gX3_parse_X3_lay : GoodIn wsX3_parse (wsV RX3 112 RX3 yX3_lay wsX3_lay) := goodIn_app (goodIn_of _ (by decide +kernel)) ggX3_parse_X3_lay
theorem dX3_parse_0 : decode cX3_parse 0 = .ok (.aload_n 0, 1) := by decide +kernel
theorem dX3_parse_1 : decode cX3_parse 1 = .ok (.iload_n 1, 1) := by decide +kernel
theorem dX3_parse_2 : decode cX3_parse 2 = .ok (.invokestatic 108, 3) := by decide +kernel
theorem dX3_parse_5 : decode cX3_parse 5 = .ok (.iconst 1, 1) := by decide +kernel
theorem dX3_parse_6 : decode cX3_parse 6 = .ok (.invokevirtual 84, 3) := by decide +kernel
theorem dX3_parse_9 : decode cX3_parse 9 = .ok (.ifCond .ne 23, 3) := by decide +kernel
theorem dX3_parse_12 : decode cX3_parse 12 = .ok (.aload_n 0, 1) := by decide +kernel
theorem dX3_parse_13 : decode cX3_parse 13 = .ok (.aload_n 0, 1) := by decide +kernel
theorem dX3_parse_14 : decode cX3_parse 14 = .ok (.getfield 92, 3) := by decide +kernel
theorem dX3_parse_17 : decode cX3_parse 17 = .ok (.ifCond .le 7, 3) := by decide +kernel
theorem dX3_parse_20 : decode cX3_parse 20 = .ok (.iconst 1, 1) := by decide +kernel
theorem dX3_parse_21 : decode cX3_parse 21 = .ok (.goto 4, 3) := by decide +kernel
theorem dX3_parse_24 : decode cX3_parse 24 = .ok (.iconst 0, 1) := by decide +kernel
theorem dX3_parse_25 : decode cX3_parse 25 = .ok (.iconst 2, 1) := by decide +kernel
theorem dX3_parse_26 : decode cX3_parse 26 = .ok (.invokevirtual 84, 3) := by decide +kernel
theorem dX3_parse_29 : decode cX3_parse 29 = .ok (.ifCond .eq 5, 3) := by decide +kernel
theorem dX3_parse_32 : decode cX3_parse 32 = .ok (.iconst 0, 1) := by decide +kernel
theorem dX3_parse_33 : decode cX3_parse 33 = .ok (.ireturn, 1) := by decide +kernel
theorem dX3_parse_34 : decode cX3_parse 34 = .ok (.aload_n 0, 1) := by decide +kernel
theorem dX3_parse_35 : decode cX3_parse 35 = .ok (.iload_n 1, 1) := by decide +kernel
theorem dX3_parse_36 : decode cX3_parse 36 = .ok (.aload_n 0, 1) := by decide +kernel
theorem dX3_parse_37 : decode cX3_parse 37 = .ok (.getfield 9, 3) := by decide +kernel
theorem dX3_parse_40 : decode cX3_parse 40 = .ok (.aload_n 0, 1) := by decide +kernel
theorem dX3_parse_41 : decode cX3_parse 41 = .ok (.getfield 92, 3) := by decide +kernel
theorem dX3_parse_44 : decode cX3_parse 44 = .ok (.invokevirtual 112, 3) := by decide +kernel
theorem dX3_parse_47 : decode cX3_parse 47 = .ok (.ireturn, 1) := by decide +kernel
set_option maxRecDepth 20000 in
theorem ggX3_triple_X3_isSlot : GoodIn wsX3_triple wsX3_isSlot := goodIn_r _ [6, 7, 8, 5, 9] (by decide +kernel) (by decide +kernel)
set_option maxRecDepth 20000 in
theorem gX3_triple_X3_isSlot : GoodIn wsX3_triple (va_wsS RX3 108 yX3_isSlot wsX3_isSlot) := goodIn_app (goodIn_of _ (by decide +kernel)) ggX3_triple_X3_isSlot
set_option maxRecDepth 20000 in
theorem ggX3_triple_X3_no : GoodIn wsX3_triple wsX3_no := goodIn_r _ [13, 14, 66, 67, 68, 69, 70, 71, 72, 73, 74] (by decide +kernel) (by decide +kernel)
set_option maxRecDepth 20000 in
theorem gX3_triple_X3_no : GoodIn wsX3_triple (wsV RX3 84 RX3 yX3_no wsX3_no) := goodIn_app (goodIn_of _ (by decide +kernel)) ggX3_triple_X3_no
set_option maxRecDepth 20000 in
theorem ggX3_triple_X3_in : GoodIn wsX3_triple wsX3_in := goodIn_r _ [9] (by decide +kernel) (by decide +kernel)
set_option maxRecDepth 20000 in
theorem gX3_triple_X3_in : GoodIn wsX3_triple (va_wsS RX3 43 yX3_in wsX3_in) := goodIn_app (goodIn_of _ (by decide +kernel)) ggX3_triple_X3_in
set_option maxRecDepth 20000 in
theorem ggX3_triple_X3_digits : GoodIn wsX3_triple wsX3_digits := goodIn_r _ [17, 18, 19, 5, 20] (by decide +kernel) (by decide +kernel)
set_option maxRecDepth 20000 in
theorem gX3_triple_X3_digits : GoodIn wsX3_triple (va_wsS RX3 88 yX3_digits wsX3_digits) := goodIn_app (goodIn_of _ (by decide +kernel)) ggX3_triple_X3_digits
set_option maxRecDepth 20000 in
theorem ggX3_triple_X3_lay : GoodIn wsX3_triple wsX3_lay := goodIn_r _ [24, 2, 25, 26, 27, 28, 29, 5, 30, 31, 32, 33, 34, 35, 36, 37, 38, 39, 40, 41, 42, 43, 44, 45, 46, 47, 48, 49, 50, 51, 52, 53, 54, 55, 56, 57, 58, 59, 60, 61, 62, 63, 64, 65, 66, 67, 68, 69, 70, 71, 72, 73, 74] (by decide +kernel) (by decide +kernel)
set_option maxRecDepth 20000 in
theorem gX3_triple_X3_lay : GoodIn wsX3_triple (wsV RX3 112 RX3 yX3_lay wsX3_lay) := goodIn_app (goodIn_of _ (by decide +kernel)) ggX3_triple_X3_lay
theorem dX3_triple_0 : decode cX3_triple 0 = .ok (.aload_n 0, 1) := by decide +kernel
theorem dX3_triple_1 : decode cX3_triple 1 = .ok (.iload_n 1, 1) := by decide +kernel
theorem dX3_triple_2 : decode cX3_triple 2 = .ok (.invokestatic 108, 3) := by decide +kernel
theorem dX3_triple_5 : decode cX3_triple 5 = .ok (.iconst 1, 1) := by decide +kernel
theorem dX3_triple_6 : decode cX3_triple 6 = .ok (.invokevirtual 84, 3) := by decide +kernel
theorem dX3_triple_9 : decode cX3_triple 9 = .ok (.ifCond .ne 47, 3) := by decide +kernel
theorem dX3_triple_12 : decode cX3_triple 12 = .ok (.aload_n 0, 1) := by decide +kernel
theorem dX3_triple_13 : decode cX3_triple 13 = .ok (.iload_n 2, 1) := by decide +kernel
theorem dX3_triple_14 : decode cX3_triple 14 = .ok (.iconst 0, 1) := by decide +kernel
theorem dX3_triple_15 : decode cX3_triple 15 = .ok (.ldc 83, 2) := by decide +kernel
theorem dX3_triple_17 : decode cX3_triple 17 = .ok (.invokestatic 43, 3) := by decide +kernel
theorem dX3_triple_20 : decode cX3_triple 20 = .ok (.ifCond .eq 28, 3) := by decide +kernel
theorem dX3_triple_23 : decode cX3_triple 23 = .ok (.iload_n 3, 1) := by decide +kernel
theorem dX3_triple_24 : decode cX3_triple 24 = .ok (.iconst 0, 1) := by decide +kernel
theorem dX3_triple_25 : decode cX3_triple 25 = .ok (.ldc 83, 2) := by decide +kernel
theorem dX3_triple_27 : decode cX3_triple 27 = .ok (.invokestatic 43, 3) := by decide +kernel
theorem dX3_triple_30 : decode cX3_triple 30 = .ok (.ifCond .eq 18, 3) := by decide +kernel
theorem dX3_triple_33 : decode cX3_triple 33 = .ok (.iload 4, 2) := by decide +kernel
theorem dX3_triple_35 : decode cX3_triple 35 = .ok (.iconst 0, 1) := by decide +kernel
theorem dX3_triple_36 : decode cX3_triple 36 = .ok (.ldc 83, 2) := by decide +kernel
theorem dX3_triple_38 : decode cX3_triple 38 = .ok (.invokestatic 43, 3) := by decide +kernel
theorem dX3_triple_41 : decode cX3_triple 41 = .ok (.ifCond .eq 7, 3) := by decide +kernel
theorem dX3_triple_44 : decode cX3_triple 44 = .ok (.iconst 1, 1) := by decide +kernel
theorem dX3_triple_45 : decode cX3_triple 45 = .ok (.goto 4, 3) := by decide +kernel
theorem dX3_triple_48 : decode cX3_triple 48 = .ok (.iconst 0, 1) := by decide +kernel
theorem dX3_triple_49 : decode cX3_triple 49 = .ok (.iconst 2, 1) := by decide +kernel
theorem dX3_triple_50 : decode cX3_triple 50 = .ok (.invokevirtual 84, 3) := by decide +kernel
theorem dX3_triple_53 : decode cX3_triple 53 = .ok (.ifCond .eq 5, 3) := by decide +kernel
theorem dX3_triple_56 : decode cX3_triple 56 = .ok (.iconst 0, 1) := by decide +kernel
theorem dX3_triple_57 : decode cX3_triple 57 = .ok (.ireturn, 1) := by decide +kernel
theorem dX3_triple_58 : decode cX3_triple 58 = .ok (.bipush 60, 2) := by decide +kernel
theorem dX3_triple_60 : decode cX3_triple 60 = .ok (.newarray .char, 2) := by decide +kernel
theorem dX3_triple_62 : decode cX3_triple 62 = .ok (.astore 5, 2) := by decide +kernel
theorem dX3_triple_64 : decode cX3_triple 64 = .ok (.aload 5, 2) := by decide +kernel
theorem dX3_triple_66 : decode cX3_triple 66 = .ok (.iconst 0, 1) := by decide +kernel
theorem dX3_triple_67 : decode cX3_triple 67 = .ok (.iload_n 2, 1) := by decide +kernel
theorem dX3_triple_68 : decode cX3_triple 68 = .ok (.iconst 0, 1) := by decide +kernel
theorem dX3_triple_69 : decode cX3_triple 69 = .ok (.invokestatic 88, 3) := by decide +kernel
theorem dX3_triple_72 : decode cX3_triple 72 = .ok (.istore 6, 2) := by decide +kernel
theorem dX3_triple_74 : decode cX3_triple 74 = .ok (.aload 5, 2) := by decide +kernel
theorem dX3_triple_76 : decode cX3_triple 76 = .ok (.iload 6, 2) := by decide +kernel
theorem dX3_triple_78 : decode cX3_triple 78 = .ok (.bipush 46, 2) := by decide +kernel
theorem dX3_triple_80 : decode cX3_triple 80 = .ok (.castore, 1) := by decide +kernel
theorem dX3_triple_81 : decode cX3_triple 81 = .ok (.aload 5, 2) := by decide +kernel
theorem dX3_triple_83 : decode cX3_triple 83 = .ok (.iload 6, 2) := by decide +kernel
theorem dX3_triple_85 : decode cX3_triple 85 = .ok (.iconst 1, 1) := by decide +kernel
theorem dX3_triple_86 : decode cX3_triple 86 = .ok (.iadd, 1) := by decide +kernel
theorem dX3_triple_87 : decode cX3_triple 87 = .ok (.iload_n 3, 1) := by decide +kernel
theorem dX3_triple_88 : decode cX3_triple 88 = .ok (.iconst 0, 1) := by decide +kernel
theorem dX3_triple_89 : decode cX3_triple 89 = .ok (.invokestatic 88, 3) := by decide +kernel
theorem dX3_triple_92 : decode cX3_triple 92 = .ok (.istore 6, 2) := by decide +kernel
theorem dX3_triple_94 : decode cX3_triple 94 = .ok (.aload 5, 2) := by decide +kernel
theorem dX3_triple_96 : decode cX3_triple 96 = .ok (.iload 6, 2) := by decide +kernel
theorem dX3_triple_98 : decode cX3_triple 98 = .ok (.bipush 46, 2) := by decide +kernel
theorem dX3_triple_100 : decode cX3_triple 100 = .ok (.castore, 1) := by decide +kernel
theorem dX3_triple_101 : decode cX3_triple 101 = .ok (.aload_n 0, 1) := by decide +kernel
theorem dX3_triple_102 : decode cX3_triple 102 = .ok (.iload_n 1, 1) := by decide +kernel
theorem dX3_triple_103 : decode cX3_triple 103 = .ok (.aload 5, 2) := by decide +kernel
theorem dX3_triple_105 : decode cX3_triple 105 = .ok (.aload 5, 2) := by decide +kernel
theorem dX3_triple_107 : decode cX3_triple 107 = .ok (.iload 6, 2) := by decide +kernel
theorem dX3_triple_109 : decode cX3_triple 109 = .ok (.iconst 1, 1) := by decide +kernel
theorem dX3_triple_110 : decode cX3_triple 110 = .ok (.iadd, 1) := by decide +kernel
theorem dX3_triple_111 : decode cX3_triple 111 = .ok (.iload 4, 2) := by decide +kernel
theorem dX3_triple_113 : decode cX3_triple 113 = .ok (.iconst 0, 1) := by decide +kernel
theorem dX3_triple_114 : decode cX3_triple 114 = .ok (.invokestatic 88, 3) := by decide +kernel
theorem dX3_triple_117 : decode cX3_triple 117 = .ok (.invokevirtual 112, 3) := by decide +kernel
theorem dX3_triple_120 : decode cX3_triple 120 = .ok (.ireturn, 1) := by decide +kernel
set_option maxRecDepth 20000 in
theorem ggX3_copy_X3_isSlot : GoodIn wsX3_copy wsX3_isSlot := goodIn_r _ [6, 7, 8, 5, 9] (by decide +kernel) (by decide +kernel)
set_option maxRecDepth 20000 in
theorem gX3_copy_X3_isSlot : GoodIn wsX3_copy (va_wsS RX3 108 yX3_isSlot wsX3_isSlot) := goodIn_app (goodIn_of _ (by decide +kernel)) ggX3_copy_X3_isSlot
set_option maxRecDepth 20000 in
theorem ggX3_copy_X3_no : GoodIn wsX3_copy wsX3_no := goodIn_r _ [13, 14, 59, 60, 61, 62, 63, 64, 65, 66, 67] (by decide +kernel) (by decide +kernel)
set_option maxRecDepth 20000 in
theorem gX3_copy_X3_no : GoodIn wsX3_copy (wsV RX3 84 RX3 yX3_no wsX3_no) := goodIn_app (goodIn_of _ (by decide +kernel)) ggX3_copy_X3_no
set_option maxRecDepth 20000 in
theorem ggX3_copy_X3_lay : GoodIn wsX3_copy wsX3_lay := goodIn_r _ [18, 19, 1, 2, 20, 21, 22, 5, 23, 24, 25, 26, 27, 28, 29, 30, 31, 32, 33, 34, 35, 36, 37, 38, 39, 40, 41, 42, 43, 44, 45, 46, 47, 48, 49, 50, 51, 52, 53, 54, 55, 56, 57, 58, 59, 60, 61, 62, 63, 64, 65, 66, 67] (by decide +kernel) (by decide +kernel)
set_option maxRecDepth 20000 in
theorem gX3_copy_X3_lay : GoodIn wsX3_copy (wsV RX3 112 RX3 yX3_lay wsX3_lay) := goodIn_app (goodIn_of _ (by decide +kernel)) ggX3_copy_X3_lay
theorem dX3_copy_0 : decode cX3_copy 0 = .ok (.aload_n 0, 1) := by decide +kernel
theorem dX3_copy_1 : decode cX3_copy 1 = .ok (.iload_n 1, 1) := by decide +kernel
theorem dX3_copy_2 : decode cX3_copy 2 = .ok (.invokestatic 108, 3) := by decide +kernel
theorem dX3_copy_5 : decode cX3_copy 5 = .ok (.ifCond .eq 14, 3) := by decide +kernel
theorem dX3_copy_8 : decode cX3_copy 8 = .ok (.iload_n 2, 1) := by decide +kernel
theorem dX3_copy_9 : decode cX3_copy 9 = .ok (.invokestatic 108, 3) := by decide +kernel
theorem dX3_copy_12 : decode cX3_copy 12 = .ok (.ifCond .eq 7, 3) := by decide +kernel
theorem dX3_copy_15 : decode cX3_copy 15 = .ok (.iconst 1, 1) := by decide +kernel
theorem dX3_copy_16 : decode cX3_copy 16 = .ok (.goto 4, 3) := by decide +kernel
theorem dX3_copy_19 : decode cX3_copy 19 = .ok (.iconst 0, 1) := by decide +kernel
theorem dX3_copy_20 : decode cX3_copy 20 = .ok (.iconst 1, 1) := by decide +kernel
theorem dX3_copy_21 : decode cX3_copy 21 = .ok (.invokevirtual 84, 3) := by decide +kernel
theorem dX3_copy_24 : decode cX3_copy 24 = .ok (.ifCond .eq 7, 3) := by decide +kernel
theorem dX3_copy_27 : decode cX3_copy 27 = .ok (.iconst 0, 1) := by decide +kernel
theorem dX3_copy_28 : decode cX3_copy 28 = .ok (.goto 20, 3) := by decide +kernel
theorem dX3_copy_31 : decode cX3_copy 31 = .ok (.aload_n 0, 1) := by decide +kernel
theorem dX3_copy_32 : decode cX3_copy 32 = .ok (.iload_n 2, 1) := by decide +kernel
theorem dX3_copy_33 : decode cX3_copy 33 = .ok (.aload_n 0, 1) := by decide +kernel
theorem dX3_copy_34 : decode cX3_copy 34 = .ok (.getfield 15, 3) := by decide +kernel
theorem dX3_copy_37 : decode cX3_copy 37 = .ok (.iload_n 1, 1) := by decide +kernel
theorem dX3_copy_38 : decode cX3_copy 38 = .ok (.aaload, 1) := by decide +kernel
theorem dX3_copy_39 : decode cX3_copy 39 = .ok (.aload_n 0, 1) := by decide +kernel
theorem dX3_copy_40 : decode cX3_copy 40 = .ok (.getfield 18, 3) := by decide +kernel
theorem dX3_copy_43 : decode cX3_copy 43 = .ok (.iload_n 1, 1) := by decide +kernel
theorem dX3_copy_44 : decode cX3_copy 44 = .ok (.iaload, 1) := by decide +kernel
theorem dX3_copy_45 : decode cX3_copy 45 = .ok (.invokevirtual 112, 3) := by decide +kernel
theorem dX3_copy_48 : decode cX3_copy 48 = .ok (.ireturn, 1) := by decide +kernel
set_option maxRecDepth 20000 in
theorem ggX3_size_X3_isSlot : GoodIn wsX3_size wsX3_isSlot := goodIn_r _ [5, 6, 7, 4, 8] (by decide +kernel) (by decide +kernel)
set_option maxRecDepth 20000 in
theorem gX3_size_X3_isSlot : GoodIn wsX3_size (va_wsS RX3 108 yX3_isSlot wsX3_isSlot) := goodIn_app (goodIn_of _ (by decide +kernel)) ggX3_size_X3_isSlot
set_option maxRecDepth 20000 in
theorem ggX3_size_X3_no : GoodIn wsX3_size wsX3_no := goodIn_r _ [12, 13, 14, 15, 16, 17, 18, 19, 20, 21, 22] (by decide +kernel) (by decide +kernel)
set_option maxRecDepth 20000 in
theorem gX3_size_X3_no : GoodIn wsX3_size (wsV RX3 84 RX3 yX3_no wsX3_no) := goodIn_app (goodIn_of _ (by decide +kernel)) ggX3_size_X3_no
theorem dX3_size_0 : decode cX3_size 0 = .ok (.aload_n 0, 1) := by decide +kernel
theorem dX3_size_1 : decode cX3_size 1 = .ok (.iload_n 1, 1) := by decide +kernel
theorem dX3_size_2 : decode cX3_size 2 = .ok (.invokestatic 108, 3) := by decide +kernel
theorem dX3_size_5 : decode cX3_size 5 = .ok (.iconst 1, 1) := by decide +kernel
theorem dX3_size_6 : decode cX3_size 6 = .ok (.invokevirtual 84, 3) := by decide +kernel
theorem dX3_size_9 : decode cX3_size 9 = .ok (.ifCond .eq 7, 3) := by decide +kernel
theorem dX3_size_12 : decode cX3_size 12 = .ok (.iconst 0, 1) := by decide +kernel
theorem dX3_size_13 : decode cX3_size 13 = .ok (.goto 9, 3) := by decide +kernel
theorem dX3_size_16 : decode cX3_size 16 = .ok (.aload_n 0, 1) := by decide +kernel
theorem dX3_size_17 : decode cX3_size 17 = .ok (.getfield 18, 3) := by decide +kernel
theorem dX3_size_20 : decode cX3_size 20 = .ok (.iload_n 1, 1) := by decide +kernel
theorem dX3_size_21 : decode cX3_size 21 = .ok (.iaload, 1) := by decide +kernel
theorem dX3_size_22 : decode cX3_size 22 = .ok (.ireturn, 1) := by decide +kernel
set_option maxRecDepth 20000 in
theorem ggX3_text_X3_isSlot : GoodIn wsX3_text wsX3_isSlot := goodIn_r _ [6, 7, 8, 5, 9] (by decide +kernel) (by decide +kernel)
set_option maxRecDepth 20000 in
theorem gX3_text_X3_isSlot : GoodIn wsX3_text (va_wsS RX3 108 yX3_isSlot wsX3_isSlot) := goodIn_app (goodIn_of _ (by decide +kernel)) ggX3_text_X3_isSlot
set_option maxRecDepth 20000 in
theorem ggX3_text_X3_in : GoodIn wsX3_text wsX3_in := goodIn_r _ [9] (by decide +kernel) (by decide +kernel)
set_option maxRecDepth 20000 in
theorem gX3_text_X3_in : GoodIn wsX3_text (va_wsS RX3 43 yX3_in wsX3_in) := goodIn_app (goodIn_of _ (by decide +kernel)) ggX3_text_X3_in
set_option maxRecDepth 20000 in
theorem ggX3_text_X3_no : GoodIn wsX3_text wsX3_no := goodIn_r _ [13, 14, 15, 16, 17, 18, 19, 20, 21, 22, 23] (by decide +kernel) (by decide +kernel)
set_option maxRecDepth 20000 in
theorem gX3_text_X3_no : GoodIn wsX3_text (wsV RX3 84 RX3 yX3_no wsX3_no) := goodIn_app (goodIn_of _ (by decide +kernel)) ggX3_text_X3_no
theorem dX3_text_0 : decode cX3_text 0 = .ok (.aload_n 0, 1) := by decide +kernel
theorem dX3_text_1 : decode cX3_text 1 = .ok (.iload_n 1, 1) := by decide +kernel
theorem dX3_text_2 : decode cX3_text 2 = .ok (.invokestatic 108, 3) := by decide +kernel
theorem dX3_text_5 : decode cX3_text 5 = .ok (.ifCond .eq 23, 3) := by decide +kernel
theorem dX3_text_8 : decode cX3_text 8 = .ok (.iload_n 2, 1) := by decide +kernel
theorem dX3_text_9 : decode cX3_text 9 = .ok (.iconst 0, 1) := by decide +kernel
theorem dX3_text_10 : decode cX3_text 10 = .ok (.aload_n 0, 1) := by decide +kernel
theorem dX3_text_11 : decode cX3_text 11 = .ok (.getfield 18, 3) := by decide +kernel
theorem dX3_text_14 : decode cX3_text 14 = .ok (.iload_n 1, 1) := by decide +kernel
theorem dX3_text_15 : decode cX3_text 15 = .ok (.iaload, 1) := by decide +kernel
theorem dX3_text_16 : decode cX3_text 16 = .ok (.iconst 1, 1) := by decide +kernel
theorem dX3_text_17 : decode cX3_text 17 = .ok (.isub, 1) := by decide +kernel
theorem dX3_text_18 : decode cX3_text 18 = .ok (.invokestatic 43, 3) := by decide +kernel
theorem dX3_text_21 : decode cX3_text 21 = .ok (.ifCond .eq 7, 3) := by decide +kernel
theorem dX3_text_24 : decode cX3_text 24 = .ok (.iconst 1, 1) := by decide +kernel
theorem dX3_text_25 : decode cX3_text 25 = .ok (.goto 4, 3) := by decide +kernel
theorem dX3_text_28 : decode cX3_text 28 = .ok (.iconst 0, 1) := by decide +kernel
theorem dX3_text_29 : decode cX3_text 29 = .ok (.iconst 1, 1) := by decide +kernel
theorem dX3_text_30 : decode cX3_text 30 = .ok (.invokevirtual 84, 3) := by decide +kernel
theorem dX3_text_33 : decode cX3_text 33 = .ok (.ifCond .eq 8, 3) := by decide +kernel
theorem dX3_text_36 : decode cX3_text 36 = .ok (.bipush 32, 2) := by decide +kernel
theorem dX3_text_38 : decode cX3_text 38 = .ok (.goto 11, 3) := by decide +kernel
theorem dX3_text_41 : decode cX3_text 41 = .ok (.aload_n 0, 1) := by decide +kernel
theorem dX3_text_42 : decode cX3_text 42 = .ok (.getfield 15, 3) := by decide +kernel
theorem dX3_text_45 : decode cX3_text 45 = .ok (.iload_n 1, 1) := by decide +kernel
theorem dX3_text_46 : decode cX3_text 46 = .ok (.aaload, 1) := by decide +kernel
theorem dX3_text_47 : decode cX3_text 47 = .ok (.iload_n 2, 1) := by decide +kernel
theorem dX3_text_48 : decode cX3_text 48 = .ok (.caload, 1) := by decide +kernel
theorem dX3_text_49 : decode cX3_text 49 = .ok (.ireturn, 1) := by decide +kernel
set_option maxRecDepth 20000 in
theorem ggX3_tokens_X3_isSlot : GoodIn wsX3_tokens wsX3_isSlot := goodIn_r _ [5, 6, 7, 4, 8] (by decide +kernel) (by decide +kernel)
set_option maxRecDepth 20000 in
theorem gX3_tokens_X3_isSlot : GoodIn wsX3_tokens (va_wsS RX3 108 yX3_isSlot wsX3_isSlot) := goodIn_app (goodIn_of _ (by decide +kernel)) ggX3_tokens_X3_isSlot
set_option maxRecDepth 20000 in
theorem ggX3_tokens_X3_no : GoodIn wsX3_tokens wsX3_no := goodIn_r _ [12, 13, 33, 34, 35, 36, 37, 38, 39, 40, 41] (by decide +kernel) (by decide +kernel)
set_option maxRecDepth 20000 in
theorem gX3_tokens_X3_no : GoodIn wsX3_tokens (wsV RX3 84 RX3 yX3_no wsX3_no) := goodIn_app (goodIn_of _ (by decide +kernel)) ggX3_tokens_X3_no
set_option maxRecDepth 20000 in
theorem ggX3_tokens_X3_in : GoodIn wsX3_tokens wsX3_in := goodIn_r _ [8] (by decide +kernel) (by decide +kernel)
set_option maxRecDepth 20000 in
theorem gX3_tokens_X3_in : GoodIn wsX3_tokens (va_wsS RX3 43 yX3_in wsX3_in) := goodIn_app (goodIn_of _ (by decide +kernel)) ggX3_tokens_X3_in
set_option maxRecDepth 20000 in
theorem ggX3_tokens_X3_look_ : GoodIn wsX3_tokens wsX3_look_ := goodIn_r _ [17, 18, 19, 20, 21, 22, 4, 23, 24, 1, 25, 26, 27, 28, 29, 30, 31, 32, 33, 34, 35, 36, 37, 38, 39, 40, 41] (by decide +kernel) (by decide +kernel)
set_option maxRecDepth 20000 in
theorem gX3_tokens_X3_look_ : GoodIn wsX3_tokens (wsV RX3 73 RX3 yX3_look_ wsX3_look_) := goodIn_app (goodIn_of _ (by decide +kernel)) ggX3_tokens_X3_look_
theorem dX3_tokens_0 : decode cX3_tokens 0 = .ok (.aload_n 0, 1) := by decide +kernel
theorem dX3_tokens_1 : decode cX3_tokens 1 = .ok (.iload_n 1, 1) := by decide +kernel
theorem dX3_tokens_2 : decode cX3_tokens 2 = .ok (.invokestatic 108, 3) := by decide +kernel
theorem dX3_tokens_5 : decode cX3_tokens 5 = .ok (.iconst 1, 1) := by decide +kernel
theorem dX3_tokens_6 : decode cX3_tokens 6 = .ok (.invokevirtual 84, 3) := by decide +kernel
theorem dX3_tokens_9 : decode cX3_tokens 9 = .ok (.ifCond .ne 17, 3) := by decide +kernel
theorem dX3_tokens_12 : decode cX3_tokens 12 = .ok (.aload_n 0, 1) := by decide +kernel
theorem dX3_tokens_13 : decode cX3_tokens 13 = .ok (.iload_n 2, 1) := by decide +kernel
theorem dX3_tokens_14 : decode cX3_tokens 14 = .ok (.iconst 0, 1) := by decide +kernel
theorem dX3_tokens_15 : decode cX3_tokens 15 = .ok (.iconst 2, 1) := by decide +kernel
theorem dX3_tokens_16 : decode cX3_tokens 16 = .ok (.invokestatic 43, 3) := by decide +kernel
theorem dX3_tokens_19 : decode cX3_tokens 19 = .ok (.iconst 2, 1) := by decide +kernel
theorem dX3_tokens_20 : decode cX3_tokens 20 = .ok (.invokevirtual 84, 3) := by decide +kernel
theorem dX3_tokens_23 : decode cX3_tokens 23 = .ok (.ifCond .eq 5, 3) := by decide +kernel
theorem dX3_tokens_26 : decode cX3_tokens 26 = .ok (.iconst 0, 1) := by decide +kernel
theorem dX3_tokens_27 : decode cX3_tokens 27 = .ok (.ireturn, 1) := by decide +kernel
theorem dX3_tokens_28 : decode cX3_tokens 28 = .ok (.aload_n 0, 1) := by decide +kernel
theorem dX3_tokens_29 : decode cX3_tokens 29 = .ok (.iconst 0, 1) := by decide +kernel
theorem dX3_tokens_30 : decode cX3_tokens 30 = .ok (.iload_n 1, 1) := by decide +kernel
theorem dX3_tokens_31 : decode cX3_tokens 31 = .ok (.invokevirtual 73, 3) := by decide +kernel
theorem dX3_tokens_34 : decode cX3_tokens 34 = .ok (.aload_n 0, 1) := by decide +kernel
theorem dX3_tokens_35 : decode cX3_tokens 35 = .ok (.getfield 28, 3) := by decide +kernel
theorem dX3_tokens_38 : decode cX3_tokens 38 = .ok (.iconst 0, 1) := by decide +kernel
theorem dX3_tokens_39 : decode cX3_tokens 39 = .ok (.aaload, 1) := by decide +kernel
theorem dX3_tokens_40 : decode cX3_tokens 40 = .ok (.iload_n 2, 1) := by decide +kernel
theorem dX3_tokens_41 : decode cX3_tokens 41 = .ok (.iaload, 1) := by decide +kernel
theorem dX3_tokens_42 : decode cX3_tokens 42 = .ok (.ireturn, 1) := by decide +kernel
set_option maxRecDepth 20000 in
theorem ggX3_token_X3_isSlot : GoodIn wsX3_token wsX3_isSlot := goodIn_r _ [7, 8, 9, 6, 10] (by decide +kernel) (by decide +kernel)
set_option maxRecDepth 20000 in
theorem gX3_token_X3_isSlot : GoodIn wsX3_token (va_wsS RX3 108 yX3_isSlot wsX3_isSlot) := goodIn_app (goodIn_of _ (by decide +kernel)) ggX3_token_X3_isSlot
set_option maxRecDepth 20000 in
theorem ggX3_token_X3_no : GoodIn wsX3_token wsX3_no := goodIn_r _ [14, 15, 41, 42, 43, 44, 45, 46, 47, 48, 49] (by decide +kernel) (by decide +kernel)
set_option maxRecDepth 20000 in
theorem gX3_token_X3_no : GoodIn wsX3_token (wsV RX3 84 RX3 yX3_no wsX3_no) := goodIn_app (goodIn_of _ (by decide +kernel)) ggX3_token_X3_no
set_option maxRecDepth 20000 in
theorem ggX3_token_X3_in : GoodIn wsX3_token wsX3_in := goodIn_r _ [10] (by decide +kernel) (by decide +kernel)
set_option maxRecDepth 20000 in
theorem gX3_token_X3_in : GoodIn wsX3_token (va_wsS RX3 43 yX3_in wsX3_in) := goodIn_app (goodIn_of _ (by decide +kernel)) ggX3_token_X3_in
set_option maxRecDepth 20000 in
theorem ggX3_token_X3_look_ : GoodIn wsX3_token wsX3_look_ := goodIn_r _ [19, 20, 21, 22, 23, 24, 6, 25, 26, 1, 3, 2, 27, 28, 29, 30, 31, 32, 41, 42, 43, 44, 45, 46, 47, 48, 49] (by decide +kernel) (by decide +kernel)
set_option maxRecDepth 20000 in
theorem gX3_token_X3_look_ : GoodIn wsX3_token (wsV RX3 73 RX3 yX3_look_ wsX3_look_) := goodIn_app (goodIn_of _ (by decide +kernel)) ggX3_token_X3_look_
set_option maxRecDepth 20000 in
theorem ggX3_token_X3_isNumber : GoodIn wsX3_token wsX3_isNumber := goodIn_r _ [36, 1, 26, 3, 30, 31, 6, 32, 41, 42, 43, 44, 45, 46, 47, 48, 49] (by decide +kernel) (by decide +kernel)
set_option maxRecDepth 20000 in
theorem gX3_token_X3_isNumber : GoodIn wsX3_token (wsV RX3 58 RX3 yX3_isNumber wsX3_isNumber) := goodIn_app (goodIn_of _ (by decide +kernel)) ggX3_token_X3_isNumber
set_option maxRecDepth 20000 in
theorem ggX3_token_X3_number : GoodIn wsX3_token wsX3_number := goodIn_r _ [40, 1, 3, 2, 26, 41, 42, 43, 44, 45, 46, 47, 48, 49] (by decide +kernel) (by decide +kernel)
set_option maxRecDepth 20000 in
theorem gX3_token_X3_number : GoodIn wsX3_token (wsV RX3 61 RX3 yX3_number wsX3_number) := goodIn_app (goodIn_of _ (by decide +kernel)) ggX3_token_X3_number
theorem dX3_token_0 : decode cX3_token 0 = .ok (.aload_n 0, 1) := by decide +kernel
theorem dX3_token_1 : decode cX3_token 1 = .ok (.iload_n 1, 1) := by decide +kernel
theorem dX3_token_2 : decode cX3_token 2 = .ok (.invokestatic 108, 3) := by decide +kernel
theorem dX3_token_5 : decode cX3_token 5 = .ok (.iconst 1, 1) := by decide +kernel
theorem dX3_token_6 : decode cX3_token 6 = .ok (.invokevirtual 84, 3) := by decide +kernel
theorem dX3_token_9 : decode cX3_token 9 = .ok (.ifCond .ne 17, 3) := by decide +kernel
theorem dX3_token_12 : decode cX3_token 12 = .ok (.aload_n 0, 1) := by decide +kernel
theorem dX3_token_13 : decode cX3_token 13 = .ok (.iload_n 2, 1) := by decide +kernel
theorem dX3_token_14 : decode cX3_token 14 = .ok (.iconst 0, 1) := by decide +kernel
theorem dX3_token_15 : decode cX3_token 15 = .ok (.iconst 2, 1) := by decide +kernel
theorem dX3_token_16 : decode cX3_token 16 = .ok (.invokestatic 43, 3) := by decide +kernel
theorem dX3_token_19 : decode cX3_token 19 = .ok (.iconst 2, 1) := by decide +kernel
theorem dX3_token_20 : decode cX3_token 20 = .ok (.invokevirtual 84, 3) := by decide +kernel
theorem dX3_token_23 : decode cX3_token 23 = .ok (.ifCond .eq 5, 3) := by decide +kernel
theorem dX3_token_26 : decode cX3_token 26 = .ok (.iconst 0, 1) := by decide +kernel
theorem dX3_token_27 : decode cX3_token 27 = .ok (.ireturn, 1) := by decide +kernel
theorem dX3_token_28 : decode cX3_token 28 = .ok (.aload_n 0, 1) := by decide +kernel
theorem dX3_token_29 : decode cX3_token 29 = .ok (.iconst 0, 1) := by decide +kernel
theorem dX3_token_30 : decode cX3_token 30 = .ok (.iload_n 1, 1) := by decide +kernel
theorem dX3_token_31 : decode cX3_token 31 = .ok (.invokevirtual 73, 3) := by decide +kernel
theorem dX3_token_34 : decode cX3_token 34 = .ok (.aload_n 0, 1) := by decide +kernel
theorem dX3_token_35 : decode cX3_token 35 = .ok (.iload_n 3, 1) := by decide +kernel
theorem dX3_token_36 : decode cX3_token 36 = .ok (.iconst 0, 1) := by decide +kernel
theorem dX3_token_37 : decode cX3_token 37 = .ok (.aload_n 0, 1) := by decide +kernel
theorem dX3_token_38 : decode cX3_token 38 = .ok (.getfield 28, 3) := by decide +kernel
theorem dX3_token_41 : decode cX3_token 41 = .ok (.iconst 0, 1) := by decide +kernel
theorem dX3_token_42 : decode cX3_token 42 = .ok (.aaload, 1) := by decide +kernel
theorem dX3_token_43 : decode cX3_token 43 = .ok (.iload_n 2, 1) := by decide +kernel
theorem dX3_token_44 : decode cX3_token 44 = .ok (.iaload, 1) := by decide +kernel
theorem dX3_token_45 : decode cX3_token 45 = .ok (.iconst 1, 1) := by decide +kernel
theorem dX3_token_46 : decode cX3_token 46 = .ok (.isub, 1) := by decide +kernel
theorem dX3_token_47 : decode cX3_token 47 = .ok (.invokestatic 43, 3) := by decide +kernel
theorem dX3_token_50 : decode cX3_token 50 = .ok (.iconst 1, 1) := by decide +kernel
theorem dX3_token_51 : decode cX3_token 51 = .ok (.invokevirtual 84, 3) := by decide +kernel
theorem dX3_token_54 : decode cX3_token 54 = .ok (.ifCond .eq 5, 3) := by decide +kernel
theorem dX3_token_57 : decode cX3_token 57 = .ok (.iconst 0, 1) := by decide +kernel
theorem dX3_token_58 : decode cX3_token 58 = .ok (.ireturn, 1) := by decide +kernel
theorem dX3_token_59 : decode cX3_token 59 = .ok (.aload_n 0, 1) := by decide +kernel
theorem dX3_token_60 : decode cX3_token 60 = .ok (.iconst 0, 1) := by decide +kernel
theorem dX3_token_61 : decode cX3_token 61 = .ok (.iload_n 2, 1) := by decide +kernel
theorem dX3_token_62 : decode cX3_token 62 = .ok (.iload_n 3, 1) := by decide +kernel
theorem dX3_token_63 : decode cX3_token 63 = .ok (.invokevirtual 58, 3) := by decide +kernel
theorem dX3_token_66 : decode cX3_token 66 = .ok (.ifCond .eq 13, 3) := by decide +kernel
theorem dX3_token_69 : decode cX3_token 69 = .ok (.aload_n 0, 1) := by decide +kernel
theorem dX3_token_70 : decode cX3_token 70 = .ok (.iconst 0, 1) := by decide +kernel
theorem dX3_token_71 : decode cX3_token 71 = .ok (.iload_n 2, 1) := by decide +kernel
theorem dX3_token_72 : decode cX3_token 72 = .ok (.iload_n 3, 1) := by decide +kernel
theorem dX3_token_73 : decode cX3_token 73 = .ok (.invokevirtual 61, 3) := by decide +kernel
theorem dX3_token_76 : decode cX3_token 76 = .ok (.goto 26, 3) := by decide +kernel
theorem dX3_token_79 : decode cX3_token 79 = .ok (.iconst (-1), 1) := by decide +kernel
theorem dX3_token_80 : decode cX3_token 80 = .ok (.aload_n 0, 1) := by decide +kernel
theorem dX3_token_81 : decode cX3_token 81 = .ok (.getfield 36, 3) := by decide +kernel
theorem dX3_token_84 : decode cX3_token 84 = .ok (.iconst 0, 1) := by decide +kernel
theorem dX3_token_85 : decode cX3_token 85 = .ok (.aaload, 1) := by decide +kernel
theorem dX3_token_86 : decode cX3_token 86 = .ok (.iload_n 2, 1) := by decide +kernel
theorem dX3_token_87 : decode cX3_token 87 = .ok (.aaload, 1) := by decide +kernel
theorem dX3_token_88 : decode cX3_token 88 = .ok (.iload_n 3, 1) := by decide +kernel
theorem dX3_token_89 : decode cX3_token 89 = .ok (.iaload, 1) := by decide +kernel
theorem dX3_token_90 : decode cX3_token 90 = .ok (.aload_n 0, 1) := by decide +kernel
theorem dX3_token_91 : decode cX3_token 91 = .ok (.getfield 33, 3) := by decide +kernel
theorem dX3_token_94 : decode cX3_token 94 = .ok (.iconst 0, 1) := by decide +kernel
theorem dX3_token_95 : decode cX3_token 95 = .ok (.aaload, 1) := by decide +kernel
theorem dX3_token_96 : decode cX3_token 96 = .ok (.iload_n 2, 1) := by decide +kernel
theorem dX3_token_97 : decode cX3_token 97 = .ok (.aaload, 1) := by decide +kernel
theorem dX3_token_98 : decode cX3_token 98 = .ok (.iload_n 3, 1) := by decide +kernel
theorem dX3_token_99 : decode cX3_token 99 = .ok (.iaload, 1) := by decide +kernel
theorem dX3_token_100 : decode cX3_token 100 = .ok (.isub, 1) := by decide +kernel
theorem dX3_token_101 : decode cX3_token 101 = .ok (.isub, 1) := by decide +kernel
theorem dX3_token_102 : decode cX3_token 102 = .ok (.ireturn, 1) := by decide +kernel
set_option maxRecDepth 20000 in
theorem ggX3_compare_X3_isSlot : GoodIn wsX3_compare wsX3_isSlot := goodIn_r _ [4, 5, 6, 3, 7] (by decide +kernel) (by decide +kernel)
set_option maxRecDepth 20000 in
theorem gX3_compare_X3_isSlot : GoodIn wsX3_compare (va_wsS RX3 108 yX3_isSlot wsX3_isSlot) := goodIn_app (goodIn_of _ (by decide +kernel)) ggX3_compare_X3_isSlot
set_option maxRecDepth 20000 in
theorem ggX3_compare_X3_no : GoodIn wsX3_compare wsX3_no := goodIn_r _ [11, 12, 58, 59, 60, 61, 62, 63, 64, 65, 66] (by decide +kernel) (by decide +kernel)
set_option maxRecDepth 20000 in
theorem gX3_compare_X3_no : GoodIn wsX3_compare (wsV RX3 84 RX3 yX3_no wsX3_no) := goodIn_app (goodIn_of _ (by decide +kernel)) ggX3_compare_X3_no
set_option maxRecDepth 20000 in
theorem ggX3_compare_X3_order : GoodIn wsX3_compare wsX3_order := goodIn_r _ [16, 17, 18, 19, 3, 20, 21, 22, 23, 24, 25, 26, 27, 28, 29, 30, 31, 32, 33, 34, 35, 36, 37, 38, 39, 40, 41, 42, 43, 44, 45, 46, 47, 48, 49, 50, 51, 52, 53, 54, 55, 56, 57, 58, 59, 60, 61, 62, 63, 64, 65, 66] (by decide +kernel) (by decide +kernel)
set_option maxRecDepth 20000 in
theorem gX3_compare_X3_order : GoodIn wsX3_compare (wsV RX3 116 RX3 yX3_order wsX3_order) := goodIn_app (goodIn_of _ (by decide +kernel)) ggX3_compare_X3_order
theorem dX3_compare_0 : decode cX3_compare 0 = .ok (.aload_n 0, 1) := by decide +kernel
theorem dX3_compare_1 : decode cX3_compare 1 = .ok (.iload_n 1, 1) := by decide +kernel
theorem dX3_compare_2 : decode cX3_compare 2 = .ok (.invokestatic 108, 3) := by decide +kernel
theorem dX3_compare_5 : decode cX3_compare 5 = .ok (.ifCond .eq 14, 3) := by decide +kernel
theorem dX3_compare_8 : decode cX3_compare 8 = .ok (.iload_n 2, 1) := by decide +kernel
theorem dX3_compare_9 : decode cX3_compare 9 = .ok (.invokestatic 108, 3) := by decide +kernel
theorem dX3_compare_12 : decode cX3_compare 12 = .ok (.ifCond .eq 7, 3) := by decide +kernel
theorem dX3_compare_15 : decode cX3_compare 15 = .ok (.iconst 1, 1) := by decide +kernel
theorem dX3_compare_16 : decode cX3_compare 16 = .ok (.goto 4, 3) := by decide +kernel
theorem dX3_compare_19 : decode cX3_compare 19 = .ok (.iconst 0, 1) := by decide +kernel
theorem dX3_compare_20 : decode cX3_compare 20 = .ok (.iconst 1, 1) := by decide +kernel
theorem dX3_compare_21 : decode cX3_compare 21 = .ok (.invokevirtual 84, 3) := by decide +kernel
theorem dX3_compare_24 : decode cX3_compare 24 = .ok (.ifCond .eq 7, 3) := by decide +kernel
theorem dX3_compare_27 : decode cX3_compare 27 = .ok (.iconst 0, 1) := by decide +kernel
theorem dX3_compare_28 : decode cX3_compare 28 = .ok (.goto 9, 3) := by decide +kernel
theorem dX3_compare_31 : decode cX3_compare 31 = .ok (.aload_n 0, 1) := by decide +kernel
theorem dX3_compare_32 : decode cX3_compare 32 = .ok (.iload_n 1, 1) := by decide +kernel
theorem dX3_compare_33 : decode cX3_compare 33 = .ok (.iload_n 2, 1) := by decide +kernel
theorem dX3_compare_34 : decode cX3_compare 34 = .ok (.invokevirtual 116, 3) := by decide +kernel
theorem dX3_compare_37 : decode cX3_compare 37 = .ok (.ireturn, 1) := by decide +kernel
set_option maxRecDepth 20000 in
theorem ggX3_isSame_X3_isSlot : GoodIn wsX3_isSame wsX3_isSlot := goodIn_r _ [4, 5, 6, 3, 7] (by decide +kernel) (by decide +kernel)
set_option maxRecDepth 20000 in
theorem gX3_isSame_X3_isSlot : GoodIn wsX3_isSame (va_wsS RX3 108 yX3_isSlot wsX3_isSlot) := goodIn_app (goodIn_of _ (by decide +kernel)) ggX3_isSame_X3_isSlot
set_option maxRecDepth 20000 in
theorem ggX3_isSame_X3_no : GoodIn wsX3_isSame wsX3_no := goodIn_r _ [11, 12, 58, 59, 60, 61, 62, 63, 64, 65, 66] (by decide +kernel) (by decide +kernel)
set_option maxRecDepth 20000 in
theorem gX3_isSame_X3_no : GoodIn wsX3_isSame (wsV RX3 84 RX3 yX3_no wsX3_no) := goodIn_app (goodIn_of _ (by decide +kernel)) ggX3_isSame_X3_no
set_option maxRecDepth 20000 in
theorem ggX3_isSame_X3_order : GoodIn wsX3_isSame wsX3_order := goodIn_r _ [16, 17, 18, 19, 3, 20, 21, 22, 23, 24, 25, 26, 27, 28, 29, 30, 31, 32, 33, 34, 35, 36, 37, 38, 39, 40, 41, 42, 43, 44, 45, 46, 47, 48, 49, 50, 51, 52, 53, 54, 55, 56, 57, 58, 59, 60, 61, 62, 63, 64, 65, 66] (by decide +kernel) (by decide +kernel)
set_option maxRecDepth 20000 in
theorem gX3_isSame_X3_order : GoodIn wsX3_isSame (wsV RX3 116 RX3 yX3_order wsX3_order) := goodIn_app (goodIn_of _ (by decide +kernel)) ggX3_isSame_X3_order
theorem dX3_isSame_0 : decode cX3_isSame 0 = .ok (.aload_n 0, 1) := by decide +kernel
theorem dX3_isSame_1 : decode cX3_isSame 1 = .ok (.iload_n 1, 1) := by decide +kernel
theorem dX3_isSame_2 : decode cX3_isSame 2 = .ok (.invokestatic 108, 3) := by decide +kernel
theorem dX3_isSame_5 : decode cX3_isSame 5 = .ok (.ifCond .eq 14, 3) := by decide +kernel
theorem dX3_isSame_8 : decode cX3_isSame 8 = .ok (.iload_n 2, 1) := by decide +kernel
theorem dX3_isSame_9 : decode cX3_isSame 9 = .ok (.invokestatic 108, 3) := by decide +kernel
theorem dX3_isSame_12 : decode cX3_isSame 12 = .ok (.ifCond .eq 7, 3) := by decide +kernel
theorem dX3_isSame_15 : decode cX3_isSame 15 = .ok (.iconst 1, 1) := by decide +kernel
theorem dX3_isSame_16 : decode cX3_isSame 16 = .ok (.goto 4, 3) := by decide +kernel
theorem dX3_isSame_19 : decode cX3_isSame 19 = .ok (.iconst 0, 1) := by decide +kernel
theorem dX3_isSame_20 : decode cX3_isSame 20 = .ok (.iconst 1, 1) := by decide +kernel
theorem dX3_isSame_21 : decode cX3_isSame 21 = .ok (.invokevirtual 84, 3) := by decide +kernel
theorem dX3_isSame_24 : decode cX3_isSame 24 = .ok (.ifCond .ne 16, 3) := by decide +kernel
theorem dX3_isSame_27 : decode cX3_isSame 27 = .ok (.aload_n 0, 1) := by decide +kernel
theorem dX3_isSame_28 : decode cX3_isSame 28 = .ok (.iload_n 1, 1) := by decide +kernel
theorem dX3_isSame_29 : decode cX3_isSame 29 = .ok (.iload_n 2, 1) := by decide +kernel
theorem dX3_isSame_30 : decode cX3_isSame 30 = .ok (.invokevirtual 116, 3) := by decide +kernel
theorem dX3_isSame_33 : decode cX3_isSame 33 = .ok (.ifCond .ne 7, 3) := by decide +kernel
theorem dX3_isSame_36 : decode cX3_isSame 36 = .ok (.iconst 1, 1) := by decide +kernel
theorem dX3_isSame_37 : decode cX3_isSame 37 = .ok (.goto 4, 3) := by decide +kernel
theorem dX3_isSame_40 : decode cX3_isSame 40 = .ok (.iconst 0, 1) := by decide +kernel
theorem dX3_isSame_41 : decode cX3_isSame 41 = .ok (.ireturn, 1) := by decide +kernel
set_option maxRecDepth 20000 in
theorem ggX3_apart_X3_isSlot : GoodIn wsX3_apart wsX3_isSlot := goodIn_r _ [4, 5, 6, 3, 7] (by decide +kernel) (by decide +kernel)
set_option maxRecDepth 20000 in
theorem gX3_apart_X3_isSlot : GoodIn wsX3_apart (va_wsS RX3 108 yX3_isSlot wsX3_isSlot) := goodIn_app (goodIn_of _ (by decide +kernel)) ggX3_apart_X3_isSlot
set_option maxRecDepth 20000 in
theorem ggX3_apart_X3_no : GoodIn wsX3_apart wsX3_no := goodIn_r _ [11, 12, 54, 55, 56, 57, 58, 59, 60, 61, 62] (by decide +kernel) (by decide +kernel)
set_option maxRecDepth 20000 in
theorem gX3_apart_X3_no : GoodIn wsX3_apart (wsV RX3 84 RX3 yX3_no wsX3_no) := goodIn_app (goodIn_of _ (by decide +kernel)) ggX3_apart_X3_no
set_option maxRecDepth 20000 in
theorem ggX3_apart_X3_look_ : GoodIn wsX3_apart wsX3_look_ := goodIn_r _ [16, 17, 18, 19, 20, 21, 3, 22, 23, 24, 25, 26, 27, 28, 29, 30, 31, 32, 54, 55, 56, 57, 58, 59, 60, 61, 62] (by decide +kernel) (by decide +kernel)
set_option maxRecDepth 20000 in
theorem gX3_apart_X3_look_ : GoodIn wsX3_apart (wsV RX3 73 RX3 yX3_look_ wsX3_look_) := goodIn_app (goodIn_of _ (by decide +kernel)) ggX3_apart_X3_look_
set_option maxRecDepth 20000 in
theorem ggX3_apart_X3_judged : GoodIn wsX3_apart wsX3_judged := goodIn_r _ [36, 37, 24, 38, 39, 40, 3, 41, 42, 43, 44, 45, 23, 25, 30, 31, 32, 46, 47, 48, 49, 26, 50, 51, 52, 53, 54, 55, 56, 57, 58, 59, 60, 61, 62] (by decide +kernel) (by decide +kernel)
set_option maxRecDepth 20000 in
theorem gX3_apart_X3_judged : GoodIn wsX3_apart (wsV RX3 76 RX3 yX3_judged wsX3_judged) := goodIn_app (goodIn_of _ (by decide +kernel)) ggX3_apart_X3_judged
theorem dX3_apart_0 : decode cX3_apart 0 = .ok (.aload_n 0, 1) := by decide +kernel
theorem dX3_apart_1 : decode cX3_apart 1 = .ok (.iload_n 1, 1) := by decide +kernel
theorem dX3_apart_2 : decode cX3_apart 2 = .ok (.invokestatic 108, 3) := by decide +kernel
theorem dX3_apart_5 : decode cX3_apart 5 = .ok (.ifCond .eq 14, 3) := by decide +kernel
theorem dX3_apart_8 : decode cX3_apart 8 = .ok (.iload_n 2, 1) := by decide +kernel
theorem dX3_apart_9 : decode cX3_apart 9 = .ok (.invokestatic 108, 3) := by decide +kernel
theorem dX3_apart_12 : decode cX3_apart 12 = .ok (.ifCond .eq 7, 3) := by decide +kernel
theorem dX3_apart_15 : decode cX3_apart 15 = .ok (.iconst 1, 1) := by decide +kernel
theorem dX3_apart_16 : decode cX3_apart 16 = .ok (.goto 4, 3) := by decide +kernel
theorem dX3_apart_19 : decode cX3_apart 19 = .ok (.iconst 0, 1) := by decide +kernel
theorem dX3_apart_20 : decode cX3_apart 20 = .ok (.iconst 1, 1) := by decide +kernel
theorem dX3_apart_21 : decode cX3_apart 21 = .ok (.invokevirtual 84, 3) := by decide +kernel
theorem dX3_apart_24 : decode cX3_apart 24 = .ok (.ifCond .eq 5, 3) := by decide +kernel
theorem dX3_apart_27 : decode cX3_apart 27 = .ok (.iconst 0, 1) := by decide +kernel
theorem dX3_apart_28 : decode cX3_apart 28 = .ok (.ireturn, 1) := by decide +kernel
theorem dX3_apart_29 : decode cX3_apart 29 = .ok (.aload_n 0, 1) := by decide +kernel
theorem dX3_apart_30 : decode cX3_apart 30 = .ok (.iconst 0, 1) := by decide +kernel
theorem dX3_apart_31 : decode cX3_apart 31 = .ok (.iload_n 1, 1) := by decide +kernel
theorem dX3_apart_32 : decode cX3_apart 32 = .ok (.invokevirtual 73, 3) := by decide +kernel
theorem dX3_apart_35 : decode cX3_apart 35 = .ok (.aload_n 0, 1) := by decide +kernel
theorem dX3_apart_36 : decode cX3_apart 36 = .ok (.iconst 1, 1) := by decide +kernel
theorem dX3_apart_37 : decode cX3_apart 37 = .ok (.iload_n 2, 1) := by decide +kernel
theorem dX3_apart_38 : decode cX3_apart 38 = .ok (.invokevirtual 73, 3) := by decide +kernel
theorem dX3_apart_41 : decode cX3_apart 41 = .ok (.aload_n 0, 1) := by decide +kernel
theorem dX3_apart_42 : decode cX3_apart 42 = .ok (.invokevirtual 76, 3) := by decide +kernel
theorem dX3_apart_45 : decode cX3_apart 45 = .ok (.iconst 1, 1) := by decide +kernel
theorem dX3_apart_46 : decode cX3_apart 46 = .ok (.iaload, 1) := by decide +kernel
theorem dX3_apart_47 : decode cX3_apart 47 = .ok (.ireturn, 1) := by decide +kernel
set_option maxRecDepth 20000 in
theorem ggX3_rank_X3_isSlot : GoodIn wsX3_rank wsX3_isSlot := goodIn_r _ [4, 5, 6, 3, 7] (by decide +kernel) (by decide +kernel)
set_option maxRecDepth 20000 in
theorem gX3_rank_X3_isSlot : GoodIn wsX3_rank (va_wsS RX3 108 yX3_isSlot wsX3_isSlot) := goodIn_app (goodIn_of _ (by decide +kernel)) ggX3_rank_X3_isSlot
set_option maxRecDepth 20000 in
theorem ggX3_rank_X3_no : GoodIn wsX3_rank wsX3_no := goodIn_r _ [11, 12, 58, 59, 60, 61, 62, 63, 64, 65, 66] (by decide +kernel) (by decide +kernel)
set_option maxRecDepth 20000 in
theorem gX3_rank_X3_no : GoodIn wsX3_rank (wsV RX3 84 RX3 yX3_no wsX3_no) := goodIn_app (goodIn_of _ (by decide +kernel)) ggX3_rank_X3_no
set_option maxRecDepth 20000 in
theorem ggX3_rank_X3_order : GoodIn wsX3_rank wsX3_order := goodIn_r _ [16, 17, 18, 19, 3, 20, 21, 22, 23, 24, 25, 26, 27, 28, 29, 30, 31, 32, 33, 34, 35, 36, 37, 38, 39, 40, 41, 42, 43, 44, 45, 46, 47, 48, 49, 50, 51, 52, 53, 54, 55, 56, 57, 58, 59, 60, 61, 62, 63, 64, 65, 66] (by decide +kernel) (by decide +kernel)
set_option maxRecDepth 20000 in
theorem gX3_rank_X3_order : GoodIn wsX3_rank (wsV RX3 116 RX3 yX3_order wsX3_order) := goodIn_app (goodIn_of _ (by decide +kernel)) ggX3_rank_X3_order
theorem dX3_rank_0 : decode cX3_rank 0 = .ok (.aload_n 0, 1) := by decide +kernel
theorem dX3_rank_1 : decode cX3_rank 1 = .ok (.iload_n 1, 1) := by decide +kernel
theorem dX3_rank_2 : decode cX3_rank 2 = .ok (.invokestatic 108, 3) := by decide +kernel
theorem dX3_rank_5 : decode cX3_rank 5 = .ok (.iconst 1, 1) := by decide +kernel
theorem dX3_rank_6 : decode cX3_rank 6 = .ok (.invokevirtual 84, 3) := by decide +kernel
theorem dX3_rank_9 : decode cX3_rank 9 = .ok (.ifCond .eq 5, 3) := by decide +kernel
theorem dX3_rank_12 : decode cX3_rank 12 = .ok (.iconst 0, 1) := by decide +kernel
theorem dX3_rank_13 : decode cX3_rank 13 = .ok (.ireturn, 1) := by decide +kernel
theorem dX3_rank_14 : decode cX3_rank 14 = .ok (.iconst 0, 1) := by decide +kernel
theorem dX3_rank_15 : decode cX3_rank 15 = .ok (.istore_n 2, 1) := by decide +kernel
theorem dX3_rank_16 : decode cX3_rank 16 = .ok (.iconst 0, 1) := by decide +kernel
theorem dX3_rank_17 : decode cX3_rank 17 = .ok (.istore_n 3, 1) := by decide +kernel
theorem dX3_rank_18 : decode cX3_rank 18 = .ok (.iload_n 3, 1) := by decide +kernel
theorem dX3_rank_19 : decode cX3_rank 19 = .ok (.bipush 8, 2) := by decide +kernel
theorem dX3_rank_21 : decode cX3_rank 21 = .ok (.if_icmp .ge 26, 3) := by decide +kernel
theorem dX3_rank_24 : decode cX3_rank 24 = .ok (.iload_n 2, 1) := by decide +kernel
theorem dX3_rank_25 : decode cX3_rank 25 = .ok (.aload_n 0, 1) := by decide +kernel
theorem dX3_rank_26 : decode cX3_rank 26 = .ok (.iload_n 3, 1) := by decide +kernel
theorem dX3_rank_27 : decode cX3_rank 27 = .ok (.iload_n 1, 1) := by decide +kernel
theorem dX3_rank_28 : decode cX3_rank 28 = .ok (.invokevirtual 116, 3) := by decide +kernel
theorem dX3_rank_31 : decode cX3_rank 31 = .ok (.ifCond .ge 7, 3) := by decide +kernel
theorem dX3_rank_34 : decode cX3_rank 34 = .ok (.iconst 1, 1) := by decide +kernel
theorem dX3_rank_35 : decode cX3_rank 35 = .ok (.goto 4, 3) := by decide +kernel
theorem dX3_rank_38 : decode cX3_rank 38 = .ok (.iconst 0, 1) := by decide +kernel
theorem dX3_rank_39 : decode cX3_rank 39 = .ok (.iadd, 1) := by decide +kernel
theorem dX3_rank_40 : decode cX3_rank 40 = .ok (.istore_n 2, 1) := by decide +kernel
theorem dX3_rank_41 : decode cX3_rank 41 = .ok (.iinc 3 1, 3) := by decide +kernel
theorem dX3_rank_44 : decode cX3_rank 44 = .ok (.goto (-26), 3) := by decide +kernel
theorem dX3_rank_47 : decode cX3_rank 47 = .ok (.iload_n 2, 1) := by decide +kernel
theorem dX3_rank_48 : decode cX3_rank 48 = .ok (.ireturn, 1) := by decide +kernel
set_option maxRecDepth 20000 in
theorem ggX3_place_X3_order : GoodIn wsX3_place wsX3_order := goodIn_r _ [5, 6, 7, 8, 4, 9, 10, 11, 12, 13, 14, 15, 16, 17, 18, 19, 20, 21, 22, 23, 24, 25, 26, 27, 28, 29, 30, 31, 32, 33, 34, 35, 36, 37, 38, 39, 40, 41, 42, 43, 44, 45, 46, 47, 48, 49, 50, 51, 52, 53, 54, 55] (by decide +kernel) (by decide +kernel)
set_option maxRecDepth 20000 in
theorem gX3_place_X3_order : GoodIn wsX3_place (wsV RX3 116 RX3 yX3_order wsX3_order) := goodIn_app (goodIn_of _ (by decide +kernel)) ggX3_place_X3_order
theorem dX3_place_0 : decode cX3_place 0 = .ok (.iconst 0, 1) := by decide +kernel
theorem dX3_place_1 : decode cX3_place 1 = .ok (.istore_n 2, 1) := by decide +kernel
theorem dX3_place_2 : decode cX3_place 2 = .ok (.iconst 0, 1) := by decide +kernel
theorem dX3_place_3 : decode cX3_place 3 = .ok (.istore_n 3, 1) := by decide +kernel
theorem dX3_place_4 : decode cX3_place 4 = .ok (.iload_n 3, 1) := by decide +kernel
theorem dX3_place_5 : decode cX3_place 5 = .ok (.bipush 8, 2) := by decide +kernel
theorem dX3_place_7 : decode cX3_place 7 = .ok (.if_icmp .ge 40, 3) := by decide +kernel
theorem dX3_place_10 : decode cX3_place 10 = .ok (.aload_n 0, 1) := by decide +kernel
theorem dX3_place_11 : decode cX3_place 11 = .ok (.iload_n 3, 1) := by decide +kernel
theorem dX3_place_12 : decode cX3_place 12 = .ok (.iload_n 1, 1) := by decide +kernel
theorem dX3_place_13 : decode cX3_place 13 = .ok (.invokevirtual 116, 3) := by decide +kernel
theorem dX3_place_16 : decode cX3_place 16 = .ok (.istore 4, 2) := by decide +kernel
theorem dX3_place_18 : decode cX3_place 18 = .ok (.iload_n 2, 1) := by decide +kernel
theorem dX3_place_19 : decode cX3_place 19 = .ok (.iload 4, 2) := by decide +kernel
theorem dX3_place_21 : decode cX3_place 21 = .ok (.ifCond .lt 13, 3) := by decide +kernel
theorem dX3_place_24 : decode cX3_place 24 = .ok (.iload 4, 2) := by decide +kernel
theorem dX3_place_26 : decode cX3_place 26 = .ok (.ifCond .ne 12, 3) := by decide +kernel
theorem dX3_place_29 : decode cX3_place 29 = .ok (.iload_n 3, 1) := by decide +kernel
theorem dX3_place_30 : decode cX3_place 30 = .ok (.iload_n 1, 1) := by decide +kernel
theorem dX3_place_31 : decode cX3_place 31 = .ok (.if_icmp .ge 7, 3) := by decide +kernel
theorem dX3_place_34 : decode cX3_place 34 = .ok (.iconst 1, 1) := by decide +kernel
theorem dX3_place_35 : decode cX3_place 35 = .ok (.goto 4, 3) := by decide +kernel
theorem dX3_place_38 : decode cX3_place 38 = .ok (.iconst 0, 1) := by decide +kernel
theorem dX3_place_39 : decode cX3_place 39 = .ok (.iadd, 1) := by decide +kernel
theorem dX3_place_40 : decode cX3_place 40 = .ok (.istore_n 2, 1) := by decide +kernel
theorem dX3_place_41 : decode cX3_place 41 = .ok (.iinc 3 1, 3) := by decide +kernel
theorem dX3_place_44 : decode cX3_place 44 = .ok (.goto (-40), 3) := by decide +kernel
theorem dX3_place_47 : decode cX3_place 47 = .ok (.iload_n 2, 1) := by decide +kernel
theorem dX3_place_48 : decode cX3_place 48 = .ok (.ireturn, 1) := by decide +kernel
set_option maxRecDepth 20000 in
theorem ggX3_at_X3_isSlot : GoodIn wsX3_at wsX3_isSlot := goodIn_r _ [4, 5, 6, 3, 7] (by decide +kernel) (by decide +kernel)
set_option maxRecDepth 20000 in
theorem gX3_at_X3_isSlot : GoodIn wsX3_at (va_wsS RX3 108 yX3_isSlot wsX3_isSlot) := goodIn_app (goodIn_of _ (by decide +kernel)) ggX3_at_X3_isSlot
set_option maxRecDepth 20000 in
theorem ggX3_at_X3_no : GoodIn wsX3_at wsX3_no := goodIn_r _ [11, 12, 62, 63, 64, 65, 66, 67, 68, 69, 70] (by decide +kernel) (by decide +kernel)
set_option maxRecDepth 20000 in
theorem gX3_at_X3_no : GoodIn wsX3_at (wsV RX3 84 RX3 yX3_no wsX3_no) := goodIn_app (goodIn_of _ (by decide +kernel)) ggX3_at_X3_no
set_option maxRecDepth 20000 in
theorem ggX3_at_X3_place : GoodIn wsX3_at wsX3_place := goodIn_r _ [16, 17, 18, 19, 3, 20, 21, 22, 23, 24, 25, 26, 27, 28, 29, 30, 31, 32, 33, 34, 35, 36, 37, 38, 39, 40, 41, 42, 43, 44, 45, 46, 47, 48, 49, 50, 51, 52, 53, 54, 55, 56, 57, 58, 59, 60, 61, 62, 63, 64, 65, 66, 67, 68, 69, 70] (by decide +kernel) (by decide +kernel)
set_option maxRecDepth 20000 in
theorem gX3_at_X3_place : GoodIn wsX3_at (wsV RX3 119 RX3 yX3_place wsX3_place) := goodIn_app (goodIn_of _ (by decide +kernel)) ggX3_at_X3_place
theorem dX3_at_0 : decode cX3_at 0 = .ok (.aload_n 0, 1) := by decide +kernel
theorem dX3_at_1 : decode cX3_at 1 = .ok (.iload_n 1, 1) := by decide +kernel
theorem dX3_at_2 : decode cX3_at 2 = .ok (.invokestatic 108, 3) := by decide +kernel
theorem dX3_at_5 : decode cX3_at 5 = .ok (.iconst 1, 1) := by decide +kernel
theorem dX3_at_6 : decode cX3_at 6 = .ok (.invokevirtual 84, 3) := by decide +kernel
theorem dX3_at_9 : decode cX3_at 9 = .ok (.ifCond .eq 5, 3) := by decide +kernel
theorem dX3_at_12 : decode cX3_at 12 = .ok (.iconst 0, 1) := by decide +kernel
theorem dX3_at_13 : decode cX3_at 13 = .ok (.ireturn, 1) := by decide +kernel
theorem dX3_at_14 : decode cX3_at 14 = .ok (.iconst 0, 1) := by decide +kernel
theorem dX3_at_15 : decode cX3_at 15 = .ok (.istore_n 2, 1) := by decide +kernel
theorem dX3_at_16 : decode cX3_at 16 = .ok (.aload_n 0, 1) := by decide +kernel
theorem dX3_at_17 : decode cX3_at 17 = .ok (.iload_n 2, 1) := by decide +kernel
theorem dX3_at_18 : decode cX3_at 18 = .ok (.invokevirtual 119, 3) := by decide +kernel
theorem dX3_at_21 : decode cX3_at 21 = .ok (.iload_n 1, 1) := by decide +kernel
theorem dX3_at_22 : decode cX3_at 22 = .ok (.if_icmp .eq 9, 3) := by decide +kernel
theorem dX3_at_25 : decode cX3_at 25 = .ok (.iinc 2 1, 3) := by decide +kernel
theorem dX3_at_28 : decode cX3_at 28 = .ok (.goto (-12), 3) := by decide +kernel
theorem dX3_at_31 : decode cX3_at 31 = .ok (.iload_n 2, 1) := by decide +kernel
theorem dX3_at_32 : decode cX3_at 32 = .ok (.ireturn, 1) := by decide +kernel
set_option maxRecDepth 20000 in
theorem ggX3_sort_X3_place : GoodIn wsX3_sort wsX3_place := goodIn_r _ [10, 11, 12, 13, 9, 14, 15, 16, 17, 18, 4, 5, 19, 20, 21, 22, 23, 24, 25, 26, 27, 28, 29, 30, 31, 32, 33, 34, 35, 36, 3, 37, 38, 39, 40, 41, 42, 43, 44, 45, 46, 47, 48, 49, 50, 51, 52, 53, 54, 55, 56, 57, 58, 59, 60, 61] (by decide +kernel) (by decide +kernel)
set_option maxRecDepth 20000 in
theorem gX3_sort_X3_place : GoodIn wsX3_sort (wsV RX3 119 RX3 yX3_place wsX3_place) := goodIn_app (goodIn_of _ (by decide +kernel)) ggX3_sort_X3_place
theorem dX3_sort_0 : decode cX3_sort 0 = .ok (.aload_n 0, 1) := by decide +kernel
theorem dX3_sort_1 : decode cX3_sort 1 = .ok (.iconst 0, 1) := by decide +kernel
theorem dX3_sort_2 : decode cX3_sort 2 = .ok (.putfield 39, 3) := by decide +kernel
theorem dX3_sort_5 : decode cX3_sort 5 = .ok (.bipush 8, 2) := by decide +kernel
theorem dX3_sort_7 : decode cX3_sort 7 = .ok (.anewarray 22, 3) := by decide +kernel
theorem dX3_sort_10 : decode cX3_sort 10 = .ok (.astore_n 1, 1) := by decide +kernel
theorem dX3_sort_11 : decode cX3_sort 11 = .ok (.bipush 8, 2) := by decide +kernel
theorem dX3_sort_13 : decode cX3_sort 13 = .ok (.newarray .int, 2) := by decide +kernel
theorem dX3_sort_15 : decode cX3_sort 15 = .ok (.astore_n 2, 1) := by decide +kernel
theorem dX3_sort_16 : decode cX3_sort 16 = .ok (.iconst 0, 1) := by decide +kernel
theorem dX3_sort_17 : decode cX3_sort 17 = .ok (.istore_n 3, 1) := by decide +kernel
theorem dX3_sort_18 : decode cX3_sort 18 = .ok (.iconst 0, 1) := by decide +kernel
theorem dX3_sort_19 : decode cX3_sort 19 = .ok (.istore 4, 2) := by decide +kernel
theorem dX3_sort_21 : decode cX3_sort 21 = .ok (.iload 4, 2) := by decide +kernel
theorem dX3_sort_23 : decode cX3_sort 23 = .ok (.bipush 8, 2) := by decide +kernel
theorem dX3_sort_25 : decode cX3_sort 25 = .ok (.if_icmp .ge 54, 3) := by decide +kernel
theorem dX3_sort_28 : decode cX3_sort 28 = .ok (.aload_n 0, 1) := by decide +kernel
theorem dX3_sort_29 : decode cX3_sort 29 = .ok (.iload 4, 2) := by decide +kernel
theorem dX3_sort_31 : decode cX3_sort 31 = .ok (.invokevirtual 119, 3) := by decide +kernel
theorem dX3_sort_34 : decode cX3_sort 34 = .ok (.istore 5, 2) := by decide +kernel
theorem dX3_sort_36 : decode cX3_sort 36 = .ok (.aload_n 1, 1) := by decide +kernel
theorem dX3_sort_37 : decode cX3_sort 37 = .ok (.iload 5, 2) := by decide +kernel
theorem dX3_sort_39 : decode cX3_sort 39 = .ok (.aload_n 0, 1) := by decide +kernel
theorem dX3_sort_40 : decode cX3_sort 40 = .ok (.getfield 15, 3) := by decide +kernel
theorem dX3_sort_43 : decode cX3_sort 43 = .ok (.iload 4, 2) := by decide +kernel
theorem dX3_sort_45 : decode cX3_sort 45 = .ok (.aaload, 1) := by decide +kernel
theorem dX3_sort_46 : decode cX3_sort 46 = .ok (.aastore, 1) := by decide +kernel
theorem dX3_sort_47 : decode cX3_sort 47 = .ok (.aload_n 2, 1) := by decide +kernel
theorem dX3_sort_48 : decode cX3_sort 48 = .ok (.iload 5, 2) := by decide +kernel
theorem dX3_sort_50 : decode cX3_sort 50 = .ok (.aload_n 0, 1) := by decide +kernel
theorem dX3_sort_51 : decode cX3_sort 51 = .ok (.getfield 18, 3) := by decide +kernel
theorem dX3_sort_54 : decode cX3_sort 54 = .ok (.iload 4, 2) := by decide +kernel
theorem dX3_sort_56 : decode cX3_sort 56 = .ok (.iaload, 1) := by decide +kernel
theorem dX3_sort_57 : decode cX3_sort 57 = .ok (.iastore, 1) := by decide +kernel
theorem dX3_sort_58 : decode cX3_sort 58 = .ok (.iload_n 3, 1) := by decide +kernel
theorem dX3_sort_59 : decode cX3_sort 59 = .ok (.iload 5, 2) := by decide +kernel
theorem dX3_sort_61 : decode cX3_sort 61 = .ok (.iload 4, 2) := by decide +kernel
theorem dX3_sort_63 : decode cX3_sort 63 = .ok (.if_icmp .eq 7, 3) := by decide +kernel
theorem dX3_sort_66 : decode cX3_sort 66 = .ok (.iconst 1, 1) := by decide +kernel
theorem dX3_sort_67 : decode cX3_sort 67 = .ok (.goto 4, 3) := by decide +kernel
theorem dX3_sort_70 : decode cX3_sort 70 = .ok (.iconst 0, 1) := by decide +kernel
theorem dX3_sort_71 : decode cX3_sort 71 = .ok (.iadd, 1) := by decide +kernel
theorem dX3_sort_72 : decode cX3_sort 72 = .ok (.istore_n 3, 1) := by decide +kernel
theorem dX3_sort_73 : decode cX3_sort 73 = .ok (.iinc 4 1, 3) := by decide +kernel
theorem dX3_sort_76 : decode cX3_sort 76 = .ok (.goto (-55), 3) := by decide +kernel
theorem dX3_sort_79 : decode cX3_sort 79 = .ok (.iconst 0, 1) := by decide +kernel
theorem dX3_sort_80 : decode cX3_sort 80 = .ok (.istore 4, 2) := by decide +kernel
theorem dX3_sort_82 : decode cX3_sort 82 = .ok (.iload 4, 2) := by decide +kernel
theorem dX3_sort_84 : decode cX3_sort 84 = .ok (.bipush 8, 2) := by decide +kernel
theorem dX3_sort_86 : decode cX3_sort 86 = .ok (.if_icmp .ge 31, 3) := by decide +kernel
theorem dX3_sort_89 : decode cX3_sort 89 = .ok (.aload_n 0, 1) := by decide +kernel
theorem dX3_sort_90 : decode cX3_sort 90 = .ok (.getfield 15, 3) := by decide +kernel
theorem dX3_sort_93 : decode cX3_sort 93 = .ok (.iload 4, 2) := by decide +kernel
theorem dX3_sort_95 : decode cX3_sort 95 = .ok (.aload_n 1, 1) := by decide +kernel
theorem dX3_sort_96 : decode cX3_sort 96 = .ok (.iload 4, 2) := by decide +kernel
theorem dX3_sort_98 : decode cX3_sort 98 = .ok (.aaload, 1) := by decide +kernel
theorem dX3_sort_99 : decode cX3_sort 99 = .ok (.aastore, 1) := by decide +kernel
theorem dX3_sort_100 : decode cX3_sort 100 = .ok (.aload_n 0, 1) := by decide +kernel
theorem dX3_sort_101 : decode cX3_sort 101 = .ok (.getfield 18, 3) := by decide +kernel
theorem dX3_sort_104 : decode cX3_sort 104 = .ok (.iload 4, 2) := by decide +kernel
theorem dX3_sort_106 : decode cX3_sort 106 = .ok (.aload_n 2, 1) := by decide +kernel
theorem dX3_sort_107 : decode cX3_sort 107 = .ok (.iload 4, 2) := by decide +kernel
theorem dX3_sort_109 : decode cX3_sort 109 = .ok (.iaload, 1) := by decide +kernel
theorem dX3_sort_110 : decode cX3_sort 110 = .ok (.iastore, 1) := by decide +kernel
theorem dX3_sort_111 : decode cX3_sort 111 = .ok (.iinc 4 1, 3) := by decide +kernel
theorem dX3_sort_114 : decode cX3_sort 114 = .ok (.goto (-32), 3) := by decide +kernel
theorem dX3_sort_117 : decode cX3_sort 117 = .ok (.iload_n 3, 1) := by decide +kernel
theorem dX3_sort_118 : decode cX3_sort 118 = .ok (.ireturn, 1) := by decide +kernel
set_option maxRecDepth 20000 in
theorem ggX3_between_X3_isSlot : GoodIn wsX3_between wsX3_isSlot := goodIn_r _ [4, 5, 6, 3, 7] (by decide +kernel) (by decide +kernel)
set_option maxRecDepth 20000 in
theorem gX3_between_X3_isSlot : GoodIn wsX3_between (va_wsS RX3 108 yX3_isSlot wsX3_isSlot) := goodIn_app (goodIn_of _ (by decide +kernel)) ggX3_between_X3_isSlot
set_option maxRecDepth 20000 in
theorem ggX3_between_X3_no : GoodIn wsX3_between wsX3_no := goodIn_r _ [11, 12, 58, 59, 60, 61, 62, 63, 64, 65, 66] (by decide +kernel) (by decide +kernel)
set_option maxRecDepth 20000 in
theorem gX3_between_X3_no : GoodIn wsX3_between (wsV RX3 84 RX3 yX3_no wsX3_no) := goodIn_app (goodIn_of _ (by decide +kernel)) ggX3_between_X3_no
set_option maxRecDepth 20000 in
theorem ggX3_between_X3_order : GoodIn wsX3_between wsX3_order := goodIn_r _ [16, 17, 18, 19, 3, 20, 21, 22, 23, 24, 25, 26, 27, 28, 29, 30, 31, 32, 33, 34, 35, 36, 37, 38, 39, 40, 41, 42, 43, 44, 45, 46, 47, 48, 49, 50, 51, 52, 53, 54, 55, 56, 57, 58, 59, 60, 61, 62, 63, 64, 65, 66] (by decide +kernel) (by decide +kernel)
set_option maxRecDepth 20000 in
theorem gX3_between_X3_order : GoodIn wsX3_between (wsV RX3 116 RX3 yX3_order wsX3_order) := goodIn_app (goodIn_of _ (by decide +kernel)) ggX3_between_X3_order
theorem dX3_between_0 : decode cX3_between 0 = .ok (.aload_n 0, 1) := by decide +kernel
theorem dX3_between_1 : decode cX3_between 1 = .ok (.iload_n 1, 1) := by decide +kernel
theorem dX3_between_2 : decode cX3_between 2 = .ok (.invokestatic 108, 3) := by decide +kernel
theorem dX3_between_5 : decode cX3_between 5 = .ok (.ifCond .eq 14, 3) := by decide +kernel
theorem dX3_between_8 : decode cX3_between 8 = .ok (.iload_n 2, 1) := by decide +kernel
theorem dX3_between_9 : decode cX3_between 9 = .ok (.invokestatic 108, 3) := by decide +kernel
theorem dX3_between_12 : decode cX3_between 12 = .ok (.ifCond .eq 7, 3) := by decide +kernel
theorem dX3_between_15 : decode cX3_between 15 = .ok (.iconst 1, 1) := by decide +kernel
theorem dX3_between_16 : decode cX3_between 16 = .ok (.goto 4, 3) := by decide +kernel
theorem dX3_between_19 : decode cX3_between 19 = .ok (.iconst 0, 1) := by decide +kernel
theorem dX3_between_20 : decode cX3_between 20 = .ok (.iconst 1, 1) := by decide +kernel
theorem dX3_between_21 : decode cX3_between 21 = .ok (.invokevirtual 84, 3) := by decide +kernel
theorem dX3_between_24 : decode cX3_between 24 = .ok (.ifCond .eq 5, 3) := by decide +kernel
theorem dX3_between_27 : decode cX3_between 27 = .ok (.iconst 0, 1) := by decide +kernel
theorem dX3_between_28 : decode cX3_between 28 = .ok (.ireturn, 1) := by decide +kernel
theorem dX3_between_29 : decode cX3_between 29 = .ok (.iconst 0, 1) := by decide +kernel
theorem dX3_between_30 : decode cX3_between 30 = .ok (.istore_n 3, 1) := by decide +kernel
theorem dX3_between_31 : decode cX3_between 31 = .ok (.iconst 0, 1) := by decide +kernel
theorem dX3_between_32 : decode cX3_between 32 = .ok (.istore 4, 2) := by decide +kernel
theorem dX3_between_34 : decode cX3_between 34 = .ok (.iload 4, 2) := by decide +kernel
theorem dX3_between_36 : decode cX3_between 36 = .ok (.bipush 8, 2) := by decide +kernel
theorem dX3_between_38 : decode cX3_between 38 = .ok (.if_icmp .ge 37, 3) := by decide +kernel
theorem dX3_between_41 : decode cX3_between 41 = .ok (.iload_n 3, 1) := by decide +kernel
theorem dX3_between_42 : decode cX3_between 42 = .ok (.aload_n 0, 1) := by decide +kernel
theorem dX3_between_43 : decode cX3_between 43 = .ok (.iload 4, 2) := by decide +kernel
theorem dX3_between_45 : decode cX3_between 45 = .ok (.iload_n 1, 1) := by decide +kernel
theorem dX3_between_46 : decode cX3_between 46 = .ok (.invokevirtual 116, 3) := by decide +kernel
theorem dX3_between_49 : decode cX3_between 49 = .ok (.ifCond .lt 17, 3) := by decide +kernel
theorem dX3_between_52 : decode cX3_between 52 = .ok (.aload_n 0, 1) := by decide +kernel
theorem dX3_between_53 : decode cX3_between 53 = .ok (.iload 4, 2) := by decide +kernel
theorem dX3_between_55 : decode cX3_between 55 = .ok (.iload_n 2, 1) := by decide +kernel
theorem dX3_between_56 : decode cX3_between 56 = .ok (.invokevirtual 116, 3) := by decide +kernel
theorem dX3_between_59 : decode cX3_between 59 = .ok (.ifCond .ge 7, 3) := by decide +kernel
theorem dX3_between_62 : decode cX3_between 62 = .ok (.iconst 1, 1) := by decide +kernel
theorem dX3_between_63 : decode cX3_between 63 = .ok (.goto 4, 3) := by decide +kernel
theorem dX3_between_66 : decode cX3_between 66 = .ok (.iconst 0, 1) := by decide +kernel
theorem dX3_between_67 : decode cX3_between 67 = .ok (.iadd, 1) := by decide +kernel
theorem dX3_between_68 : decode cX3_between 68 = .ok (.istore_n 3, 1) := by decide +kernel
theorem dX3_between_69 : decode cX3_between 69 = .ok (.iinc 4 1, 3) := by decide +kernel
theorem dX3_between_72 : decode cX3_between 72 = .ok (.goto (-38), 3) := by decide +kernel
theorem dX3_between_75 : decode cX3_between 75 = .ok (.iload_n 3, 1) := by decide +kernel
theorem dX3_between_76 : decode cX3_between 76 = .ok (.ireturn, 1) := by decide +kernel
set_option maxRecDepth 20000 in
theorem ggX3_behind_X3_longer : GoodIn wsX3_behind wsX3_longer := goodIn_r _ [6, 7, 1, 8, 58, 59, 60, 61, 62, 63, 64, 65, 66] (by decide +kernel) (by decide +kernel)
set_option maxRecDepth 20000 in
theorem gX3_behind_X3_longer : GoodIn wsX3_behind (wsV RX3 122 RX3 yX3_longer wsX3_longer) := goodIn_app (goodIn_of _ (by decide +kernel)) ggX3_behind_X3_longer
set_option maxRecDepth 20000 in
theorem ggX3_behind_X3_digits : GoodIn wsX3_behind wsX3_digits := goodIn_r _ [11, 12, 13, 5, 14] (by decide +kernel) (by decide +kernel)
set_option maxRecDepth 20000 in
theorem gX3_behind_X3_digits : GoodIn wsX3_behind (va_wsS RX3 88 yX3_digits wsX3_digits) := goodIn_app (goodIn_of _ (by decide +kernel)) ggX3_behind_X3_digits
set_option maxRecDepth 20000 in
theorem ggX3_behind_X3_put : GoodIn wsX3_behind wsX3_put := goodIn_r _ [18, 8, 1, 19, 20, 21, 5, 22, 23, 24, 25, 26, 27, 28, 29, 30, 31, 32, 33, 34, 35, 36, 37, 38, 39, 40, 41, 42, 43, 44, 45, 46, 47, 48, 49, 50, 51, 52, 53, 54, 55, 56, 57, 58, 59, 60, 61, 62, 63, 64, 65, 66] (by decide +kernel) (by decide +kernel)
set_option maxRecDepth 20000 in
theorem gX3_behind_X3_put : GoodIn wsX3_behind (wsV RX3 126 RX3 yX3_put wsX3_put) := goodIn_app (goodIn_of _ (by decide +kernel)) ggX3_behind_X3_put
theorem dX3_behind_0 : decode cX3_behind 0 = .ok (.aload_n 0, 1) := by decide +kernel
theorem dX3_behind_1 : decode cX3_behind 1 = .ok (.iload_n 1, 1) := by decide +kernel
theorem dX3_behind_2 : decode cX3_behind 2 = .ok (.invokevirtual 122, 3) := by decide +kernel
theorem dX3_behind_5 : decode cX3_behind 5 = .ok (.astore 5, 2) := by decide +kernel
theorem dX3_behind_7 : decode cX3_behind 7 = .ok (.aload 5, 2) := by decide +kernel
theorem dX3_behind_9 : decode cX3_behind 9 = .ok (.aload_n 0, 1) := by decide +kernel
theorem dX3_behind_10 : decode cX3_behind 10 = .ok (.getfield 18, 3) := by decide +kernel
theorem dX3_behind_13 : decode cX3_behind 13 = .ok (.iload_n 1, 1) := by decide +kernel
theorem dX3_behind_14 : decode cX3_behind 14 = .ok (.iaload, 1) := by decide +kernel
theorem dX3_behind_15 : decode cX3_behind 15 = .ok (.iload_n 2, 1) := by decide +kernel
theorem dX3_behind_16 : decode cX3_behind 16 = .ok (.castore, 1) := by decide +kernel
theorem dX3_behind_17 : decode cX3_behind 17 = .ok (.aload_n 0, 1) := by decide +kernel
theorem dX3_behind_18 : decode cX3_behind 18 = .ok (.iload_n 1, 1) := by decide +kernel
theorem dX3_behind_19 : decode cX3_behind 19 = .ok (.aload 5, 2) := by decide +kernel
theorem dX3_behind_21 : decode cX3_behind 21 = .ok (.aload 5, 2) := by decide +kernel
theorem dX3_behind_23 : decode cX3_behind 23 = .ok (.aload_n 0, 1) := by decide +kernel
theorem dX3_behind_24 : decode cX3_behind 24 = .ok (.getfield 18, 3) := by decide +kernel
theorem dX3_behind_27 : decode cX3_behind 27 = .ok (.iload_n 1, 1) := by decide +kernel
theorem dX3_behind_28 : decode cX3_behind 28 = .ok (.iaload, 1) := by decide +kernel
theorem dX3_behind_29 : decode cX3_behind 29 = .ok (.iconst 1, 1) := by decide +kernel
theorem dX3_behind_30 : decode cX3_behind 30 = .ok (.iadd, 1) := by decide +kernel
theorem dX3_behind_31 : decode cX3_behind 31 = .ok (.iload_n 3, 1) := by decide +kernel
theorem dX3_behind_32 : decode cX3_behind 32 = .ok (.iconst 0, 1) := by decide +kernel
theorem dX3_behind_33 : decode cX3_behind 33 = .ok (.invokestatic 88, 3) := by decide +kernel
theorem dX3_behind_36 : decode cX3_behind 36 = .ok (.iload 4, 2) := by decide +kernel
theorem dX3_behind_38 : decode cX3_behind 38 = .ok (.invokevirtual 126, 3) := by decide +kernel
theorem dX3_behind_41 : decode cX3_behind 41 = .ok (.ireturn, 1) := by decide +kernel
theorem dX3_longer_0 : decode cX3_longer 0 = .ok (.bipush 60, 2) := by decide +kernel
theorem dX3_longer_2 : decode cX3_longer 2 = .ok (.newarray .char, 2) := by decide +kernel
theorem dX3_longer_4 : decode cX3_longer 4 = .ok (.astore_n 2, 1) := by decide +kernel
theorem dX3_longer_5 : decode cX3_longer 5 = .ok (.iconst 0, 1) := by decide +kernel
theorem dX3_longer_6 : decode cX3_longer 6 = .ok (.istore_n 3, 1) := by decide +kernel
theorem dX3_longer_7 : decode cX3_longer 7 = .ok (.iload_n 3, 1) := by decide +kernel
theorem dX3_longer_8 : decode cX3_longer 8 = .ok (.aload_n 0, 1) := by decide +kernel
theorem dX3_longer_9 : decode cX3_longer 9 = .ok (.getfield 18, 3) := by decide +kernel
theorem dX3_longer_12 : decode cX3_longer 12 = .ok (.iload_n 1, 1) := by decide +kernel
theorem dX3_longer_13 : decode cX3_longer 13 = .ok (.iaload, 1) := by decide +kernel
theorem dX3_longer_14 : decode cX3_longer 14 = .ok (.if_icmp .ge 20, 3) := by decide +kernel
theorem dX3_longer_17 : decode cX3_longer 17 = .ok (.aload_n 2, 1) := by decide +kernel
theorem dX3_longer_18 : decode cX3_longer 18 = .ok (.iload_n 3, 1) := by decide +kernel
theorem dX3_longer_19 : decode cX3_longer 19 = .ok (.aload_n 0, 1) := by decide +kernel
theorem dX3_longer_20 : decode cX3_longer 20 = .ok (.getfield 15, 3) := by decide +kernel
theorem dX3_longer_23 : decode cX3_longer 23 = .ok (.iload_n 1, 1) := by decide +kernel
theorem dX3_longer_24 : decode cX3_longer 24 = .ok (.aaload, 1) := by decide +kernel
theorem dX3_longer_25 : decode cX3_longer 25 = .ok (.iload_n 3, 1) := by decide +kernel
theorem dX3_longer_26 : decode cX3_longer 26 = .ok (.caload, 1) := by decide +kernel
theorem dX3_longer_27 : decode cX3_longer 27 = .ok (.castore, 1) := by decide +kernel
theorem dX3_longer_28 : decode cX3_longer 28 = .ok (.iinc 3 1, 3) := by decide +kernel
theorem dX3_longer_31 : decode cX3_longer 31 = .ok (.goto (-24), 3) := by decide +kernel
theorem dX3_longer_34 : decode cX3_longer 34 = .ok (.aload_n 2, 1) := by decide +kernel
theorem dX3_longer_35 : decode cX3_longer 35 = .ok (.areturn, 1) := by decide +kernel
set_option maxRecDepth 20000 in
theorem ggX3_put_X3_look : GoodIn wsX3_put wsX3_look := goodIn_r _ [7, 8, 9, 10, 11, 12, 13, 6, 14, 15, 16, 17, 43, 44, 45, 46, 47, 48, 49, 50, 51] (by decide +kernel) (by decide +kernel)
set_option maxRecDepth 20000 in
theorem gX3_put_X3_look : GoodIn wsX3_put (wsV RX3 54 RX3 yX3_look wsX3_look) := goodIn_app (goodIn_of _ (by decide +kernel)) ggX3_put_X3_look
set_option maxRecDepth 20000 in
theorem ggX3_put_X3_look_ : GoodIn wsX3_put wsX3_look_ := goodIn_r _ [21, 1, 2, 3, 4, 5, 6, 7, 8, 9, 10, 11, 12, 13, 14, 15, 16, 17, 43, 44, 45, 46, 47, 48, 49, 50, 51] (by decide +kernel) (by decide +kernel)
set_option maxRecDepth 20000 in
theorem gX3_put_X3_look_ : GoodIn wsX3_put (wsV RX3 73 RX3 yX3_look_ wsX3_look_) := goodIn_app (goodIn_of _ (by decide +kernel)) ggX3_put_X3_look_
set_option maxRecDepth 20000 in
theorem ggX3_put_X3_judged : GoodIn wsX3_put wsX3_judged := goodIn_r _ [25, 26, 9, 27, 28, 29, 6, 30, 31, 32, 33, 34, 8, 10, 15, 16, 17, 35, 36, 37, 38, 11, 39, 40, 41, 42, 43, 44, 45, 46, 47, 48, 49, 50, 51] (by decide +kernel) (by decide +kernel)
set_option maxRecDepth 20000 in
theorem gX3_put_X3_judged : GoodIn wsX3_put (wsV RX3 76 RX3 yX3_judged wsX3_judged) := goodIn_app (goodIn_of _ (by decide +kernel)) ggX3_put_X3_judged
theorem dX3_put_0 : decode cX3_put 0 = .ok (.aload_n 0, 1) := by decide +kernel
theorem dX3_put_1 : decode cX3_put 1 = .ok (.iconst 0, 1) := by decide +kernel
theorem dX3_put_2 : decode cX3_put 2 = .ok (.aload_n 2, 1) := by decide +kernel
theorem dX3_put_3 : decode cX3_put 3 = .ok (.iload_n 3, 1) := by decide +kernel
theorem dX3_put_4 : decode cX3_put 4 = .ok (.invokevirtual 54, 3) := by decide +kernel
theorem dX3_put_7 : decode cX3_put 7 = .ok (.aload_n 0, 1) := by decide +kernel
theorem dX3_put_8 : decode cX3_put 8 = .ok (.iconst 1, 1) := by decide +kernel
theorem dX3_put_9 : decode cX3_put 9 = .ok (.iload_n 1, 1) := by decide +kernel
theorem dX3_put_10 : decode cX3_put 10 = .ok (.invokevirtual 73, 3) := by decide +kernel
theorem dX3_put_13 : decode cX3_put 13 = .ok (.aload_n 0, 1) := by decide +kernel
theorem dX3_put_14 : decode cX3_put 14 = .ok (.invokevirtual 76, 3) := by decide +kernel
theorem dX3_put_17 : decode cX3_put 17 = .ok (.iconst 0, 1) := by decide +kernel
theorem dX3_put_18 : decode cX3_put 18 = .ok (.iaload, 1) := by decide +kernel
theorem dX3_put_19 : decode cX3_put 19 = .ok (.istore 5, 2) := by decide +kernel
theorem dX3_put_21 : decode cX3_put 21 = .ok (.aload_n 0, 1) := by decide +kernel
theorem dX3_put_22 : decode cX3_put 22 = .ok (.getfield 15, 3) := by decide +kernel
theorem dX3_put_25 : decode cX3_put 25 = .ok (.iload 4, 2) := by decide +kernel
theorem dX3_put_27 : decode cX3_put 27 = .ok (.aload_n 2, 1) := by decide +kernel
theorem dX3_put_28 : decode cX3_put 28 = .ok (.aastore, 1) := by decide +kernel
theorem dX3_put_29 : decode cX3_put 29 = .ok (.aload_n 0, 1) := by decide +kernel
theorem dX3_put_30 : decode cX3_put 30 = .ok (.getfield 18, 3) := by decide +kernel
theorem dX3_put_33 : decode cX3_put 33 = .ok (.iload 4, 2) := by decide +kernel
theorem dX3_put_35 : decode cX3_put 35 = .ok (.iload_n 3, 1) := by decide +kernel
theorem dX3_put_36 : decode cX3_put 36 = .ok (.iastore, 1) := by decide +kernel
theorem dX3_put_37 : decode cX3_put 37 = .ok (.iload 5, 2) := by decide +kernel
theorem dX3_put_39 : decode cX3_put 39 = .ok (.ireturn, 1) := by decide +kernel
set_option maxRecDepth 20000 in
theorem ggX3_hasRoom_X3_length : GoodIn wsX3_hasRoom wsX3_length := goodIn_r _ [5] (by decide +kernel) (by decide +kernel)
set_option maxRecDepth 20000 in
theorem gX3_hasRoom_X3_length : GoodIn wsX3_hasRoom (va_wsS RX3 80 yX3_length wsX3_length) := goodIn_app (goodIn_of _ (by decide +kernel)) ggX3_hasRoom_X3_length
theorem dX3_hasRoom_0 : decode cX3_hasRoom 0 = .ok (.aload_n 0, 1) := by decide +kernel
theorem dX3_hasRoom_1 : decode cX3_hasRoom 1 = .ok (.getfield 18, 3) := by decide +kernel
theorem dX3_hasRoom_4 : decode cX3_hasRoom 4 = .ok (.iload_n 1, 1) := by decide +kernel
theorem dX3_hasRoom_5 : decode cX3_hasRoom 5 = .ok (.iaload, 1) := by decide +kernel
theorem dX3_hasRoom_6 : decode cX3_hasRoom 6 = .ok (.iconst 1, 1) := by decide +kernel
theorem dX3_hasRoom_7 : decode cX3_hasRoom 7 = .ok (.iadd, 1) := by decide +kernel
theorem dX3_hasRoom_8 : decode cX3_hasRoom 8 = .ok (.iload_n 2, 1) := by decide +kernel
theorem dX3_hasRoom_9 : decode cX3_hasRoom 9 = .ok (.invokestatic 80, 3) := by decide +kernel
theorem dX3_hasRoom_12 : decode cX3_hasRoom 12 = .ok (.iadd, 1) := by decide +kernel
theorem dX3_hasRoom_13 : decode cX3_hasRoom 13 = .ok (.bipush 60, 2) := by decide +kernel
theorem dX3_hasRoom_15 : decode cX3_hasRoom 15 = .ok (.if_icmp .gt 7, 3) := by decide +kernel
theorem dX3_hasRoom_18 : decode cX3_hasRoom 18 = .ok (.iconst 1, 1) := by decide +kernel
theorem dX3_hasRoom_19 : decode cX3_hasRoom 19 = .ok (.goto 4, 3) := by decide +kernel
theorem dX3_hasRoom_22 : decode cX3_hasRoom 22 = .ok (.iconst 0, 1) := by decide +kernel
theorem dX3_hasRoom_23 : decode cX3_hasRoom 23 = .ok (.ireturn, 1) := by decide +kernel
set_option maxRecDepth 20000 in
theorem ggX3_zero_X3_isSlot : GoodIn wsX3_zero wsX3_isSlot := goodIn_r _ [4, 5, 6, 3, 7] (by decide +kernel) (by decide +kernel)
set_option maxRecDepth 20000 in
theorem gX3_zero_X3_isSlot : GoodIn wsX3_zero (va_wsS RX3 108 yX3_isSlot wsX3_isSlot) := goodIn_app (goodIn_of _ (by decide +kernel)) ggX3_zero_X3_isSlot
set_option maxRecDepth 20000 in
theorem ggX3_zero_X3_no : GoodIn wsX3_zero wsX3_no := goodIn_r _ [11, 12, 77, 78, 79, 80, 81, 82, 83, 84, 85] (by decide +kernel) (by decide +kernel)
set_option maxRecDepth 20000 in
theorem gX3_zero_X3_no : GoodIn wsX3_zero (wsV RX3 84 RX3 yX3_no wsX3_no) := goodIn_app (goodIn_of _ (by decide +kernel)) ggX3_zero_X3_no
set_option maxRecDepth 20000 in
theorem ggX3_zero_X3_hasRoom : GoodIn wsX3_zero wsX3_hasRoom := goodIn_r _ [16, 17, 18, 19, 3, 20, 77, 78, 79, 80, 81, 82, 83, 84, 85] (by decide +kernel) (by decide +kernel)
set_option maxRecDepth 20000 in
theorem gX3_zero_X3_hasRoom : GoodIn wsX3_zero (wsV RX3 130 RX3 yX3_hasRoom wsX3_hasRoom) := goodIn_app (goodIn_of _ (by decide +kernel)) ggX3_zero_X3_hasRoom
set_option maxRecDepth 20000 in
theorem ggX3_zero_X3_behind : GoodIn wsX3_zero wsX3_behind := goodIn_r _ [24, 17, 25, 26, 27, 3, 28, 29, 30, 31, 32, 33, 18, 19, 20, 34, 35, 36, 37, 38, 39, 40, 41, 42, 43, 44, 45, 46, 47, 48, 49, 50, 51, 52, 53, 54, 55, 56, 57, 58, 59, 60, 61, 62, 63, 64, 65, 66, 67, 68, 69, 70, 71, 72, 73, 74, 75, 76, 77, 78, 79, 80, 81, 82, 83, 84, 85] (by decide +kernel) (by decide +kernel)
set_option maxRecDepth 20000 in
theorem gX3_zero_X3_behind : GoodIn wsX3_zero (wsV RX3 134 RX3 yX3_behind wsX3_behind) := goodIn_app (goodIn_of _ (by decide +kernel)) ggX3_zero_X3_behind
theorem dX3_zero_0 : decode cX3_zero 0 = .ok (.aload_n 0, 1) := by decide +kernel
theorem dX3_zero_1 : decode cX3_zero 1 = .ok (.iload_n 1, 1) := by decide +kernel
theorem dX3_zero_2 : decode cX3_zero 2 = .ok (.invokestatic 108, 3) := by decide +kernel
theorem dX3_zero_5 : decode cX3_zero 5 = .ok (.ifCond .eq 14, 3) := by decide +kernel
theorem dX3_zero_8 : decode cX3_zero 8 = .ok (.iload_n 2, 1) := by decide +kernel
theorem dX3_zero_9 : decode cX3_zero 9 = .ok (.invokestatic 108, 3) := by decide +kernel
theorem dX3_zero_12 : decode cX3_zero 12 = .ok (.ifCond .eq 7, 3) := by decide +kernel
theorem dX3_zero_15 : decode cX3_zero 15 = .ok (.iconst 1, 1) := by decide +kernel
theorem dX3_zero_16 : decode cX3_zero 16 = .ok (.goto 4, 3) := by decide +kernel
theorem dX3_zero_19 : decode cX3_zero 19 = .ok (.iconst 0, 1) := by decide +kernel
theorem dX3_zero_20 : decode cX3_zero 20 = .ok (.iconst 1, 1) := by decide +kernel
theorem dX3_zero_21 : decode cX3_zero 21 = .ok (.invokevirtual 84, 3) := by decide +kernel
theorem dX3_zero_24 : decode cX3_zero 24 = .ok (.ifCond .ne 17, 3) := by decide +kernel
theorem dX3_zero_27 : decode cX3_zero 27 = .ok (.aload_n 0, 1) := by decide +kernel
theorem dX3_zero_28 : decode cX3_zero 28 = .ok (.aload_n 0, 1) := by decide +kernel
theorem dX3_zero_29 : decode cX3_zero 29 = .ok (.iload_n 1, 1) := by decide +kernel
theorem dX3_zero_30 : decode cX3_zero 30 = .ok (.iconst 0, 1) := by decide +kernel
theorem dX3_zero_31 : decode cX3_zero 31 = .ok (.invokevirtual 130, 3) := by decide +kernel
theorem dX3_zero_34 : decode cX3_zero 34 = .ok (.iconst 2, 1) := by decide +kernel
theorem dX3_zero_35 : decode cX3_zero 35 = .ok (.invokevirtual 84, 3) := by decide +kernel
theorem dX3_zero_38 : decode cX3_zero 38 = .ok (.ifCond .eq 5, 3) := by decide +kernel
theorem dX3_zero_41 : decode cX3_zero 41 = .ok (.iconst 0, 1) := by decide +kernel
theorem dX3_zero_42 : decode cX3_zero 42 = .ok (.ireturn, 1) := by decide +kernel
theorem dX3_zero_43 : decode cX3_zero 43 = .ok (.aload_n 0, 1) := by decide +kernel
theorem dX3_zero_44 : decode cX3_zero 44 = .ok (.iload_n 1, 1) := by decide +kernel
theorem dX3_zero_45 : decode cX3_zero 45 = .ok (.bipush 46, 2) := by decide +kernel
theorem dX3_zero_47 : decode cX3_zero 47 = .ok (.iconst 0, 1) := by decide +kernel
theorem dX3_zero_48 : decode cX3_zero 48 = .ok (.iload_n 2, 1) := by decide +kernel
theorem dX3_zero_49 : decode cX3_zero 49 = .ok (.invokevirtual 134, 3) := by decide +kernel
theorem dX3_zero_52 : decode cX3_zero 52 = .ok (.ifCond .ne 7, 3) := by decide +kernel
theorem dX3_zero_55 : decode cX3_zero 55 = .ok (.iconst 1, 1) := by decide +kernel
theorem dX3_zero_56 : decode cX3_zero 56 = .ok (.goto 4, 3) := by decide +kernel
theorem dX3_zero_59 : decode cX3_zero 59 = .ok (.iconst 0, 1) := by decide +kernel
theorem dX3_zero_60 : decode cX3_zero 60 = .ok (.ireturn, 1) := by decide +kernel
set_option maxRecDepth 20000 in
theorem ggX3_longer__X3_isSlot : GoodIn wsX3_longer_ wsX3_isSlot := goodIn_r _ [4, 5, 6, 3, 7] (by decide +kernel) (by decide +kernel)
set_option maxRecDepth 20000 in
theorem gX3_longer__X3_isSlot : GoodIn wsX3_longer_ (va_wsS RX3 108 yX3_isSlot wsX3_isSlot) := goodIn_app (goodIn_of _ (by decide +kernel)) ggX3_longer__X3_isSlot
set_option maxRecDepth 20000 in
theorem ggX3_longer__X3_no : GoodIn wsX3_longer_ wsX3_no := goodIn_r _ [11, 12, 77, 78, 79, 80, 81, 82, 83, 84, 85] (by decide +kernel) (by decide +kernel)
set_option maxRecDepth 20000 in
theorem gX3_longer__X3_no : GoodIn wsX3_longer_ (wsV RX3 84 RX3 yX3_no wsX3_no) := goodIn_app (goodIn_of _ (by decide +kernel)) ggX3_longer__X3_no
set_option maxRecDepth 20000 in
theorem ggX3_longer__X3_in : GoodIn wsX3_longer_ wsX3_in := goodIn_r _ [7] (by decide +kernel) (by decide +kernel)
set_option maxRecDepth 20000 in
theorem gX3_longer__X3_in : GoodIn wsX3_longer_ (va_wsS RX3 43 yX3_in wsX3_in) := goodIn_app (goodIn_of _ (by decide +kernel)) ggX3_longer__X3_in
set_option maxRecDepth 20000 in
theorem ggX3_longer__X3_hasRoom : GoodIn wsX3_longer_ wsX3_hasRoom := goodIn_r _ [16, 17, 18, 19, 3, 20, 77, 78, 79, 80, 81, 82, 83, 84, 85] (by decide +kernel) (by decide +kernel)
set_option maxRecDepth 20000 in
theorem gX3_longer__X3_hasRoom : GoodIn wsX3_longer_ (wsV RX3 130 RX3 yX3_hasRoom wsX3_hasRoom) := goodIn_app (goodIn_of _ (by decide +kernel)) ggX3_longer__X3_hasRoom
set_option maxRecDepth 20000 in
theorem ggX3_longer__X3_behind : GoodIn wsX3_longer_ wsX3_behind := goodIn_r _ [24, 17, 25, 26, 27, 3, 28, 29, 30, 31, 32, 33, 18, 19, 20, 34, 35, 36, 37, 38, 39, 40, 41, 42, 43, 44, 45, 46, 47, 48, 49, 50, 51, 52, 53, 54, 55, 56, 57, 58, 59, 60, 61, 62, 63, 64, 65, 66, 67, 68, 69, 70, 71, 72, 73, 74, 75, 76, 77, 78, 79, 80, 81, 82, 83, 84, 85] (by decide +kernel) (by decide +kernel)
set_option maxRecDepth 20000 in
theorem gX3_longer__X3_behind : GoodIn wsX3_longer_ (wsV RX3 134 RX3 yX3_behind wsX3_behind) := goodIn_app (goodIn_of _ (by decide +kernel)) ggX3_longer__X3_behind
theorem dX3_longer__0 : decode cX3_longer_ 0 = .ok (.aload_n 0, 1) := by decide +kernel
theorem dX3_longer__1 : decode cX3_longer_ 1 = .ok (.iload_n 1, 1) := by decide +kernel
theorem dX3_longer__2 : decode cX3_longer_ 2 = .ok (.invokestatic 108, 3) := by decide +kernel
theorem dX3_longer__5 : decode cX3_longer_ 5 = .ok (.ifCond .eq 14, 3) := by decide +kernel
theorem dX3_longer__8 : decode cX3_longer_ 8 = .ok (.iload_n 3, 1) := by decide +kernel
theorem dX3_longer__9 : decode cX3_longer_ 9 = .ok (.invokestatic 108, 3) := by decide +kernel
theorem dX3_longer__12 : decode cX3_longer_ 12 = .ok (.ifCond .eq 7, 3) := by decide +kernel
theorem dX3_longer__15 : decode cX3_longer_ 15 = .ok (.iconst 1, 1) := by decide +kernel
theorem dX3_longer__16 : decode cX3_longer_ 16 = .ok (.goto 4, 3) := by decide +kernel
theorem dX3_longer__19 : decode cX3_longer_ 19 = .ok (.iconst 0, 1) := by decide +kernel
theorem dX3_longer__20 : decode cX3_longer_ 20 = .ok (.iconst 1, 1) := by decide +kernel
theorem dX3_longer__21 : decode cX3_longer_ 21 = .ok (.invokevirtual 84, 3) := by decide +kernel
theorem dX3_longer__24 : decode cX3_longer_ 24 = .ok (.ifCond .ne 33, 3) := by decide +kernel
theorem dX3_longer__27 : decode cX3_longer_ 27 = .ok (.aload_n 0, 1) := by decide +kernel
theorem dX3_longer__28 : decode cX3_longer_ 28 = .ok (.iload_n 2, 1) := by decide +kernel
theorem dX3_longer__29 : decode cX3_longer_ 29 = .ok (.iconst 1, 1) := by decide +kernel
theorem dX3_longer__30 : decode cX3_longer_ 30 = .ok (.sipush 999, 3) := by decide +kernel
theorem dX3_longer__33 : decode cX3_longer_ 33 = .ok (.invokestatic 43, 3) := by decide +kernel
theorem dX3_longer__36 : decode cX3_longer_ 36 = .ok (.iconst 2, 1) := by decide +kernel
theorem dX3_longer__37 : decode cX3_longer_ 37 = .ok (.invokevirtual 84, 3) := by decide +kernel
theorem dX3_longer__40 : decode cX3_longer_ 40 = .ok (.ifCond .ne 17, 3) := by decide +kernel
theorem dX3_longer__43 : decode cX3_longer_ 43 = .ok (.aload_n 0, 1) := by decide +kernel
theorem dX3_longer__44 : decode cX3_longer_ 44 = .ok (.aload_n 0, 1) := by decide +kernel
theorem dX3_longer__45 : decode cX3_longer_ 45 = .ok (.iload_n 1, 1) := by decide +kernel
theorem dX3_longer__46 : decode cX3_longer_ 46 = .ok (.iload_n 2, 1) := by decide +kernel
theorem dX3_longer__47 : decode cX3_longer_ 47 = .ok (.invokevirtual 130, 3) := by decide +kernel
theorem dX3_longer__50 : decode cX3_longer_ 50 = .ok (.iconst 3, 1) := by decide +kernel
theorem dX3_longer__51 : decode cX3_longer_ 51 = .ok (.invokevirtual 84, 3) := by decide +kernel
theorem dX3_longer__54 : decode cX3_longer_ 54 = .ok (.ifCond .eq 5, 3) := by decide +kernel
theorem dX3_longer__57 : decode cX3_longer_ 57 = .ok (.iconst 0, 1) := by decide +kernel
theorem dX3_longer__58 : decode cX3_longer_ 58 = .ok (.ireturn, 1) := by decide +kernel
theorem dX3_longer__59 : decode cX3_longer_ 59 = .ok (.aload_n 0, 1) := by decide +kernel
theorem dX3_longer__60 : decode cX3_longer_ 60 = .ok (.iload_n 1, 1) := by decide +kernel
theorem dX3_longer__61 : decode cX3_longer_ 61 = .ok (.bipush 46, 2) := by decide +kernel
theorem dX3_longer__63 : decode cX3_longer_ 63 = .ok (.iload_n 2, 1) := by decide +kernel
theorem dX3_longer__64 : decode cX3_longer_ 64 = .ok (.iload_n 3, 1) := by decide +kernel
theorem dX3_longer__65 : decode cX3_longer_ 65 = .ok (.invokevirtual 134, 3) := by decide +kernel
theorem dX3_longer__68 : decode cX3_longer_ 68 = .ok (.ifCond .le 7, 3) := by decide +kernel
theorem dX3_longer__71 : decode cX3_longer_ 71 = .ok (.iconst 1, 1) := by decide +kernel
theorem dX3_longer__72 : decode cX3_longer_ 72 = .ok (.goto 4, 3) := by decide +kernel
theorem dX3_longer__75 : decode cX3_longer_ 75 = .ok (.iconst 0, 1) := by decide +kernel
theorem dX3_longer__76 : decode cX3_longer_ 76 = .ok (.ireturn, 1) := by decide +kernel
set_option maxRecDepth 20000 in
theorem ggX3_early_X3_isSlot : GoodIn wsX3_early wsX3_isSlot := goodIn_r _ [6, 7, 8, 5, 9] (by decide +kernel) (by decide +kernel)
set_option maxRecDepth 20000 in
theorem gX3_early_X3_isSlot : GoodIn wsX3_early (va_wsS RX3 108 yX3_isSlot wsX3_isSlot) := goodIn_app (goodIn_of _ (by decide +kernel)) ggX3_early_X3_isSlot
set_option maxRecDepth 20000 in
theorem ggX3_early_X3_no : GoodIn wsX3_early wsX3_no := goodIn_r _ [13, 14, 63, 64, 65, 66, 67, 68, 69, 70, 71] (by decide +kernel) (by decide +kernel)
set_option maxRecDepth 20000 in
theorem gX3_early_X3_no : GoodIn wsX3_early (wsV RX3 84 RX3 yX3_no wsX3_no) := goodIn_app (goodIn_of _ (by decide +kernel)) ggX3_early_X3_no
set_option maxRecDepth 20000 in
theorem ggX3_early_X3_look_ : GoodIn wsX3_early wsX3_look_ := goodIn_r _ [18, 19, 2, 20, 21, 22, 5, 23, 24, 1, 25, 26, 27, 28, 29, 30, 31, 32, 63, 64, 65, 66, 67, 68, 69, 70, 71] (by decide +kernel) (by decide +kernel)
set_option maxRecDepth 20000 in
theorem gX3_early_X3_look_ : GoodIn wsX3_early (wsV RX3 73 RX3 yX3_look_ wsX3_look_) := goodIn_app (goodIn_of _ (by decide +kernel)) ggX3_early_X3_look_
set_option maxRecDepth 20000 in
theorem ggX3_early_X3_longer : GoodIn wsX3_early wsX3_longer := goodIn_r _ [36, 37, 2, 19, 63, 64, 65, 66, 67, 68, 69, 70, 71] (by decide +kernel) (by decide +kernel)
set_option maxRecDepth 20000 in
theorem gX3_early_X3_longer : GoodIn wsX3_early (wsV RX3 122 RX3 yX3_longer wsX3_longer) := goodIn_app (goodIn_of _ (by decide +kernel)) ggX3_early_X3_longer
set_option maxRecDepth 20000 in
theorem ggX3_early_X3_put : GoodIn wsX3_early wsX3_put := goodIn_r _ [41, 19, 2, 20, 21, 22, 5, 23, 24, 1, 25, 26, 27, 28, 29, 30, 31, 32, 15, 16, 17, 18, 42, 43, 44, 45, 46, 47, 48, 49, 50, 51, 52, 53, 54, 55, 56, 57, 58, 59, 60, 61, 62, 63, 64, 65, 66, 67, 68, 69, 70, 71] (by decide +kernel) (by decide +kernel)
set_option maxRecDepth 20000 in
theorem gX3_early_X3_put : GoodIn wsX3_early (wsV RX3 126 RX3 yX3_put wsX3_put) := goodIn_app (goodIn_of _ (by decide +kernel)) ggX3_early_X3_put
theorem dX3_early_0 : decode cX3_early 0 = .ok (.aload_n 0, 1) := by decide +kernel
theorem dX3_early_1 : decode cX3_early 1 = .ok (.iload_n 1, 1) := by decide +kernel
theorem dX3_early_2 : decode cX3_early 2 = .ok (.invokestatic 108, 3) := by decide +kernel
theorem dX3_early_5 : decode cX3_early 5 = .ok (.ifCond .eq 14, 3) := by decide +kernel
theorem dX3_early_8 : decode cX3_early 8 = .ok (.iload_n 3, 1) := by decide +kernel
theorem dX3_early_9 : decode cX3_early 9 = .ok (.invokestatic 108, 3) := by decide +kernel
theorem dX3_early_12 : decode cX3_early 12 = .ok (.ifCond .eq 7, 3) := by decide +kernel
theorem dX3_early_15 : decode cX3_early 15 = .ok (.iconst 1, 1) := by decide +kernel
theorem dX3_early_16 : decode cX3_early 16 = .ok (.goto 4, 3) := by decide +kernel
theorem dX3_early_19 : decode cX3_early 19 = .ok (.iconst 0, 1) := by decide +kernel
theorem dX3_early_20 : decode cX3_early 20 = .ok (.iconst 1, 1) := by decide +kernel
theorem dX3_early_21 : decode cX3_early 21 = .ok (.invokevirtual 84, 3) := by decide +kernel
theorem dX3_early_24 : decode cX3_early 24 = .ok (.ifCond .ne 28, 3) := by decide +kernel
theorem dX3_early_27 : decode cX3_early 27 = .ok (.aload_n 0, 1) := by decide +kernel
theorem dX3_early_28 : decode cX3_early 28 = .ok (.iload_n 2, 1) := by decide +kernel
theorem dX3_early_29 : decode cX3_early 29 = .ok (.bipush 97, 2) := by decide +kernel
theorem dX3_early_31 : decode cX3_early 31 = .ok (.if_icmp .lt 13, 3) := by decide +kernel
theorem dX3_early_34 : decode cX3_early 34 = .ok (.iload_n 2, 1) := by decide +kernel
theorem dX3_early_35 : decode cX3_early 35 = .ok (.bipush 122, 2) := by decide +kernel
theorem dX3_early_37 : decode cX3_early 37 = .ok (.if_icmp .gt 7, 3) := by decide +kernel
theorem dX3_early_40 : decode cX3_early 40 = .ok (.iconst 1, 1) := by decide +kernel
theorem dX3_early_41 : decode cX3_early 41 = .ok (.goto 4, 3) := by decide +kernel
theorem dX3_early_44 : decode cX3_early 44 = .ok (.iconst 0, 1) := by decide +kernel
theorem dX3_early_45 : decode cX3_early 45 = .ok (.iconst 2, 1) := by decide +kernel
theorem dX3_early_46 : decode cX3_early 46 = .ok (.invokevirtual 84, 3) := by decide +kernel
theorem dX3_early_49 : decode cX3_early 49 = .ok (.ifCond .eq 5, 3) := by decide +kernel
theorem dX3_early_52 : decode cX3_early 52 = .ok (.iconst 0, 1) := by decide +kernel
theorem dX3_early_53 : decode cX3_early 53 = .ok (.ireturn, 1) := by decide +kernel
theorem dX3_early_54 : decode cX3_early 54 = .ok (.aload_n 0, 1) := by decide +kernel
theorem dX3_early_55 : decode cX3_early 55 = .ok (.iconst 0, 1) := by decide +kernel
theorem dX3_early_56 : decode cX3_early 56 = .ok (.iload_n 1, 1) := by decide +kernel
theorem dX3_early_57 : decode cX3_early 57 = .ok (.invokevirtual 73, 3) := by decide +kernel
theorem dX3_early_60 : decode cX3_early 60 = .ok (.aload_n 0, 1) := by decide +kernel
theorem dX3_early_61 : decode cX3_early 61 = .ok (.aload_n 0, 1) := by decide +kernel
theorem dX3_early_62 : decode cX3_early 62 = .ok (.getfield 28, 3) := by decide +kernel
theorem dX3_early_65 : decode cX3_early 65 = .ok (.iconst 0, 1) := by decide +kernel
theorem dX3_early_66 : decode cX3_early 66 = .ok (.aaload, 1) := by decide +kernel
theorem dX3_early_67 : decode cX3_early 67 = .ok (.iconst 1, 1) := by decide +kernel
theorem dX3_early_68 : decode cX3_early 68 = .ok (.iaload, 1) := by decide +kernel
theorem dX3_early_69 : decode cX3_early 69 = .ok (.ifCond .ne 20, 3) := by decide +kernel
theorem dX3_early_72 : decode cX3_early 72 = .ok (.aload_n 0, 1) := by decide +kernel
theorem dX3_early_73 : decode cX3_early 73 = .ok (.getfield 18, 3) := by decide +kernel
theorem dX3_early_76 : decode cX3_early 76 = .ok (.iload_n 1, 1) := by decide +kernel
theorem dX3_early_77 : decode cX3_early 77 = .ok (.iaload, 1) := by decide +kernel
theorem dX3_early_78 : decode cX3_early 78 = .ok (.iconst 2, 1) := by decide +kernel
theorem dX3_early_79 : decode cX3_early 79 = .ok (.iadd, 1) := by decide +kernel
theorem dX3_early_80 : decode cX3_early 80 = .ok (.bipush 60, 2) := by decide +kernel
theorem dX3_early_82 : decode cX3_early 82 = .ok (.if_icmp .gt 7, 3) := by decide +kernel
theorem dX3_early_85 : decode cX3_early 85 = .ok (.iconst 1, 1) := by decide +kernel
theorem dX3_early_86 : decode cX3_early 86 = .ok (.goto 4, 3) := by decide +kernel
theorem dX3_early_89 : decode cX3_early 89 = .ok (.iconst 0, 1) := by decide +kernel
theorem dX3_early_90 : decode cX3_early 90 = .ok (.iconst 3, 1) := by decide +kernel
theorem dX3_early_91 : decode cX3_early 91 = .ok (.invokevirtual 84, 3) := by decide +kernel
theorem dX3_early_94 : decode cX3_early 94 = .ok (.ifCond .eq 5, 3) := by decide +kernel
theorem dX3_early_97 : decode cX3_early 97 = .ok (.iconst 0, 1) := by decide +kernel
theorem dX3_early_98 : decode cX3_early 98 = .ok (.ireturn, 1) := by decide +kernel
theorem dX3_early_99 : decode cX3_early 99 = .ok (.aload_n 0, 1) := by decide +kernel
theorem dX3_early_100 : decode cX3_early 100 = .ok (.iload_n 1, 1) := by decide +kernel
theorem dX3_early_101 : decode cX3_early 101 = .ok (.invokevirtual 122, 3) := by decide +kernel
theorem dX3_early_104 : decode cX3_early 104 = .ok (.astore 4, 2) := by decide +kernel
theorem dX3_early_106 : decode cX3_early 106 = .ok (.aload 4, 2) := by decide +kernel
theorem dX3_early_108 : decode cX3_early 108 = .ok (.aload_n 0, 1) := by decide +kernel
theorem dX3_early_109 : decode cX3_early 109 = .ok (.getfield 18, 3) := by decide +kernel
theorem dX3_early_112 : decode cX3_early 112 = .ok (.iload_n 1, 1) := by decide +kernel
theorem dX3_early_113 : decode cX3_early 113 = .ok (.iaload, 1) := by decide +kernel
theorem dX3_early_114 : decode cX3_early 114 = .ok (.bipush 45, 2) := by decide +kernel
theorem dX3_early_116 : decode cX3_early 116 = .ok (.castore, 1) := by decide +kernel
theorem dX3_early_117 : decode cX3_early 117 = .ok (.aload 4, 2) := by decide +kernel
theorem dX3_early_119 : decode cX3_early 119 = .ok (.aload_n 0, 1) := by decide +kernel
theorem dX3_early_120 : decode cX3_early 120 = .ok (.getfield 18, 3) := by decide +kernel
theorem dX3_early_123 : decode cX3_early 123 = .ok (.iload_n 1, 1) := by decide +kernel
theorem dX3_early_124 : decode cX3_early 124 = .ok (.iaload, 1) := by decide +kernel
theorem dX3_early_125 : decode cX3_early 125 = .ok (.iconst 1, 1) := by decide +kernel
theorem dX3_early_126 : decode cX3_early 126 = .ok (.iadd, 1) := by decide +kernel
theorem dX3_early_127 : decode cX3_early 127 = .ok (.iload_n 2, 1) := by decide +kernel
theorem dX3_early_128 : decode cX3_early 128 = .ok (.castore, 1) := by decide +kernel
theorem dX3_early_129 : decode cX3_early 129 = .ok (.aload_n 0, 1) := by decide +kernel
theorem dX3_early_130 : decode cX3_early 130 = .ok (.iload_n 1, 1) := by decide +kernel
theorem dX3_early_131 : decode cX3_early 131 = .ok (.aload 4, 2) := by decide +kernel
theorem dX3_early_133 : decode cX3_early 133 = .ok (.aload_n 0, 1) := by decide +kernel
theorem dX3_early_134 : decode cX3_early 134 = .ok (.getfield 18, 3) := by decide +kernel
theorem dX3_early_137 : decode cX3_early 137 = .ok (.iload_n 1, 1) := by decide +kernel
theorem dX3_early_138 : decode cX3_early 138 = .ok (.iaload, 1) := by decide +kernel
theorem dX3_early_139 : decode cX3_early 139 = .ok (.iconst 2, 1) := by decide +kernel
theorem dX3_early_140 : decode cX3_early 140 = .ok (.iadd, 1) := by decide +kernel
theorem dX3_early_141 : decode cX3_early 141 = .ok (.iload_n 3, 1) := by decide +kernel
theorem dX3_early_142 : decode cX3_early 142 = .ok (.invokevirtual 126, 3) := by decide +kernel
theorem dX3_early_145 : decode cX3_early 145 = .ok (.ifCond .ge 7, 3) := by decide +kernel
theorem dX3_early_148 : decode cX3_early 148 = .ok (.iconst 1, 1) := by decide +kernel
theorem dX3_early_149 : decode cX3_early 149 = .ok (.goto 4, 3) := by decide +kernel
theorem dX3_early_152 : decode cX3_early 152 = .ok (.iconst 0, 1) := by decide +kernel
theorem dX3_early_153 : decode cX3_early 153 = .ok (.ireturn, 1) := by decide +kernel
set_option maxRecDepth 20000 in
theorem ggX3_built_X3_isSlot : GoodIn wsX3_built wsX3_isSlot := goodIn_r _ [5, 6, 7, 4, 8] (by decide +kernel) (by decide +kernel)
set_option maxRecDepth 20000 in
theorem gX3_built_X3_isSlot : GoodIn wsX3_built (va_wsS RX3 108 yX3_isSlot wsX3_isSlot) := goodIn_app (goodIn_of _ (by decide +kernel)) ggX3_built_X3_isSlot
set_option maxRecDepth 20000 in
theorem ggX3_built_X3_no : GoodIn wsX3_built wsX3_no := goodIn_r _ [12, 13, 77, 78, 79, 80, 81, 82, 83, 84, 85] (by decide +kernel) (by decide +kernel)
set_option maxRecDepth 20000 in
theorem gX3_built_X3_no : GoodIn wsX3_built (wsV RX3 84 RX3 yX3_no wsX3_no) := goodIn_app (goodIn_of _ (by decide +kernel)) ggX3_built_X3_no
set_option maxRecDepth 20000 in
theorem ggX3_built_X3_in : GoodIn wsX3_built wsX3_in := goodIn_r _ [8] (by decide +kernel) (by decide +kernel)
set_option maxRecDepth 20000 in
theorem gX3_built_X3_in : GoodIn wsX3_built (va_wsS RX3 43 yX3_in wsX3_in) := goodIn_app (goodIn_of _ (by decide +kernel)) ggX3_built_X3_in
set_option maxRecDepth 20000 in
theorem ggX3_built_X3_look_ : GoodIn wsX3_built wsX3_look_ := goodIn_r _ [17, 18, 19, 20, 21, 22, 4, 23, 24, 1, 25, 26, 27, 28, 29, 30, 31, 32, 77, 78, 79, 80, 81, 82, 83, 84, 85] (by decide +kernel) (by decide +kernel)
set_option maxRecDepth 20000 in
theorem gX3_built_X3_look_ : GoodIn wsX3_built (wsV RX3 73 RX3 yX3_look_ wsX3_look_) := goodIn_app (goodIn_of _ (by decide +kernel)) ggX3_built_X3_look_
set_option maxRecDepth 20000 in
theorem ggX3_built_X3_hasRoom : GoodIn wsX3_built wsX3_hasRoom := goodIn_r _ [36, 19, 37, 38, 4, 39, 77, 78, 79, 80, 81, 82, 83, 84, 85] (by decide +kernel) (by decide +kernel)
set_option maxRecDepth 20000 in
theorem gX3_built_X3_hasRoom : GoodIn wsX3_built (wsV RX3 130 RX3 yX3_hasRoom wsX3_hasRoom) := goodIn_app (goodIn_of _ (by decide +kernel)) ggX3_built_X3_hasRoom
set_option maxRecDepth 20000 in
theorem ggX3_built_X3_behind : GoodIn wsX3_built wsX3_behind := goodIn_r _ [43, 19, 44, 45, 46, 4, 47, 48, 18, 49, 50, 51, 37, 38, 39, 52, 53, 54, 55, 20, 21, 22, 23, 24, 1, 25, 26, 27, 28, 29, 30, 31, 32, 14, 15, 16, 17, 56, 57, 58, 59, 60, 61, 62, 63, 64, 65, 66, 67, 68, 69, 70, 71, 72, 73, 74, 75, 76, 77, 78, 79, 80, 81, 82, 83, 84, 85] (by decide +kernel) (by decide +kernel)
set_option maxRecDepth 20000 in
theorem gX3_built_X3_behind : GoodIn wsX3_built (wsV RX3 134 RX3 yX3_behind wsX3_behind) := goodIn_app (goodIn_of _ (by decide +kernel)) ggX3_built_X3_behind
theorem dX3_built_0 : decode cX3_built 0 = .ok (.aload_n 0, 1) := by decide +kernel
theorem dX3_built_1 : decode cX3_built 1 = .ok (.iload_n 1, 1) := by decide +kernel
theorem dX3_built_2 : decode cX3_built 2 = .ok (.invokestatic 108, 3) := by decide +kernel
theorem dX3_built_5 : decode cX3_built 5 = .ok (.ifCond .eq 14, 3) := by decide +kernel
theorem dX3_built_8 : decode cX3_built 8 = .ok (.iload_n 3, 1) := by decide +kernel
theorem dX3_built_9 : decode cX3_built 9 = .ok (.invokestatic 108, 3) := by decide +kernel
theorem dX3_built_12 : decode cX3_built 12 = .ok (.ifCond .eq 7, 3) := by decide +kernel
theorem dX3_built_15 : decode cX3_built 15 = .ok (.iconst 1, 1) := by decide +kernel
theorem dX3_built_16 : decode cX3_built 16 = .ok (.goto 4, 3) := by decide +kernel
theorem dX3_built_19 : decode cX3_built 19 = .ok (.iconst 0, 1) := by decide +kernel
theorem dX3_built_20 : decode cX3_built 20 = .ok (.iconst 1, 1) := by decide +kernel
theorem dX3_built_21 : decode cX3_built 21 = .ok (.invokevirtual 84, 3) := by decide +kernel
theorem dX3_built_24 : decode cX3_built 24 = .ok (.ifCond .ne 19, 3) := by decide +kernel
theorem dX3_built_27 : decode cX3_built 27 = .ok (.aload_n 0, 1) := by decide +kernel
theorem dX3_built_28 : decode cX3_built 28 = .ok (.iload_n 2, 1) := by decide +kernel
theorem dX3_built_29 : decode cX3_built 29 = .ok (.iconst 0, 1) := by decide +kernel
theorem dX3_built_30 : decode cX3_built 30 = .ok (.sipush 999, 3) := by decide +kernel
theorem dX3_built_33 : decode cX3_built 33 = .ok (.invokestatic 43, 3) := by decide +kernel
theorem dX3_built_36 : decode cX3_built 36 = .ok (.iconst 2, 1) := by decide +kernel
theorem dX3_built_37 : decode cX3_built 37 = .ok (.invokevirtual 84, 3) := by decide +kernel
theorem dX3_built_40 : decode cX3_built 40 = .ok (.ifCond .eq 5, 3) := by decide +kernel
theorem dX3_built_43 : decode cX3_built 43 = .ok (.iconst 0, 1) := by decide +kernel
theorem dX3_built_44 : decode cX3_built 44 = .ok (.ireturn, 1) := by decide +kernel
theorem dX3_built_45 : decode cX3_built 45 = .ok (.aload_n 0, 1) := by decide +kernel
theorem dX3_built_46 : decode cX3_built 46 = .ok (.iconst 0, 1) := by decide +kernel
theorem dX3_built_47 : decode cX3_built 47 = .ok (.iload_n 1, 1) := by decide +kernel
theorem dX3_built_48 : decode cX3_built 48 = .ok (.invokevirtual 73, 3) := by decide +kernel
theorem dX3_built_51 : decode cX3_built 51 = .ok (.aload_n 0, 1) := by decide +kernel
theorem dX3_built_52 : decode cX3_built 52 = .ok (.aload_n 0, 1) := by decide +kernel
theorem dX3_built_53 : decode cX3_built 53 = .ok (.getfield 28, 3) := by decide +kernel
theorem dX3_built_56 : decode cX3_built 56 = .ok (.iconst 0, 1) := by decide +kernel
theorem dX3_built_57 : decode cX3_built 57 = .ok (.aaload, 1) := by decide +kernel
theorem dX3_built_58 : decode cX3_built 58 = .ok (.iconst 1, 1) := by decide +kernel
theorem dX3_built_59 : decode cX3_built 59 = .ok (.iaload, 1) := by decide +kernel
theorem dX3_built_60 : decode cX3_built 60 = .ok (.ifCond .le 27, 3) := by decide +kernel
theorem dX3_built_63 : decode cX3_built 63 = .ok (.aload_n 0, 1) := by decide +kernel
theorem dX3_built_64 : decode cX3_built 64 = .ok (.getfield 28, 3) := by decide +kernel
theorem dX3_built_67 : decode cX3_built 67 = .ok (.iconst 0, 1) := by decide +kernel
theorem dX3_built_68 : decode cX3_built 68 = .ok (.aaload, 1) := by decide +kernel
theorem dX3_built_69 : decode cX3_built 69 = .ok (.iconst 2, 1) := by decide +kernel
theorem dX3_built_70 : decode cX3_built 70 = .ok (.iaload, 1) := by decide +kernel
theorem dX3_built_71 : decode cX3_built 71 = .ok (.ifCond .ne 16, 3) := by decide +kernel
theorem dX3_built_74 : decode cX3_built 74 = .ok (.aload_n 0, 1) := by decide +kernel
theorem dX3_built_75 : decode cX3_built 75 = .ok (.iload_n 1, 1) := by decide +kernel
theorem dX3_built_76 : decode cX3_built 76 = .ok (.iload_n 2, 1) := by decide +kernel
theorem dX3_built_77 : decode cX3_built 77 = .ok (.invokevirtual 130, 3) := by decide +kernel
theorem dX3_built_80 : decode cX3_built 80 = .ok (.ifCond .eq 7, 3) := by decide +kernel
theorem dX3_built_83 : decode cX3_built 83 = .ok (.iconst 1, 1) := by decide +kernel
theorem dX3_built_84 : decode cX3_built 84 = .ok (.goto 4, 3) := by decide +kernel
theorem dX3_built_87 : decode cX3_built 87 = .ok (.iconst 0, 1) := by decide +kernel
theorem dX3_built_88 : decode cX3_built 88 = .ok (.iconst 3, 1) := by decide +kernel
theorem dX3_built_89 : decode cX3_built 89 = .ok (.invokevirtual 84, 3) := by decide +kernel
theorem dX3_built_92 : decode cX3_built 92 = .ok (.ifCond .eq 5, 3) := by decide +kernel
theorem dX3_built_95 : decode cX3_built 95 = .ok (.iconst 0, 1) := by decide +kernel
theorem dX3_built_96 : decode cX3_built 96 = .ok (.ireturn, 1) := by decide +kernel
theorem dX3_built_97 : decode cX3_built 97 = .ok (.aload_n 0, 1) := by decide +kernel
theorem dX3_built_98 : decode cX3_built 98 = .ok (.iload_n 1, 1) := by decide +kernel
theorem dX3_built_99 : decode cX3_built 99 = .ok (.bipush 43, 2) := by decide +kernel
theorem dX3_built_101 : decode cX3_built 101 = .ok (.iload_n 2, 1) := by decide +kernel
theorem dX3_built_102 : decode cX3_built 102 = .ok (.iload_n 3, 1) := by decide +kernel
theorem dX3_built_103 : decode cX3_built 103 = .ok (.invokevirtual 134, 3) := by decide +kernel
theorem dX3_built_106 : decode cX3_built 106 = .ok (.ireturn, 1) := by decide +kernel
set_option maxRecDepth 20000 in
theorem ggX3_isHashed_X3_isSlot : GoodIn wsX3_isHashed wsX3_isSlot := goodIn_r _ [4, 5, 6, 3, 7] (by decide +kernel) (by decide +kernel)
set_option maxRecDepth 20000 in
theorem gX3_isHashed_X3_isSlot : GoodIn wsX3_isHashed (va_wsS RX3 108 yX3_isSlot wsX3_isSlot) := goodIn_app (goodIn_of _ (by decide +kernel)) ggX3_isHashed_X3_isSlot
set_option maxRecDepth 20000 in
theorem ggX3_isHashed_X3_no : GoodIn wsX3_isHashed wsX3_no := goodIn_r _ [11, 12, 13, 14, 15, 16, 17, 18, 19, 20, 21] (by decide +kernel) (by decide +kernel)
set_option maxRecDepth 20000 in
theorem gX3_isHashed_X3_no : GoodIn wsX3_isHashed (wsV RX3 84 RX3 yX3_no wsX3_no) := goodIn_app (goodIn_of _ (by decide +kernel)) ggX3_isHashed_X3_no
theorem dX3_isHashed_0 : decode cX3_isHashed 0 = .ok (.aload_n 0, 1) := by decide +kernel
theorem dX3_isHashed_1 : decode cX3_isHashed 1 = .ok (.iload_n 1, 1) := by decide +kernel
theorem dX3_isHashed_2 : decode cX3_isHashed 2 = .ok (.invokestatic 108, 3) := by decide +kernel
theorem dX3_isHashed_5 : decode cX3_isHashed 5 = .ok (.iconst 1, 1) := by decide +kernel
theorem dX3_isHashed_6 : decode cX3_isHashed 6 = .ok (.invokevirtual 84, 3) := by decide +kernel
theorem dX3_isHashed_9 : decode cX3_isHashed 9 = .ok (.ifCond .ne 7, 3) := by decide +kernel
theorem dX3_isHashed_12 : decode cX3_isHashed 12 = .ok (.iconst 1, 1) := by decide +kernel
theorem dX3_isHashed_13 : decode cX3_isHashed 13 = .ok (.goto 4, 3) := by decide +kernel
theorem dX3_isHashed_16 : decode cX3_isHashed 16 = .ok (.iconst 0, 1) := by decide +kernel
theorem dX3_isHashed_17 : decode cX3_isHashed 17 = .ok (.ireturn, 1) := by decide +kernel
set_option maxRecDepth 20000 in
theorem ggX3_wordShare_X3_look_ : GoodIn wsX3_wordShare wsX3_look_ := goodIn_r _ [7, 8, 9, 10, 11, 12, 6, 13, 14, 2, 15, 16, 17, 18, 19, 20, 21, 22, 27, 28, 29, 30, 31, 32, 33, 34, 35] (by decide +kernel) (by decide +kernel)
set_option maxRecDepth 20000 in
theorem gX3_wordShare_X3_look_ : GoodIn wsX3_wordShare (wsV RX3 73 RX3 yX3_look_ wsX3_look_) := goodIn_app (goodIn_of _ (by decide +kernel)) ggX3_wordShare_X3_look_
set_option maxRecDepth 20000 in
theorem ggX3_wordShare_X3_isNumber : GoodIn wsX3_wordShare wsX3_isNumber := goodIn_r _ [26, 2, 14, 15, 20, 21, 6, 22, 27, 28, 29, 30, 31, 32, 33, 34, 35] (by decide +kernel) (by decide +kernel)
set_option maxRecDepth 20000 in
theorem gX3_wordShare_X3_isNumber : GoodIn wsX3_wordShare (wsV RX3 58 RX3 yX3_isNumber wsX3_isNumber) := goodIn_app (goodIn_of _ (by decide +kernel)) ggX3_wordShare_X3_isNumber
theorem dX3_wordShare_0 : decode cX3_wordShare 0 = .ok (.aload_n 0, 1) := by decide +kernel
theorem dX3_wordShare_1 : decode cX3_wordShare 1 = .ok (.iconst 0, 1) := by decide +kernel
theorem dX3_wordShare_2 : decode cX3_wordShare 2 = .ok (.putfield 39, 3) := by decide +kernel
theorem dX3_wordShare_5 : decode cX3_wordShare 5 = .ok (.iconst 0, 1) := by decide +kernel
theorem dX3_wordShare_6 : decode cX3_wordShare 6 = .ok (.istore_n 1, 1) := by decide +kernel
theorem dX3_wordShare_7 : decode cX3_wordShare 7 = .ok (.iconst 0, 1) := by decide +kernel
theorem dX3_wordShare_8 : decode cX3_wordShare 8 = .ok (.istore_n 2, 1) := by decide +kernel
theorem dX3_wordShare_9 : decode cX3_wordShare 9 = .ok (.iconst 0, 1) := by decide +kernel
theorem dX3_wordShare_10 : decode cX3_wordShare 10 = .ok (.istore_n 3, 1) := by decide +kernel
theorem dX3_wordShare_11 : decode cX3_wordShare 11 = .ok (.iload_n 3, 1) := by decide +kernel
theorem dX3_wordShare_12 : decode cX3_wordShare 12 = .ok (.bipush 8, 2) := by decide +kernel
theorem dX3_wordShare_14 : decode cX3_wordShare 14 = .ok (.if_icmp .ge 85, 3) := by decide +kernel
theorem dX3_wordShare_17 : decode cX3_wordShare 17 = .ok (.aload_n 0, 1) := by decide +kernel
theorem dX3_wordShare_18 : decode cX3_wordShare 18 = .ok (.iconst 0, 1) := by decide +kernel
theorem dX3_wordShare_19 : decode cX3_wordShare 19 = .ok (.iload_n 3, 1) := by decide +kernel
theorem dX3_wordShare_20 : decode cX3_wordShare 20 = .ok (.invokevirtual 73, 3) := by decide +kernel
theorem dX3_wordShare_23 : decode cX3_wordShare 23 = .ok (.iconst 0, 1) := by decide +kernel
theorem dX3_wordShare_24 : decode cX3_wordShare 24 = .ok (.istore 4, 2) := by decide +kernel
theorem dX3_wordShare_26 : decode cX3_wordShare 26 = .ok (.iload 4, 2) := by decide +kernel
theorem dX3_wordShare_28 : decode cX3_wordShare 28 = .ok (.iconst 3, 1) := by decide +kernel
theorem dX3_wordShare_29 : decode cX3_wordShare 29 = .ok (.if_icmp .ge 64, 3) := by decide +kernel
theorem dX3_wordShare_32 : decode cX3_wordShare 32 = .ok (.iload_n 1, 1) := by decide +kernel
theorem dX3_wordShare_33 : decode cX3_wordShare 33 = .ok (.aload_n 0, 1) := by decide +kernel
theorem dX3_wordShare_34 : decode cX3_wordShare 34 = .ok (.getfield 28, 3) := by decide +kernel
theorem dX3_wordShare_37 : decode cX3_wordShare 37 = .ok (.iconst 0, 1) := by decide +kernel
theorem dX3_wordShare_38 : decode cX3_wordShare 38 = .ok (.aaload, 1) := by decide +kernel
theorem dX3_wordShare_39 : decode cX3_wordShare 39 = .ok (.iload 4, 2) := by decide +kernel
theorem dX3_wordShare_41 : decode cX3_wordShare 41 = .ok (.iaload, 1) := by decide +kernel
theorem dX3_wordShare_42 : decode cX3_wordShare 42 = .ok (.iadd, 1) := by decide +kernel
theorem dX3_wordShare_43 : decode cX3_wordShare 43 = .ok (.istore_n 1, 1) := by decide +kernel
theorem dX3_wordShare_44 : decode cX3_wordShare 44 = .ok (.iconst 0, 1) := by decide +kernel
theorem dX3_wordShare_45 : decode cX3_wordShare 45 = .ok (.istore 5, 2) := by decide +kernel
theorem dX3_wordShare_47 : decode cX3_wordShare 47 = .ok (.iload 5, 2) := by decide +kernel
theorem dX3_wordShare_49 : decode cX3_wordShare 49 = .ok (.aload_n 0, 1) := by decide +kernel
theorem dX3_wordShare_50 : decode cX3_wordShare 50 = .ok (.getfield 28, 3) := by decide +kernel
theorem dX3_wordShare_53 : decode cX3_wordShare 53 = .ok (.iconst 0, 1) := by decide +kernel
theorem dX3_wordShare_54 : decode cX3_wordShare 54 = .ok (.aaload, 1) := by decide +kernel
theorem dX3_wordShare_55 : decode cX3_wordShare 55 = .ok (.iload 4, 2) := by decide +kernel
theorem dX3_wordShare_57 : decode cX3_wordShare 57 = .ok (.iaload, 1) := by decide +kernel
theorem dX3_wordShare_58 : decode cX3_wordShare 58 = .ok (.if_icmp .ge 29, 3) := by decide +kernel
theorem dX3_wordShare_61 : decode cX3_wordShare 61 = .ok (.iload_n 2, 1) := by decide +kernel
theorem dX3_wordShare_62 : decode cX3_wordShare 62 = .ok (.aload_n 0, 1) := by decide +kernel
theorem dX3_wordShare_63 : decode cX3_wordShare 63 = .ok (.iconst 0, 1) := by decide +kernel
theorem dX3_wordShare_64 : decode cX3_wordShare 64 = .ok (.iload 4, 2) := by decide +kernel
theorem dX3_wordShare_66 : decode cX3_wordShare 66 = .ok (.iload 5, 2) := by decide +kernel
theorem dX3_wordShare_68 : decode cX3_wordShare 68 = .ok (.invokevirtual 58, 3) := by decide +kernel
theorem dX3_wordShare_71 : decode cX3_wordShare 71 = .ok (.ifCond .eq 7, 3) := by decide +kernel
theorem dX3_wordShare_74 : decode cX3_wordShare 74 = .ok (.iconst 0, 1) := by decide +kernel
theorem dX3_wordShare_75 : decode cX3_wordShare 75 = .ok (.goto 4, 3) := by decide +kernel
theorem dX3_wordShare_78 : decode cX3_wordShare 78 = .ok (.iconst 1, 1) := by decide +kernel
theorem dX3_wordShare_79 : decode cX3_wordShare 79 = .ok (.iadd, 1) := by decide +kernel
theorem dX3_wordShare_80 : decode cX3_wordShare 80 = .ok (.istore_n 2, 1) := by decide +kernel
theorem dX3_wordShare_81 : decode cX3_wordShare 81 = .ok (.iinc 5 1, 3) := by decide +kernel
theorem dX3_wordShare_84 : decode cX3_wordShare 84 = .ok (.goto (-37), 3) := by decide +kernel
theorem dX3_wordShare_87 : decode cX3_wordShare 87 = .ok (.iinc 4 1, 3) := by decide +kernel
theorem dX3_wordShare_90 : decode cX3_wordShare 90 = .ok (.goto (-64), 3) := by decide +kernel
theorem dX3_wordShare_93 : decode cX3_wordShare 93 = .ok (.iinc 3 1, 3) := by decide +kernel
theorem dX3_wordShare_96 : decode cX3_wordShare 96 = .ok (.goto (-85), 3) := by decide +kernel
theorem dX3_wordShare_99 : decode cX3_wordShare 99 = .ok (.iload_n 2, 1) := by decide +kernel
theorem dX3_wordShare_100 : decode cX3_wordShare 100 = .ok (.i2f, 1) := by decide +kernel
theorem dX3_wordShare_101 : decode cX3_wordShare 101 = .ok (.iload_n 1, 1) := by decide +kernel
theorem dX3_wordShare_102 : decode cX3_wordShare 102 = .ok (.i2f, 1) := by decide +kernel
theorem dX3_wordShare_103 : decode cX3_wordShare 103 = .ok (.fdiv, 1) := by decide +kernel
theorem dX3_wordShare_104 : decode cX3_wordShare 104 = .ok (.freturn, 1) := by decide +kernel
theorem dX3_checksum_0 : decode cX3_checksum 0 = .ok (.aload_n 0, 1) := by decide +kernel
theorem dX3_checksum_1 : decode cX3_checksum 1 = .ok (.iconst 0, 1) := by decide +kernel
theorem dX3_checksum_2 : decode cX3_checksum 2 = .ok (.putfield 39, 3) := by decide +kernel
theorem dX3_checksum_5 : decode cX3_checksum 5 = .ok (.ldc2_w 138, 3) := by decide +kernel
theorem dX3_checksum_8 : decode cX3_checksum 8 = .ok (.lstore_n 1, 1) := by decide +kernel
theorem dX3_checksum_9 : decode cX3_checksum 9 = .ok (.ldc2_w 140, 3) := by decide +kernel
theorem dX3_checksum_12 : decode cX3_checksum 12 = .ok (.lload_n 1, 1) := by decide +kernel
theorem dX3_checksum_13 : decode cX3_checksum 13 = .ok (.lmul, 1) := by decide +kernel
theorem dX3_checksum_14 : decode cX3_checksum 14 = .ok (.aload_n 0, 1) := by decide +kernel
theorem dX3_checksum_15 : decode cX3_checksum 15 = .ok (.getfield 92, 3) := by decide +kernel
theorem dX3_checksum_18 : decode cX3_checksum 18 = .ok (.i2l, 1) := by decide +kernel
theorem dX3_checksum_19 : decode cX3_checksum 19 = .ok (.ladd, 1) := by decide +kernel
theorem dX3_checksum_20 : decode cX3_checksum 20 = .ok (.lstore_n 1, 1) := by decide +kernel
theorem dX3_checksum_21 : decode cX3_checksum 21 = .ok (.iconst 0, 1) := by decide +kernel
theorem dX3_checksum_22 : decode cX3_checksum 22 = .ok (.istore_n 3, 1) := by decide +kernel
theorem dX3_checksum_23 : decode cX3_checksum 23 = .ok (.iload_n 3, 1) := by decide +kernel
theorem dX3_checksum_24 : decode cX3_checksum 24 = .ok (.aload_n 0, 1) := by decide +kernel
theorem dX3_checksum_25 : decode cX3_checksum 25 = .ok (.getfield 92, 3) := by decide +kernel
theorem dX3_checksum_28 : decode cX3_checksum 28 = .ok (.if_icmp .ge 23, 3) := by decide +kernel
theorem dX3_checksum_31 : decode cX3_checksum 31 = .ok (.ldc2_w 140, 3) := by decide +kernel
theorem dX3_checksum_34 : decode cX3_checksum 34 = .ok (.lload_n 1, 1) := by decide +kernel
theorem dX3_checksum_35 : decode cX3_checksum 35 = .ok (.lmul, 1) := by decide +kernel
theorem dX3_checksum_36 : decode cX3_checksum 36 = .ok (.aload_n 0, 1) := by decide +kernel
theorem dX3_checksum_37 : decode cX3_checksum 37 = .ok (.getfield 9, 3) := by decide +kernel
theorem dX3_checksum_40 : decode cX3_checksum 40 = .ok (.iload_n 3, 1) := by decide +kernel
theorem dX3_checksum_41 : decode cX3_checksum 41 = .ok (.caload, 1) := by decide +kernel
theorem dX3_checksum_42 : decode cX3_checksum 42 = .ok (.i2l, 1) := by decide +kernel
theorem dX3_checksum_43 : decode cX3_checksum 43 = .ok (.ladd, 1) := by decide +kernel
theorem dX3_checksum_44 : decode cX3_checksum 44 = .ok (.lstore_n 1, 1) := by decide +kernel
theorem dX3_checksum_45 : decode cX3_checksum 45 = .ok (.iinc 3 1, 3) := by decide +kernel
theorem dX3_checksum_48 : decode cX3_checksum 48 = .ok (.goto (-25), 3) := by decide +kernel
theorem dX3_checksum_51 : decode cX3_checksum 51 = .ok (.iconst 0, 1) := by decide +kernel
theorem dX3_checksum_52 : decode cX3_checksum 52 = .ok (.istore_n 3, 1) := by decide +kernel
theorem dX3_checksum_53 : decode cX3_checksum 53 = .ok (.iload_n 3, 1) := by decide +kernel
theorem dX3_checksum_54 : decode cX3_checksum 54 = .ok (.bipush 8, 2) := by decide +kernel
theorem dX3_checksum_56 : decode cX3_checksum 56 = .ok (.if_icmp .ge 60, 3) := by decide +kernel
theorem dX3_checksum_59 : decode cX3_checksum 59 = .ok (.ldc2_w 140, 3) := by decide +kernel
theorem dX3_checksum_62 : decode cX3_checksum 62 = .ok (.lload_n 1, 1) := by decide +kernel
theorem dX3_checksum_63 : decode cX3_checksum 63 = .ok (.lmul, 1) := by decide +kernel
theorem dX3_checksum_64 : decode cX3_checksum 64 = .ok (.aload_n 0, 1) := by decide +kernel
theorem dX3_checksum_65 : decode cX3_checksum 65 = .ok (.getfield 18, 3) := by decide +kernel
theorem dX3_checksum_68 : decode cX3_checksum 68 = .ok (.iload_n 3, 1) := by decide +kernel
theorem dX3_checksum_69 : decode cX3_checksum 69 = .ok (.iaload, 1) := by decide +kernel
theorem dX3_checksum_70 : decode cX3_checksum 70 = .ok (.i2l, 1) := by decide +kernel
theorem dX3_checksum_71 : decode cX3_checksum 71 = .ok (.ladd, 1) := by decide +kernel
theorem dX3_checksum_72 : decode cX3_checksum 72 = .ok (.lstore_n 1, 1) := by decide +kernel
theorem dX3_checksum_73 : decode cX3_checksum 73 = .ok (.iconst 0, 1) := by decide +kernel
theorem dX3_checksum_74 : decode cX3_checksum 74 = .ok (.istore 4, 2) := by decide +kernel
theorem dX3_checksum_76 : decode cX3_checksum 76 = .ok (.iload 4, 2) := by decide +kernel
theorem dX3_checksum_78 : decode cX3_checksum 78 = .ok (.aload_n 0, 1) := by decide +kernel
theorem dX3_checksum_79 : decode cX3_checksum 79 = .ok (.getfield 18, 3) := by decide +kernel
theorem dX3_checksum_82 : decode cX3_checksum 82 = .ok (.iload_n 3, 1) := by decide +kernel
theorem dX3_checksum_83 : decode cX3_checksum 83 = .ok (.iaload, 1) := by decide +kernel
theorem dX3_checksum_84 : decode cX3_checksum 84 = .ok (.if_icmp .ge 26, 3) := by decide +kernel
theorem dX3_checksum_87 : decode cX3_checksum 87 = .ok (.ldc2_w 140, 3) := by decide +kernel
theorem dX3_checksum_90 : decode cX3_checksum 90 = .ok (.lload_n 1, 1) := by decide +kernel
theorem dX3_checksum_91 : decode cX3_checksum 91 = .ok (.lmul, 1) := by decide +kernel
theorem dX3_checksum_92 : decode cX3_checksum 92 = .ok (.aload_n 0, 1) := by decide +kernel
theorem dX3_checksum_93 : decode cX3_checksum 93 = .ok (.getfield 15, 3) := by decide +kernel
theorem dX3_checksum_96 : decode cX3_checksum 96 = .ok (.iload_n 3, 1) := by decide +kernel
theorem dX3_checksum_97 : decode cX3_checksum 97 = .ok (.aaload, 1) := by decide +kernel
theorem dX3_checksum_98 : decode cX3_checksum 98 = .ok (.iload 4, 2) := by decide +kernel
theorem dX3_checksum_100 : decode cX3_checksum 100 = .ok (.caload, 1) := by decide +kernel
theorem dX3_checksum_101 : decode cX3_checksum 101 = .ok (.i2l, 1) := by decide +kernel
theorem dX3_checksum_102 : decode cX3_checksum 102 = .ok (.ladd, 1) := by decide +kernel
theorem dX3_checksum_103 : decode cX3_checksum 103 = .ok (.lstore_n 1, 1) := by decide +kernel
theorem dX3_checksum_104 : decode cX3_checksum 104 = .ok (.iinc 4 1, 3) := by decide +kernel
theorem dX3_checksum_107 : decode cX3_checksum 107 = .ok (.goto (-31), 3) := by decide +kernel
theorem dX3_checksum_110 : decode cX3_checksum 110 = .ok (.iinc 3 1, 3) := by decide +kernel
theorem dX3_checksum_113 : decode cX3_checksum 113 = .ok (.goto (-60), 3) := by decide +kernel
theorem dX3_checksum_116 : decode cX3_checksum 116 = .ok (.lload_n 1, 1) := by decide +kernel
theorem dX3_checksum_117 : decode cX3_checksum 117 = .ok (.lreturn, 1) := by decide +kernel
theorem dX3_isTrue_0 : decode cX3_isTrue 0 = .ok (.aload_n 0, 1) := by decide +kernel
theorem dX3_isTrue_1 : decode cX3_isTrue 1 = .ok (.iconst 0, 1) := by decide +kernel
theorem dX3_isTrue_2 : decode cX3_isTrue 2 = .ok (.putfield 39, 3) := by decide +kernel
theorem dX3_isTrue_5 : decode cX3_isTrue 5 = .ok (.iconst 1, 1) := by decide +kernel
theorem dX3_isTrue_6 : decode cX3_isTrue 6 = .ok (.ireturn, 1) := by decide +kernel
theorem dJ9_max_7cf53_0 : decode cJ9_max_7cf53 0 = .ok (.iload_n 0, 1) := by decide +kernel
theorem dJ9_max_7cf53_1 : decode cJ9_max_7cf53 1 = .ok (.iload_n 1, 1) := by decide +kernel
theorem dJ9_max_7cf53_2 : decode cJ9_max_7cf53 2 = .ok (.if_icmp .lt 7, 3) := by decide +kernel
theorem dJ9_max_7cf53_5 : decode cJ9_max_7cf53 5 = .ok (.iload_n 0, 1) := by decide +kernel
theorem dJ9_max_7cf53_6 : decode cJ9_max_7cf53 6 = .ok (.goto 4, 3) := by decide +kernel
theorem dJ9_max_7cf53_9 : decode cJ9_max_7cf53 9 = .ok (.iload_n 1, 1) := by decide +kernel
theorem dJ9_max_7cf53_10 : decode cJ9_max_7cf53 10 = .ok (.ireturn, 1) := by decide +kernel
set_option maxRecDepth 20000 in
theorem ggL_begin_X2_begin : GoodIn wsL_begin wsX2_begin := goodIn_ca (goodIn_r _ [6, 7, 8, 9, 10, 5, 11, 12, 13, 14, 15, 16, 17, 18, 19, 20, 21, 22, 23, 24, 25, 26, 27, 28, 29, 30, 31, 32, 33, 34, 35, 36, 37, 38, 39, 40, 41, 42, 43, 44] (by decide +kernel) (by decide +kernel)) (goodIn_sub (fun _ h => List.mem_cons_of_mem _ (List.mem_append_right _ h)) (by decide +kernel))
set_option maxRecDepth 20000 in
theorem gL_begin_X2_begin : GoodIn wsL_begin (wsV RL 7 RX2 yX2_begin wsX2_begin) := goodIn_app (goodIn_of _ (by decide +kernel)) ggL_begin_X2_begin

