theorem dX1_init_0 : decode cX1_init 0 = .ok (.aload_n 0, 1) := by decide +kernel
theorem dX1_init_1 : decode cX1_init 1 = .ok (.invokespecial 1, 3) := by decide +kernel
theorem dX1_init_4 : decode cX1_init 4 = .ok (.aload_n 0, 1) := by decide +kernel
theorem dX1_init_5 : decode cX1_init 5 = .ok (.bipush 8, 2) := by decide +kernel
theorem dX1_init_7 : decode cX1_init 7 = .ok (.newarray .int, 2) := by decide +kernel
theorem dX1_init_9 : decode cX1_init 9 = .ok (.putfield 9, 3) := by decide +kernel
theorem dX1_init_12 : decode cX1_init 12 = .ok (.aload_n 0, 1) := by decide +kernel
theorem dX1_init_13 : decode cX1_init 13 = .ok (.bipush 8, 2) := by decide +kernel
theorem dX1_init_15 : decode cX1_init 15 = .ok (.newarray .int, 2) := by decide +kernel
theorem dX1_init_17 : decode cX1_init 17 = .ok (.putfield 13, 3) := by decide +kernel
theorem dX1_init_20 : decode cX1_init 20 = .ok (.aload_n 0, 1) := by decide +kernel
theorem dX1_init_21 : decode cX1_init 21 = .ok (.bipush 8, 2) := by decide +kernel
theorem dX1_init_23 : decode cX1_init 23 = .ok (.newarray .boolean, 2) := by decide +kernel
theorem dX1_init_25 : decode cX1_init 25 = .ok (.putfield 16, 3) := by decide +kernel
theorem dX1_init_28 : decode cX1_init 28 = .ok (.aload_n 0, 1) := by decide +kernel
theorem dX1_init_29 : decode cX1_init 29 = .ok (.bipush 8, 2) := by decide +kernel
theorem dX1_init_31 : decode cX1_init 31 = .ok (.newarray .int, 2) := by decide +kernel
theorem dX1_init_33 : decode cX1_init 33 = .ok (.putfield 20, 3) := by decide +kernel
theorem dX1_init_36 : decode cX1_init 36 = .ok (.aload_n 0, 1) := by decide +kernel
theorem dX1_init_37 : decode cX1_init 37 = .ok (.bipush 8, 2) := by decide +kernel
theorem dX1_init_39 : decode cX1_init 39 = .ok (.newarray .int, 2) := by decide +kernel
theorem dX1_init_41 : decode cX1_init 41 = .ok (.putfield 23, 3) := by decide +kernel
theorem dX1_init_44 : decode cX1_init 44 = .ok (.aload_n 0, 1) := by decide +kernel
theorem dX1_init_45 : decode cX1_init 45 = .ok (.bipush 8, 2) := by decide +kernel
theorem dX1_init_47 : decode cX1_init 47 = .ok (.newarray .int, 2) := by decide +kernel
theorem dX1_init_49 : decode cX1_init 49 = .ok (.putfield 26, 3) := by decide +kernel
theorem dX1_init_52 : decode cX1_init 52 = .ok (.aload_n 0, 1) := by decide +kernel
theorem dX1_init_53 : decode cX1_init 53 = .ok (.bipush 8, 2) := by decide +kernel
theorem dX1_init_55 : decode cX1_init 55 = .ok (.newarray .int, 2) := by decide +kernel
theorem dX1_init_57 : decode cX1_init 57 = .ok (.putfield 29, 3) := by decide +kernel
theorem dX1_init_60 : decode cX1_init 60 = .ok (.aload_n 0, 1) := by decide +kernel
theorem dX1_init_61 : decode cX1_init 61 = .ok (.bipush 10, 2) := by decide +kernel
theorem dX1_init_63 : decode cX1_init 63 = .ok (.newarray .int, 2) := by decide +kernel
theorem dX1_init_65 : decode cX1_init 65 = .ok (.putfield 32, 3) := by decide +kernel
theorem dX1_init_68 : decode cX1_init 68 = .ok (.aload_n 0, 1) := by decide +kernel
theorem dX1_init_69 : decode cX1_init 69 = .ok (.bipush 10, 2) := by decide +kernel
theorem dX1_init_71 : decode cX1_init 71 = .ok (.newarray .int, 2) := by decide +kernel
theorem dX1_init_73 : decode cX1_init 73 = .ok (.putfield 35, 3) := by decide +kernel
theorem dX1_init_76 : decode cX1_init 76 = .ok (.aload_n 0, 1) := by decide +kernel
theorem dX1_init_77 : decode cX1_init 77 = .ok (.sipush 1000, 3) := by decide +kernel
theorem dX1_init_80 : decode cX1_init 80 = .ok (.putfield 38, 3) := by decide +kernel
theorem dX1_init_83 : decode cX1_init 83 = .ok (.aload_n 0, 1) := by decide +kernel
theorem dX1_init_84 : decode cX1_init 84 = .ok (.bipush 12, 2) := by decide +kernel
theorem dX1_init_86 : decode cX1_init 86 = .ok (.newarray .int, 2) := by decide +kernel
theorem dX1_init_88 : decode cX1_init 88 = .ok (.putfield 42, 3) := by decide +kernel
theorem dX1_init_91 : decode cX1_init 91 = .ok (.aload_n 0, 1) := by decide +kernel
theorem dX1_init_92 : decode cX1_init 92 = .ok (.iconst (-1), 1) := by decide +kernel
theorem dX1_init_93 : decode cX1_init 93 = .ok (.putfield 45, 3) := by decide +kernel
theorem dX1_init_96 : decode cX1_init 96 = .ok (.aload_n 0, 1) := by decide +kernel
theorem dX1_init_97 : decode cX1_init 97 = .ok (.bipush 10, 2) := by decide +kernel
theorem dX1_init_99 : decode cX1_init 99 = .ok (.newarray .long, 2) := by decide +kernel
theorem dX1_init_101 : decode cX1_init 101 = .ok (.putfield 48, 3) := by decide +kernel
theorem dX1_init_104 : decode cX1_init 104 = .ok (.aload_n 0, 1) := by decide +kernel
theorem dX1_init_105 : decode cX1_init 105 = .ok (.sipush 18009, 3) := by decide +kernel
theorem dX1_init_108 : decode cX1_init 108 = .ok (.newarray .int, 2) := by decide +kernel
theorem dX1_init_110 : decode cX1_init 110 = .ok (.putfield 52, 3) := by decide +kernel
theorem dX1_init_113 : decode cX1_init 113 = .ok (.return_, 1) := by decide +kernel
theorem dX1_thrown_0 : decode cX1_thrown 0 = .ok (.aload_n 0, 1) := by decide +kernel
theorem dX1_thrown_1 : decode cX1_thrown 1 = .ok (.getfield 55, 3) := by decide +kernel
theorem dX1_thrown_4 : decode cX1_thrown 4 = .ok (.ireturn, 1) := by decide +kernel
theorem dX1_fail_0 : decode cX1_fail 0 = .ok (.aload_n 0, 1) := by decide +kernel
theorem dX1_fail_1 : decode cX1_fail 1 = .ok (.iload_n 1, 1) := by decide +kernel
theorem dX1_fail_2 : decode cX1_fail 2 = .ok (.putfield 55, 3) := by decide +kernel
theorem dX1_fail_5 : decode cX1_fail 5 = .ok (.iconst 0, 1) := by decide +kernel
theorem dX1_fail_6 : decode cX1_fail 6 = .ok (.ireturn, 1) := by decide +kernel
theorem dX1_isKind_0 : decode cX1_isKind 0 = .ok (.iload_n 1, 1) := by decide +kernel
theorem dX1_isKind_1 : decode cX1_isKind 1 = .ok (.ifCond .lt 15, 3) := by decide +kernel
theorem dX1_isKind_4 : decode cX1_isKind 4 = .ok (.iload_n 1, 1) := by decide +kernel
theorem dX1_isKind_5 : decode cX1_isKind 5 = .ok (.aload_n 0, 1) := by decide +kernel
theorem dX1_isKind_6 : decode cX1_isKind 6 = .ok (.getfield 58, 3) := by decide +kernel
theorem dX1_isKind_9 : decode cX1_isKind 9 = .ok (.if_icmp .ge 7, 3) := by decide +kernel
theorem dX1_isKind_12 : decode cX1_isKind 12 = .ok (.iconst 1, 1) := by decide +kernel
theorem dX1_isKind_13 : decode cX1_isKind 13 = .ok (.goto 4, 3) := by decide +kernel
theorem dX1_isKind_16 : decode cX1_isKind 16 = .ok (.iconst 0, 1) := by decide +kernel
theorem dX1_isKind_17 : decode cX1_isKind 17 = .ok (.ireturn, 1) := by decide +kernel
theorem dX1_isProduct_0 : decode cX1_isProduct 0 = .ok (.iload_n 1, 1) := by decide +kernel
theorem dX1_isProduct_1 : decode cX1_isProduct 1 = .ok (.ifCond .lt 15, 3) := by decide +kernel
theorem dX1_isProduct_4 : decode cX1_isProduct 4 = .ok (.iload_n 1, 1) := by decide +kernel
theorem dX1_isProduct_5 : decode cX1_isProduct 5 = .ok (.aload_n 0, 1) := by decide +kernel
theorem dX1_isProduct_6 : decode cX1_isProduct 6 = .ok (.getfield 61, 3) := by decide +kernel
theorem dX1_isProduct_9 : decode cX1_isProduct 9 = .ok (.if_icmp .ge 7, 3) := by decide +kernel
theorem dX1_isProduct_12 : decode cX1_isProduct 12 = .ok (.iconst 1, 1) := by decide +kernel
theorem dX1_isProduct_13 : decode cX1_isProduct 13 = .ok (.goto 4, 3) := by decide +kernel
theorem dX1_isProduct_16 : decode cX1_isProduct 16 = .ok (.iconst 0, 1) := by decide +kernel
theorem dX1_isProduct_17 : decode cX1_isProduct 17 = .ok (.ireturn, 1) := by decide +kernel
theorem dX1_isAmount_0 : decode cX1_isAmount 0 = .ok (.iload_n 0, 1) := by decide +kernel
theorem dX1_isAmount_1 : decode cX1_isAmount 1 = .ok (.ifCond .lt 14, 3) := by decide +kernel
theorem dX1_isAmount_4 : decode cX1_isAmount 4 = .ok (.iload_n 0, 1) := by decide +kernel
theorem dX1_isAmount_5 : decode cX1_isAmount 5 = .ok (.sipush 2000, 3) := by decide +kernel
theorem dX1_isAmount_8 : decode cX1_isAmount 8 = .ok (.if_icmp .gt 7, 3) := by decide +kernel
theorem dX1_isAmount_11 : decode cX1_isAmount 11 = .ok (.iconst 1, 1) := by decide +kernel
theorem dX1_isAmount_12 : decode cX1_isAmount 12 = .ok (.goto 4, 3) := by decide +kernel
theorem dX1_isAmount_15 : decode cX1_isAmount 15 = .ok (.iconst 0, 1) := by decide +kernel
theorem dX1_isAmount_16 : decode cX1_isAmount 16 = .ok (.ireturn, 1) := by decide +kernel
theorem dX1_isGoods_0 : decode cX1_isGoods 0 = .ok (.iload_n 0, 1) := by decide +kernel
theorem dX1_isGoods_1 : decode cX1_isGoods 1 = .ok (.iconst 1, 1) := by decide +kernel
theorem dX1_isGoods_2 : decode cX1_isGoods 2 = .ok (.if_icmp .lt 24, 3) := by decide +kernel
theorem dX1_isGoods_5 : decode cX1_isGoods 5 = .ok (.iload_n 0, 1) := by decide +kernel
theorem dX1_isGoods_6 : decode cX1_isGoods 6 = .ok (.sipush 2000, 3) := by decide +kernel
theorem dX1_isGoods_9 : decode cX1_isGoods 9 = .ok (.if_icmp .gt 17, 3) := by decide +kernel
theorem dX1_isGoods_12 : decode cX1_isGoods 12 = .ok (.iload_n 1, 1) := by decide +kernel
theorem dX1_isGoods_13 : decode cX1_isGoods 13 = .ok (.ifCond .lt 13, 3) := by decide +kernel
theorem dX1_isGoods_16 : decode cX1_isGoods 16 = .ok (.iload_n 1, 1) := by decide +kernel
theorem dX1_isGoods_17 : decode cX1_isGoods 17 = .ok (.bipush 99, 2) := by decide +kernel
theorem dX1_isGoods_19 : decode cX1_isGoods 19 = .ok (.if_icmp .gt 7, 3) := by decide +kernel
theorem dX1_isGoods_22 : decode cX1_isGoods 22 = .ok (.iconst 1, 1) := by decide +kernel
theorem dX1_isGoods_23 : decode cX1_isGoods 23 = .ok (.goto 4, 3) := by decide +kernel
theorem dX1_isGoods_26 : decode cX1_isGoods 26 = .ok (.iconst 0, 1) := by decide +kernel
theorem dX1_isGoods_27 : decode cX1_isGoods 27 = .ok (.ireturn, 1) := by decide +kernel
set_option maxRecDepth 20000 in
theorem ggX1_addKind_X1_fail : GoodIn wsX1_addKind wsX1_fail := goodIn_r _ [11, 1, 12, 13, 14, 15, 16, 17, 18, 19, 20, 21, 22, 23, 24, 25, 26, 27, 28, 29, 30] (by decide +kernel) (by decide +kernel)
set_option maxRecDepth 20000 in
theorem gX1_addKind_X1_fail : GoodIn wsX1_addKind (wsV RX1 64 RX1 yX1_fail wsX1_fail) := goodIn_app (goodIn_of _ (by decide +kernel)) ggX1_addKind_X1_fail
theorem dX1_addKind_0 : decode cX1_addKind 0 = .ok (.aload_n 0, 1) := by decide +kernel
theorem dX1_addKind_1 : decode cX1_addKind 1 = .ok (.iconst 0, 1) := by decide +kernel
theorem dX1_addKind_2 : decode cX1_addKind 2 = .ok (.putfield 55, 3) := by decide +kernel
theorem dX1_addKind_5 : decode cX1_addKind 5 = .ok (.iload_n 1, 1) := by decide +kernel
theorem dX1_addKind_6 : decode cX1_addKind 6 = .ok (.iconst 1, 1) := by decide +kernel
theorem dX1_addKind_7 : decode cX1_addKind 7 = .ok (.if_icmp .lt 20, 3) := by decide +kernel
theorem dX1_addKind_10 : decode cX1_addKind 10 = .ok (.iload_n 1, 1) := by decide +kernel
theorem dX1_addKind_11 : decode cX1_addKind 11 = .ok (.sipush 500, 3) := by decide +kernel
theorem dX1_addKind_14 : decode cX1_addKind 14 = .ok (.if_icmp .gt 13, 3) := by decide +kernel
theorem dX1_addKind_17 : decode cX1_addKind 17 = .ok (.iload_n 2, 1) := by decide +kernel
theorem dX1_addKind_18 : decode cX1_addKind 18 = .ok (.ifCond .lt 9, 3) := by decide +kernel
theorem dX1_addKind_21 : decode cX1_addKind 21 = .ok (.iload_n 2, 1) := by decide +kernel
theorem dX1_addKind_22 : decode cX1_addKind 22 = .ok (.bipush 60, 2) := by decide +kernel
theorem dX1_addKind_24 : decode cX1_addKind 24 = .ok (.if_icmp .le 9, 3) := by decide +kernel
theorem dX1_addKind_27 : decode cX1_addKind 27 = .ok (.aload_n 0, 1) := by decide +kernel
theorem dX1_addKind_28 : decode cX1_addKind 28 = .ok (.iconst 1, 1) := by decide +kernel
theorem dX1_addKind_29 : decode cX1_addKind 29 = .ok (.invokevirtual 64, 3) := by decide +kernel
theorem dX1_addKind_32 : decode cX1_addKind 32 = .ok (.ireturn, 1) := by decide +kernel
theorem dX1_addKind_33 : decode cX1_addKind 33 = .ok (.aload_n 0, 1) := by decide +kernel
theorem dX1_addKind_34 : decode cX1_addKind 34 = .ok (.getfield 58, 3) := by decide +kernel
theorem dX1_addKind_37 : decode cX1_addKind 37 = .ok (.bipush 8, 2) := by decide +kernel
theorem dX1_addKind_39 : decode cX1_addKind 39 = .ok (.if_icmp .ne 9, 3) := by decide +kernel
theorem dX1_addKind_42 : decode cX1_addKind 42 = .ok (.aload_n 0, 1) := by decide +kernel
theorem dX1_addKind_43 : decode cX1_addKind 43 = .ok (.iconst 2, 1) := by decide +kernel
theorem dX1_addKind_44 : decode cX1_addKind 44 = .ok (.invokevirtual 64, 3) := by decide +kernel
theorem dX1_addKind_47 : decode cX1_addKind 47 = .ok (.ireturn, 1) := by decide +kernel
theorem dX1_addKind_48 : decode cX1_addKind 48 = .ok (.iconst 0, 1) := by decide +kernel
theorem dX1_addKind_49 : decode cX1_addKind 49 = .ok (.istore_n 3, 1) := by decide +kernel
theorem dX1_addKind_50 : decode cX1_addKind 50 = .ok (.iload_n 3, 1) := by decide +kernel
theorem dX1_addKind_51 : decode cX1_addKind 51 = .ok (.aload_n 0, 1) := by decide +kernel
theorem dX1_addKind_52 : decode cX1_addKind 52 = .ok (.getfield 58, 3) := by decide +kernel
theorem dX1_addKind_55 : decode cX1_addKind 55 = .ok (.if_icmp .ge 25, 3) := by decide +kernel
theorem dX1_addKind_58 : decode cX1_addKind 58 = .ok (.aload_n 0, 1) := by decide +kernel
theorem dX1_addKind_59 : decode cX1_addKind 59 = .ok (.getfield 9, 3) := by decide +kernel
theorem dX1_addKind_62 : decode cX1_addKind 62 = .ok (.iload_n 3, 1) := by decide +kernel
theorem dX1_addKind_63 : decode cX1_addKind 63 = .ok (.iaload, 1) := by decide +kernel
theorem dX1_addKind_64 : decode cX1_addKind 64 = .ok (.iload_n 1, 1) := by decide +kernel
theorem dX1_addKind_65 : decode cX1_addKind 65 = .ok (.if_icmp .ne 9, 3) := by decide +kernel
theorem dX1_addKind_68 : decode cX1_addKind 68 = .ok (.aload_n 0, 1) := by decide +kernel
theorem dX1_addKind_69 : decode cX1_addKind 69 = .ok (.iconst 2, 1) := by decide +kernel
theorem dX1_addKind_70 : decode cX1_addKind 70 = .ok (.invokevirtual 64, 3) := by decide +kernel
theorem dX1_addKind_73 : decode cX1_addKind 73 = .ok (.ireturn, 1) := by decide +kernel
theorem dX1_addKind_74 : decode cX1_addKind 74 = .ok (.iinc 3 1, 3) := by decide +kernel
theorem dX1_addKind_77 : decode cX1_addKind 77 = .ok (.goto (-27), 3) := by decide +kernel
theorem dX1_addKind_80 : decode cX1_addKind 80 = .ok (.aload_n 0, 1) := by decide +kernel
theorem dX1_addKind_81 : decode cX1_addKind 81 = .ok (.getfield 9, 3) := by decide +kernel
theorem dX1_addKind_84 : decode cX1_addKind 84 = .ok (.aload_n 0, 1) := by decide +kernel
theorem dX1_addKind_85 : decode cX1_addKind 85 = .ok (.getfield 58, 3) := by decide +kernel
theorem dX1_addKind_88 : decode cX1_addKind 88 = .ok (.iload_n 1, 1) := by decide +kernel
theorem dX1_addKind_89 : decode cX1_addKind 89 = .ok (.iastore, 1) := by decide +kernel
theorem dX1_addKind_90 : decode cX1_addKind 90 = .ok (.aload_n 0, 1) := by decide +kernel
theorem dX1_addKind_91 : decode cX1_addKind 91 = .ok (.getfield 13, 3) := by decide +kernel
theorem dX1_addKind_94 : decode cX1_addKind 94 = .ok (.aload_n 0, 1) := by decide +kernel
theorem dX1_addKind_95 : decode cX1_addKind 95 = .ok (.getfield 58, 3) := by decide +kernel
theorem dX1_addKind_98 : decode cX1_addKind 98 = .ok (.iload_n 2, 1) := by decide +kernel
theorem dX1_addKind_99 : decode cX1_addKind 99 = .ok (.iastore, 1) := by decide +kernel
theorem dX1_addKind_100 : decode cX1_addKind 100 = .ok (.aload_n 0, 1) := by decide +kernel
theorem dX1_addKind_101 : decode cX1_addKind 101 = .ok (.getfield 16, 3) := by decide +kernel
theorem dX1_addKind_104 : decode cX1_addKind 104 = .ok (.aload_n 0, 1) := by decide +kernel
theorem dX1_addKind_105 : decode cX1_addKind 105 = .ok (.getfield 58, 3) := by decide +kernel
theorem dX1_addKind_108 : decode cX1_addKind 108 = .ok (.iconst 1, 1) := by decide +kernel
theorem dX1_addKind_109 : decode cX1_addKind 109 = .ok (.bastore, 1) := by decide +kernel
theorem dX1_addKind_110 : decode cX1_addKind 110 = .ok (.aload_n 0, 1) := by decide +kernel
theorem dX1_addKind_111 : decode cX1_addKind 111 = .ok (.getfield 58, 3) := by decide +kernel
theorem dX1_addKind_114 : decode cX1_addKind 114 = .ok (.istore_n 3, 1) := by decide +kernel
theorem dX1_addKind_115 : decode cX1_addKind 115 = .ok (.iload_n 3, 1) := by decide +kernel
theorem dX1_addKind_116 : decode cX1_addKind 116 = .ok (.ifCond .le 40, 3) := by decide +kernel
theorem dX1_addKind_119 : decode cX1_addKind 119 = .ok (.aload_n 0, 1) := by decide +kernel
theorem dX1_addKind_120 : decode cX1_addKind 120 = .ok (.getfield 9, 3) := by decide +kernel
theorem dX1_addKind_123 : decode cX1_addKind 123 = .ok (.aload_n 0, 1) := by decide +kernel
theorem dX1_addKind_124 : decode cX1_addKind 124 = .ok (.getfield 29, 3) := by decide +kernel
theorem dX1_addKind_127 : decode cX1_addKind 127 = .ok (.iload_n 3, 1) := by decide +kernel
theorem dX1_addKind_128 : decode cX1_addKind 128 = .ok (.iconst 1, 1) := by decide +kernel
theorem dX1_addKind_129 : decode cX1_addKind 129 = .ok (.isub, 1) := by decide +kernel
theorem dX1_addKind_130 : decode cX1_addKind 130 = .ok (.iaload, 1) := by decide +kernel
theorem dX1_addKind_131 : decode cX1_addKind 131 = .ok (.iaload, 1) := by decide +kernel
theorem dX1_addKind_132 : decode cX1_addKind 132 = .ok (.iload_n 1, 1) := by decide +kernel
theorem dX1_addKind_133 : decode cX1_addKind 133 = .ok (.if_icmp .le 23, 3) := by decide +kernel
theorem dX1_addKind_136 : decode cX1_addKind 136 = .ok (.aload_n 0, 1) := by decide +kernel
theorem dX1_addKind_137 : decode cX1_addKind 137 = .ok (.getfield 29, 3) := by decide +kernel
theorem dX1_addKind_140 : decode cX1_addKind 140 = .ok (.iload_n 3, 1) := by decide +kernel
theorem dX1_addKind_141 : decode cX1_addKind 141 = .ok (.aload_n 0, 1) := by decide +kernel
theorem dX1_addKind_142 : decode cX1_addKind 142 = .ok (.getfield 29, 3) := by decide +kernel
theorem dX1_addKind_145 : decode cX1_addKind 145 = .ok (.iload_n 3, 1) := by decide +kernel
theorem dX1_addKind_146 : decode cX1_addKind 146 = .ok (.iconst 1, 1) := by decide +kernel
theorem dX1_addKind_147 : decode cX1_addKind 147 = .ok (.isub, 1) := by decide +kernel
theorem dX1_addKind_148 : decode cX1_addKind 148 = .ok (.iaload, 1) := by decide +kernel
theorem dX1_addKind_149 : decode cX1_addKind 149 = .ok (.iastore, 1) := by decide +kernel
theorem dX1_addKind_150 : decode cX1_addKind 150 = .ok (.iinc 3 (-1), 3) := by decide +kernel
theorem dX1_addKind_153 : decode cX1_addKind 153 = .ok (.goto (-38), 3) := by decide +kernel
theorem dX1_addKind_156 : decode cX1_addKind 156 = .ok (.aload_n 0, 1) := by decide +kernel
theorem dX1_addKind_157 : decode cX1_addKind 157 = .ok (.getfield 29, 3) := by decide +kernel
theorem dX1_addKind_160 : decode cX1_addKind 160 = .ok (.iload_n 3, 1) := by decide +kernel
theorem dX1_addKind_161 : decode cX1_addKind 161 = .ok (.aload_n 0, 1) := by decide +kernel
theorem dX1_addKind_162 : decode cX1_addKind 162 = .ok (.getfield 58, 3) := by decide +kernel
theorem dX1_addKind_165 : decode cX1_addKind 165 = .ok (.iastore, 1) := by decide +kernel
theorem dX1_addKind_166 : decode cX1_addKind 166 = .ok (.aload_n 0, 1) := by decide +kernel
theorem dX1_addKind_167 : decode cX1_addKind 167 = .ok (.dup, 1) := by decide +kernel
theorem dX1_addKind_168 : decode cX1_addKind 168 = .ok (.getfield 58, 3) := by decide +kernel
theorem dX1_addKind_171 : decode cX1_addKind 171 = .ok (.iconst 1, 1) := by decide +kernel
theorem dX1_addKind_172 : decode cX1_addKind 172 = .ok (.iadd, 1) := by decide +kernel
theorem dX1_addKind_173 : decode cX1_addKind 173 = .ok (.putfield 58, 3) := by decide +kernel
theorem dX1_addKind_176 : decode cX1_addKind 176 = .ok (.aload_n 0, 1) := by decide +kernel
theorem dX1_addKind_177 : decode cX1_addKind 177 = .ok (.getfield 58, 3) := by decide +kernel
theorem dX1_addKind_180 : decode cX1_addKind 180 = .ok (.iconst 1, 1) := by decide +kernel
theorem dX1_addKind_181 : decode cX1_addKind 181 = .ok (.isub, 1) := by decide +kernel
theorem dX1_addKind_182 : decode cX1_addKind 182 = .ok (.ireturn, 1) := by decide +kernel
set_option maxRecDepth 20000 in
theorem ggX1_fill_X1_isKind : GoodIn wsX1_fill wsX1_isKind := goodIn_r _ [14, 15, 20, 21, 22, 23, 24, 25, 26, 27, 28, 29, 30, 31, 32, 33, 34, 35, 36, 37, 38] (by decide +kernel) (by decide +kernel)
set_option maxRecDepth 20000 in
theorem gX1_fill_X1_isKind : GoodIn wsX1_fill (wsV RX1 68 RX1 yX1_isKind wsX1_isKind) := goodIn_app (goodIn_of _ (by decide +kernel)) ggX1_fill_X1_isKind
set_option maxRecDepth 20000 in
theorem ggX1_fill_X1_fail : GoodIn wsX1_fill wsX1_fail := goodIn_r _ [19, 1, 20, 21, 22, 23, 24, 25, 26, 27, 28, 29, 30, 31, 32, 33, 34, 35, 36, 37, 38] (by decide +kernel) (by decide +kernel)
set_option maxRecDepth 20000 in
theorem gX1_fill_X1_fail : GoodIn wsX1_fill (wsV RX1 64 RX1 yX1_fail wsX1_fail) := goodIn_app (goodIn_of _ (by decide +kernel)) ggX1_fill_X1_fail
theorem dX1_fill_0 : decode cX1_fill 0 = .ok (.aload_n 0, 1) := by decide +kernel
theorem dX1_fill_1 : decode cX1_fill 1 = .ok (.iconst 0, 1) := by decide +kernel
theorem dX1_fill_2 : decode cX1_fill 2 = .ok (.putfield 55, 3) := by decide +kernel
theorem dX1_fill_5 : decode cX1_fill 5 = .ok (.aload_n 0, 1) := by decide +kernel
theorem dX1_fill_6 : decode cX1_fill 6 = .ok (.iload_n 1, 1) := by decide +kernel
theorem dX1_fill_7 : decode cX1_fill 7 = .ok (.invokevirtual 68, 3) := by decide +kernel
theorem dX1_fill_10 : decode cX1_fill 10 = .ok (.ifCond .ne 9, 3) := by decide +kernel
theorem dX1_fill_13 : decode cX1_fill 13 = .ok (.aload_n 0, 1) := by decide +kernel
theorem dX1_fill_14 : decode cX1_fill 14 = .ok (.iconst 1, 1) := by decide +kernel
theorem dX1_fill_15 : decode cX1_fill 15 = .ok (.invokevirtual 64, 3) := by decide +kernel
theorem dX1_fill_18 : decode cX1_fill 18 = .ok (.ireturn, 1) := by decide +kernel
theorem dX1_fill_19 : decode cX1_fill 19 = .ok (.iload_n 2, 1) := by decide +kernel
theorem dX1_fill_20 : decode cX1_fill 20 = .ok (.ifCond .lt 9, 3) := by decide +kernel
theorem dX1_fill_23 : decode cX1_fill 23 = .ok (.iload_n 2, 1) := by decide +kernel
theorem dX1_fill_24 : decode cX1_fill 24 = .ok (.bipush 60, 2) := by decide +kernel
theorem dX1_fill_26 : decode cX1_fill 26 = .ok (.if_icmp .le 9, 3) := by decide +kernel
theorem dX1_fill_29 : decode cX1_fill 29 = .ok (.aload_n 0, 1) := by decide +kernel
theorem dX1_fill_30 : decode cX1_fill 30 = .ok (.iconst 2, 1) := by decide +kernel
theorem dX1_fill_31 : decode cX1_fill 31 = .ok (.invokevirtual 64, 3) := by decide +kernel
theorem dX1_fill_34 : decode cX1_fill 34 = .ok (.ireturn, 1) := by decide +kernel
theorem dX1_fill_35 : decode cX1_fill 35 = .ok (.iload_n 2, 1) := by decide +kernel
theorem dX1_fill_36 : decode cX1_fill 36 = .ok (.aload_n 0, 1) := by decide +kernel
theorem dX1_fill_37 : decode cX1_fill 37 = .ok (.getfield 13, 3) := by decide +kernel
theorem dX1_fill_40 : decode cX1_fill 40 = .ok (.iload_n 1, 1) := by decide +kernel
theorem dX1_fill_41 : decode cX1_fill 41 = .ok (.iaload, 1) := by decide +kernel
theorem dX1_fill_42 : decode cX1_fill 42 = .ok (.aload_n 0, 1) := by decide +kernel
theorem dX1_fill_43 : decode cX1_fill 43 = .ok (.getfield 20, 3) := by decide +kernel
theorem dX1_fill_46 : decode cX1_fill 46 = .ok (.iload_n 1, 1) := by decide +kernel
theorem dX1_fill_47 : decode cX1_fill 47 = .ok (.iaload, 1) := by decide +kernel
theorem dX1_fill_48 : decode cX1_fill 48 = .ok (.isub, 1) := by decide +kernel
theorem dX1_fill_49 : decode cX1_fill 49 = .ok (.invokestatic 72, 3) := by decide +kernel
theorem dX1_fill_52 : decode cX1_fill 52 = .ok (.istore_n 3, 1) := by decide +kernel
theorem dX1_fill_53 : decode cX1_fill 53 = .ok (.aload_n 0, 1) := by decide +kernel
theorem dX1_fill_54 : decode cX1_fill 54 = .ok (.getfield 20, 3) := by decide +kernel
theorem dX1_fill_57 : decode cX1_fill 57 = .ok (.iload_n 1, 1) := by decide +kernel
theorem dX1_fill_58 : decode cX1_fill 58 = .ok (.dup2, 1) := by decide +kernel
theorem dX1_fill_59 : decode cX1_fill 59 = .ok (.iaload, 1) := by decide +kernel
theorem dX1_fill_60 : decode cX1_fill 60 = .ok (.iload_n 3, 1) := by decide +kernel
theorem dX1_fill_61 : decode cX1_fill 61 = .ok (.iadd, 1) := by decide +kernel
theorem dX1_fill_62 : decode cX1_fill 62 = .ok (.iastore, 1) := by decide +kernel
theorem dX1_fill_63 : decode cX1_fill 63 = .ok (.aload_n 0, 1) := by decide +kernel
theorem dX1_fill_64 : decode cX1_fill 64 = .ok (.getfield 48, 3) := by decide +kernel
theorem dX1_fill_67 : decode cX1_fill 67 = .ok (.iconst 4, 1) := by decide +kernel
theorem dX1_fill_68 : decode cX1_fill 68 = .ok (.dup2, 1) := by decide +kernel
theorem dX1_fill_69 : decode cX1_fill 69 = .ok (.laload, 1) := by decide +kernel
theorem dX1_fill_70 : decode cX1_fill 70 = .ok (.iload_n 3, 1) := by decide +kernel
theorem dX1_fill_71 : decode cX1_fill 71 = .ok (.i2l, 1) := by decide +kernel
theorem dX1_fill_72 : decode cX1_fill 72 = .ok (.aload_n 0, 1) := by decide +kernel
theorem dX1_fill_73 : decode cX1_fill 73 = .ok (.getfield 9, 3) := by decide +kernel
theorem dX1_fill_76 : decode cX1_fill 76 = .ok (.iload_n 1, 1) := by decide +kernel
theorem dX1_fill_77 : decode cX1_fill 77 = .ok (.iaload, 1) := by decide +kernel
theorem dX1_fill_78 : decode cX1_fill 78 = .ok (.i2l, 1) := by decide +kernel
theorem dX1_fill_79 : decode cX1_fill 79 = .ok (.lmul, 1) := by decide +kernel
theorem dX1_fill_80 : decode cX1_fill 80 = .ok (.ladd, 1) := by decide +kernel
theorem dX1_fill_81 : decode cX1_fill 81 = .ok (.lastore, 1) := by decide +kernel
theorem dX1_fill_82 : decode cX1_fill 82 = .ok (.iload_n 2, 1) := by decide +kernel
theorem dX1_fill_83 : decode cX1_fill 83 = .ok (.iload_n 3, 1) := by decide +kernel
theorem dX1_fill_84 : decode cX1_fill 84 = .ok (.isub, 1) := by decide +kernel
theorem dX1_fill_85 : decode cX1_fill 85 = .ok (.ireturn, 1) := by decide +kernel
set_option maxRecDepth 20000 in
theorem ggX1_take_X1_isKind : GoodIn wsX1_take wsX1_isKind := goodIn_r _ [13, 14, 19, 20, 21, 22, 23, 24, 25, 26, 27, 28, 29, 30, 31, 32, 33, 34, 35, 36, 37] (by decide +kernel) (by decide +kernel)
set_option maxRecDepth 20000 in
theorem gX1_take_X1_isKind : GoodIn wsX1_take (wsV RX1 68 RX1 yX1_isKind wsX1_isKind) := goodIn_app (goodIn_of _ (by decide +kernel)) ggX1_take_X1_isKind
set_option maxRecDepth 20000 in
theorem ggX1_take_X1_fail : GoodIn wsX1_take wsX1_fail := goodIn_r _ [18, 1, 19, 20, 21, 22, 23, 24, 25, 26, 27, 28, 29, 30, 31, 32, 33, 34, 35, 36, 37] (by decide +kernel) (by decide +kernel)
set_option maxRecDepth 20000 in
theorem gX1_take_X1_fail : GoodIn wsX1_take (wsV RX1 64 RX1 yX1_fail wsX1_fail) := goodIn_app (goodIn_of _ (by decide +kernel)) ggX1_take_X1_fail
theorem dX1_take_0 : decode cX1_take 0 = .ok (.aload_n 0, 1) := by decide +kernel
theorem dX1_take_1 : decode cX1_take 1 = .ok (.iconst 0, 1) := by decide +kernel
theorem dX1_take_2 : decode cX1_take 2 = .ok (.putfield 55, 3) := by decide +kernel
theorem dX1_take_5 : decode cX1_take 5 = .ok (.aload_n 0, 1) := by decide +kernel
theorem dX1_take_6 : decode cX1_take 6 = .ok (.iload_n 1, 1) := by decide +kernel
theorem dX1_take_7 : decode cX1_take 7 = .ok (.invokevirtual 68, 3) := by decide +kernel
theorem dX1_take_10 : decode cX1_take 10 = .ok (.ifCond .ne 9, 3) := by decide +kernel
theorem dX1_take_13 : decode cX1_take 13 = .ok (.aload_n 0, 1) := by decide +kernel
theorem dX1_take_14 : decode cX1_take 14 = .ok (.iconst 1, 1) := by decide +kernel
theorem dX1_take_15 : decode cX1_take 15 = .ok (.invokevirtual 64, 3) := by decide +kernel
theorem dX1_take_18 : decode cX1_take 18 = .ok (.ireturn, 1) := by decide +kernel
theorem dX1_take_19 : decode cX1_take 19 = .ok (.iload_n 2, 1) := by decide +kernel
theorem dX1_take_20 : decode cX1_take 20 = .ok (.ifCond .lt 9, 3) := by decide +kernel
theorem dX1_take_23 : decode cX1_take 23 = .ok (.iload_n 2, 1) := by decide +kernel
theorem dX1_take_24 : decode cX1_take 24 = .ok (.bipush 60, 2) := by decide +kernel
theorem dX1_take_26 : decode cX1_take 26 = .ok (.if_icmp .le 9, 3) := by decide +kernel
theorem dX1_take_29 : decode cX1_take 29 = .ok (.aload_n 0, 1) := by decide +kernel
theorem dX1_take_30 : decode cX1_take 30 = .ok (.iconst 2, 1) := by decide +kernel
theorem dX1_take_31 : decode cX1_take 31 = .ok (.invokevirtual 64, 3) := by decide +kernel
theorem dX1_take_34 : decode cX1_take 34 = .ok (.ireturn, 1) := by decide +kernel
theorem dX1_take_35 : decode cX1_take 35 = .ok (.iload_n 2, 1) := by decide +kernel
theorem dX1_take_36 : decode cX1_take 36 = .ok (.aload_n 0, 1) := by decide +kernel
theorem dX1_take_37 : decode cX1_take 37 = .ok (.getfield 20, 3) := by decide +kernel
theorem dX1_take_40 : decode cX1_take 40 = .ok (.iload_n 1, 1) := by decide +kernel
theorem dX1_take_41 : decode cX1_take 41 = .ok (.iaload, 1) := by decide +kernel
theorem dX1_take_42 : decode cX1_take 42 = .ok (.invokestatic 72, 3) := by decide +kernel
theorem dX1_take_45 : decode cX1_take 45 = .ok (.istore_n 3, 1) := by decide +kernel
theorem dX1_take_46 : decode cX1_take 46 = .ok (.aload_n 0, 1) := by decide +kernel
theorem dX1_take_47 : decode cX1_take 47 = .ok (.getfield 20, 3) := by decide +kernel
theorem dX1_take_50 : decode cX1_take 50 = .ok (.iload_n 1, 1) := by decide +kernel
theorem dX1_take_51 : decode cX1_take 51 = .ok (.dup2, 1) := by decide +kernel
theorem dX1_take_52 : decode cX1_take 52 = .ok (.iaload, 1) := by decide +kernel
theorem dX1_take_53 : decode cX1_take 53 = .ok (.iload_n 3, 1) := by decide +kernel
theorem dX1_take_54 : decode cX1_take 54 = .ok (.isub, 1) := by decide +kernel
theorem dX1_take_55 : decode cX1_take 55 = .ok (.iastore, 1) := by decide +kernel
theorem dX1_take_56 : decode cX1_take 56 = .ok (.aload_n 0, 1) := by decide +kernel
theorem dX1_take_57 : decode cX1_take 57 = .ok (.getfield 48, 3) := by decide +kernel
theorem dX1_take_60 : decode cX1_take 60 = .ok (.iconst 5, 1) := by decide +kernel
theorem dX1_take_61 : decode cX1_take 61 = .ok (.dup2, 1) := by decide +kernel
theorem dX1_take_62 : decode cX1_take 62 = .ok (.laload, 1) := by decide +kernel
theorem dX1_take_63 : decode cX1_take 63 = .ok (.iload_n 3, 1) := by decide +kernel
theorem dX1_take_64 : decode cX1_take 64 = .ok (.i2l, 1) := by decide +kernel
theorem dX1_take_65 : decode cX1_take 65 = .ok (.aload_n 0, 1) := by decide +kernel
theorem dX1_take_66 : decode cX1_take 66 = .ok (.getfield 9, 3) := by decide +kernel
theorem dX1_take_69 : decode cX1_take 69 = .ok (.iload_n 1, 1) := by decide +kernel
theorem dX1_take_70 : decode cX1_take 70 = .ok (.iaload, 1) := by decide +kernel
theorem dX1_take_71 : decode cX1_take 71 = .ok (.i2l, 1) := by decide +kernel
theorem dX1_take_72 : decode cX1_take 72 = .ok (.lmul, 1) := by decide +kernel
theorem dX1_take_73 : decode cX1_take 73 = .ok (.ladd, 1) := by decide +kernel
theorem dX1_take_74 : decode cX1_take 74 = .ok (.lastore, 1) := by decide +kernel
theorem dX1_take_75 : decode cX1_take 75 = .ok (.iload_n 3, 1) := by decide +kernel
theorem dX1_take_76 : decode cX1_take 76 = .ok (.ireturn, 1) := by decide +kernel
theorem dX1_emptyBox_0 : decode cX1_emptyBox 0 = .ok (.aload_n 0, 1) := by decide +kernel
theorem dX1_emptyBox_1 : decode cX1_emptyBox 1 = .ok (.iconst 0, 1) := by decide +kernel
theorem dX1_emptyBox_2 : decode cX1_emptyBox 2 = .ok (.putfield 55, 3) := by decide +kernel
theorem dX1_emptyBox_5 : decode cX1_emptyBox 5 = .ok (.iconst 0, 1) := by decide +kernel
theorem dX1_emptyBox_6 : decode cX1_emptyBox 6 = .ok (.istore_n 1, 1) := by decide +kernel
theorem dX1_emptyBox_7 : decode cX1_emptyBox 7 = .ok (.iconst 0, 1) := by decide +kernel
theorem dX1_emptyBox_8 : decode cX1_emptyBox 8 = .ok (.istore_n 2, 1) := by decide +kernel
theorem dX1_emptyBox_9 : decode cX1_emptyBox 9 = .ok (.iload_n 2, 1) := by decide +kernel
theorem dX1_emptyBox_10 : decode cX1_emptyBox 10 = .ok (.aload_n 0, 1) := by decide +kernel
theorem dX1_emptyBox_11 : decode cX1_emptyBox 11 = .ok (.getfield 58, 3) := by decide +kernel
theorem dX1_emptyBox_14 : decode cX1_emptyBox 14 = .ok (.if_icmp .ge 32, 3) := by decide +kernel
theorem dX1_emptyBox_17 : decode cX1_emptyBox 17 = .ok (.iload_n 1, 1) := by decide +kernel
theorem dX1_emptyBox_18 : decode cX1_emptyBox 18 = .ok (.aload_n 0, 1) := by decide +kernel
theorem dX1_emptyBox_19 : decode cX1_emptyBox 19 = .ok (.getfield 23, 3) := by decide +kernel
theorem dX1_emptyBox_22 : decode cX1_emptyBox 22 = .ok (.iload_n 2, 1) := by decide +kernel
theorem dX1_emptyBox_23 : decode cX1_emptyBox 23 = .ok (.iaload, 1) := by decide +kernel
theorem dX1_emptyBox_24 : decode cX1_emptyBox 24 = .ok (.aload_n 0, 1) := by decide +kernel
theorem dX1_emptyBox_25 : decode cX1_emptyBox 25 = .ok (.getfield 9, 3) := by decide +kernel
theorem dX1_emptyBox_28 : decode cX1_emptyBox 28 = .ok (.iload_n 2, 1) := by decide +kernel
theorem dX1_emptyBox_29 : decode cX1_emptyBox 29 = .ok (.iaload, 1) := by decide +kernel
theorem dX1_emptyBox_30 : decode cX1_emptyBox 30 = .ok (.imul, 1) := by decide +kernel
theorem dX1_emptyBox_31 : decode cX1_emptyBox 31 = .ok (.iadd, 1) := by decide +kernel
theorem dX1_emptyBox_32 : decode cX1_emptyBox 32 = .ok (.istore_n 1, 1) := by decide +kernel
theorem dX1_emptyBox_33 : decode cX1_emptyBox 33 = .ok (.aload_n 0, 1) := by decide +kernel
theorem dX1_emptyBox_34 : decode cX1_emptyBox 34 = .ok (.getfield 23, 3) := by decide +kernel
theorem dX1_emptyBox_37 : decode cX1_emptyBox 37 = .ok (.iload_n 2, 1) := by decide +kernel
theorem dX1_emptyBox_38 : decode cX1_emptyBox 38 = .ok (.iconst 0, 1) := by decide +kernel
theorem dX1_emptyBox_39 : decode cX1_emptyBox 39 = .ok (.iastore, 1) := by decide +kernel
theorem dX1_emptyBox_40 : decode cX1_emptyBox 40 = .ok (.iinc 2 1, 3) := by decide +kernel
theorem dX1_emptyBox_43 : decode cX1_emptyBox 43 = .ok (.goto (-34), 3) := by decide +kernel
theorem dX1_emptyBox_46 : decode cX1_emptyBox 46 = .ok (.aload_n 0, 1) := by decide +kernel
theorem dX1_emptyBox_47 : decode cX1_emptyBox 47 = .ok (.getfield 48, 3) := by decide +kernel
theorem dX1_emptyBox_50 : decode cX1_emptyBox 50 = .ok (.bipush 6, 2) := by decide +kernel
theorem dX1_emptyBox_52 : decode cX1_emptyBox 52 = .ok (.dup2, 1) := by decide +kernel
theorem dX1_emptyBox_53 : decode cX1_emptyBox 53 = .ok (.laload, 1) := by decide +kernel
theorem dX1_emptyBox_54 : decode cX1_emptyBox 54 = .ok (.iload_n 1, 1) := by decide +kernel
theorem dX1_emptyBox_55 : decode cX1_emptyBox 55 = .ok (.i2l, 1) := by decide +kernel
theorem dX1_emptyBox_56 : decode cX1_emptyBox 56 = .ok (.ladd, 1) := by decide +kernel
theorem dX1_emptyBox_57 : decode cX1_emptyBox 57 = .ok (.lastore, 1) := by decide +kernel
theorem dX1_emptyBox_58 : decode cX1_emptyBox 58 = .ok (.iload_n 1, 1) := by decide +kernel
theorem dX1_emptyBox_59 : decode cX1_emptyBox 59 = .ok (.ireturn, 1) := by decide +kernel
set_option maxRecDepth 20000 in
theorem ggX1_accept_X1_isKind : GoodIn wsX1_accept wsX1_isKind := goodIn_r _ [7, 8, 9, 10, 11, 12, 13, 14, 15, 16, 17, 18, 19, 20, 21, 22, 23, 24, 25, 26, 27] (by decide +kernel) (by decide +kernel)
set_option maxRecDepth 20000 in
theorem gX1_accept_X1_isKind : GoodIn wsX1_accept (wsV RX1 68 RX1 yX1_isKind wsX1_isKind) := goodIn_app (goodIn_of _ (by decide +kernel)) ggX1_accept_X1_isKind
theorem dX1_accept_0 : decode cX1_accept 0 = .ok (.aload_n 0, 1) := by decide +kernel
theorem dX1_accept_1 : decode cX1_accept 1 = .ok (.aload_n 0, 1) := by decide +kernel
theorem dX1_accept_2 : decode cX1_accept 2 = .ok (.iload_n 1, 1) := by decide +kernel
theorem dX1_accept_3 : decode cX1_accept 3 = .ok (.invokevirtual 68, 3) := by decide +kernel
theorem dX1_accept_6 : decode cX1_accept 6 = .ok (.ifCond .eq 7, 3) := by decide +kernel
theorem dX1_accept_9 : decode cX1_accept 9 = .ok (.iconst 0, 1) := by decide +kernel
theorem dX1_accept_10 : decode cX1_accept 10 = .ok (.goto 4, 3) := by decide +kernel
theorem dX1_accept_13 : decode cX1_accept 13 = .ok (.iconst 1, 1) := by decide +kernel
theorem dX1_accept_14 : decode cX1_accept 14 = .ok (.putfield 55, 3) := by decide +kernel
theorem dX1_accept_17 : decode cX1_accept 17 = .ok (.aload_n 0, 1) := by decide +kernel
theorem dX1_accept_18 : decode cX1_accept 18 = .ok (.getfield 55, 3) := by decide +kernel
theorem dX1_accept_21 : decode cX1_accept 21 = .ok (.ifCond .eq 5, 3) := by decide +kernel
theorem dX1_accept_24 : decode cX1_accept 24 = .ok (.iconst 0, 1) := by decide +kernel
theorem dX1_accept_25 : decode cX1_accept 25 = .ok (.ireturn, 1) := by decide +kernel
theorem dX1_accept_26 : decode cX1_accept 26 = .ok (.aload_n 0, 1) := by decide +kernel
theorem dX1_accept_27 : decode cX1_accept 27 = .ok (.getfield 16, 3) := by decide +kernel
theorem dX1_accept_30 : decode cX1_accept 30 = .ok (.iload_n 1, 1) := by decide +kernel
theorem dX1_accept_31 : decode cX1_accept 31 = .ok (.baload, 1) := by decide +kernel
theorem dX1_accept_32 : decode cX1_accept 32 = .ok (.istore_n 3, 1) := by decide +kernel
theorem dX1_accept_33 : decode cX1_accept 33 = .ok (.aload_n 0, 1) := by decide +kernel
theorem dX1_accept_34 : decode cX1_accept 34 = .ok (.getfield 16, 3) := by decide +kernel
theorem dX1_accept_37 : decode cX1_accept 37 = .ok (.iload_n 1, 1) := by decide +kernel
theorem dX1_accept_38 : decode cX1_accept 38 = .ok (.iload_n 2, 1) := by decide +kernel
theorem dX1_accept_39 : decode cX1_accept 39 = .ok (.bastore, 1) := by decide +kernel
theorem dX1_accept_40 : decode cX1_accept 40 = .ok (.iload_n 3, 1) := by decide +kernel
theorem dX1_accept_41 : decode cX1_accept 41 = .ok (.ireturn, 1) := by decide +kernel
set_option maxRecDepth 20000 in
theorem ggX1_setLimit_X1_isAmount : GoodIn wsX1_setLimit wsX1_isAmount := goodIn_r _ [6] (by decide +kernel) (by decide +kernel)
set_option maxRecDepth 20000 in
theorem gX1_setLimit_X1_isAmount : GoodIn wsX1_setLimit (va_wsS RX1 78 yX1_isAmount wsX1_isAmount) := goodIn_app (goodIn_of _ (by decide +kernel)) ggX1_setLimit_X1_isAmount
set_option maxRecDepth 20000 in
theorem ggX1_setLimit_X1_fail : GoodIn wsX1_setLimit wsX1_fail := goodIn_r _ [10, 1, 11, 12, 13, 14, 15, 16, 17, 18, 19, 20, 21, 22, 23, 24, 25, 26, 27, 28, 29] (by decide +kernel) (by decide +kernel)
set_option maxRecDepth 20000 in
theorem gX1_setLimit_X1_fail : GoodIn wsX1_setLimit (wsV RX1 64 RX1 yX1_fail wsX1_fail) := goodIn_app (goodIn_of _ (by decide +kernel)) ggX1_setLimit_X1_fail
theorem dX1_setLimit_0 : decode cX1_setLimit 0 = .ok (.aload_n 0, 1) := by decide +kernel
theorem dX1_setLimit_1 : decode cX1_setLimit 1 = .ok (.iconst 0, 1) := by decide +kernel
theorem dX1_setLimit_2 : decode cX1_setLimit 2 = .ok (.putfield 55, 3) := by decide +kernel
theorem dX1_setLimit_5 : decode cX1_setLimit 5 = .ok (.iload_n 1, 1) := by decide +kernel
theorem dX1_setLimit_6 : decode cX1_setLimit 6 = .ok (.invokestatic 78, 3) := by decide +kernel
theorem dX1_setLimit_9 : decode cX1_setLimit 9 = .ok (.ifCond .ne 9, 3) := by decide +kernel
theorem dX1_setLimit_12 : decode cX1_setLimit 12 = .ok (.aload_n 0, 1) := by decide +kernel
theorem dX1_setLimit_13 : decode cX1_setLimit 13 = .ok (.iconst 1, 1) := by decide +kernel
theorem dX1_setLimit_14 : decode cX1_setLimit 14 = .ok (.invokevirtual 64, 3) := by decide +kernel
theorem dX1_setLimit_17 : decode cX1_setLimit 17 = .ok (.ireturn, 1) := by decide +kernel
theorem dX1_setLimit_18 : decode cX1_setLimit 18 = .ok (.aload_n 0, 1) := by decide +kernel
theorem dX1_setLimit_19 : decode cX1_setLimit 19 = .ok (.getfield 38, 3) := by decide +kernel
theorem dX1_setLimit_22 : decode cX1_setLimit 22 = .ok (.istore_n 2, 1) := by decide +kernel
theorem dX1_setLimit_23 : decode cX1_setLimit 23 = .ok (.aload_n 0, 1) := by decide +kernel
theorem dX1_setLimit_24 : decode cX1_setLimit 24 = .ok (.iload_n 1, 1) := by decide +kernel
theorem dX1_setLimit_25 : decode cX1_setLimit 25 = .ok (.putfield 38, 3) := by decide +kernel
theorem dX1_setLimit_28 : decode cX1_setLimit 28 = .ok (.iload_n 2, 1) := by decide +kernel
theorem dX1_setLimit_29 : decode cX1_setLimit 29 = .ok (.ireturn, 1) := by decide +kernel
set_option maxRecDepth 20000 in
theorem ggX1_addProduct_X1_isGoods : GoodIn wsX1_addProduct wsX1_isGoods := goodIn_r _ [8] (by decide +kernel) (by decide +kernel)
set_option maxRecDepth 20000 in
theorem gX1_addProduct_X1_isGoods : GoodIn wsX1_addProduct (va_wsS RX1 81 yX1_isGoods wsX1_isGoods) := goodIn_app (goodIn_of _ (by decide +kernel)) ggX1_addProduct_X1_isGoods
set_option maxRecDepth 20000 in
theorem ggX1_addProduct_X1_fail : GoodIn wsX1_addProduct wsX1_fail := goodIn_r _ [12, 1, 13, 14, 15, 16, 17, 18, 19, 20, 21, 22, 23, 24, 25, 26, 27, 28, 29, 30, 31] (by decide +kernel) (by decide +kernel)
set_option maxRecDepth 20000 in
theorem gX1_addProduct_X1_fail : GoodIn wsX1_addProduct (wsV RX1 64 RX1 yX1_fail wsX1_fail) := goodIn_app (goodIn_of _ (by decide +kernel)) ggX1_addProduct_X1_fail
theorem dX1_addProduct_0 : decode cX1_addProduct 0 = .ok (.aload_n 0, 1) := by decide +kernel
theorem dX1_addProduct_1 : decode cX1_addProduct 1 = .ok (.iconst 0, 1) := by decide +kernel
theorem dX1_addProduct_2 : decode cX1_addProduct 2 = .ok (.putfield 55, 3) := by decide +kernel
theorem dX1_addProduct_5 : decode cX1_addProduct 5 = .ok (.iload_n 1, 1) := by decide +kernel
theorem dX1_addProduct_6 : decode cX1_addProduct 6 = .ok (.iload_n 2, 1) := by decide +kernel
theorem dX1_addProduct_7 : decode cX1_addProduct 7 = .ok (.invokestatic 81, 3) := by decide +kernel
theorem dX1_addProduct_10 : decode cX1_addProduct 10 = .ok (.ifCond .ne 9, 3) := by decide +kernel
theorem dX1_addProduct_13 : decode cX1_addProduct 13 = .ok (.aload_n 0, 1) := by decide +kernel
theorem dX1_addProduct_14 : decode cX1_addProduct 14 = .ok (.iconst 1, 1) := by decide +kernel
theorem dX1_addProduct_15 : decode cX1_addProduct 15 = .ok (.invokevirtual 64, 3) := by decide +kernel
theorem dX1_addProduct_18 : decode cX1_addProduct 18 = .ok (.ireturn, 1) := by decide +kernel
theorem dX1_addProduct_19 : decode cX1_addProduct 19 = .ok (.aload_n 0, 1) := by decide +kernel
theorem dX1_addProduct_20 : decode cX1_addProduct 20 = .ok (.getfield 61, 3) := by decide +kernel
theorem dX1_addProduct_23 : decode cX1_addProduct 23 = .ok (.bipush 10, 2) := by decide +kernel
theorem dX1_addProduct_25 : decode cX1_addProduct 25 = .ok (.if_icmp .ne 9, 3) := by decide +kernel
theorem dX1_addProduct_28 : decode cX1_addProduct 28 = .ok (.aload_n 0, 1) := by decide +kernel
theorem dX1_addProduct_29 : decode cX1_addProduct 29 = .ok (.iconst 2, 1) := by decide +kernel
theorem dX1_addProduct_30 : decode cX1_addProduct 30 = .ok (.invokevirtual 64, 3) := by decide +kernel
theorem dX1_addProduct_33 : decode cX1_addProduct 33 = .ok (.ireturn, 1) := by decide +kernel
theorem dX1_addProduct_34 : decode cX1_addProduct 34 = .ok (.aload_n 0, 1) := by decide +kernel
theorem dX1_addProduct_35 : decode cX1_addProduct 35 = .ok (.getfield 32, 3) := by decide +kernel
theorem dX1_addProduct_38 : decode cX1_addProduct 38 = .ok (.aload_n 0, 1) := by decide +kernel
theorem dX1_addProduct_39 : decode cX1_addProduct 39 = .ok (.getfield 61, 3) := by decide +kernel
theorem dX1_addProduct_42 : decode cX1_addProduct 42 = .ok (.iload_n 1, 1) := by decide +kernel
theorem dX1_addProduct_43 : decode cX1_addProduct 43 = .ok (.iastore, 1) := by decide +kernel
theorem dX1_addProduct_44 : decode cX1_addProduct 44 = .ok (.aload_n 0, 1) := by decide +kernel
theorem dX1_addProduct_45 : decode cX1_addProduct 45 = .ok (.getfield 35, 3) := by decide +kernel
theorem dX1_addProduct_48 : decode cX1_addProduct 48 = .ok (.aload_n 0, 1) := by decide +kernel
theorem dX1_addProduct_49 : decode cX1_addProduct 49 = .ok (.getfield 61, 3) := by decide +kernel
theorem dX1_addProduct_52 : decode cX1_addProduct 52 = .ok (.iload_n 2, 1) := by decide +kernel
theorem dX1_addProduct_53 : decode cX1_addProduct 53 = .ok (.iastore, 1) := by decide +kernel
theorem dX1_addProduct_54 : decode cX1_addProduct 54 = .ok (.aload_n 0, 1) := by decide +kernel
theorem dX1_addProduct_55 : decode cX1_addProduct 55 = .ok (.dup, 1) := by decide +kernel
theorem dX1_addProduct_56 : decode cX1_addProduct 56 = .ok (.getfield 61, 3) := by decide +kernel
theorem dX1_addProduct_59 : decode cX1_addProduct 59 = .ok (.iconst 1, 1) := by decide +kernel
theorem dX1_addProduct_60 : decode cX1_addProduct 60 = .ok (.iadd, 1) := by decide +kernel
theorem dX1_addProduct_61 : decode cX1_addProduct 61 = .ok (.putfield 61, 3) := by decide +kernel
theorem dX1_addProduct_64 : decode cX1_addProduct 64 = .ok (.aload_n 0, 1) := by decide +kernel
theorem dX1_addProduct_65 : decode cX1_addProduct 65 = .ok (.getfield 61, 3) := by decide +kernel
theorem dX1_addProduct_68 : decode cX1_addProduct 68 = .ok (.iconst 1, 1) := by decide +kernel
theorem dX1_addProduct_69 : decode cX1_addProduct 69 = .ok (.isub, 1) := by decide +kernel
theorem dX1_addProduct_70 : decode cX1_addProduct 70 = .ok (.ireturn, 1) := by decide +kernel
set_option maxRecDepth 20000 in
theorem ggX1_setProduct_X1_isProduct : GoodIn wsX1_setProduct wsX1_isProduct := goodIn_r _ [8, 9, 17, 18, 19, 20, 21, 22, 23, 24, 25, 26, 27, 28, 29, 30, 31, 32, 33, 34, 35] (by decide +kernel) (by decide +kernel)
set_option maxRecDepth 20000 in
theorem gX1_setProduct_X1_isProduct : GoodIn wsX1_setProduct (wsV RX1 85 RX1 yX1_isProduct wsX1_isProduct) := goodIn_app (goodIn_of _ (by decide +kernel)) ggX1_setProduct_X1_isProduct
set_option maxRecDepth 20000 in
theorem ggX1_setProduct_X1_fail : GoodIn wsX1_setProduct wsX1_fail := goodIn_r _ [13, 1, 17, 18, 19, 20, 21, 22, 23, 24, 25, 26, 27, 28, 29, 30, 31, 32, 33, 34, 35] (by decide +kernel) (by decide +kernel)
set_option maxRecDepth 20000 in
theorem gX1_setProduct_X1_fail : GoodIn wsX1_setProduct (wsV RX1 64 RX1 yX1_fail wsX1_fail) := goodIn_app (goodIn_of _ (by decide +kernel)) ggX1_setProduct_X1_fail
set_option maxRecDepth 20000 in
theorem ggX1_setProduct_X1_isGoods : GoodIn wsX1_setProduct wsX1_isGoods := goodIn_r _ [16] (by decide +kernel) (by decide +kernel)
set_option maxRecDepth 20000 in
theorem gX1_setProduct_X1_isGoods : GoodIn wsX1_setProduct (va_wsS RX1 81 yX1_isGoods wsX1_isGoods) := goodIn_app (goodIn_of _ (by decide +kernel)) ggX1_setProduct_X1_isGoods
theorem dX1_setProduct_0 : decode cX1_setProduct 0 = .ok (.aload_n 0, 1) := by decide +kernel
theorem dX1_setProduct_1 : decode cX1_setProduct 1 = .ok (.iconst 0, 1) := by decide +kernel
theorem dX1_setProduct_2 : decode cX1_setProduct 2 = .ok (.putfield 55, 3) := by decide +kernel
theorem dX1_setProduct_5 : decode cX1_setProduct 5 = .ok (.aload_n 0, 1) := by decide +kernel
theorem dX1_setProduct_6 : decode cX1_setProduct 6 = .ok (.iload_n 1, 1) := by decide +kernel
theorem dX1_setProduct_7 : decode cX1_setProduct 7 = .ok (.invokevirtual 85, 3) := by decide +kernel
theorem dX1_setProduct_10 : decode cX1_setProduct 10 = .ok (.ifCond .ne 9, 3) := by decide +kernel
theorem dX1_setProduct_13 : decode cX1_setProduct 13 = .ok (.aload_n 0, 1) := by decide +kernel
theorem dX1_setProduct_14 : decode cX1_setProduct 14 = .ok (.iconst 1, 1) := by decide +kernel
theorem dX1_setProduct_15 : decode cX1_setProduct 15 = .ok (.invokevirtual 64, 3) := by decide +kernel
theorem dX1_setProduct_18 : decode cX1_setProduct 18 = .ok (.ireturn, 1) := by decide +kernel
theorem dX1_setProduct_19 : decode cX1_setProduct 19 = .ok (.iload_n 2, 1) := by decide +kernel
theorem dX1_setProduct_20 : decode cX1_setProduct 20 = .ok (.iload_n 3, 1) := by decide +kernel
theorem dX1_setProduct_21 : decode cX1_setProduct 21 = .ok (.invokestatic 81, 3) := by decide +kernel
theorem dX1_setProduct_24 : decode cX1_setProduct 24 = .ok (.ifCond .ne 9, 3) := by decide +kernel
theorem dX1_setProduct_27 : decode cX1_setProduct 27 = .ok (.aload_n 0, 1) := by decide +kernel
theorem dX1_setProduct_28 : decode cX1_setProduct 28 = .ok (.iconst 2, 1) := by decide +kernel
theorem dX1_setProduct_29 : decode cX1_setProduct 29 = .ok (.invokevirtual 64, 3) := by decide +kernel
theorem dX1_setProduct_32 : decode cX1_setProduct 32 = .ok (.ireturn, 1) := by decide +kernel
theorem dX1_setProduct_33 : decode cX1_setProduct 33 = .ok (.aload_n 0, 1) := by decide +kernel
theorem dX1_setProduct_34 : decode cX1_setProduct 34 = .ok (.getfield 32, 3) := by decide +kernel
theorem dX1_setProduct_37 : decode cX1_setProduct 37 = .ok (.iload_n 1, 1) := by decide +kernel
theorem dX1_setProduct_38 : decode cX1_setProduct 38 = .ok (.iaload, 1) := by decide +kernel
theorem dX1_setProduct_39 : decode cX1_setProduct 39 = .ok (.istore 4, 2) := by decide +kernel
theorem dX1_setProduct_41 : decode cX1_setProduct 41 = .ok (.aload_n 0, 1) := by decide +kernel
theorem dX1_setProduct_42 : decode cX1_setProduct 42 = .ok (.getfield 32, 3) := by decide +kernel
theorem dX1_setProduct_45 : decode cX1_setProduct 45 = .ok (.iload_n 1, 1) := by decide +kernel
theorem dX1_setProduct_46 : decode cX1_setProduct 46 = .ok (.iload_n 2, 1) := by decide +kernel
theorem dX1_setProduct_47 : decode cX1_setProduct 47 = .ok (.iastore, 1) := by decide +kernel
theorem dX1_setProduct_48 : decode cX1_setProduct 48 = .ok (.aload_n 0, 1) := by decide +kernel
theorem dX1_setProduct_49 : decode cX1_setProduct 49 = .ok (.getfield 35, 3) := by decide +kernel
theorem dX1_setProduct_52 : decode cX1_setProduct 52 = .ok (.iload_n 1, 1) := by decide +kernel
theorem dX1_setProduct_53 : decode cX1_setProduct 53 = .ok (.iload_n 3, 1) := by decide +kernel
theorem dX1_setProduct_54 : decode cX1_setProduct 54 = .ok (.iastore, 1) := by decide +kernel
theorem dX1_setProduct_55 : decode cX1_setProduct 55 = .ok (.iload 4, 2) := by decide +kernel
theorem dX1_setProduct_57 : decode cX1_setProduct 57 = .ok (.ireturn, 1) := by decide +kernel
set_option maxRecDepth 20000 in
theorem ggX1_product_X1_isProduct : GoodIn wsX1_product wsX1_isProduct := goodIn_r _ [8, 9, 14, 15, 16, 17, 18, 19, 20, 21, 22, 23, 24, 25, 26, 27, 28, 29, 30, 31, 32] (by decide +kernel) (by decide +kernel)
set_option maxRecDepth 20000 in
theorem gX1_product_X1_isProduct : GoodIn wsX1_product (wsV RX1 85 RX1 yX1_isProduct wsX1_isProduct) := goodIn_app (goodIn_of _ (by decide +kernel)) ggX1_product_X1_isProduct
set_option maxRecDepth 20000 in
theorem ggX1_product_X1_fail : GoodIn wsX1_product wsX1_fail := goodIn_r _ [13, 1, 14, 15, 16, 17, 18, 19, 20, 21, 22, 23, 24, 25, 26, 27, 28, 29, 30, 31, 32] (by decide +kernel) (by decide +kernel)
set_option maxRecDepth 20000 in
theorem gX1_product_X1_fail : GoodIn wsX1_product (wsV RX1 64 RX1 yX1_fail wsX1_fail) := goodIn_app (goodIn_of _ (by decide +kernel)) ggX1_product_X1_fail
theorem dX1_product_0 : decode cX1_product 0 = .ok (.aload_n 0, 1) := by decide +kernel
theorem dX1_product_1 : decode cX1_product 1 = .ok (.iconst 0, 1) := by decide +kernel
theorem dX1_product_2 : decode cX1_product 2 = .ok (.putfield 55, 3) := by decide +kernel
theorem dX1_product_5 : decode cX1_product 5 = .ok (.aload_n 0, 1) := by decide +kernel
theorem dX1_product_6 : decode cX1_product 6 = .ok (.iload_n 1, 1) := by decide +kernel
theorem dX1_product_7 : decode cX1_product 7 = .ok (.invokevirtual 85, 3) := by decide +kernel
theorem dX1_product_10 : decode cX1_product 10 = .ok (.ifCond .ne 11, 3) := by decide +kernel
theorem dX1_product_13 : decode cX1_product 13 = .ok (.aload_n 0, 1) := by decide +kernel
theorem dX1_product_14 : decode cX1_product 14 = .ok (.iconst 1, 1) := by decide +kernel
theorem dX1_product_15 : decode cX1_product 15 = .ok (.invokevirtual 64, 3) := by decide +kernel
theorem dX1_product_18 : decode cX1_product 18 = .ok (.goto 22, 3) := by decide +kernel
theorem dX1_product_21 : decode cX1_product 21 = .ok (.iload_n 2, 1) := by decide +kernel
theorem dX1_product_22 : decode cX1_product 22 = .ok (.ifCond .eq 12, 3) := by decide +kernel
theorem dX1_product_25 : decode cX1_product 25 = .ok (.aload_n 0, 1) := by decide +kernel
theorem dX1_product_26 : decode cX1_product 26 = .ok (.getfield 35, 3) := by decide +kernel
theorem dX1_product_29 : decode cX1_product 29 = .ok (.iload_n 1, 1) := by decide +kernel
theorem dX1_product_30 : decode cX1_product 30 = .ok (.iaload, 1) := by decide +kernel
theorem dX1_product_31 : decode cX1_product 31 = .ok (.goto 9, 3) := by decide +kernel
theorem dX1_product_34 : decode cX1_product 34 = .ok (.aload_n 0, 1) := by decide +kernel
theorem dX1_product_35 : decode cX1_product 35 = .ok (.getfield 32, 3) := by decide +kernel
theorem dX1_product_38 : decode cX1_product 38 = .ok (.iload_n 1, 1) := by decide +kernel
theorem dX1_product_39 : decode cX1_product 39 = .ok (.iaload, 1) := by decide +kernel
theorem dX1_product_40 : decode cX1_product 40 = .ok (.ireturn, 1) := by decide +kernel
theorem dX1_tabulate_0 : decode cX1_tabulate 0 = .ok (.iconst 0, 1) := by decide +kernel
theorem dX1_tabulate_1 : decode cX1_tabulate 1 = .ok (.istore_n 2, 1) := by decide +kernel
theorem dX1_tabulate_2 : decode cX1_tabulate 2 = .ok (.iload_n 2, 1) := by decide +kernel
theorem dX1_tabulate_3 : decode cX1_tabulate 3 = .ok (.iload_n 1, 1) := by decide +kernel
theorem dX1_tabulate_4 : decode cX1_tabulate 4 = .ok (.if_icmp .gt 24, 3) := by decide +kernel
theorem dX1_tabulate_7 : decode cX1_tabulate 7 = .ok (.aload_n 0, 1) := by decide +kernel
theorem dX1_tabulate_8 : decode cX1_tabulate 8 = .ok (.getfield 52, 3) := by decide +kernel
theorem dX1_tabulate_11 : decode cX1_tabulate 11 = .ok (.iload_n 2, 1) := by decide +kernel
theorem dX1_tabulate_12 : decode cX1_tabulate 12 = .ok (.iload_n 2, 1) := by decide +kernel
theorem dX1_tabulate_13 : decode cX1_tabulate 13 = .ok (.ifCond .ne 7, 3) := by decide +kernel
theorem dX1_tabulate_16 : decode cX1_tabulate 16 = .ok (.iconst 0, 1) := by decide +kernel
theorem dX1_tabulate_17 : decode cX1_tabulate 17 = .ok (.goto 4, 3) := by decide +kernel
theorem dX1_tabulate_20 : decode cX1_tabulate 20 = .ok (.iconst (-1), 1) := by decide +kernel
theorem dX1_tabulate_21 : decode cX1_tabulate 21 = .ok (.iastore, 1) := by decide +kernel
theorem dX1_tabulate_22 : decode cX1_tabulate 22 = .ok (.iinc 2 1, 3) := by decide +kernel
theorem dX1_tabulate_25 : decode cX1_tabulate 25 = .ok (.goto (-23), 3) := by decide +kernel
theorem dX1_tabulate_28 : decode cX1_tabulate 28 = .ok (.iconst 1, 1) := by decide +kernel
theorem dX1_tabulate_29 : decode cX1_tabulate 29 = .ok (.istore_n 2, 1) := by decide +kernel
theorem dX1_tabulate_30 : decode cX1_tabulate 30 = .ok (.iload_n 2, 1) := by decide +kernel
theorem dX1_tabulate_31 : decode cX1_tabulate 31 = .ok (.aload_n 0, 1) := by decide +kernel
theorem dX1_tabulate_32 : decode cX1_tabulate 32 = .ok (.getfield 58, 3) := by decide +kernel
theorem dX1_tabulate_35 : decode cX1_tabulate 35 = .ok (.if_icmp .gt 152, 3) := by decide +kernel
theorem dX1_tabulate_38 : decode cX1_tabulate 38 = .ok (.aload_n 0, 1) := by decide +kernel
theorem dX1_tabulate_39 : decode cX1_tabulate 39 = .ok (.getfield 9, 3) := by decide +kernel
theorem dX1_tabulate_42 : decode cX1_tabulate 42 = .ok (.aload_n 0, 1) := by decide +kernel
theorem dX1_tabulate_43 : decode cX1_tabulate 43 = .ok (.getfield 29, 3) := by decide +kernel
theorem dX1_tabulate_46 : decode cX1_tabulate 46 = .ok (.iload_n 2, 1) := by decide +kernel
theorem dX1_tabulate_47 : decode cX1_tabulate 47 = .ok (.iconst 1, 1) := by decide +kernel
theorem dX1_tabulate_48 : decode cX1_tabulate 48 = .ok (.isub, 1) := by decide +kernel
theorem dX1_tabulate_49 : decode cX1_tabulate 49 = .ok (.iaload, 1) := by decide +kernel
theorem dX1_tabulate_50 : decode cX1_tabulate 50 = .ok (.iaload, 1) := by decide +kernel
theorem dX1_tabulate_51 : decode cX1_tabulate 51 = .ok (.istore_n 3, 1) := by decide +kernel
theorem dX1_tabulate_52 : decode cX1_tabulate 52 = .ok (.aload_n 0, 1) := by decide +kernel
theorem dX1_tabulate_53 : decode cX1_tabulate 53 = .ok (.getfield 20, 3) := by decide +kernel
theorem dX1_tabulate_56 : decode cX1_tabulate 56 = .ok (.aload_n 0, 1) := by decide +kernel
theorem dX1_tabulate_57 : decode cX1_tabulate 57 = .ok (.getfield 29, 3) := by decide +kernel
theorem dX1_tabulate_60 : decode cX1_tabulate 60 = .ok (.iload_n 2, 1) := by decide +kernel
theorem dX1_tabulate_61 : decode cX1_tabulate 61 = .ok (.iconst 1, 1) := by decide +kernel
theorem dX1_tabulate_62 : decode cX1_tabulate 62 = .ok (.isub, 1) := by decide +kernel
theorem dX1_tabulate_63 : decode cX1_tabulate 63 = .ok (.iaload, 1) := by decide +kernel
theorem dX1_tabulate_64 : decode cX1_tabulate 64 = .ok (.iaload, 1) := by decide +kernel
theorem dX1_tabulate_65 : decode cX1_tabulate 65 = .ok (.istore 4, 2) := by decide +kernel
theorem dX1_tabulate_67 : decode cX1_tabulate 67 = .ok (.sipush 2001, 3) := by decide +kernel
theorem dX1_tabulate_70 : decode cX1_tabulate 70 = .ok (.iload_n 2, 1) := by decide +kernel
theorem dX1_tabulate_71 : decode cX1_tabulate 71 = .ok (.imul, 1) := by decide +kernel
theorem dX1_tabulate_72 : decode cX1_tabulate 72 = .ok (.istore 5, 2) := by decide +kernel
theorem dX1_tabulate_74 : decode cX1_tabulate 74 = .ok (.iconst 0, 1) := by decide +kernel
theorem dX1_tabulate_75 : decode cX1_tabulate 75 = .ok (.istore 6, 2) := by decide +kernel
theorem dX1_tabulate_77 : decode cX1_tabulate 77 = .ok (.iload 6, 2) := by decide +kernel
theorem dX1_tabulate_79 : decode cX1_tabulate 79 = .ok (.iload_n 1, 1) := by decide +kernel
theorem dX1_tabulate_80 : decode cX1_tabulate 80 = .ok (.if_icmp .gt 101, 3) := by decide +kernel
theorem dX1_tabulate_83 : decode cX1_tabulate 83 = .ok (.iconst (-1), 1) := by decide +kernel
theorem dX1_tabulate_84 : decode cX1_tabulate 84 = .ok (.istore 7, 2) := by decide +kernel
theorem dX1_tabulate_86 : decode cX1_tabulate 86 = .ok (.iconst 0, 1) := by decide +kernel
theorem dX1_tabulate_87 : decode cX1_tabulate 87 = .ok (.istore 8, 2) := by decide +kernel
theorem dX1_tabulate_89 : decode cX1_tabulate 89 = .ok (.iload 8, 2) := by decide +kernel
theorem dX1_tabulate_91 : decode cX1_tabulate 91 = .ok (.iload 4, 2) := by decide +kernel
theorem dX1_tabulate_93 : decode cX1_tabulate 93 = .ok (.if_icmp .gt 70, 3) := by decide +kernel
theorem dX1_tabulate_96 : decode cX1_tabulate 96 = .ok (.iload 8, 2) := by decide +kernel
theorem dX1_tabulate_98 : decode cX1_tabulate 98 = .ok (.iload_n 3, 1) := by decide +kernel
theorem dX1_tabulate_99 : decode cX1_tabulate 99 = .ok (.imul, 1) := by decide +kernel
theorem dX1_tabulate_100 : decode cX1_tabulate 100 = .ok (.iload 6, 2) := by decide +kernel
theorem dX1_tabulate_102 : decode cX1_tabulate 102 = .ok (.if_icmp .gt 61, 3) := by decide +kernel
theorem dX1_tabulate_105 : decode cX1_tabulate 105 = .ok (.aload_n 0, 1) := by decide +kernel
theorem dX1_tabulate_106 : decode cX1_tabulate 106 = .ok (.getfield 52, 3) := by decide +kernel
theorem dX1_tabulate_109 : decode cX1_tabulate 109 = .ok (.iload 5, 2) := by decide +kernel
theorem dX1_tabulate_111 : decode cX1_tabulate 111 = .ok (.sipush 2000, 3) := by decide +kernel
theorem dX1_tabulate_114 : decode cX1_tabulate 114 = .ok (.isub, 1) := by decide +kernel
theorem dX1_tabulate_115 : decode cX1_tabulate 115 = .ok (.iconst 1, 1) := by decide +kernel
theorem dX1_tabulate_116 : decode cX1_tabulate 116 = .ok (.isub, 1) := by decide +kernel
theorem dX1_tabulate_117 : decode cX1_tabulate 117 = .ok (.iload 6, 2) := by decide +kernel
theorem dX1_tabulate_119 : decode cX1_tabulate 119 = .ok (.iadd, 1) := by decide +kernel
theorem dX1_tabulate_120 : decode cX1_tabulate 120 = .ok (.iload 8, 2) := by decide +kernel
theorem dX1_tabulate_122 : decode cX1_tabulate 122 = .ok (.iload_n 3, 1) := by decide +kernel
theorem dX1_tabulate_123 : decode cX1_tabulate 123 = .ok (.imul, 1) := by decide +kernel
theorem dX1_tabulate_124 : decode cX1_tabulate 124 = .ok (.isub, 1) := by decide +kernel
theorem dX1_tabulate_125 : decode cX1_tabulate 125 = .ok (.iaload, 1) := by decide +kernel
theorem dX1_tabulate_126 : decode cX1_tabulate 126 = .ok (.istore 9, 2) := by decide +kernel
theorem dX1_tabulate_128 : decode cX1_tabulate 128 = .ok (.iload 9, 2) := by decide +kernel
theorem dX1_tabulate_130 : decode cX1_tabulate 130 = .ok (.iconst (-1), 1) := by decide +kernel
theorem dX1_tabulate_131 : decode cX1_tabulate 131 = .ok (.if_icmp .eq 26, 3) := by decide +kernel
theorem dX1_tabulate_134 : decode cX1_tabulate 134 = .ok (.iload 7, 2) := by decide +kernel
theorem dX1_tabulate_136 : decode cX1_tabulate 136 = .ok (.iconst (-1), 1) := by decide +kernel
theorem dX1_tabulate_137 : decode cX1_tabulate 137 = .ok (.if_icmp .eq 13, 3) := by decide +kernel
theorem dX1_tabulate_140 : decode cX1_tabulate 140 = .ok (.iload 9, 2) := by decide +kernel
theorem dX1_tabulate_142 : decode cX1_tabulate 142 = .ok (.iload 8, 2) := by decide +kernel
theorem dX1_tabulate_144 : decode cX1_tabulate 144 = .ok (.iadd, 1) := by decide +kernel
theorem dX1_tabulate_145 : decode cX1_tabulate 145 = .ok (.iload 7, 2) := by decide +kernel
theorem dX1_tabulate_147 : decode cX1_tabulate 147 = .ok (.if_icmp .ge 10, 3) := by decide +kernel
theorem dX1_tabulate_150 : decode cX1_tabulate 150 = .ok (.iload 9, 2) := by decide +kernel
theorem dX1_tabulate_152 : decode cX1_tabulate 152 = .ok (.iload 8, 2) := by decide +kernel
theorem dX1_tabulate_154 : decode cX1_tabulate 154 = .ok (.iadd, 1) := by decide +kernel
theorem dX1_tabulate_155 : decode cX1_tabulate 155 = .ok (.istore 7, 2) := by decide +kernel
theorem dX1_tabulate_157 : decode cX1_tabulate 157 = .ok (.iinc 8 1, 3) := by decide +kernel
theorem dX1_tabulate_160 : decode cX1_tabulate 160 = .ok (.goto (-71), 3) := by decide +kernel
theorem dX1_tabulate_163 : decode cX1_tabulate 163 = .ok (.aload_n 0, 1) := by decide +kernel
theorem dX1_tabulate_164 : decode cX1_tabulate 164 = .ok (.getfield 52, 3) := by decide +kernel
theorem dX1_tabulate_167 : decode cX1_tabulate 167 = .ok (.iload 5, 2) := by decide +kernel
theorem dX1_tabulate_169 : decode cX1_tabulate 169 = .ok (.iload 6, 2) := by decide +kernel
theorem dX1_tabulate_171 : decode cX1_tabulate 171 = .ok (.iadd, 1) := by decide +kernel
theorem dX1_tabulate_172 : decode cX1_tabulate 172 = .ok (.iload 7, 2) := by decide +kernel
theorem dX1_tabulate_174 : decode cX1_tabulate 174 = .ok (.iastore, 1) := by decide +kernel
theorem dX1_tabulate_175 : decode cX1_tabulate 175 = .ok (.iinc 6 1, 3) := by decide +kernel
theorem dX1_tabulate_178 : decode cX1_tabulate 178 = .ok (.goto (-101), 3) := by decide +kernel
theorem dX1_tabulate_181 : decode cX1_tabulate 181 = .ok (.iinc 2 1, 3) := by decide +kernel
theorem dX1_tabulate_184 : decode cX1_tabulate 184 = .ok (.goto (-154), 3) := by decide +kernel
theorem dX1_tabulate_187 : decode cX1_tabulate 187 = .ok (.return_, 1) := by decide +kernel
theorem dX1_inAll_0 : decode cX1_inAll 0 = .ok (.aload_n 0, 1) := by decide +kernel
theorem dX1_inAll_1 : decode cX1_inAll 1 = .ok (.getfield 52, 3) := by decide +kernel
theorem dX1_inAll_4 : decode cX1_inAll 4 = .ok (.sipush 2001, 3) := by decide +kernel
theorem dX1_inAll_7 : decode cX1_inAll 7 = .ok (.aload_n 0, 1) := by decide +kernel
theorem dX1_inAll_8 : decode cX1_inAll 8 = .ok (.getfield 58, 3) := by decide +kernel
theorem dX1_inAll_11 : decode cX1_inAll 11 = .ok (.imul, 1) := by decide +kernel
theorem dX1_inAll_12 : decode cX1_inAll 12 = .ok (.iload_n 1, 1) := by decide +kernel
theorem dX1_inAll_13 : decode cX1_inAll 13 = .ok (.iadd, 1) := by decide +kernel
theorem dX1_inAll_14 : decode cX1_inAll 14 = .ok (.iaload, 1) := by decide +kernel
theorem dX1_inAll_15 : decode cX1_inAll 15 = .ok (.ireturn, 1) := by decide +kernel
theorem dX1_partOf_0 : decode cX1_partOf 0 = .ok (.iload_n 1, 1) := by decide +kernel
theorem dX1_partOf_1 : decode cX1_partOf 1 = .ok (.istore_n 3, 1) := by decide +kernel
theorem dX1_partOf_2 : decode cX1_partOf 2 = .ok (.aload_n 0, 1) := by decide +kernel
theorem dX1_partOf_3 : decode cX1_partOf 3 = .ok (.getfield 58, 3) := by decide +kernel
theorem dX1_partOf_6 : decode cX1_partOf 6 = .ok (.istore 4, 2) := by decide +kernel
theorem dX1_partOf_8 : decode cX1_partOf 8 = .ok (.iload 4, 2) := by decide +kernel
theorem dX1_partOf_10 : decode cX1_partOf 10 = .ok (.ifCond .le 143, 3) := by decide +kernel
theorem dX1_partOf_13 : decode cX1_partOf 13 = .ok (.aload_n 0, 1) := by decide +kernel
theorem dX1_partOf_14 : decode cX1_partOf 14 = .ok (.getfield 9, 3) := by decide +kernel
theorem dX1_partOf_17 : decode cX1_partOf 17 = .ok (.aload_n 0, 1) := by decide +kernel
theorem dX1_partOf_18 : decode cX1_partOf 18 = .ok (.getfield 29, 3) := by decide +kernel
theorem dX1_partOf_21 : decode cX1_partOf 21 = .ok (.iload 4, 2) := by decide +kernel
theorem dX1_partOf_23 : decode cX1_partOf 23 = .ok (.iconst 1, 1) := by decide +kernel
theorem dX1_partOf_24 : decode cX1_partOf 24 = .ok (.isub, 1) := by decide +kernel
theorem dX1_partOf_25 : decode cX1_partOf 25 = .ok (.iaload, 1) := by decide +kernel
theorem dX1_partOf_26 : decode cX1_partOf 26 = .ok (.iaload, 1) := by decide +kernel
theorem dX1_partOf_27 : decode cX1_partOf 27 = .ok (.istore 5, 2) := by decide +kernel
theorem dX1_partOf_29 : decode cX1_partOf 29 = .ok (.sipush 2001, 3) := by decide +kernel
theorem dX1_partOf_32 : decode cX1_partOf 32 = .ok (.iload 4, 2) := by decide +kernel
theorem dX1_partOf_34 : decode cX1_partOf 34 = .ok (.iconst 1, 1) := by decide +kernel
theorem dX1_partOf_35 : decode cX1_partOf 35 = .ok (.isub, 1) := by decide +kernel
theorem dX1_partOf_36 : decode cX1_partOf 36 = .ok (.imul, 1) := by decide +kernel
theorem dX1_partOf_37 : decode cX1_partOf 37 = .ok (.istore 6, 2) := by decide +kernel
theorem dX1_partOf_39 : decode cX1_partOf 39 = .ok (.aload_n 0, 1) := by decide +kernel
theorem dX1_partOf_40 : decode cX1_partOf 40 = .ok (.getfield 20, 3) := by decide +kernel
theorem dX1_partOf_43 : decode cX1_partOf 43 = .ok (.aload_n 0, 1) := by decide +kernel
theorem dX1_partOf_44 : decode cX1_partOf 44 = .ok (.getfield 29, 3) := by decide +kernel
theorem dX1_partOf_47 : decode cX1_partOf 47 = .ok (.iload 4, 2) := by decide +kernel
theorem dX1_partOf_49 : decode cX1_partOf 49 = .ok (.iconst 1, 1) := by decide +kernel
theorem dX1_partOf_50 : decode cX1_partOf 50 = .ok (.isub, 1) := by decide +kernel
theorem dX1_partOf_51 : decode cX1_partOf 51 = .ok (.iaload, 1) := by decide +kernel
theorem dX1_partOf_52 : decode cX1_partOf 52 = .ok (.iaload, 1) := by decide +kernel
theorem dX1_partOf_53 : decode cX1_partOf 53 = .ok (.iload_n 3, 1) := by decide +kernel
theorem dX1_partOf_54 : decode cX1_partOf 54 = .ok (.iload 5, 2) := by decide +kernel
theorem dX1_partOf_56 : decode cX1_partOf 56 = .ok (.idiv, 1) := by decide +kernel
theorem dX1_partOf_57 : decode cX1_partOf 57 = .ok (.invokestatic 72, 3) := by decide +kernel
theorem dX1_partOf_60 : decode cX1_partOf 60 = .ok (.istore 7, 2) := by decide +kernel
theorem dX1_partOf_62 : decode cX1_partOf 62 = .ok (.aload_n 0, 1) := by decide +kernel
theorem dX1_partOf_63 : decode cX1_partOf 63 = .ok (.getfield 52, 3) := by decide +kernel
theorem dX1_partOf_66 : decode cX1_partOf 66 = .ok (.iload 6, 2) := by decide +kernel
theorem dX1_partOf_68 : decode cX1_partOf 68 = .ok (.iload_n 3, 1) := by decide +kernel
theorem dX1_partOf_69 : decode cX1_partOf 69 = .ok (.iadd, 1) := by decide +kernel
theorem dX1_partOf_70 : decode cX1_partOf 70 = .ok (.iload 7, 2) := by decide +kernel
theorem dX1_partOf_72 : decode cX1_partOf 72 = .ok (.iload 5, 2) := by decide +kernel
theorem dX1_partOf_74 : decode cX1_partOf 74 = .ok (.imul, 1) := by decide +kernel
theorem dX1_partOf_75 : decode cX1_partOf 75 = .ok (.isub, 1) := by decide +kernel
theorem dX1_partOf_76 : decode cX1_partOf 76 = .ok (.iaload, 1) := by decide +kernel
theorem dX1_partOf_77 : decode cX1_partOf 77 = .ok (.iconst (-1), 1) := by decide +kernel
theorem dX1_partOf_78 : decode cX1_partOf 78 = .ok (.if_icmp .eq 39, 3) := by decide +kernel
theorem dX1_partOf_81 : decode cX1_partOf 81 = .ok (.aload_n 0, 1) := by decide +kernel
theorem dX1_partOf_82 : decode cX1_partOf 82 = .ok (.getfield 52, 3) := by decide +kernel
theorem dX1_partOf_85 : decode cX1_partOf 85 = .ok (.iload 6, 2) := by decide +kernel
theorem dX1_partOf_87 : decode cX1_partOf 87 = .ok (.iload_n 3, 1) := by decide +kernel
theorem dX1_partOf_88 : decode cX1_partOf 88 = .ok (.iadd, 1) := by decide +kernel
theorem dX1_partOf_89 : decode cX1_partOf 89 = .ok (.iload 7, 2) := by decide +kernel
theorem dX1_partOf_91 : decode cX1_partOf 91 = .ok (.iload 5, 2) := by decide +kernel
theorem dX1_partOf_93 : decode cX1_partOf 93 = .ok (.imul, 1) := by decide +kernel
theorem dX1_partOf_94 : decode cX1_partOf 94 = .ok (.isub, 1) := by decide +kernel
theorem dX1_partOf_95 : decode cX1_partOf 95 = .ok (.iaload, 1) := by decide +kernel
theorem dX1_partOf_96 : decode cX1_partOf 96 = .ok (.iload 7, 2) := by decide +kernel
theorem dX1_partOf_98 : decode cX1_partOf 98 = .ok (.iadd, 1) := by decide +kernel
theorem dX1_partOf_99 : decode cX1_partOf 99 = .ok (.aload_n 0, 1) := by decide +kernel
theorem dX1_partOf_100 : decode cX1_partOf 100 = .ok (.getfield 52, 3) := by decide +kernel
theorem dX1_partOf_103 : decode cX1_partOf 103 = .ok (.iload 6, 2) := by decide +kernel
theorem dX1_partOf_105 : decode cX1_partOf 105 = .ok (.sipush 2000, 3) := by decide +kernel
theorem dX1_partOf_108 : decode cX1_partOf 108 = .ok (.iadd, 1) := by decide +kernel
theorem dX1_partOf_109 : decode cX1_partOf 109 = .ok (.iconst 1, 1) := by decide +kernel
theorem dX1_partOf_110 : decode cX1_partOf 110 = .ok (.iadd, 1) := by decide +kernel
theorem dX1_partOf_111 : decode cX1_partOf 111 = .ok (.iload_n 3, 1) := by decide +kernel
theorem dX1_partOf_112 : decode cX1_partOf 112 = .ok (.iadd, 1) := by decide +kernel
theorem dX1_partOf_113 : decode cX1_partOf 113 = .ok (.iaload, 1) := by decide +kernel
theorem dX1_partOf_114 : decode cX1_partOf 114 = .ok (.if_icmp .eq 9, 3) := by decide +kernel
theorem dX1_partOf_117 : decode cX1_partOf 117 = .ok (.iinc 7 (-1), 3) := by decide +kernel
theorem dX1_partOf_120 : decode cX1_partOf 120 = .ok (.goto (-58), 3) := by decide +kernel
theorem dX1_partOf_123 : decode cX1_partOf 123 = .ok (.aload_n 0, 1) := by decide +kernel
theorem dX1_partOf_124 : decode cX1_partOf 124 = .ok (.getfield 29, 3) := by decide +kernel
theorem dX1_partOf_127 : decode cX1_partOf 127 = .ok (.iload 4, 2) := by decide +kernel
theorem dX1_partOf_129 : decode cX1_partOf 129 = .ok (.iconst 1, 1) := by decide +kernel
theorem dX1_partOf_130 : decode cX1_partOf 130 = .ok (.isub, 1) := by decide +kernel
theorem dX1_partOf_131 : decode cX1_partOf 131 = .ok (.iaload, 1) := by decide +kernel
theorem dX1_partOf_132 : decode cX1_partOf 132 = .ok (.iload_n 2, 1) := by decide +kernel
theorem dX1_partOf_133 : decode cX1_partOf 133 = .ok (.if_icmp .ne 6, 3) := by decide +kernel
theorem dX1_partOf_136 : decode cX1_partOf 136 = .ok (.iload 7, 2) := by decide +kernel
theorem dX1_partOf_138 : decode cX1_partOf 138 = .ok (.ireturn, 1) := by decide +kernel
theorem dX1_partOf_139 : decode cX1_partOf 139 = .ok (.iload_n 3, 1) := by decide +kernel
theorem dX1_partOf_140 : decode cX1_partOf 140 = .ok (.iload 7, 2) := by decide +kernel
theorem dX1_partOf_142 : decode cX1_partOf 142 = .ok (.iload 5, 2) := by decide +kernel
theorem dX1_partOf_144 : decode cX1_partOf 144 = .ok (.imul, 1) := by decide +kernel
theorem dX1_partOf_145 : decode cX1_partOf 145 = .ok (.isub, 1) := by decide +kernel
theorem dX1_partOf_146 : decode cX1_partOf 146 = .ok (.istore_n 3, 1) := by decide +kernel
theorem dX1_partOf_147 : decode cX1_partOf 147 = .ok (.iinc 4 (-1), 3) := by decide +kernel
theorem dX1_partOf_150 : decode cX1_partOf 150 = .ok (.goto (-142), 3) := by decide +kernel
theorem dX1_partOf_153 : decode cX1_partOf 153 = .ok (.iconst 0, 1) := by decide +kernel
theorem dX1_partOf_154 : decode cX1_partOf 154 = .ok (.ireturn, 1) := by decide +kernel
set_option maxRecDepth 20000 in
theorem ggX1_pay_X1_tabulate : GoodIn wsX1_pay wsX1_tabulate := goodIn_r _ [8, 9, 1, 10, 11, 3, 24, 25, 26, 27, 28, 29, 30, 31, 32, 33, 34, 35, 36, 37, 38, 39, 40, 41, 42] (by decide +kernel) (by decide +kernel)
set_option maxRecDepth 20000 in
theorem gX1_pay_X1_tabulate : GoodIn wsX1_pay (wsV RX1 88 RX1 yX1_tabulate wsX1_tabulate) := goodIn_app (goodIn_of _ (by decide +kernel)) ggX1_pay_X1_tabulate
set_option maxRecDepth 20000 in
theorem ggX1_pay_X1_inAll : GoodIn wsX1_pay wsX1_inAll := goodIn_r _ [15, 9, 1, 24, 25, 26, 27, 28, 29, 30, 31, 32, 33, 34, 35, 36, 37, 38, 39, 40, 41, 42] (by decide +kernel) (by decide +kernel)
set_option maxRecDepth 20000 in
theorem gX1_pay_X1_inAll : GoodIn wsX1_pay (wsV RX1 92 RX1 yX1_inAll wsX1_inAll) := goodIn_app (goodIn_of _ (by decide +kernel)) ggX1_pay_X1_inAll
set_option maxRecDepth 20000 in
theorem ggX1_pay_X1_partOf : GoodIn wsX1_pay wsX1_partOf := goodIn_r _ [19, 1, 10, 11, 3, 20, 21, 22, 23, 9, 24, 25, 26, 27, 28, 29, 30, 31, 32, 33, 34, 35, 36, 37, 38, 39, 40, 41, 42] (by decide +kernel) (by decide +kernel)
set_option maxRecDepth 20000 in
theorem gX1_pay_X1_partOf : GoodIn wsX1_pay (wsV RX1 95 RX1 yX1_partOf wsX1_partOf) := goodIn_app (goodIn_of _ (by decide +kernel)) ggX1_pay_X1_partOf
theorem dX1_pay_0 : decode cX1_pay 0 = .ok (.aload_n 0, 1) := by decide +kernel
theorem dX1_pay_1 : decode cX1_pay 1 = .ok (.iload_n 1, 1) := by decide +kernel
theorem dX1_pay_2 : decode cX1_pay 2 = .ok (.invokevirtual 88, 3) := by decide +kernel
theorem dX1_pay_5 : decode cX1_pay 5 = .ok (.aload_n 0, 1) := by decide +kernel
theorem dX1_pay_6 : decode cX1_pay 6 = .ok (.iload_n 1, 1) := by decide +kernel
theorem dX1_pay_7 : decode cX1_pay 7 = .ok (.invokevirtual 92, 3) := by decide +kernel
theorem dX1_pay_10 : decode cX1_pay 10 = .ok (.iconst (-1), 1) := by decide +kernel
theorem dX1_pay_11 : decode cX1_pay 11 = .ok (.if_icmp .ne 5, 3) := by decide +kernel
theorem dX1_pay_14 : decode cX1_pay 14 = .ok (.iconst 0, 1) := by decide +kernel
theorem dX1_pay_15 : decode cX1_pay 15 = .ok (.ireturn, 1) := by decide +kernel
theorem dX1_pay_16 : decode cX1_pay 16 = .ok (.iconst 0, 1) := by decide +kernel
theorem dX1_pay_17 : decode cX1_pay 17 = .ok (.istore_n 2, 1) := by decide +kernel
theorem dX1_pay_18 : decode cX1_pay 18 = .ok (.iload_n 2, 1) := by decide +kernel
theorem dX1_pay_19 : decode cX1_pay 19 = .ok (.aload_n 0, 1) := by decide +kernel
theorem dX1_pay_20 : decode cX1_pay 20 = .ok (.getfield 58, 3) := by decide +kernel
theorem dX1_pay_23 : decode cX1_pay 23 = .ok (.if_icmp .ge 21, 3) := by decide +kernel
theorem dX1_pay_26 : decode cX1_pay 26 = .ok (.aload_n 0, 1) := by decide +kernel
theorem dX1_pay_27 : decode cX1_pay 27 = .ok (.getfield 26, 3) := by decide +kernel
theorem dX1_pay_30 : decode cX1_pay 30 = .ok (.iload_n 2, 1) := by decide +kernel
theorem dX1_pay_31 : decode cX1_pay 31 = .ok (.aload_n 0, 1) := by decide +kernel
theorem dX1_pay_32 : decode cX1_pay 32 = .ok (.iload_n 1, 1) := by decide +kernel
theorem dX1_pay_33 : decode cX1_pay 33 = .ok (.iload_n 2, 1) := by decide +kernel
theorem dX1_pay_34 : decode cX1_pay 34 = .ok (.invokevirtual 95, 3) := by decide +kernel
theorem dX1_pay_37 : decode cX1_pay 37 = .ok (.iastore, 1) := by decide +kernel
theorem dX1_pay_38 : decode cX1_pay 38 = .ok (.iinc 2 1, 3) := by decide +kernel
theorem dX1_pay_41 : decode cX1_pay 41 = .ok (.goto (-23), 3) := by decide +kernel
theorem dX1_pay_44 : decode cX1_pay 44 = .ok (.iconst 0, 1) := by decide +kernel
theorem dX1_pay_45 : decode cX1_pay 45 = .ok (.istore_n 2, 1) := by decide +kernel
theorem dX1_pay_46 : decode cX1_pay 46 = .ok (.iload_n 2, 1) := by decide +kernel
theorem dX1_pay_47 : decode cX1_pay 47 = .ok (.aload_n 0, 1) := by decide +kernel
theorem dX1_pay_48 : decode cX1_pay 48 = .ok (.getfield 58, 3) := by decide +kernel
theorem dX1_pay_51 : decode cX1_pay 51 = .ok (.if_icmp .ge 24, 3) := by decide +kernel
theorem dX1_pay_54 : decode cX1_pay 54 = .ok (.aload_n 0, 1) := by decide +kernel
theorem dX1_pay_55 : decode cX1_pay 55 = .ok (.getfield 20, 3) := by decide +kernel
theorem dX1_pay_58 : decode cX1_pay 58 = .ok (.iload_n 2, 1) := by decide +kernel
theorem dX1_pay_59 : decode cX1_pay 59 = .ok (.dup2, 1) := by decide +kernel
theorem dX1_pay_60 : decode cX1_pay 60 = .ok (.iaload, 1) := by decide +kernel
theorem dX1_pay_61 : decode cX1_pay 61 = .ok (.aload_n 0, 1) := by decide +kernel
theorem dX1_pay_62 : decode cX1_pay 62 = .ok (.getfield 26, 3) := by decide +kernel
theorem dX1_pay_65 : decode cX1_pay 65 = .ok (.iload_n 2, 1) := by decide +kernel
theorem dX1_pay_66 : decode cX1_pay 66 = .ok (.iaload, 1) := by decide +kernel
theorem dX1_pay_67 : decode cX1_pay 67 = .ok (.isub, 1) := by decide +kernel
theorem dX1_pay_68 : decode cX1_pay 68 = .ok (.iastore, 1) := by decide +kernel
theorem dX1_pay_69 : decode cX1_pay 69 = .ok (.iinc 2 1, 3) := by decide +kernel
theorem dX1_pay_72 : decode cX1_pay 72 = .ok (.goto (-26), 3) := by decide +kernel
theorem dX1_pay_75 : decode cX1_pay 75 = .ok (.iconst 1, 1) := by decide +kernel
theorem dX1_pay_76 : decode cX1_pay 76 = .ok (.ireturn, 1) := by decide +kernel
theorem dX1_creditNow_0 : decode cX1_creditNow 0 = .ok (.iconst 0, 1) := by decide +kernel
theorem dX1_creditNow_1 : decode cX1_creditNow 1 = .ok (.istore_n 1, 1) := by decide +kernel
theorem dX1_creditNow_2 : decode cX1_creditNow 2 = .ok (.iconst 0, 1) := by decide +kernel
theorem dX1_creditNow_3 : decode cX1_creditNow 3 = .ok (.istore_n 2, 1) := by decide +kernel
theorem dX1_creditNow_4 : decode cX1_creditNow 4 = .ok (.iload_n 2, 1) := by decide +kernel
theorem dX1_creditNow_5 : decode cX1_creditNow 5 = .ok (.aload_n 0, 1) := by decide +kernel
theorem dX1_creditNow_6 : decode cX1_creditNow 6 = .ok (.getfield 98, 3) := by decide +kernel
theorem dX1_creditNow_9 : decode cX1_creditNow 9 = .ok (.if_icmp .ge 23, 3) := by decide +kernel
theorem dX1_creditNow_12 : decode cX1_creditNow 12 = .ok (.iload_n 1, 1) := by decide +kernel
theorem dX1_creditNow_13 : decode cX1_creditNow 13 = .ok (.aload_n 0, 1) := by decide +kernel
theorem dX1_creditNow_14 : decode cX1_creditNow 14 = .ok (.getfield 9, 3) := by decide +kernel
theorem dX1_creditNow_17 : decode cX1_creditNow 17 = .ok (.aload_n 0, 1) := by decide +kernel
theorem dX1_creditNow_18 : decode cX1_creditNow 18 = .ok (.getfield 42, 3) := by decide +kernel
theorem dX1_creditNow_21 : decode cX1_creditNow 21 = .ok (.iload_n 2, 1) := by decide +kernel
theorem dX1_creditNow_22 : decode cX1_creditNow 22 = .ok (.iaload, 1) := by decide +kernel
theorem dX1_creditNow_23 : decode cX1_creditNow 23 = .ok (.iaload, 1) := by decide +kernel
theorem dX1_creditNow_24 : decode cX1_creditNow 24 = .ok (.iadd, 1) := by decide +kernel
theorem dX1_creditNow_25 : decode cX1_creditNow 25 = .ok (.istore_n 1, 1) := by decide +kernel
theorem dX1_creditNow_26 : decode cX1_creditNow 26 = .ok (.iinc 2 1, 3) := by decide +kernel
theorem dX1_creditNow_29 : decode cX1_creditNow 29 = .ok (.goto (-25), 3) := by decide +kernel
theorem dX1_creditNow_32 : decode cX1_creditNow 32 = .ok (.iload_n 1, 1) := by decide +kernel
theorem dX1_creditNow_33 : decode cX1_creditNow 33 = .ok (.ireturn, 1) := by decide +kernel
set_option maxRecDepth 20000 in
theorem ggX1_insert_X1_isKind : GoodIn wsX1_insert wsX1_isKind := goodIn_r _ [12, 13, 22, 23, 24, 25, 26, 27, 28, 29, 30, 31, 32, 33, 34, 35, 36, 37, 38, 39, 40] (by decide +kernel) (by decide +kernel)
set_option maxRecDepth 20000 in
theorem gX1_insert_X1_isKind : GoodIn wsX1_insert (wsV RX1 68 RX1 yX1_isKind wsX1_isKind) := goodIn_app (goodIn_of _ (by decide +kernel)) ggX1_insert_X1_isKind
set_option maxRecDepth 20000 in
theorem ggX1_insert_X1_fail : GoodIn wsX1_insert wsX1_fail := goodIn_r _ [17, 1, 22, 23, 24, 25, 26, 27, 28, 29, 30, 31, 32, 33, 34, 35, 36, 37, 38, 39, 40] (by decide +kernel) (by decide +kernel)
set_option maxRecDepth 20000 in
theorem gX1_insert_X1_fail : GoodIn wsX1_insert (wsV RX1 64 RX1 yX1_fail wsX1_fail) := goodIn_app (goodIn_of _ (by decide +kernel)) ggX1_insert_X1_fail
set_option maxRecDepth 20000 in
theorem ggX1_insert_X1_creditNow : GoodIn wsX1_insert wsX1_creditNow := goodIn_r _ [21, 3, 4, 6, 22, 23, 24, 25, 26, 27, 28, 29, 30, 31, 32, 33, 34, 35, 36, 37, 38, 39, 40] (by decide +kernel) (by decide +kernel)
set_option maxRecDepth 20000 in
theorem gX1_insert_X1_creditNow : GoodIn wsX1_insert (wsV RX1 101 RX1 yX1_creditNow wsX1_creditNow) := goodIn_app (goodIn_of _ (by decide +kernel)) ggX1_insert_X1_creditNow
theorem dX1_insert_0 : decode cX1_insert 0 = .ok (.aload_n 0, 1) := by decide +kernel
theorem dX1_insert_1 : decode cX1_insert 1 = .ok (.iconst 0, 1) := by decide +kernel
theorem dX1_insert_2 : decode cX1_insert 2 = .ok (.putfield 55, 3) := by decide +kernel
theorem dX1_insert_5 : decode cX1_insert 5 = .ok (.aload_n 0, 1) := by decide +kernel
theorem dX1_insert_6 : decode cX1_insert 6 = .ok (.iload_n 1, 1) := by decide +kernel
theorem dX1_insert_7 : decode cX1_insert 7 = .ok (.invokevirtual 68, 3) := by decide +kernel
theorem dX1_insert_10 : decode cX1_insert 10 = .ok (.ifCond .ne 9, 3) := by decide +kernel
theorem dX1_insert_13 : decode cX1_insert 13 = .ok (.aload_n 0, 1) := by decide +kernel
theorem dX1_insert_14 : decode cX1_insert 14 = .ok (.iconst 1, 1) := by decide +kernel
theorem dX1_insert_15 : decode cX1_insert 15 = .ok (.invokevirtual 64, 3) := by decide +kernel
theorem dX1_insert_18 : decode cX1_insert 18 = .ok (.ireturn, 1) := by decide +kernel
theorem dX1_insert_19 : decode cX1_insert 19 = .ok (.aload_n 0, 1) := by decide +kernel
theorem dX1_insert_20 : decode cX1_insert 20 = .ok (.getfield 16, 3) := by decide +kernel
theorem dX1_insert_23 : decode cX1_insert 23 = .ok (.iload_n 1, 1) := by decide +kernel
theorem dX1_insert_24 : decode cX1_insert 24 = .ok (.baload, 1) := by decide +kernel
theorem dX1_insert_25 : decode cX1_insert 25 = .ok (.ifCond .ne 5, 3) := by decide +kernel
theorem dX1_insert_28 : decode cX1_insert 28 = .ok (.iconst 1, 1) := by decide +kernel
theorem dX1_insert_29 : decode cX1_insert 29 = .ok (.ireturn, 1) := by decide +kernel
theorem dX1_insert_30 : decode cX1_insert 30 = .ok (.aload_n 0, 1) := by decide +kernel
theorem dX1_insert_31 : decode cX1_insert 31 = .ok (.getfield 98, 3) := by decide +kernel
theorem dX1_insert_34 : decode cX1_insert 34 = .ok (.bipush 12, 2) := by decide +kernel
theorem dX1_insert_36 : decode cX1_insert 36 = .ok (.if_icmp .ne 5, 3) := by decide +kernel
theorem dX1_insert_39 : decode cX1_insert 39 = .ok (.iconst 2, 1) := by decide +kernel
theorem dX1_insert_40 : decode cX1_insert 40 = .ok (.ireturn, 1) := by decide +kernel
theorem dX1_insert_41 : decode cX1_insert 41 = .ok (.aload_n 0, 1) := by decide +kernel
theorem dX1_insert_42 : decode cX1_insert 42 = .ok (.invokevirtual 101, 3) := by decide +kernel
theorem dX1_insert_45 : decode cX1_insert 45 = .ok (.aload_n 0, 1) := by decide +kernel
theorem dX1_insert_46 : decode cX1_insert 46 = .ok (.getfield 9, 3) := by decide +kernel
theorem dX1_insert_49 : decode cX1_insert 49 = .ok (.iload_n 1, 1) := by decide +kernel
theorem dX1_insert_50 : decode cX1_insert 50 = .ok (.iaload, 1) := by decide +kernel
theorem dX1_insert_51 : decode cX1_insert 51 = .ok (.iadd, 1) := by decide +kernel
theorem dX1_insert_52 : decode cX1_insert 52 = .ok (.aload_n 0, 1) := by decide +kernel
theorem dX1_insert_53 : decode cX1_insert 53 = .ok (.getfield 38, 3) := by decide +kernel
theorem dX1_insert_56 : decode cX1_insert 56 = .ok (.if_icmp .le 5, 3) := by decide +kernel
theorem dX1_insert_59 : decode cX1_insert 59 = .ok (.iconst 3, 1) := by decide +kernel
theorem dX1_insert_60 : decode cX1_insert 60 = .ok (.ireturn, 1) := by decide +kernel
theorem dX1_insert_61 : decode cX1_insert 61 = .ok (.aload_n 0, 1) := by decide +kernel
theorem dX1_insert_62 : decode cX1_insert 62 = .ok (.getfield 42, 3) := by decide +kernel
theorem dX1_insert_65 : decode cX1_insert 65 = .ok (.aload_n 0, 1) := by decide +kernel
theorem dX1_insert_66 : decode cX1_insert 66 = .ok (.getfield 98, 3) := by decide +kernel
theorem dX1_insert_69 : decode cX1_insert 69 = .ok (.iload_n 1, 1) := by decide +kernel
theorem dX1_insert_70 : decode cX1_insert 70 = .ok (.iastore, 1) := by decide +kernel
theorem dX1_insert_71 : decode cX1_insert 71 = .ok (.aload_n 0, 1) := by decide +kernel
theorem dX1_insert_72 : decode cX1_insert 72 = .ok (.dup, 1) := by decide +kernel
theorem dX1_insert_73 : decode cX1_insert 73 = .ok (.getfield 98, 3) := by decide +kernel
theorem dX1_insert_76 : decode cX1_insert 76 = .ok (.iconst 1, 1) := by decide +kernel
theorem dX1_insert_77 : decode cX1_insert 77 = .ok (.iadd, 1) := by decide +kernel
theorem dX1_insert_78 : decode cX1_insert 78 = .ok (.putfield 98, 3) := by decide +kernel
theorem dX1_insert_81 : decode cX1_insert 81 = .ok (.aload_n 0, 1) := by decide +kernel
theorem dX1_insert_82 : decode cX1_insert 82 = .ok (.getfield 48, 3) := by decide +kernel
theorem dX1_insert_85 : decode cX1_insert 85 = .ok (.iconst 0, 1) := by decide +kernel
theorem dX1_insert_86 : decode cX1_insert 86 = .ok (.dup2, 1) := by decide +kernel
theorem dX1_insert_87 : decode cX1_insert 87 = .ok (.laload, 1) := by decide +kernel
theorem dX1_insert_88 : decode cX1_insert 88 = .ok (.aload_n 0, 1) := by decide +kernel
theorem dX1_insert_89 : decode cX1_insert 89 = .ok (.getfield 9, 3) := by decide +kernel
theorem dX1_insert_92 : decode cX1_insert 92 = .ok (.iload_n 1, 1) := by decide +kernel
theorem dX1_insert_93 : decode cX1_insert 93 = .ok (.iaload, 1) := by decide +kernel
theorem dX1_insert_94 : decode cX1_insert 94 = .ok (.i2l, 1) := by decide +kernel
theorem dX1_insert_95 : decode cX1_insert 95 = .ok (.ladd, 1) := by decide +kernel
theorem dX1_insert_96 : decode cX1_insert 96 = .ok (.lastore, 1) := by decide +kernel
theorem dX1_insert_97 : decode cX1_insert 97 = .ok (.iconst 0, 1) := by decide +kernel
theorem dX1_insert_98 : decode cX1_insert 98 = .ok (.ireturn, 1) := by decide +kernel
set_option maxRecDepth 20000 in
theorem ggX1_cancel_X1_creditNow : GoodIn wsX1_cancel wsX1_creditNow := goodIn_r _ [8, 2, 9, 10, 11, 12, 13, 14, 15, 16, 17, 18, 19, 20, 21, 22, 23, 24, 25, 26, 27, 28, 29] (by decide +kernel) (by decide +kernel)
set_option maxRecDepth 20000 in
theorem gX1_cancel_X1_creditNow : GoodIn wsX1_cancel (wsV RX1 101 RX1 yX1_creditNow wsX1_creditNow) := goodIn_app (goodIn_of _ (by decide +kernel)) ggX1_cancel_X1_creditNow
theorem dX1_cancel_0 : decode cX1_cancel 0 = .ok (.aload_n 0, 1) := by decide +kernel
theorem dX1_cancel_1 : decode cX1_cancel 1 = .ok (.iconst 0, 1) := by decide +kernel
theorem dX1_cancel_2 : decode cX1_cancel 2 = .ok (.putfield 55, 3) := by decide +kernel
theorem dX1_cancel_5 : decode cX1_cancel 5 = .ok (.aload_n 0, 1) := by decide +kernel
theorem dX1_cancel_6 : decode cX1_cancel 6 = .ok (.invokevirtual 101, 3) := by decide +kernel
theorem dX1_cancel_9 : decode cX1_cancel 9 = .ok (.istore_n 1, 1) := by decide +kernel
theorem dX1_cancel_10 : decode cX1_cancel 10 = .ok (.aload_n 0, 1) := by decide +kernel
theorem dX1_cancel_11 : decode cX1_cancel 11 = .ok (.iconst 0, 1) := by decide +kernel
theorem dX1_cancel_12 : decode cX1_cancel 12 = .ok (.putfield 98, 3) := by decide +kernel
theorem dX1_cancel_15 : decode cX1_cancel 15 = .ok (.aload_n 0, 1) := by decide +kernel
theorem dX1_cancel_16 : decode cX1_cancel 16 = .ok (.getfield 48, 3) := by decide +kernel
theorem dX1_cancel_19 : decode cX1_cancel 19 = .ok (.iconst 1, 1) := by decide +kernel
theorem dX1_cancel_20 : decode cX1_cancel 20 = .ok (.dup2, 1) := by decide +kernel
theorem dX1_cancel_21 : decode cX1_cancel 21 = .ok (.laload, 1) := by decide +kernel
theorem dX1_cancel_22 : decode cX1_cancel 22 = .ok (.iload_n 1, 1) := by decide +kernel
theorem dX1_cancel_23 : decode cX1_cancel 23 = .ok (.i2l, 1) := by decide +kernel
theorem dX1_cancel_24 : decode cX1_cancel 24 = .ok (.ladd, 1) := by decide +kernel
theorem dX1_cancel_25 : decode cX1_cancel 25 = .ok (.lastore, 1) := by decide +kernel
theorem dX1_cancel_26 : decode cX1_cancel 26 = .ok (.iload_n 1, 1) := by decide +kernel
theorem dX1_cancel_27 : decode cX1_cancel 27 = .ok (.ireturn, 1) := by decide +kernel
set_option maxRecDepth 20000 in
theorem ggX1_buy_X1_isProduct : GoodIn wsX1_buy wsX1_isProduct := goodIn_r _ [22, 23, 57, 58, 59, 60, 61, 62, 63, 64, 65, 66, 67, 68, 69, 70, 71, 72, 73, 74, 75] (by decide +kernel) (by decide +kernel)
set_option maxRecDepth 20000 in
theorem gX1_buy_X1_isProduct : GoodIn wsX1_buy (wsV RX1 85 RX1 yX1_isProduct wsX1_isProduct) := goodIn_app (goodIn_of _ (by decide +kernel)) ggX1_buy_X1_isProduct
set_option maxRecDepth 20000 in
theorem ggX1_buy_X1_fail : GoodIn wsX1_buy wsX1_fail := goodIn_r _ [27, 1, 57, 58, 59, 60, 61, 62, 63, 64, 65, 66, 67, 68, 69, 70, 71, 72, 73, 74, 75] (by decide +kernel) (by decide +kernel)
set_option maxRecDepth 20000 in
theorem gX1_buy_X1_fail : GoodIn wsX1_buy (wsV RX1 64 RX1 yX1_fail wsX1_fail) := goodIn_app (goodIn_of _ (by decide +kernel)) ggX1_buy_X1_fail
set_option maxRecDepth 20000 in
theorem ggX1_buy_X1_creditNow : GoodIn wsX1_buy wsX1_creditNow := goodIn_r _ [31, 12, 32, 13, 57, 58, 59, 60, 61, 62, 63, 64, 65, 66, 67, 68, 69, 70, 71, 72, 73, 74, 75] (by decide +kernel) (by decide +kernel)
set_option maxRecDepth 20000 in
theorem gX1_buy_X1_creditNow : GoodIn wsX1_buy (wsV RX1 101 RX1 yX1_creditNow wsX1_creditNow) := goodIn_app (goodIn_of _ (by decide +kernel)) ggX1_buy_X1_creditNow
set_option maxRecDepth 20000 in
theorem ggX1_buy_X1_pay : GoodIn wsX1_buy wsX1_pay := goodIn_r _ [36, 37, 38, 4, 39, 40, 41, 21, 42, 43, 32, 44, 45, 46, 47, 48, 49, 50, 51, 52, 53, 54, 55, 56, 57, 58, 59, 60, 61, 62, 63, 64, 65, 66, 67, 68, 69, 70, 71, 72, 73, 74, 75] (by decide +kernel) (by decide +kernel)
set_option maxRecDepth 20000 in
theorem gX1_buy_X1_pay : GoodIn wsX1_buy (wsV RX1 110 RX1 yX1_pay wsX1_pay) := goodIn_app (goodIn_of _ (by decide +kernel)) ggX1_buy_X1_pay
theorem dX1_buy_0 : decode cX1_buy 0 = .ok (.aload_n 0, 1) := by decide +kernel
theorem dX1_buy_1 : decode cX1_buy 1 = .ok (.iconst 0, 1) := by decide +kernel
theorem dX1_buy_2 : decode cX1_buy 2 = .ok (.putfield 55, 3) := by decide +kernel
theorem dX1_buy_5 : decode cX1_buy 5 = .ok (.aload_n 0, 1) := by decide +kernel
theorem dX1_buy_6 : decode cX1_buy 6 = .ok (.iload_n 1, 1) := by decide +kernel
theorem dX1_buy_7 : decode cX1_buy 7 = .ok (.invokevirtual 85, 3) := by decide +kernel
theorem dX1_buy_10 : decode cX1_buy 10 = .ok (.ifCond .ne 9, 3) := by decide +kernel
theorem dX1_buy_13 : decode cX1_buy 13 = .ok (.aload_n 0, 1) := by decide +kernel
theorem dX1_buy_14 : decode cX1_buy 14 = .ok (.iconst 1, 1) := by decide +kernel
theorem dX1_buy_15 : decode cX1_buy 15 = .ok (.invokevirtual 64, 3) := by decide +kernel
theorem dX1_buy_18 : decode cX1_buy 18 = .ok (.ireturn, 1) := by decide +kernel
theorem dX1_buy_19 : decode cX1_buy 19 = .ok (.aload_n 0, 1) := by decide +kernel
theorem dX1_buy_20 : decode cX1_buy 20 = .ok (.getfield 35, 3) := by decide +kernel
theorem dX1_buy_23 : decode cX1_buy 23 = .ok (.iload_n 1, 1) := by decide +kernel
theorem dX1_buy_24 : decode cX1_buy 24 = .ok (.iaload, 1) := by decide +kernel
theorem dX1_buy_25 : decode cX1_buy 25 = .ok (.ifCond .ne 5, 3) := by decide +kernel
theorem dX1_buy_28 : decode cX1_buy 28 = .ok (.iconst 1, 1) := by decide +kernel
theorem dX1_buy_29 : decode cX1_buy 29 = .ok (.ireturn, 1) := by decide +kernel
theorem dX1_buy_30 : decode cX1_buy 30 = .ok (.aload_n 0, 1) := by decide +kernel
theorem dX1_buy_31 : decode cX1_buy 31 = .ok (.invokevirtual 101, 3) := by decide +kernel
theorem dX1_buy_34 : decode cX1_buy 34 = .ok (.aload_n 0, 1) := by decide +kernel
theorem dX1_buy_35 : decode cX1_buy 35 = .ok (.getfield 32, 3) := by decide +kernel
theorem dX1_buy_38 : decode cX1_buy 38 = .ok (.iload_n 1, 1) := by decide +kernel
theorem dX1_buy_39 : decode cX1_buy 39 = .ok (.iaload, 1) := by decide +kernel
theorem dX1_buy_40 : decode cX1_buy 40 = .ok (.isub, 1) := by decide +kernel
theorem dX1_buy_41 : decode cX1_buy 41 = .ok (.istore_n 2, 1) := by decide +kernel
theorem dX1_buy_42 : decode cX1_buy 42 = .ok (.iload_n 2, 1) := by decide +kernel
theorem dX1_buy_43 : decode cX1_buy 43 = .ok (.ifCond .ge 5, 3) := by decide +kernel
theorem dX1_buy_46 : decode cX1_buy 46 = .ok (.iconst 2, 1) := by decide +kernel
theorem dX1_buy_47 : decode cX1_buy 47 = .ok (.ireturn, 1) := by decide +kernel
theorem dX1_buy_48 : decode cX1_buy 48 = .ok (.aload_n 0, 1) := by decide +kernel
theorem dX1_buy_49 : decode cX1_buy 49 = .ok (.getfield 20, 3) := by decide +kernel
theorem dX1_buy_52 : decode cX1_buy 52 = .ok (.invokevirtual 105, 3) := by decide +kernel
theorem dX1_buy_55 : decode cX1_buy 55 = .ok (.checkcast 106, 3) := by decide +kernel
theorem dX1_buy_58 : decode cX1_buy 58 = .ok (.astore_n 3, 1) := by decide +kernel
theorem dX1_buy_59 : decode cX1_buy 59 = .ok (.aload_n 0, 1) := by decide +kernel
theorem dX1_buy_60 : decode cX1_buy 60 = .ok (.getfield 23, 3) := by decide +kernel
theorem dX1_buy_63 : decode cX1_buy 63 = .ok (.invokevirtual 105, 3) := by decide +kernel
theorem dX1_buy_66 : decode cX1_buy 66 = .ok (.checkcast 106, 3) := by decide +kernel
theorem dX1_buy_69 : decode cX1_buy 69 = .ok (.astore 4, 2) := by decide +kernel
theorem dX1_buy_71 : decode cX1_buy 71 = .ok (.iconst 0, 1) := by decide +kernel
theorem dX1_buy_72 : decode cX1_buy 72 = .ok (.istore 5, 2) := by decide +kernel
theorem dX1_buy_74 : decode cX1_buy 74 = .ok (.iload 5, 2) := by decide +kernel
theorem dX1_buy_76 : decode cX1_buy 76 = .ok (.aload_n 0, 1) := by decide +kernel
theorem dX1_buy_77 : decode cX1_buy 77 = .ok (.getfield 98, 3) := by decide +kernel
theorem dX1_buy_80 : decode cX1_buy 80 = .ok (.if_icmp .ge 71, 3) := by decide +kernel
theorem dX1_buy_83 : decode cX1_buy 83 = .ok (.aload_n 0, 1) := by decide +kernel
theorem dX1_buy_84 : decode cX1_buy 84 = .ok (.getfield 20, 3) := by decide +kernel
theorem dX1_buy_87 : decode cX1_buy 87 = .ok (.aload_n 0, 1) := by decide +kernel
theorem dX1_buy_88 : decode cX1_buy 88 = .ok (.getfield 42, 3) := by decide +kernel
theorem dX1_buy_91 : decode cX1_buy 91 = .ok (.iload 5, 2) := by decide +kernel
theorem dX1_buy_93 : decode cX1_buy 93 = .ok (.iaload, 1) := by decide +kernel
theorem dX1_buy_94 : decode cX1_buy 94 = .ok (.iaload, 1) := by decide +kernel
theorem dX1_buy_95 : decode cX1_buy 95 = .ok (.aload_n 0, 1) := by decide +kernel
theorem dX1_buy_96 : decode cX1_buy 96 = .ok (.getfield 13, 3) := by decide +kernel
theorem dX1_buy_99 : decode cX1_buy 99 = .ok (.aload_n 0, 1) := by decide +kernel
theorem dX1_buy_100 : decode cX1_buy 100 = .ok (.getfield 42, 3) := by decide +kernel
theorem dX1_buy_103 : decode cX1_buy 103 = .ok (.iload 5, 2) := by decide +kernel
theorem dX1_buy_105 : decode cX1_buy 105 = .ok (.iaload, 1) := by decide +kernel
theorem dX1_buy_106 : decode cX1_buy 106 = .ok (.iaload, 1) := by decide +kernel
theorem dX1_buy_107 : decode cX1_buy 107 = .ok (.if_icmp .ge 22, 3) := by decide +kernel
theorem dX1_buy_110 : decode cX1_buy 110 = .ok (.aload_n 0, 1) := by decide +kernel
theorem dX1_buy_111 : decode cX1_buy 111 = .ok (.getfield 20, 3) := by decide +kernel
theorem dX1_buy_114 : decode cX1_buy 114 = .ok (.aload_n 0, 1) := by decide +kernel
theorem dX1_buy_115 : decode cX1_buy 115 = .ok (.getfield 42, 3) := by decide +kernel
theorem dX1_buy_118 : decode cX1_buy 118 = .ok (.iload 5, 2) := by decide +kernel
theorem dX1_buy_120 : decode cX1_buy 120 = .ok (.iaload, 1) := by decide +kernel
theorem dX1_buy_121 : decode cX1_buy 121 = .ok (.dup2, 1) := by decide +kernel
theorem dX1_buy_122 : decode cX1_buy 122 = .ok (.iaload, 1) := by decide +kernel
theorem dX1_buy_123 : decode cX1_buy 123 = .ok (.iconst 1, 1) := by decide +kernel
theorem dX1_buy_124 : decode cX1_buy 124 = .ok (.iadd, 1) := by decide +kernel
theorem dX1_buy_125 : decode cX1_buy 125 = .ok (.iastore, 1) := by decide +kernel
theorem dX1_buy_126 : decode cX1_buy 126 = .ok (.goto 19, 3) := by decide +kernel
theorem dX1_buy_129 : decode cX1_buy 129 = .ok (.aload_n 0, 1) := by decide +kernel
theorem dX1_buy_130 : decode cX1_buy 130 = .ok (.getfield 23, 3) := by decide +kernel
theorem dX1_buy_133 : decode cX1_buy 133 = .ok (.aload_n 0, 1) := by decide +kernel
theorem dX1_buy_134 : decode cX1_buy 134 = .ok (.getfield 42, 3) := by decide +kernel
theorem dX1_buy_137 : decode cX1_buy 137 = .ok (.iload 5, 2) := by decide +kernel
theorem dX1_buy_139 : decode cX1_buy 139 = .ok (.iaload, 1) := by decide +kernel
theorem dX1_buy_140 : decode cX1_buy 140 = .ok (.dup2, 1) := by decide +kernel
theorem dX1_buy_141 : decode cX1_buy 141 = .ok (.iaload, 1) := by decide +kernel
theorem dX1_buy_142 : decode cX1_buy 142 = .ok (.iconst 1, 1) := by decide +kernel
theorem dX1_buy_143 : decode cX1_buy 143 = .ok (.iadd, 1) := by decide +kernel
theorem dX1_buy_144 : decode cX1_buy 144 = .ok (.iastore, 1) := by decide +kernel
theorem dX1_buy_145 : decode cX1_buy 145 = .ok (.iinc 5 1, 3) := by decide +kernel
theorem dX1_buy_148 : decode cX1_buy 148 = .ok (.goto (-74), 3) := by decide +kernel
theorem dX1_buy_151 : decode cX1_buy 151 = .ok (.aload_n 0, 1) := by decide +kernel
theorem dX1_buy_152 : decode cX1_buy 152 = .ok (.iload_n 2, 1) := by decide +kernel
theorem dX1_buy_153 : decode cX1_buy 153 = .ok (.invokevirtual 110, 3) := by decide +kernel
theorem dX1_buy_156 : decode cX1_buy 156 = .ok (.ifCond .ne 44, 3) := by decide +kernel
theorem dX1_buy_159 : decode cX1_buy 159 = .ok (.iconst 0, 1) := by decide +kernel
theorem dX1_buy_160 : decode cX1_buy 160 = .ok (.istore 5, 2) := by decide +kernel
theorem dX1_buy_162 : decode cX1_buy 162 = .ok (.iload 5, 2) := by decide +kernel
theorem dX1_buy_164 : decode cX1_buy 164 = .ok (.bipush 8, 2) := by decide +kernel
theorem dX1_buy_166 : decode cX1_buy 166 = .ok (.if_icmp .ge 32, 3) := by decide +kernel
theorem dX1_buy_169 : decode cX1_buy 169 = .ok (.aload_n 0, 1) := by decide +kernel
theorem dX1_buy_170 : decode cX1_buy 170 = .ok (.getfield 20, 3) := by decide +kernel
theorem dX1_buy_173 : decode cX1_buy 173 = .ok (.iload 5, 2) := by decide +kernel
theorem dX1_buy_175 : decode cX1_buy 175 = .ok (.aload_n 3, 1) := by decide +kernel
theorem dX1_buy_176 : decode cX1_buy 176 = .ok (.iload 5, 2) := by decide +kernel
theorem dX1_buy_178 : decode cX1_buy 178 = .ok (.iaload, 1) := by decide +kernel
theorem dX1_buy_179 : decode cX1_buy 179 = .ok (.iastore, 1) := by decide +kernel
theorem dX1_buy_180 : decode cX1_buy 180 = .ok (.aload_n 0, 1) := by decide +kernel
theorem dX1_buy_181 : decode cX1_buy 181 = .ok (.getfield 23, 3) := by decide +kernel
theorem dX1_buy_184 : decode cX1_buy 184 = .ok (.iload 5, 2) := by decide +kernel
theorem dX1_buy_186 : decode cX1_buy 186 = .ok (.aload 4, 2) := by decide +kernel
theorem dX1_buy_188 : decode cX1_buy 188 = .ok (.iload 5, 2) := by decide +kernel
theorem dX1_buy_190 : decode cX1_buy 190 = .ok (.iaload, 1) := by decide +kernel
theorem dX1_buy_191 : decode cX1_buy 191 = .ok (.iastore, 1) := by decide +kernel
theorem dX1_buy_192 : decode cX1_buy 192 = .ok (.iinc 5 1, 3) := by decide +kernel
theorem dX1_buy_195 : decode cX1_buy 195 = .ok (.goto (-33), 3) := by decide +kernel
theorem dX1_buy_198 : decode cX1_buy 198 = .ok (.iconst 3, 1) := by decide +kernel
theorem dX1_buy_199 : decode cX1_buy 199 = .ok (.ireturn, 1) := by decide +kernel
theorem dX1_buy_200 : decode cX1_buy 200 = .ok (.aload_n 0, 1) := by decide +kernel
theorem dX1_buy_201 : decode cX1_buy 201 = .ok (.iconst 0, 1) := by decide +kernel
theorem dX1_buy_202 : decode cX1_buy 202 = .ok (.putfield 98, 3) := by decide +kernel
theorem dX1_buy_205 : decode cX1_buy 205 = .ok (.aload_n 0, 1) := by decide +kernel
theorem dX1_buy_206 : decode cX1_buy 206 = .ok (.getfield 35, 3) := by decide +kernel
theorem dX1_buy_209 : decode cX1_buy 209 = .ok (.iload_n 1, 1) := by decide +kernel
theorem dX1_buy_210 : decode cX1_buy 210 = .ok (.dup2, 1) := by decide +kernel
theorem dX1_buy_211 : decode cX1_buy 211 = .ok (.iaload, 1) := by decide +kernel
theorem dX1_buy_212 : decode cX1_buy 212 = .ok (.iconst 1, 1) := by decide +kernel
theorem dX1_buy_213 : decode cX1_buy 213 = .ok (.isub, 1) := by decide +kernel
theorem dX1_buy_214 : decode cX1_buy 214 = .ok (.iastore, 1) := by decide +kernel
theorem dX1_buy_215 : decode cX1_buy 215 = .ok (.aload_n 0, 1) := by decide +kernel
theorem dX1_buy_216 : decode cX1_buy 216 = .ok (.iload_n 1, 1) := by decide +kernel
theorem dX1_buy_217 : decode cX1_buy 217 = .ok (.putfield 45, 3) := by decide +kernel
theorem dX1_buy_220 : decode cX1_buy 220 = .ok (.aload_n 0, 1) := by decide +kernel
theorem dX1_buy_221 : decode cX1_buy 221 = .ok (.aload_n 0, 1) := by decide +kernel
theorem dX1_buy_222 : decode cX1_buy 222 = .ok (.getfield 32, 3) := by decide +kernel
theorem dX1_buy_225 : decode cX1_buy 225 = .ok (.iload_n 1, 1) := by decide +kernel
theorem dX1_buy_226 : decode cX1_buy 226 = .ok (.iaload, 1) := by decide +kernel
theorem dX1_buy_227 : decode cX1_buy 227 = .ok (.putfield 113, 3) := by decide +kernel
theorem dX1_buy_230 : decode cX1_buy 230 = .ok (.aload_n 0, 1) := by decide +kernel
theorem dX1_buy_231 : decode cX1_buy 231 = .ok (.getfield 48, 3) := by decide +kernel
theorem dX1_buy_234 : decode cX1_buy 234 = .ok (.iconst 2, 1) := by decide +kernel
theorem dX1_buy_235 : decode cX1_buy 235 = .ok (.dup2, 1) := by decide +kernel
theorem dX1_buy_236 : decode cX1_buy 236 = .ok (.laload, 1) := by decide +kernel
theorem dX1_buy_237 : decode cX1_buy 237 = .ok (.iload_n 2, 1) := by decide +kernel
theorem dX1_buy_238 : decode cX1_buy 238 = .ok (.i2l, 1) := by decide +kernel
theorem dX1_buy_239 : decode cX1_buy 239 = .ok (.ladd, 1) := by decide +kernel
theorem dX1_buy_240 : decode cX1_buy 240 = .ok (.lastore, 1) := by decide +kernel
theorem dX1_buy_241 : decode cX1_buy 241 = .ok (.aload_n 0, 1) := by decide +kernel
theorem dX1_buy_242 : decode cX1_buy 242 = .ok (.getfield 48, 3) := by decide +kernel
theorem dX1_buy_245 : decode cX1_buy 245 = .ok (.bipush 7, 2) := by decide +kernel
theorem dX1_buy_247 : decode cX1_buy 247 = .ok (.dup2, 1) := by decide +kernel
theorem dX1_buy_248 : decode cX1_buy 248 = .ok (.laload, 1) := by decide +kernel
theorem dX1_buy_249 : decode cX1_buy 249 = .ok (.aload_n 0, 1) := by decide +kernel
theorem dX1_buy_250 : decode cX1_buy 250 = .ok (.getfield 113, 3) := by decide +kernel
theorem dX1_buy_253 : decode cX1_buy 253 = .ok (.i2l, 1) := by decide +kernel
theorem dX1_buy_254 : decode cX1_buy 254 = .ok (.ladd, 1) := by decide +kernel
theorem dX1_buy_255 : decode cX1_buy 255 = .ok (.lastore, 1) := by decide +kernel
theorem dX1_buy_256 : decode cX1_buy 256 = .ok (.aload_n 0, 1) := by decide +kernel
theorem dX1_buy_257 : decode cX1_buy 257 = .ok (.getfield 48, 3) := by decide +kernel
theorem dX1_buy_260 : decode cX1_buy 260 = .ok (.bipush 8, 2) := by decide +kernel
theorem dX1_buy_262 : decode cX1_buy 262 = .ok (.dup2, 1) := by decide +kernel
theorem dX1_buy_263 : decode cX1_buy 263 = .ok (.laload, 1) := by decide +kernel
theorem dX1_buy_264 : decode cX1_buy 264 = .ok (.lconst 1, 1) := by decide +kernel
theorem dX1_buy_265 : decode cX1_buy 265 = .ok (.ladd, 1) := by decide +kernel
theorem dX1_buy_266 : decode cX1_buy 266 = .ok (.lastore, 1) := by decide +kernel
theorem dX1_buy_267 : decode cX1_buy 267 = .ok (.aload_n 0, 1) := by decide +kernel
theorem dX1_buy_268 : decode cX1_buy 268 = .ok (.getfield 48, 3) := by decide +kernel
theorem dX1_buy_271 : decode cX1_buy 271 = .ok (.bipush 9, 2) := by decide +kernel
theorem dX1_buy_273 : decode cX1_buy 273 = .ok (.dup2, 1) := by decide +kernel
theorem dX1_buy_274 : decode cX1_buy 274 = .ok (.laload, 1) := by decide +kernel
theorem dX1_buy_275 : decode cX1_buy 275 = .ok (.iload_n 2, 1) := by decide +kernel
theorem dX1_buy_276 : decode cX1_buy 276 = .ok (.ifCond .ne 7, 3) := by decide +kernel
theorem dX1_buy_279 : decode cX1_buy 279 = .ok (.lconst 1, 1) := by decide +kernel
theorem dX1_buy_280 : decode cX1_buy 280 = .ok (.goto 4, 3) := by decide +kernel
theorem dX1_buy_283 : decode cX1_buy 283 = .ok (.lconst 0, 1) := by decide +kernel
theorem dX1_buy_284 : decode cX1_buy 284 = .ok (.ladd, 1) := by decide +kernel
theorem dX1_buy_285 : decode cX1_buy 285 = .ok (.lastore, 1) := by decide +kernel
theorem dX1_buy_286 : decode cX1_buy 286 = .ok (.iconst 0, 1) := by decide +kernel
theorem dX1_buy_287 : decode cX1_buy 287 = .ok (.ireturn, 1) := by decide +kernel
set_option maxRecDepth 20000 in
theorem ggX1_refund_X1_pay : GoodIn wsX1_refund wsX1_pay := goodIn_r _ [14, 15, 16, 17, 18, 19, 20, 13, 21, 22, 23, 24, 25, 26, 27, 28, 29, 30, 31, 32, 5, 6, 7, 8, 33, 34, 35, 36, 37, 38, 39, 40, 41, 42, 43, 44, 45, 46, 47, 48, 49, 50, 51] (by decide +kernel) (by decide +kernel)
set_option maxRecDepth 20000 in
theorem gX1_refund_X1_pay : GoodIn wsX1_refund (wsV RX1 110 RX1 yX1_pay wsX1_pay) := goodIn_app (goodIn_of _ (by decide +kernel)) ggX1_refund_X1_pay
theorem dX1_refund_0 : decode cX1_refund 0 = .ok (.aload_n 0, 1) := by decide +kernel
theorem dX1_refund_1 : decode cX1_refund 1 = .ok (.aload_n 0, 1) := by decide +kernel
theorem dX1_refund_2 : decode cX1_refund 2 = .ok (.getfield 45, 3) := by decide +kernel
theorem dX1_refund_5 : decode cX1_refund 5 = .ok (.iconst (-1), 1) := by decide +kernel
theorem dX1_refund_6 : decode cX1_refund 6 = .ok (.if_icmp .ne 7, 3) := by decide +kernel
theorem dX1_refund_9 : decode cX1_refund 9 = .ok (.iconst 1, 1) := by decide +kernel
theorem dX1_refund_10 : decode cX1_refund 10 = .ok (.goto 4, 3) := by decide +kernel
theorem dX1_refund_13 : decode cX1_refund 13 = .ok (.iconst 0, 1) := by decide +kernel
theorem dX1_refund_14 : decode cX1_refund 14 = .ok (.putfield 55, 3) := by decide +kernel
theorem dX1_refund_17 : decode cX1_refund 17 = .ok (.aload_n 0, 1) := by decide +kernel
theorem dX1_refund_18 : decode cX1_refund 18 = .ok (.getfield 55, 3) := by decide +kernel
theorem dX1_refund_21 : decode cX1_refund 21 = .ok (.ifCond .ne 14, 3) := by decide +kernel
theorem dX1_refund_24 : decode cX1_refund 24 = .ok (.aload_n 0, 1) := by decide +kernel
theorem dX1_refund_25 : decode cX1_refund 25 = .ok (.aload_n 0, 1) := by decide +kernel
theorem dX1_refund_26 : decode cX1_refund 26 = .ok (.getfield 113, 3) := by decide +kernel
theorem dX1_refund_29 : decode cX1_refund 29 = .ok (.invokevirtual 110, 3) := by decide +kernel
theorem dX1_refund_32 : decode cX1_refund 32 = .ok (.ifCond .ne 5, 3) := by decide +kernel
theorem dX1_refund_35 : decode cX1_refund 35 = .ok (.iconst 0, 1) := by decide +kernel
theorem dX1_refund_36 : decode cX1_refund 36 = .ok (.ireturn, 1) := by decide +kernel
theorem dX1_refund_37 : decode cX1_refund 37 = .ok (.aload_n 0, 1) := by decide +kernel
theorem dX1_refund_38 : decode cX1_refund 38 = .ok (.getfield 35, 3) := by decide +kernel
theorem dX1_refund_41 : decode cX1_refund 41 = .ok (.aload_n 0, 1) := by decide +kernel
theorem dX1_refund_42 : decode cX1_refund 42 = .ok (.getfield 45, 3) := by decide +kernel
theorem dX1_refund_45 : decode cX1_refund 45 = .ok (.bipush 99, 2) := by decide +kernel
theorem dX1_refund_47 : decode cX1_refund 47 = .ok (.aload_n 0, 1) := by decide +kernel
theorem dX1_refund_48 : decode cX1_refund 48 = .ok (.getfield 35, 3) := by decide +kernel
theorem dX1_refund_51 : decode cX1_refund 51 = .ok (.aload_n 0, 1) := by decide +kernel
theorem dX1_refund_52 : decode cX1_refund 52 = .ok (.getfield 45, 3) := by decide +kernel
theorem dX1_refund_55 : decode cX1_refund 55 = .ok (.iaload, 1) := by decide +kernel
theorem dX1_refund_56 : decode cX1_refund 56 = .ok (.iconst 1, 1) := by decide +kernel
theorem dX1_refund_57 : decode cX1_refund 57 = .ok (.iadd, 1) := by decide +kernel
theorem dX1_refund_58 : decode cX1_refund 58 = .ok (.invokestatic 72, 3) := by decide +kernel
theorem dX1_refund_61 : decode cX1_refund 61 = .ok (.iastore, 1) := by decide +kernel
theorem dX1_refund_62 : decode cX1_refund 62 = .ok (.aload_n 0, 1) := by decide +kernel
theorem dX1_refund_63 : decode cX1_refund 63 = .ok (.iconst (-1), 1) := by decide +kernel
theorem dX1_refund_64 : decode cX1_refund 64 = .ok (.putfield 45, 3) := by decide +kernel
theorem dX1_refund_67 : decode cX1_refund 67 = .ok (.aload_n 0, 1) := by decide +kernel
theorem dX1_refund_68 : decode cX1_refund 68 = .ok (.getfield 48, 3) := by decide +kernel
theorem dX1_refund_71 : decode cX1_refund 71 = .ok (.iconst 3, 1) := by decide +kernel
theorem dX1_refund_72 : decode cX1_refund 72 = .ok (.dup2, 1) := by decide +kernel
theorem dX1_refund_73 : decode cX1_refund 73 = .ok (.laload, 1) := by decide +kernel
theorem dX1_refund_74 : decode cX1_refund 74 = .ok (.aload_n 0, 1) := by decide +kernel
theorem dX1_refund_75 : decode cX1_refund 75 = .ok (.getfield 113, 3) := by decide +kernel
theorem dX1_refund_78 : decode cX1_refund 78 = .ok (.i2l, 1) := by decide +kernel
theorem dX1_refund_79 : decode cX1_refund 79 = .ok (.ladd, 1) := by decide +kernel
theorem dX1_refund_80 : decode cX1_refund 80 = .ok (.lastore, 1) := by decide +kernel
theorem dX1_refund_81 : decode cX1_refund 81 = .ok (.iconst 1, 1) := by decide +kernel
theorem dX1_refund_82 : decode cX1_refund 82 = .ok (.ireturn, 1) := by decide +kernel
set_option maxRecDepth 20000 in
theorem ggX1_credit_X1_creditNow : GoodIn wsX1_credit wsX1_creditNow := goodIn_r _ [6, 7, 8, 9, 10, 11, 12, 13, 14, 15, 16, 17, 18, 19, 20, 21, 22, 23, 24, 25, 26, 27, 28] (by decide +kernel) (by decide +kernel)
set_option maxRecDepth 20000 in
theorem gX1_credit_X1_creditNow : GoodIn wsX1_credit (wsV RX1 101 RX1 yX1_creditNow wsX1_creditNow) := goodIn_app (goodIn_of _ (by decide +kernel)) ggX1_credit_X1_creditNow
theorem dX1_credit_0 : decode cX1_credit 0 = .ok (.aload_n 0, 1) := by decide +kernel
theorem dX1_credit_1 : decode cX1_credit 1 = .ok (.iconst 0, 1) := by decide +kernel
theorem dX1_credit_2 : decode cX1_credit 2 = .ok (.putfield 55, 3) := by decide +kernel
theorem dX1_credit_5 : decode cX1_credit 5 = .ok (.aload_n 0, 1) := by decide +kernel
theorem dX1_credit_6 : decode cX1_credit 6 = .ok (.invokevirtual 101, 3) := by decide +kernel
theorem dX1_credit_9 : decode cX1_credit 9 = .ok (.ireturn, 1) := by decide +kernel
set_option maxRecDepth 20000 in
theorem ggX1_escrow_X1_fail : GoodIn wsX1_escrow wsX1_fail := goodIn_r _ [8, 1, 9, 10, 11, 12, 13, 14, 15, 16, 17, 18, 19, 20, 21, 22, 23, 24, 25, 26, 27] (by decide +kernel) (by decide +kernel)
set_option maxRecDepth 20000 in
theorem gX1_escrow_X1_fail : GoodIn wsX1_escrow (wsV RX1 64 RX1 yX1_fail wsX1_fail) := goodIn_app (goodIn_of _ (by decide +kernel)) ggX1_escrow_X1_fail
theorem dX1_escrow_0 : decode cX1_escrow 0 = .ok (.aload_n 0, 1) := by decide +kernel
theorem dX1_escrow_1 : decode cX1_escrow 1 = .ok (.iconst 0, 1) := by decide +kernel
theorem dX1_escrow_2 : decode cX1_escrow 2 = .ok (.putfield 55, 3) := by decide +kernel
theorem dX1_escrow_5 : decode cX1_escrow 5 = .ok (.iload_n 1, 1) := by decide +kernel
theorem dX1_escrow_6 : decode cX1_escrow 6 = .ok (.ifCond .lt 20, 3) := by decide +kernel
theorem dX1_escrow_9 : decode cX1_escrow 9 = .ok (.iload_n 1, 1) := by decide +kernel
theorem dX1_escrow_10 : decode cX1_escrow 10 = .ok (.aload_n 0, 1) := by decide +kernel
theorem dX1_escrow_11 : decode cX1_escrow 11 = .ok (.getfield 98, 3) := by decide +kernel
theorem dX1_escrow_14 : decode cX1_escrow 14 = .ok (.if_icmp .ge 12, 3) := by decide +kernel
theorem dX1_escrow_17 : decode cX1_escrow 17 = .ok (.aload_n 0, 1) := by decide +kernel
theorem dX1_escrow_18 : decode cX1_escrow 18 = .ok (.getfield 42, 3) := by decide +kernel
theorem dX1_escrow_21 : decode cX1_escrow 21 = .ok (.iload_n 1, 1) := by decide +kernel
theorem dX1_escrow_22 : decode cX1_escrow 22 = .ok (.iaload, 1) := by decide +kernel
theorem dX1_escrow_23 : decode cX1_escrow 23 = .ok (.goto 8, 3) := by decide +kernel
theorem dX1_escrow_26 : decode cX1_escrow 26 = .ok (.aload_n 0, 1) := by decide +kernel
theorem dX1_escrow_27 : decode cX1_escrow 27 = .ok (.iconst 1, 1) := by decide +kernel
theorem dX1_escrow_28 : decode cX1_escrow 28 = .ok (.invokevirtual 64, 3) := by decide +kernel
theorem dX1_escrow_31 : decode cX1_escrow 31 = .ok (.ireturn, 1) := by decide +kernel
theorem dX1_told_0 : decode cX1_told 0 = .ok (.iload_n 2, 1) := by decide +kernel
theorem dX1_told_1 : decode cX1_told 1 = .ok (.ifCond .ne 12, 3) := by decide +kernel
theorem dX1_told_4 : decode cX1_told 4 = .ok (.aload_n 0, 1) := by decide +kernel
theorem dX1_told_5 : decode cX1_told 5 = .ok (.getfield 9, 3) := by decide +kernel
theorem dX1_told_8 : decode cX1_told 8 = .ok (.iload_n 1, 1) := by decide +kernel
theorem dX1_told_9 : decode cX1_told 9 = .ok (.iaload, 1) := by decide +kernel
theorem dX1_told_10 : decode cX1_told 10 = .ok (.goto 37, 3) := by decide +kernel
theorem dX1_told_13 : decode cX1_told 13 = .ok (.iload_n 2, 1) := by decide +kernel
theorem dX1_told_14 : decode cX1_told 14 = .ok (.iconst 1, 1) := by decide +kernel
theorem dX1_told_15 : decode cX1_told 15 = .ok (.if_icmp .ne 12, 3) := by decide +kernel
theorem dX1_told_18 : decode cX1_told 18 = .ok (.aload_n 0, 1) := by decide +kernel
theorem dX1_told_19 : decode cX1_told 19 = .ok (.getfield 20, 3) := by decide +kernel
theorem dX1_told_22 : decode cX1_told 22 = .ok (.iload_n 1, 1) := by decide +kernel
theorem dX1_told_23 : decode cX1_told 23 = .ok (.iaload, 1) := by decide +kernel
theorem dX1_told_24 : decode cX1_told 24 = .ok (.goto 23, 3) := by decide +kernel
theorem dX1_told_27 : decode cX1_told 27 = .ok (.iload_n 2, 1) := by decide +kernel
theorem dX1_told_28 : decode cX1_told 28 = .ok (.iconst 2, 1) := by decide +kernel
theorem dX1_told_29 : decode cX1_told 29 = .ok (.if_icmp .ne 12, 3) := by decide +kernel
theorem dX1_told_32 : decode cX1_told 32 = .ok (.aload_n 0, 1) := by decide +kernel
theorem dX1_told_33 : decode cX1_told 33 = .ok (.getfield 23, 3) := by decide +kernel
theorem dX1_told_36 : decode cX1_told 36 = .ok (.iload_n 1, 1) := by decide +kernel
theorem dX1_told_37 : decode cX1_told 37 = .ok (.iaload, 1) := by decide +kernel
theorem dX1_told_38 : decode cX1_told 38 = .ok (.goto 9, 3) := by decide +kernel
theorem dX1_told_41 : decode cX1_told 41 = .ok (.aload_n 0, 1) := by decide +kernel
theorem dX1_told_42 : decode cX1_told 42 = .ok (.getfield 26, 3) := by decide +kernel
theorem dX1_told_45 : decode cX1_told 45 = .ok (.iload_n 1, 1) := by decide +kernel
theorem dX1_told_46 : decode cX1_told 46 = .ok (.iaload, 1) := by decide +kernel
theorem dX1_told_47 : decode cX1_told 47 = .ok (.ireturn, 1) := by decide +kernel
set_option maxRecDepth 20000 in
theorem ggX1_coins_X1_isKind : GoodIn wsX1_coins wsX1_isKind := goodIn_r _ [6, 7, 20, 21, 22, 23, 24, 25, 26, 27, 28, 29, 30, 31, 32, 33, 34, 35, 36, 37, 38] (by decide +kernel) (by decide +kernel)
set_option maxRecDepth 20000 in
theorem gX1_coins_X1_isKind : GoodIn wsX1_coins (wsV RX1 68 RX1 yX1_isKind wsX1_isKind) := goodIn_app (goodIn_of _ (by decide +kernel)) ggX1_coins_X1_isKind
set_option maxRecDepth 20000 in
theorem ggX1_coins_X1_told : GoodIn wsX1_coins wsX1_told := goodIn_r _ [11, 12, 13, 14, 15, 20, 21, 22, 23, 24, 25, 26, 27, 28, 29, 30, 31, 32, 33, 34, 35, 36, 37, 38] (by decide +kernel) (by decide +kernel)
set_option maxRecDepth 20000 in
theorem gX1_coins_X1_told : GoodIn wsX1_coins (wsV RX1 116 RX1 yX1_told wsX1_told) := goodIn_app (goodIn_of _ (by decide +kernel)) ggX1_coins_X1_told
set_option maxRecDepth 20000 in
theorem ggX1_coins_X1_fail : GoodIn wsX1_coins wsX1_fail := goodIn_r _ [19, 1, 20, 21, 22, 23, 24, 25, 26, 27, 28, 29, 30, 31, 32, 33, 34, 35, 36, 37, 38] (by decide +kernel) (by decide +kernel)
set_option maxRecDepth 20000 in
theorem gX1_coins_X1_fail : GoodIn wsX1_coins (wsV RX1 64 RX1 yX1_fail wsX1_fail) := goodIn_app (goodIn_of _ (by decide +kernel)) ggX1_coins_X1_fail
theorem dX1_coins_0 : decode cX1_coins 0 = .ok (.aload_n 0, 1) := by decide +kernel
theorem dX1_coins_1 : decode cX1_coins 1 = .ok (.iconst 0, 1) := by decide +kernel
theorem dX1_coins_2 : decode cX1_coins 2 = .ok (.putfield 55, 3) := by decide +kernel
theorem dX1_coins_5 : decode cX1_coins 5 = .ok (.aload_n 0, 1) := by decide +kernel
theorem dX1_coins_6 : decode cX1_coins 6 = .ok (.iload_n 1, 1) := by decide +kernel
theorem dX1_coins_7 : decode cX1_coins 7 = .ok (.invokevirtual 68, 3) := by decide +kernel
theorem dX1_coins_10 : decode cX1_coins 10 = .ok (.ifCond .eq 21, 3) := by decide +kernel
theorem dX1_coins_13 : decode cX1_coins 13 = .ok (.iload_n 2, 1) := by decide +kernel
theorem dX1_coins_14 : decode cX1_coins 14 = .ok (.ifCond .lt 17, 3) := by decide +kernel
theorem dX1_coins_17 : decode cX1_coins 17 = .ok (.iload_n 2, 1) := by decide +kernel
theorem dX1_coins_18 : decode cX1_coins 18 = .ok (.iconst 3, 1) := by decide +kernel
theorem dX1_coins_19 : decode cX1_coins 19 = .ok (.if_icmp .gt 12, 3) := by decide +kernel
theorem dX1_coins_22 : decode cX1_coins 22 = .ok (.aload_n 0, 1) := by decide +kernel
theorem dX1_coins_23 : decode cX1_coins 23 = .ok (.iload_n 1, 1) := by decide +kernel
theorem dX1_coins_24 : decode cX1_coins 24 = .ok (.iload_n 2, 1) := by decide +kernel
theorem dX1_coins_25 : decode cX1_coins 25 = .ok (.invokevirtual 116, 3) := by decide +kernel
theorem dX1_coins_28 : decode cX1_coins 28 = .ok (.goto 8, 3) := by decide +kernel
theorem dX1_coins_31 : decode cX1_coins 31 = .ok (.aload_n 0, 1) := by decide +kernel
theorem dX1_coins_32 : decode cX1_coins 32 = .ok (.iconst 1, 1) := by decide +kernel
theorem dX1_coins_33 : decode cX1_coins 33 = .ok (.invokevirtual 64, 3) := by decide +kernel
theorem dX1_coins_36 : decode cX1_coins 36 = .ok (.ireturn, 1) := by decide +kernel
set_option maxRecDepth 20000 in
theorem ggX1_fewest_X1_isAmount : GoodIn wsX1_fewest wsX1_isAmount := goodIn_r _ [5] (by decide +kernel) (by decide +kernel)
set_option maxRecDepth 20000 in
theorem gX1_fewest_X1_isAmount : GoodIn wsX1_fewest (va_wsS RX1 78 yX1_isAmount wsX1_isAmount) := goodIn_app (goodIn_of _ (by decide +kernel)) ggX1_fewest_X1_isAmount
set_option maxRecDepth 20000 in
theorem ggX1_fewest_X1_fail : GoodIn wsX1_fewest wsX1_fail := goodIn_r _ [9, 1, 23, 24, 25, 26, 27, 28, 29, 30, 31, 32, 33, 34, 35, 36, 37, 38, 39, 40, 41] (by decide +kernel) (by decide +kernel)
set_option maxRecDepth 20000 in
theorem gX1_fewest_X1_fail : GoodIn wsX1_fewest (wsV RX1 64 RX1 yX1_fail wsX1_fail) := goodIn_app (goodIn_of _ (by decide +kernel)) ggX1_fewest_X1_fail
set_option maxRecDepth 20000 in
theorem ggX1_fewest_X1_tabulate : GoodIn wsX1_fewest wsX1_tabulate := goodIn_r _ [13, 14, 15, 16, 17, 18, 23, 24, 25, 26, 27, 28, 29, 30, 31, 32, 33, 34, 35, 36, 37, 38, 39, 40, 41] (by decide +kernel) (by decide +kernel)
set_option maxRecDepth 20000 in
theorem gX1_fewest_X1_tabulate : GoodIn wsX1_fewest (wsV RX1 88 RX1 yX1_tabulate wsX1_tabulate) := goodIn_app (goodIn_of _ (by decide +kernel)) ggX1_fewest_X1_tabulate
set_option maxRecDepth 20000 in
theorem ggX1_fewest_X1_inAll : GoodIn wsX1_fewest wsX1_inAll := goodIn_r _ [22, 14, 15, 23, 24, 25, 26, 27, 28, 29, 30, 31, 32, 33, 34, 35, 36, 37, 38, 39, 40, 41] (by decide +kernel) (by decide +kernel)
set_option maxRecDepth 20000 in
theorem gX1_fewest_X1_inAll : GoodIn wsX1_fewest (wsV RX1 92 RX1 yX1_inAll wsX1_inAll) := goodIn_app (goodIn_of _ (by decide +kernel)) ggX1_fewest_X1_inAll
theorem dX1_fewest_0 : decode cX1_fewest 0 = .ok (.aload_n 0, 1) := by decide +kernel
theorem dX1_fewest_1 : decode cX1_fewest 1 = .ok (.iconst 0, 1) := by decide +kernel
theorem dX1_fewest_2 : decode cX1_fewest 2 = .ok (.putfield 55, 3) := by decide +kernel
theorem dX1_fewest_5 : decode cX1_fewest 5 = .ok (.iload_n 1, 1) := by decide +kernel
theorem dX1_fewest_6 : decode cX1_fewest 6 = .ok (.invokestatic 78, 3) := by decide +kernel
theorem dX1_fewest_9 : decode cX1_fewest 9 = .ok (.ifCond .ne 9, 3) := by decide +kernel
theorem dX1_fewest_12 : decode cX1_fewest 12 = .ok (.aload_n 0, 1) := by decide +kernel
theorem dX1_fewest_13 : decode cX1_fewest 13 = .ok (.iconst 1, 1) := by decide +kernel
theorem dX1_fewest_14 : decode cX1_fewest 14 = .ok (.invokevirtual 64, 3) := by decide +kernel
theorem dX1_fewest_17 : decode cX1_fewest 17 = .ok (.ireturn, 1) := by decide +kernel
theorem dX1_fewest_18 : decode cX1_fewest 18 = .ok (.aload_n 0, 1) := by decide +kernel
theorem dX1_fewest_19 : decode cX1_fewest 19 = .ok (.iload_n 1, 1) := by decide +kernel
theorem dX1_fewest_20 : decode cX1_fewest 20 = .ok (.invokevirtual 88, 3) := by decide +kernel
theorem dX1_fewest_23 : decode cX1_fewest 23 = .ok (.aload_n 0, 1) := by decide +kernel
theorem dX1_fewest_24 : decode cX1_fewest 24 = .ok (.iload_n 1, 1) := by decide +kernel
theorem dX1_fewest_25 : decode cX1_fewest 25 = .ok (.invokevirtual 92, 3) := by decide +kernel
theorem dX1_fewest_28 : decode cX1_fewest 28 = .ok (.ireturn, 1) := by decide +kernel
set_option maxRecDepth 20000 in
theorem ggX1_part_X1_isAmount : GoodIn wsX1_part wsX1_isAmount := goodIn_r _ [5] (by decide +kernel) (by decide +kernel)
set_option maxRecDepth 20000 in
theorem gX1_part_X1_isAmount : GoodIn wsX1_part (va_wsS RX1 78 yX1_isAmount wsX1_isAmount) := goodIn_app (goodIn_of _ (by decide +kernel)) ggX1_part_X1_isAmount
set_option maxRecDepth 20000 in
theorem ggX1_part_X1_fail : GoodIn wsX1_part wsX1_fail := goodIn_r _ [9, 1, 35, 36, 37, 38, 39, 40, 41, 42, 43, 44, 45, 46, 47, 48, 49, 50, 51, 52, 53] (by decide +kernel) (by decide +kernel)
set_option maxRecDepth 20000 in
theorem gX1_part_X1_fail : GoodIn wsX1_part (wsV RX1 64 RX1 yX1_fail wsX1_fail) := goodIn_app (goodIn_of _ (by decide +kernel)) ggX1_part_X1_fail
set_option maxRecDepth 20000 in
theorem ggX1_part_X1_isKind : GoodIn wsX1_part wsX1_isKind := goodIn_r _ [13, 14, 35, 36, 37, 38, 39, 40, 41, 42, 43, 44, 45, 46, 47, 48, 49, 50, 51, 52, 53] (by decide +kernel) (by decide +kernel)
set_option maxRecDepth 20000 in
theorem gX1_part_X1_isKind : GoodIn wsX1_part (wsV RX1 68 RX1 yX1_isKind wsX1_isKind) := goodIn_app (goodIn_of _ (by decide +kernel)) ggX1_part_X1_isKind
set_option maxRecDepth 20000 in
theorem ggX1_part_X1_tabulate : GoodIn wsX1_part wsX1_tabulate := goodIn_r _ [18, 19, 14, 20, 21, 22, 35, 36, 37, 38, 39, 40, 41, 42, 43, 44, 45, 46, 47, 48, 49, 50, 51, 52, 53] (by decide +kernel) (by decide +kernel)
set_option maxRecDepth 20000 in
theorem gX1_part_X1_tabulate : GoodIn wsX1_part (wsV RX1 88 RX1 yX1_tabulate wsX1_tabulate) := goodIn_app (goodIn_of _ (by decide +kernel)) ggX1_part_X1_tabulate
set_option maxRecDepth 20000 in
theorem ggX1_part_X1_inAll : GoodIn wsX1_part wsX1_inAll := goodIn_r _ [26, 19, 14, 35, 36, 37, 38, 39, 40, 41, 42, 43, 44, 45, 46, 47, 48, 49, 50, 51, 52, 53] (by decide +kernel) (by decide +kernel)
set_option maxRecDepth 20000 in
theorem gX1_part_X1_inAll : GoodIn wsX1_part (wsV RX1 92 RX1 yX1_inAll wsX1_inAll) := goodIn_app (goodIn_of _ (by decide +kernel)) ggX1_part_X1_inAll
set_option maxRecDepth 20000 in
theorem ggX1_part_X1_partOf : GoodIn wsX1_part wsX1_partOf := goodIn_r _ [30, 14, 20, 21, 22, 31, 32, 33, 34, 19, 35, 36, 37, 38, 39, 40, 41, 42, 43, 44, 45, 46, 47, 48, 49, 50, 51, 52, 53] (by decide +kernel) (by decide +kernel)
set_option maxRecDepth 20000 in
theorem gX1_part_X1_partOf : GoodIn wsX1_part (wsV RX1 95 RX1 yX1_partOf wsX1_partOf) := goodIn_app (goodIn_of _ (by decide +kernel)) ggX1_part_X1_partOf
theorem dX1_part_0 : decode cX1_part 0 = .ok (.aload_n 0, 1) := by decide +kernel
theorem dX1_part_1 : decode cX1_part 1 = .ok (.iconst 0, 1) := by decide +kernel
theorem dX1_part_2 : decode cX1_part 2 = .ok (.putfield 55, 3) := by decide +kernel
theorem dX1_part_5 : decode cX1_part 5 = .ok (.iload_n 1, 1) := by decide +kernel
theorem dX1_part_6 : decode cX1_part 6 = .ok (.invokestatic 78, 3) := by decide +kernel
theorem dX1_part_9 : decode cX1_part 9 = .ok (.ifCond .ne 9, 3) := by decide +kernel
theorem dX1_part_12 : decode cX1_part 12 = .ok (.aload_n 0, 1) := by decide +kernel
theorem dX1_part_13 : decode cX1_part 13 = .ok (.iconst 1, 1) := by decide +kernel
theorem dX1_part_14 : decode cX1_part 14 = .ok (.invokevirtual 64, 3) := by decide +kernel
theorem dX1_part_17 : decode cX1_part 17 = .ok (.ireturn, 1) := by decide +kernel
theorem dX1_part_18 : decode cX1_part 18 = .ok (.aload_n 0, 1) := by decide +kernel
theorem dX1_part_19 : decode cX1_part 19 = .ok (.iload_n 2, 1) := by decide +kernel
theorem dX1_part_20 : decode cX1_part 20 = .ok (.invokevirtual 68, 3) := by decide +kernel
theorem dX1_part_23 : decode cX1_part 23 = .ok (.ifCond .ne 9, 3) := by decide +kernel
theorem dX1_part_26 : decode cX1_part 26 = .ok (.aload_n 0, 1) := by decide +kernel
theorem dX1_part_27 : decode cX1_part 27 = .ok (.iconst 2, 1) := by decide +kernel
theorem dX1_part_28 : decode cX1_part 28 = .ok (.invokevirtual 64, 3) := by decide +kernel
theorem dX1_part_31 : decode cX1_part 31 = .ok (.ireturn, 1) := by decide +kernel
theorem dX1_part_32 : decode cX1_part 32 = .ok (.aload_n 0, 1) := by decide +kernel
theorem dX1_part_33 : decode cX1_part 33 = .ok (.iload_n 1, 1) := by decide +kernel
theorem dX1_part_34 : decode cX1_part 34 = .ok (.invokevirtual 88, 3) := by decide +kernel
theorem dX1_part_37 : decode cX1_part 37 = .ok (.aload_n 0, 1) := by decide +kernel
theorem dX1_part_38 : decode cX1_part 38 = .ok (.iload_n 1, 1) := by decide +kernel
theorem dX1_part_39 : decode cX1_part 39 = .ok (.invokevirtual 92, 3) := by decide +kernel
theorem dX1_part_42 : decode cX1_part 42 = .ok (.iconst (-1), 1) := by decide +kernel
theorem dX1_part_43 : decode cX1_part 43 = .ok (.if_icmp .ne 7, 3) := by decide +kernel
theorem dX1_part_46 : decode cX1_part 46 = .ok (.iconst (-1), 1) := by decide +kernel
theorem dX1_part_47 : decode cX1_part 47 = .ok (.goto 9, 3) := by decide +kernel
theorem dX1_part_50 : decode cX1_part 50 = .ok (.aload_n 0, 1) := by decide +kernel
theorem dX1_part_51 : decode cX1_part 51 = .ok (.iload_n 1, 1) := by decide +kernel
theorem dX1_part_52 : decode cX1_part 52 = .ok (.iload_n 2, 1) := by decide +kernel
theorem dX1_part_53 : decode cX1_part 53 = .ok (.invokevirtual 95, 3) := by decide +kernel
theorem dX1_part_56 : decode cX1_part 56 = .ok (.ireturn, 1) := by decide +kernel
set_option maxRecDepth 20000 in
theorem ggX1_below_X1_isAmount : GoodIn wsX1_below wsX1_isAmount := goodIn_r _ [5] (by decide +kernel) (by decide +kernel)
set_option maxRecDepth 20000 in
theorem gX1_below_X1_isAmount : GoodIn wsX1_below (va_wsS RX1 78 yX1_isAmount wsX1_isAmount) := goodIn_app (goodIn_of _ (by decide +kernel)) ggX1_below_X1_isAmount
set_option maxRecDepth 20000 in
theorem ggX1_below_X1_fail : GoodIn wsX1_below wsX1_fail := goodIn_r _ [9, 1, 23, 24, 25, 26, 27, 28, 29, 30, 31, 32, 33, 34, 35, 36, 37, 38, 39, 40, 41] (by decide +kernel) (by decide +kernel)
set_option maxRecDepth 20000 in
theorem gX1_below_X1_fail : GoodIn wsX1_below (wsV RX1 64 RX1 yX1_fail wsX1_fail) := goodIn_app (goodIn_of _ (by decide +kernel)) ggX1_below_X1_fail
set_option maxRecDepth 20000 in
theorem ggX1_below_X1_tabulate : GoodIn wsX1_below wsX1_tabulate := goodIn_r _ [13, 14, 15, 16, 17, 18, 23, 24, 25, 26, 27, 28, 29, 30, 31, 32, 33, 34, 35, 36, 37, 38, 39, 40, 41] (by decide +kernel) (by decide +kernel)
set_option maxRecDepth 20000 in
theorem gX1_below_X1_tabulate : GoodIn wsX1_below (wsV RX1 88 RX1 yX1_tabulate wsX1_tabulate) := goodIn_app (goodIn_of _ (by decide +kernel)) ggX1_below_X1_tabulate
set_option maxRecDepth 20000 in
theorem ggX1_below_X1_inAll : GoodIn wsX1_below wsX1_inAll := goodIn_r _ [22, 14, 15, 23, 24, 25, 26, 27, 28, 29, 30, 31, 32, 33, 34, 35, 36, 37, 38, 39, 40, 41] (by decide +kernel) (by decide +kernel)
set_option maxRecDepth 20000 in
theorem gX1_below_X1_inAll : GoodIn wsX1_below (wsV RX1 92 RX1 yX1_inAll wsX1_inAll) := goodIn_app (goodIn_of _ (by decide +kernel)) ggX1_below_X1_inAll
theorem dX1_below_0 : decode cX1_below 0 = .ok (.aload_n 0, 1) := by decide +kernel
theorem dX1_below_1 : decode cX1_below 1 = .ok (.iconst 0, 1) := by decide +kernel
theorem dX1_below_2 : decode cX1_below 2 = .ok (.putfield 55, 3) := by decide +kernel
theorem dX1_below_5 : decode cX1_below 5 = .ok (.iload_n 1, 1) := by decide +kernel
theorem dX1_below_6 : decode cX1_below 6 = .ok (.invokestatic 78, 3) := by decide +kernel
theorem dX1_below_9 : decode cX1_below 9 = .ok (.ifCond .ne 9, 3) := by decide +kernel
theorem dX1_below_12 : decode cX1_below 12 = .ok (.aload_n 0, 1) := by decide +kernel
theorem dX1_below_13 : decode cX1_below 13 = .ok (.iconst 1, 1) := by decide +kernel
theorem dX1_below_14 : decode cX1_below 14 = .ok (.invokevirtual 64, 3) := by decide +kernel
theorem dX1_below_17 : decode cX1_below 17 = .ok (.ireturn, 1) := by decide +kernel
theorem dX1_below_18 : decode cX1_below 18 = .ok (.aload_n 0, 1) := by decide +kernel
theorem dX1_below_19 : decode cX1_below 19 = .ok (.iload_n 1, 1) := by decide +kernel
theorem dX1_below_20 : decode cX1_below 20 = .ok (.invokevirtual 88, 3) := by decide +kernel
theorem dX1_below_23 : decode cX1_below 23 = .ok (.iload_n 1, 1) := by decide +kernel
theorem dX1_below_24 : decode cX1_below 24 = .ok (.istore_n 2, 1) := by decide +kernel
theorem dX1_below_25 : decode cX1_below 25 = .ok (.aload_n 0, 1) := by decide +kernel
theorem dX1_below_26 : decode cX1_below 26 = .ok (.iload_n 2, 1) := by decide +kernel
theorem dX1_below_27 : decode cX1_below 27 = .ok (.invokevirtual 92, 3) := by decide +kernel
theorem dX1_below_30 : decode cX1_below 30 = .ok (.iconst (-1), 1) := by decide +kernel
theorem dX1_below_31 : decode cX1_below 31 = .ok (.if_icmp .ne 9, 3) := by decide +kernel
theorem dX1_below_34 : decode cX1_below 34 = .ok (.iinc 2 (-1), 3) := by decide +kernel
theorem dX1_below_37 : decode cX1_below 37 = .ok (.goto (-12), 3) := by decide +kernel
theorem dX1_below_40 : decode cX1_below 40 = .ok (.iload_n 2, 1) := by decide +kernel
theorem dX1_below_41 : decode cX1_below 41 = .ok (.ireturn, 1) := by decide +kernel
theorem dX1_unitNow_0 : decode cX1_unitNow 0 = .ok (.iconst 0, 1) := by decide +kernel
theorem dX1_unitNow_1 : decode cX1_unitNow 1 = .ok (.istore_n 1, 1) := by decide +kernel
theorem dX1_unitNow_2 : decode cX1_unitNow 2 = .ok (.sipush 500, 3) := by decide +kernel
theorem dX1_unitNow_5 : decode cX1_unitNow 5 = .ok (.istore_n 2, 1) := by decide +kernel
theorem dX1_unitNow_6 : decode cX1_unitNow 6 = .ok (.iload_n 2, 1) := by decide +kernel
theorem dX1_unitNow_7 : decode cX1_unitNow 7 = .ok (.ifCond .le 68, 3) := by decide +kernel
theorem dX1_unitNow_10 : decode cX1_unitNow 10 = .ok (.aload_n 0, 1) := by decide +kernel
theorem dX1_unitNow_11 : decode cX1_unitNow 11 = .ok (.getfield 58, 3) := by decide +kernel
theorem dX1_unitNow_14 : decode cX1_unitNow 14 = .ok (.ifCond .le 61, 3) := by decide +kernel
theorem dX1_unitNow_17 : decode cX1_unitNow 17 = .ok (.iload_n 1, 1) := by decide +kernel
theorem dX1_unitNow_18 : decode cX1_unitNow 18 = .ok (.ifCond .ne 57, 3) := by decide +kernel
theorem dX1_unitNow_21 : decode cX1_unitNow 21 = .ok (.iconst 1, 1) := by decide +kernel
theorem dX1_unitNow_22 : decode cX1_unitNow 22 = .ok (.istore_n 3, 1) := by decide +kernel
theorem dX1_unitNow_23 : decode cX1_unitNow 23 = .ok (.iconst 0, 1) := by decide +kernel
theorem dX1_unitNow_24 : decode cX1_unitNow 24 = .ok (.istore 4, 2) := by decide +kernel
theorem dX1_unitNow_26 : decode cX1_unitNow 26 = .ok (.iload 4, 2) := by decide +kernel
theorem dX1_unitNow_28 : decode cX1_unitNow 28 = .ok (.aload_n 0, 1) := by decide +kernel
theorem dX1_unitNow_29 : decode cX1_unitNow 29 = .ok (.getfield 58, 3) := by decide +kernel
theorem dX1_unitNow_32 : decode cX1_unitNow 32 = .ok (.if_icmp .ge 31, 3) := by decide +kernel
theorem dX1_unitNow_35 : decode cX1_unitNow 35 = .ok (.iload_n 3, 1) := by decide +kernel
theorem dX1_unitNow_36 : decode cX1_unitNow 36 = .ok (.ifCond .eq 19, 3) := by decide +kernel
theorem dX1_unitNow_39 : decode cX1_unitNow 39 = .ok (.aload_n 0, 1) := by decide +kernel
theorem dX1_unitNow_40 : decode cX1_unitNow 40 = .ok (.getfield 9, 3) := by decide +kernel
theorem dX1_unitNow_43 : decode cX1_unitNow 43 = .ok (.iload 4, 2) := by decide +kernel
theorem dX1_unitNow_45 : decode cX1_unitNow 45 = .ok (.iaload, 1) := by decide +kernel
theorem dX1_unitNow_46 : decode cX1_unitNow 46 = .ok (.iload_n 2, 1) := by decide +kernel
theorem dX1_unitNow_47 : decode cX1_unitNow 47 = .ok (.irem, 1) := by decide +kernel
theorem dX1_unitNow_48 : decode cX1_unitNow 48 = .ok (.ifCond .ne 7, 3) := by decide +kernel
theorem dX1_unitNow_51 : decode cX1_unitNow 51 = .ok (.iconst 1, 1) := by decide +kernel
theorem dX1_unitNow_52 : decode cX1_unitNow 52 = .ok (.goto 4, 3) := by decide +kernel
theorem dX1_unitNow_55 : decode cX1_unitNow 55 = .ok (.iconst 0, 1) := by decide +kernel
theorem dX1_unitNow_56 : decode cX1_unitNow 56 = .ok (.istore_n 3, 1) := by decide +kernel
theorem dX1_unitNow_57 : decode cX1_unitNow 57 = .ok (.iinc 4 1, 3) := by decide +kernel
theorem dX1_unitNow_60 : decode cX1_unitNow 60 = .ok (.goto (-34), 3) := by decide +kernel
theorem dX1_unitNow_63 : decode cX1_unitNow 63 = .ok (.iload_n 3, 1) := by decide +kernel
theorem dX1_unitNow_64 : decode cX1_unitNow 64 = .ok (.ifCond .eq 5, 3) := by decide +kernel
theorem dX1_unitNow_67 : decode cX1_unitNow 67 = .ok (.iload_n 2, 1) := by decide +kernel
theorem dX1_unitNow_68 : decode cX1_unitNow 68 = .ok (.istore_n 1, 1) := by decide +kernel
theorem dX1_unitNow_69 : decode cX1_unitNow 69 = .ok (.iinc 2 (-1), 3) := by decide +kernel
theorem dX1_unitNow_72 : decode cX1_unitNow 72 = .ok (.goto (-66), 3) := by decide +kernel
theorem dX1_unitNow_75 : decode cX1_unitNow 75 = .ok (.iload_n 1, 1) := by decide +kernel
theorem dX1_unitNow_76 : decode cX1_unitNow 76 = .ok (.ireturn, 1) := by decide +kernel
set_option maxRecDepth 20000 in
theorem ggX1_gaps_X1_isAmount : GoodIn wsX1_gaps wsX1_isAmount := goodIn_r _ [5] (by decide +kernel) (by decide +kernel)
set_option maxRecDepth 20000 in
theorem gX1_gaps_X1_isAmount : GoodIn wsX1_gaps (va_wsS RX1 78 yX1_isAmount wsX1_isAmount) := goodIn_app (goodIn_of _ (by decide +kernel)) ggX1_gaps_X1_isAmount
set_option maxRecDepth 20000 in
theorem ggX1_gaps_X1_fail : GoodIn wsX1_gaps wsX1_fail := goodIn_r _ [9, 1, 27, 28, 29, 30, 31, 32, 33, 34, 35, 36, 37, 38, 39, 40, 41, 42, 43, 44, 45] (by decide +kernel) (by decide +kernel)
set_option maxRecDepth 20000 in
theorem gX1_gaps_X1_fail : GoodIn wsX1_gaps (wsV RX1 64 RX1 yX1_fail wsX1_fail) := goodIn_app (goodIn_of _ (by decide +kernel)) ggX1_gaps_X1_fail
set_option maxRecDepth 20000 in
theorem ggX1_gaps_X1_tabulate : GoodIn wsX1_gaps wsX1_tabulate := goodIn_r _ [13, 14, 15, 16, 17, 18, 27, 28, 29, 30, 31, 32, 33, 34, 35, 36, 37, 38, 39, 40, 41, 42, 43, 44, 45] (by decide +kernel) (by decide +kernel)
set_option maxRecDepth 20000 in
theorem gX1_gaps_X1_tabulate : GoodIn wsX1_gaps (wsV RX1 88 RX1 yX1_tabulate wsX1_tabulate) := goodIn_app (goodIn_of _ (by decide +kernel)) ggX1_gaps_X1_tabulate
set_option maxRecDepth 20000 in
theorem ggX1_gaps_X1_unitNow : GoodIn wsX1_gaps wsX1_unitNow := goodIn_r _ [22, 15, 16, 27, 28, 29, 30, 31, 32, 33, 34, 35, 36, 37, 38, 39, 40, 41, 42, 43, 44, 45] (by decide +kernel) (by decide +kernel)
set_option maxRecDepth 20000 in
theorem gX1_gaps_X1_unitNow : GoodIn wsX1_gaps (wsV RX1 119 RX1 yX1_unitNow wsX1_unitNow) := goodIn_app (goodIn_of _ (by decide +kernel)) ggX1_gaps_X1_unitNow
set_option maxRecDepth 20000 in
theorem ggX1_gaps_X1_inAll : GoodIn wsX1_gaps wsX1_inAll := goodIn_r _ [26, 14, 15, 27, 28, 29, 30, 31, 32, 33, 34, 35, 36, 37, 38, 39, 40, 41, 42, 43, 44, 45] (by decide +kernel) (by decide +kernel)
set_option maxRecDepth 20000 in
theorem gX1_gaps_X1_inAll : GoodIn wsX1_gaps (wsV RX1 92 RX1 yX1_inAll wsX1_inAll) := goodIn_app (goodIn_of _ (by decide +kernel)) ggX1_gaps_X1_inAll
theorem dX1_gaps_0 : decode cX1_gaps 0 = .ok (.aload_n 0, 1) := by decide +kernel
theorem dX1_gaps_1 : decode cX1_gaps 1 = .ok (.iconst 0, 1) := by decide +kernel
theorem dX1_gaps_2 : decode cX1_gaps 2 = .ok (.putfield 55, 3) := by decide +kernel
theorem dX1_gaps_5 : decode cX1_gaps 5 = .ok (.iload_n 1, 1) := by decide +kernel
theorem dX1_gaps_6 : decode cX1_gaps 6 = .ok (.invokestatic 78, 3) := by decide +kernel
theorem dX1_gaps_9 : decode cX1_gaps 9 = .ok (.ifCond .ne 9, 3) := by decide +kernel
theorem dX1_gaps_12 : decode cX1_gaps 12 = .ok (.aload_n 0, 1) := by decide +kernel
theorem dX1_gaps_13 : decode cX1_gaps 13 = .ok (.iconst 1, 1) := by decide +kernel
theorem dX1_gaps_14 : decode cX1_gaps 14 = .ok (.invokevirtual 64, 3) := by decide +kernel
theorem dX1_gaps_17 : decode cX1_gaps 17 = .ok (.ireturn, 1) := by decide +kernel
theorem dX1_gaps_18 : decode cX1_gaps 18 = .ok (.aload_n 0, 1) := by decide +kernel
theorem dX1_gaps_19 : decode cX1_gaps 19 = .ok (.iload_n 1, 1) := by decide +kernel
theorem dX1_gaps_20 : decode cX1_gaps 20 = .ok (.invokevirtual 88, 3) := by decide +kernel
theorem dX1_gaps_23 : decode cX1_gaps 23 = .ok (.aload_n 0, 1) := by decide +kernel
theorem dX1_gaps_24 : decode cX1_gaps 24 = .ok (.invokevirtual 119, 3) := by decide +kernel
theorem dX1_gaps_27 : decode cX1_gaps 27 = .ok (.istore_n 2, 1) := by decide +kernel
theorem dX1_gaps_28 : decode cX1_gaps 28 = .ok (.iconst 0, 1) := by decide +kernel
theorem dX1_gaps_29 : decode cX1_gaps 29 = .ok (.istore_n 3, 1) := by decide +kernel
theorem dX1_gaps_30 : decode cX1_gaps 30 = .ok (.iload_n 2, 1) := by decide +kernel
theorem dX1_gaps_31 : decode cX1_gaps 31 = .ok (.istore 4, 2) := by decide +kernel
theorem dX1_gaps_33 : decode cX1_gaps 33 = .ok (.iload 4, 2) := by decide +kernel
theorem dX1_gaps_35 : decode cX1_gaps 35 = .ok (.iload_n 1, 1) := by decide +kernel
theorem dX1_gaps_36 : decode cX1_gaps 36 = .ok (.if_icmp .gt 34, 3) := by decide +kernel
theorem dX1_gaps_39 : decode cX1_gaps 39 = .ok (.iload_n 2, 1) := by decide +kernel
theorem dX1_gaps_40 : decode cX1_gaps 40 = .ok (.ifCond .le 30, 3) := by decide +kernel
theorem dX1_gaps_43 : decode cX1_gaps 43 = .ok (.iload_n 3, 1) := by decide +kernel
theorem dX1_gaps_44 : decode cX1_gaps 44 = .ok (.aload_n 0, 1) := by decide +kernel
theorem dX1_gaps_45 : decode cX1_gaps 45 = .ok (.iload 4, 2) := by decide +kernel
theorem dX1_gaps_47 : decode cX1_gaps 47 = .ok (.invokevirtual 92, 3) := by decide +kernel
theorem dX1_gaps_50 : decode cX1_gaps 50 = .ok (.iconst (-1), 1) := by decide +kernel
theorem dX1_gaps_51 : decode cX1_gaps 51 = .ok (.if_icmp .ne 7, 3) := by decide +kernel
theorem dX1_gaps_54 : decode cX1_gaps 54 = .ok (.iconst 1, 1) := by decide +kernel
theorem dX1_gaps_55 : decode cX1_gaps 55 = .ok (.goto 4, 3) := by decide +kernel
theorem dX1_gaps_58 : decode cX1_gaps 58 = .ok (.iconst 0, 1) := by decide +kernel
theorem dX1_gaps_59 : decode cX1_gaps 59 = .ok (.iadd, 1) := by decide +kernel
theorem dX1_gaps_60 : decode cX1_gaps 60 = .ok (.istore_n 3, 1) := by decide +kernel
theorem dX1_gaps_61 : decode cX1_gaps 61 = .ok (.iload 4, 2) := by decide +kernel
theorem dX1_gaps_63 : decode cX1_gaps 63 = .ok (.iload_n 2, 1) := by decide +kernel
theorem dX1_gaps_64 : decode cX1_gaps 64 = .ok (.iadd, 1) := by decide +kernel
theorem dX1_gaps_65 : decode cX1_gaps 65 = .ok (.istore 4, 2) := by decide +kernel
theorem dX1_gaps_67 : decode cX1_gaps 67 = .ok (.goto (-34), 3) := by decide +kernel
theorem dX1_gaps_70 : decode cX1_gaps 70 = .ok (.iload_n 3, 1) := by decide +kernel
theorem dX1_gaps_71 : decode cX1_gaps 71 = .ok (.ireturn, 1) := by decide +kernel
set_option maxRecDepth 20000 in
theorem ggX1_unit_X1_unitNow : GoodIn wsX1_unit wsX1_unitNow := goodIn_r _ [6, 7, 8, 9, 10, 11, 12, 13, 14, 15, 16, 17, 18, 19, 20, 21, 22, 23, 24, 25, 26, 27] (by decide +kernel) (by decide +kernel)
set_option maxRecDepth 20000 in
theorem gX1_unit_X1_unitNow : GoodIn wsX1_unit (wsV RX1 119 RX1 yX1_unitNow wsX1_unitNow) := goodIn_app (goodIn_of _ (by decide +kernel)) ggX1_unit_X1_unitNow
theorem dX1_unit_0 : decode cX1_unit 0 = .ok (.aload_n 0, 1) := by decide +kernel
theorem dX1_unit_1 : decode cX1_unit 1 = .ok (.iconst 0, 1) := by decide +kernel
theorem dX1_unit_2 : decode cX1_unit 2 = .ok (.putfield 55, 3) := by decide +kernel
theorem dX1_unit_5 : decode cX1_unit 5 = .ok (.aload_n 0, 1) := by decide +kernel
theorem dX1_unit_6 : decode cX1_unit 6 = .ok (.invokevirtual 119, 3) := by decide +kernel
theorem dX1_unit_9 : decode cX1_unit 9 = .ok (.ireturn, 1) := by decide +kernel
set_option maxRecDepth 20000 in
theorem ggX1_lamp_X1_tabulate : GoodIn wsX1_lamp wsX1_tabulate := goodIn_r _ [12, 13, 3, 7, 14, 15, 20, 21, 22, 23, 24, 25, 26, 27, 28, 29, 30, 31, 32, 33, 34, 35, 36, 37, 38] (by decide +kernel) (by decide +kernel)
set_option maxRecDepth 20000 in
theorem gX1_lamp_X1_tabulate : GoodIn wsX1_lamp (wsV RX1 88 RX1 yX1_tabulate wsX1_tabulate) := goodIn_app (goodIn_of _ (by decide +kernel)) ggX1_lamp_X1_tabulate
set_option maxRecDepth 20000 in
theorem ggX1_lamp_X1_inAll : GoodIn wsX1_lamp wsX1_inAll := goodIn_r _ [19, 13, 3, 20, 21, 22, 23, 24, 25, 26, 27, 28, 29, 30, 31, 32, 33, 34, 35, 36, 37, 38] (by decide +kernel) (by decide +kernel)
set_option maxRecDepth 20000 in
theorem gX1_lamp_X1_inAll : GoodIn wsX1_lamp (wsV RX1 92 RX1 yX1_inAll wsX1_inAll) := goodIn_app (goodIn_of _ (by decide +kernel)) ggX1_lamp_X1_inAll
theorem dX1_lamp_0 : decode cX1_lamp 0 = .ok (.aload_n 0, 1) := by decide +kernel
theorem dX1_lamp_1 : decode cX1_lamp 1 = .ok (.iconst 0, 1) := by decide +kernel
theorem dX1_lamp_2 : decode cX1_lamp 2 = .ok (.putfield 55, 3) := by decide +kernel
theorem dX1_lamp_5 : decode cX1_lamp 5 = .ok (.aload_n 0, 1) := by decide +kernel
theorem dX1_lamp_6 : decode cX1_lamp 6 = .ok (.sipush 500, 3) := by decide +kernel
theorem dX1_lamp_9 : decode cX1_lamp 9 = .ok (.invokevirtual 88, 3) := by decide +kernel
theorem dX1_lamp_12 : decode cX1_lamp 12 = .ok (.iconst 0, 1) := by decide +kernel
theorem dX1_lamp_13 : decode cX1_lamp 13 = .ok (.istore_n 1, 1) := by decide +kernel
theorem dX1_lamp_14 : decode cX1_lamp 14 = .ok (.iconst 0, 1) := by decide +kernel
theorem dX1_lamp_15 : decode cX1_lamp 15 = .ok (.istore_n 2, 1) := by decide +kernel
theorem dX1_lamp_16 : decode cX1_lamp 16 = .ok (.iload_n 2, 1) := by decide +kernel
theorem dX1_lamp_17 : decode cX1_lamp 17 = .ok (.aload_n 0, 1) := by decide +kernel
theorem dX1_lamp_18 : decode cX1_lamp 18 = .ok (.getfield 61, 3) := by decide +kernel
theorem dX1_lamp_21 : decode cX1_lamp 21 = .ok (.if_icmp .ge 104, 3) := by decide +kernel
theorem dX1_lamp_24 : decode cX1_lamp 24 = .ok (.iconst 0, 1) := by decide +kernel
theorem dX1_lamp_25 : decode cX1_lamp 25 = .ok (.istore_n 3, 1) := by decide +kernel
theorem dX1_lamp_26 : decode cX1_lamp 26 = .ok (.iload_n 3, 1) := by decide +kernel
theorem dX1_lamp_27 : decode cX1_lamp 27 = .ok (.aload_n 0, 1) := by decide +kernel
theorem dX1_lamp_28 : decode cX1_lamp 28 = .ok (.getfield 58, 3) := by decide +kernel
theorem dX1_lamp_31 : decode cX1_lamp 31 = .ok (.if_icmp .ge 88, 3) := by decide +kernel
theorem dX1_lamp_34 : decode cX1_lamp 34 = .ok (.aload_n 0, 1) := by decide +kernel
theorem dX1_lamp_35 : decode cX1_lamp 35 = .ok (.getfield 35, 3) := by decide +kernel
theorem dX1_lamp_38 : decode cX1_lamp 38 = .ok (.iload_n 2, 1) := by decide +kernel
theorem dX1_lamp_39 : decode cX1_lamp 39 = .ok (.iaload, 1) := by decide +kernel
theorem dX1_lamp_40 : decode cX1_lamp 40 = .ok (.ifCond .eq 73, 3) := by decide +kernel
theorem dX1_lamp_43 : decode cX1_lamp 43 = .ok (.aload_n 0, 1) := by decide +kernel
theorem dX1_lamp_44 : decode cX1_lamp 44 = .ok (.getfield 16, 3) := by decide +kernel
theorem dX1_lamp_47 : decode cX1_lamp 47 = .ok (.iload_n 3, 1) := by decide +kernel
theorem dX1_lamp_48 : decode cX1_lamp 48 = .ok (.baload, 1) := by decide +kernel
theorem dX1_lamp_49 : decode cX1_lamp 49 = .ok (.ifCond .ne 6, 3) := by decide +kernel
theorem dX1_lamp_52 : decode cX1_lamp 52 = .ok (.goto 61, 3) := by decide +kernel
theorem dX1_lamp_55 : decode cX1_lamp 55 = .ok (.aload_n 0, 1) := by decide +kernel
theorem dX1_lamp_56 : decode cX1_lamp 56 = .ok (.getfield 32, 3) := by decide +kernel
theorem dX1_lamp_59 : decode cX1_lamp 59 = .ok (.iload_n 2, 1) := by decide +kernel
theorem dX1_lamp_60 : decode cX1_lamp 60 = .ok (.iaload, 1) := by decide +kernel
theorem dX1_lamp_61 : decode cX1_lamp 61 = .ok (.aload_n 0, 1) := by decide +kernel
theorem dX1_lamp_62 : decode cX1_lamp 62 = .ok (.getfield 9, 3) := by decide +kernel
theorem dX1_lamp_65 : decode cX1_lamp 65 = .ok (.iload_n 3, 1) := by decide +kernel
theorem dX1_lamp_66 : decode cX1_lamp 66 = .ok (.iaload, 1) := by decide +kernel
theorem dX1_lamp_67 : decode cX1_lamp 67 = .ok (.iadd, 1) := by decide +kernel
theorem dX1_lamp_68 : decode cX1_lamp 68 = .ok (.iconst 1, 1) := by decide +kernel
theorem dX1_lamp_69 : decode cX1_lamp 69 = .ok (.isub, 1) := by decide +kernel
theorem dX1_lamp_70 : decode cX1_lamp 70 = .ok (.aload_n 0, 1) := by decide +kernel
theorem dX1_lamp_71 : decode cX1_lamp 71 = .ok (.getfield 9, 3) := by decide +kernel
theorem dX1_lamp_74 : decode cX1_lamp 74 = .ok (.iload_n 3, 1) := by decide +kernel
theorem dX1_lamp_75 : decode cX1_lamp 75 = .ok (.iaload, 1) := by decide +kernel
theorem dX1_lamp_76 : decode cX1_lamp 76 = .ok (.idiv, 1) := by decide +kernel
theorem dX1_lamp_77 : decode cX1_lamp 77 = .ok (.istore 4, 2) := by decide +kernel
theorem dX1_lamp_79 : decode cX1_lamp 79 = .ok (.iload_n 1, 1) := by decide +kernel
theorem dX1_lamp_80 : decode cX1_lamp 80 = .ok (.ifCond .ne 27, 3) := by decide +kernel
theorem dX1_lamp_83 : decode cX1_lamp 83 = .ok (.aload_n 0, 1) := by decide +kernel
theorem dX1_lamp_84 : decode cX1_lamp 84 = .ok (.iload 4, 2) := by decide +kernel
theorem dX1_lamp_86 : decode cX1_lamp 86 = .ok (.aload_n 0, 1) := by decide +kernel
theorem dX1_lamp_87 : decode cX1_lamp 87 = .ok (.getfield 9, 3) := by decide +kernel
theorem dX1_lamp_90 : decode cX1_lamp 90 = .ok (.iload_n 3, 1) := by decide +kernel
theorem dX1_lamp_91 : decode cX1_lamp 91 = .ok (.iaload, 1) := by decide +kernel
theorem dX1_lamp_92 : decode cX1_lamp 92 = .ok (.imul, 1) := by decide +kernel
theorem dX1_lamp_93 : decode cX1_lamp 93 = .ok (.aload_n 0, 1) := by decide +kernel
theorem dX1_lamp_94 : decode cX1_lamp 94 = .ok (.getfield 32, 3) := by decide +kernel
theorem dX1_lamp_97 : decode cX1_lamp 97 = .ok (.iload_n 2, 1) := by decide +kernel
theorem dX1_lamp_98 : decode cX1_lamp 98 = .ok (.iaload, 1) := by decide +kernel
theorem dX1_lamp_99 : decode cX1_lamp 99 = .ok (.isub, 1) := by decide +kernel
theorem dX1_lamp_100 : decode cX1_lamp 100 = .ok (.invokevirtual 92, 3) := by decide +kernel
theorem dX1_lamp_103 : decode cX1_lamp 103 = .ok (.iconst (-1), 1) := by decide +kernel
theorem dX1_lamp_104 : decode cX1_lamp 104 = .ok (.if_icmp .ne 7, 3) := by decide +kernel
theorem dX1_lamp_107 : decode cX1_lamp 107 = .ok (.iconst 1, 1) := by decide +kernel
theorem dX1_lamp_108 : decode cX1_lamp 108 = .ok (.goto 4, 3) := by decide +kernel
theorem dX1_lamp_111 : decode cX1_lamp 111 = .ok (.iconst 0, 1) := by decide +kernel
theorem dX1_lamp_112 : decode cX1_lamp 112 = .ok (.istore_n 1, 1) := by decide +kernel
theorem dX1_lamp_113 : decode cX1_lamp 113 = .ok (.iinc 3 1, 3) := by decide +kernel
theorem dX1_lamp_116 : decode cX1_lamp 116 = .ok (.goto (-90), 3) := by decide +kernel
theorem dX1_lamp_119 : decode cX1_lamp 119 = .ok (.iinc 2 1, 3) := by decide +kernel
theorem dX1_lamp_122 : decode cX1_lamp 122 = .ok (.goto (-106), 3) := by decide +kernel
theorem dX1_lamp_125 : decode cX1_lamp 125 = .ok (.iload_n 1, 1) := by decide +kernel
theorem dX1_lamp_126 : decode cX1_lamp 126 = .ok (.ireturn, 1) := by decide +kernel
theorem dX1_audit_0 : decode cX1_audit 0 = .ok (.aload_n 0, 1) := by decide +kernel
theorem dX1_audit_1 : decode cX1_audit 1 = .ok (.iload_n 1, 1) := by decide +kernel
theorem dX1_audit_2 : decode cX1_audit 2 = .ok (.ifCond .lt 13, 3) := by decide +kernel
theorem dX1_audit_5 : decode cX1_audit 5 = .ok (.iload_n 1, 1) := by decide +kernel
theorem dX1_audit_6 : decode cX1_audit 6 = .ok (.bipush 10, 2) := by decide +kernel
theorem dX1_audit_8 : decode cX1_audit 8 = .ok (.if_icmp .ge 7, 3) := by decide +kernel
theorem dX1_audit_11 : decode cX1_audit 11 = .ok (.iconst 0, 1) := by decide +kernel
theorem dX1_audit_12 : decode cX1_audit 12 = .ok (.goto 4, 3) := by decide +kernel
theorem dX1_audit_15 : decode cX1_audit 15 = .ok (.iconst 1, 1) := by decide +kernel
theorem dX1_audit_16 : decode cX1_audit 16 = .ok (.putfield 55, 3) := by decide +kernel
theorem dX1_audit_19 : decode cX1_audit 19 = .ok (.aload_n 0, 1) := by decide +kernel
theorem dX1_audit_20 : decode cX1_audit 20 = .ok (.getfield 55, 3) := by decide +kernel
theorem dX1_audit_23 : decode cX1_audit 23 = .ok (.ifCond .ne 12, 3) := by decide +kernel
theorem dX1_audit_26 : decode cX1_audit 26 = .ok (.aload_n 0, 1) := by decide +kernel
theorem dX1_audit_27 : decode cX1_audit 27 = .ok (.getfield 48, 3) := by decide +kernel
theorem dX1_audit_30 : decode cX1_audit 30 = .ok (.iload_n 1, 1) := by decide +kernel
theorem dX1_audit_31 : decode cX1_audit 31 = .ok (.laload, 1) := by decide +kernel
theorem dX1_audit_32 : decode cX1_audit 32 = .ok (.goto 4, 3) := by decide +kernel
theorem dX1_audit_35 : decode cX1_audit 35 = .ok (.lconst 0, 1) := by decide +kernel
theorem dX1_audit_36 : decode cX1_audit 36 = .ok (.lreturn, 1) := by decide +kernel
theorem dX1_exactShare_0 : decode cX1_exactShare 0 = .ok (.aload_n 0, 1) := by decide +kernel
theorem dX1_exactShare_1 : decode cX1_exactShare 1 = .ok (.iconst 0, 1) := by decide +kernel
theorem dX1_exactShare_2 : decode cX1_exactShare 2 = .ok (.putfield 55, 3) := by decide +kernel
theorem dX1_exactShare_5 : decode cX1_exactShare 5 = .ok (.aload_n 0, 1) := by decide +kernel
theorem dX1_exactShare_6 : decode cX1_exactShare 6 = .ok (.getfield 48, 3) := by decide +kernel
theorem dX1_exactShare_9 : decode cX1_exactShare 9 = .ok (.bipush 8, 2) := by decide +kernel
theorem dX1_exactShare_11 : decode cX1_exactShare 11 = .ok (.laload, 1) := by decide +kernel
theorem dX1_exactShare_12 : decode cX1_exactShare 12 = .ok (.lconst 0, 1) := by decide +kernel
theorem dX1_exactShare_13 : decode cX1_exactShare 13 = .ok (.lcmp, 1) := by decide +kernel
theorem dX1_exactShare_14 : decode cX1_exactShare 14 = .ok (.ifCond .ne 7, 3) := by decide +kernel
theorem dX1_exactShare_17 : decode cX1_exactShare 17 = .ok (.dconst 1, 1) := by decide +kernel
theorem dX1_exactShare_18 : decode cX1_exactShare 18 = .ok (.goto 20, 3) := by decide +kernel
theorem dX1_exactShare_21 : decode cX1_exactShare 21 = .ok (.aload_n 0, 1) := by decide +kernel
theorem dX1_exactShare_22 : decode cX1_exactShare 22 = .ok (.getfield 48, 3) := by decide +kernel
theorem dX1_exactShare_25 : decode cX1_exactShare 25 = .ok (.bipush 9, 2) := by decide +kernel
theorem dX1_exactShare_27 : decode cX1_exactShare 27 = .ok (.laload, 1) := by decide +kernel
theorem dX1_exactShare_28 : decode cX1_exactShare 28 = .ok (.l2d, 1) := by decide +kernel
theorem dX1_exactShare_29 : decode cX1_exactShare 29 = .ok (.aload_n 0, 1) := by decide +kernel
theorem dX1_exactShare_30 : decode cX1_exactShare 30 = .ok (.getfield 48, 3) := by decide +kernel
theorem dX1_exactShare_33 : decode cX1_exactShare 33 = .ok (.bipush 8, 2) := by decide +kernel
theorem dX1_exactShare_35 : decode cX1_exactShare 35 = .ok (.laload, 1) := by decide +kernel
theorem dX1_exactShare_36 : decode cX1_exactShare 36 = .ok (.l2d, 1) := by decide +kernel
theorem dX1_exactShare_37 : decode cX1_exactShare 37 = .ok (.ddiv, 1) := by decide +kernel
theorem dX1_exactShare_38 : decode cX1_exactShare 38 = .ok (.dreturn, 1) := by decide +kernel
set_option maxRecDepth 20000 in
theorem ggX1_digest_X1_told : GoodIn wsX1_digest wsX1_told := goodIn_r _ [17, 18, 19, 20, 21, 22, 23, 24, 25, 26, 27, 28, 29, 30, 31, 32, 33, 34, 35, 36, 37, 38, 39, 40] (by decide +kernel) (by decide +kernel)
set_option maxRecDepth 20000 in
theorem gX1_digest_X1_told : GoodIn wsX1_digest (wsV RX1 116 RX1 yX1_told wsX1_told) := goodIn_app (goodIn_of _ (by decide +kernel)) ggX1_digest_X1_told
theorem dX1_digest_0 : decode cX1_digest 0 = .ok (.aload_n 0, 1) := by decide +kernel
theorem dX1_digest_1 : decode cX1_digest 1 = .ok (.iconst 0, 1) := by decide +kernel
theorem dX1_digest_2 : decode cX1_digest 2 = .ok (.putfield 55, 3) := by decide +kernel
theorem dX1_digest_5 : decode cX1_digest 5 = .ok (.ldc2_w 122, 3) := by decide +kernel
theorem dX1_digest_8 : decode cX1_digest 8 = .ok (.aload_n 0, 1) := by decide +kernel
theorem dX1_digest_9 : decode cX1_digest 9 = .ok (.getfield 58, 3) := by decide +kernel
theorem dX1_digest_12 : decode cX1_digest 12 = .ok (.i2l, 1) := by decide +kernel
theorem dX1_digest_13 : decode cX1_digest 13 = .ok (.ladd, 1) := by decide +kernel
theorem dX1_digest_14 : decode cX1_digest 14 = .ok (.lstore_n 1, 1) := by decide +kernel
theorem dX1_digest_15 : decode cX1_digest 15 = .ok (.iconst 0, 1) := by decide +kernel
theorem dX1_digest_16 : decode cX1_digest 16 = .ok (.istore_n 3, 1) := by decide +kernel
theorem dX1_digest_17 : decode cX1_digest 17 = .ok (.iload_n 3, 1) := by decide +kernel
theorem dX1_digest_18 : decode cX1_digest 18 = .ok (.aload_n 0, 1) := by decide +kernel
theorem dX1_digest_19 : decode cX1_digest 19 = .ok (.getfield 58, 3) := by decide +kernel
theorem dX1_digest_22 : decode cX1_digest 22 = .ok (.if_icmp .ge 60, 3) := by decide +kernel
theorem dX1_digest_25 : decode cX1_digest 25 = .ok (.iconst 0, 1) := by decide +kernel
theorem dX1_digest_26 : decode cX1_digest 26 = .ok (.istore 4, 2) := by decide +kernel
theorem dX1_digest_28 : decode cX1_digest 28 = .ok (.iload 4, 2) := by decide +kernel
theorem dX1_digest_30 : decode cX1_digest 30 = .ok (.iconst 4, 1) := by decide +kernel
theorem dX1_digest_31 : decode cX1_digest 31 = .ok (.if_icmp .ge 24, 3) := by decide +kernel
theorem dX1_digest_34 : decode cX1_digest 34 = .ok (.lload_n 1, 1) := by decide +kernel
theorem dX1_digest_35 : decode cX1_digest 35 = .ok (.ldc2_w 124, 3) := by decide +kernel
theorem dX1_digest_38 : decode cX1_digest 38 = .ok (.lmul, 1) := by decide +kernel
theorem dX1_digest_39 : decode cX1_digest 39 = .ok (.aload_n 0, 1) := by decide +kernel
theorem dX1_digest_40 : decode cX1_digest 40 = .ok (.iload_n 3, 1) := by decide +kernel
theorem dX1_digest_41 : decode cX1_digest 41 = .ok (.iload 4, 2) := by decide +kernel
theorem dX1_digest_43 : decode cX1_digest 43 = .ok (.invokevirtual 116, 3) := by decide +kernel
theorem dX1_digest_46 : decode cX1_digest 46 = .ok (.i2l, 1) := by decide +kernel
theorem dX1_digest_47 : decode cX1_digest 47 = .ok (.ladd, 1) := by decide +kernel
theorem dX1_digest_48 : decode cX1_digest 48 = .ok (.lstore_n 1, 1) := by decide +kernel
theorem dX1_digest_49 : decode cX1_digest 49 = .ok (.iinc 4 1, 3) := by decide +kernel
theorem dX1_digest_52 : decode cX1_digest 52 = .ok (.goto (-24), 3) := by decide +kernel
theorem dX1_digest_55 : decode cX1_digest 55 = .ok (.lload_n 1, 1) := by decide +kernel
theorem dX1_digest_56 : decode cX1_digest 56 = .ok (.ldc2_w 124, 3) := by decide +kernel
theorem dX1_digest_59 : decode cX1_digest 59 = .ok (.lmul, 1) := by decide +kernel
theorem dX1_digest_60 : decode cX1_digest 60 = .ok (.aload_n 0, 1) := by decide +kernel
theorem dX1_digest_61 : decode cX1_digest 61 = .ok (.getfield 16, 3) := by decide +kernel
theorem dX1_digest_64 : decode cX1_digest 64 = .ok (.iload_n 3, 1) := by decide +kernel
theorem dX1_digest_65 : decode cX1_digest 65 = .ok (.baload, 1) := by decide +kernel
theorem dX1_digest_66 : decode cX1_digest 66 = .ok (.ifCond .eq 7, 3) := by decide +kernel
theorem dX1_digest_69 : decode cX1_digest 69 = .ok (.lconst 1, 1) := by decide +kernel
theorem dX1_digest_70 : decode cX1_digest 70 = .ok (.goto 4, 3) := by decide +kernel
theorem dX1_digest_73 : decode cX1_digest 73 = .ok (.lconst 0, 1) := by decide +kernel
theorem dX1_digest_74 : decode cX1_digest 74 = .ok (.ladd, 1) := by decide +kernel
theorem dX1_digest_75 : decode cX1_digest 75 = .ok (.lstore_n 1, 1) := by decide +kernel
theorem dX1_digest_76 : decode cX1_digest 76 = .ok (.iinc 3 1, 3) := by decide +kernel
theorem dX1_digest_79 : decode cX1_digest 79 = .ok (.goto (-62), 3) := by decide +kernel
theorem dX1_digest_82 : decode cX1_digest 82 = .ok (.lload_n 1, 1) := by decide +kernel
theorem dX1_digest_83 : decode cX1_digest 83 = .ok (.ldc2_w 124, 3) := by decide +kernel
theorem dX1_digest_86 : decode cX1_digest 86 = .ok (.lmul, 1) := by decide +kernel
theorem dX1_digest_87 : decode cX1_digest 87 = .ok (.aload_n 0, 1) := by decide +kernel
theorem dX1_digest_88 : decode cX1_digest 88 = .ok (.getfield 38, 3) := by decide +kernel
theorem dX1_digest_91 : decode cX1_digest 91 = .ok (.i2l, 1) := by decide +kernel
theorem dX1_digest_92 : decode cX1_digest 92 = .ok (.ladd, 1) := by decide +kernel
theorem dX1_digest_93 : decode cX1_digest 93 = .ok (.ldc2_w 124, 3) := by decide +kernel
theorem dX1_digest_96 : decode cX1_digest 96 = .ok (.lmul, 1) := by decide +kernel
theorem dX1_digest_97 : decode cX1_digest 97 = .ok (.aload_n 0, 1) := by decide +kernel
theorem dX1_digest_98 : decode cX1_digest 98 = .ok (.getfield 61, 3) := by decide +kernel
theorem dX1_digest_101 : decode cX1_digest 101 = .ok (.i2l, 1) := by decide +kernel
theorem dX1_digest_102 : decode cX1_digest 102 = .ok (.ladd, 1) := by decide +kernel
theorem dX1_digest_103 : decode cX1_digest 103 = .ok (.lstore_n 1, 1) := by decide +kernel
theorem dX1_digest_104 : decode cX1_digest 104 = .ok (.iconst 0, 1) := by decide +kernel
theorem dX1_digest_105 : decode cX1_digest 105 = .ok (.istore_n 3, 1) := by decide +kernel
theorem dX1_digest_106 : decode cX1_digest 106 = .ok (.iload_n 3, 1) := by decide +kernel
theorem dX1_digest_107 : decode cX1_digest 107 = .ok (.aload_n 0, 1) := by decide +kernel
theorem dX1_digest_108 : decode cX1_digest 108 = .ok (.getfield 61, 3) := by decide +kernel
theorem dX1_digest_111 : decode cX1_digest 111 = .ok (.if_icmp .ge 35, 3) := by decide +kernel
theorem dX1_digest_114 : decode cX1_digest 114 = .ok (.lload_n 1, 1) := by decide +kernel
theorem dX1_digest_115 : decode cX1_digest 115 = .ok (.ldc2_w 124, 3) := by decide +kernel
theorem dX1_digest_118 : decode cX1_digest 118 = .ok (.lmul, 1) := by decide +kernel
theorem dX1_digest_119 : decode cX1_digest 119 = .ok (.aload_n 0, 1) := by decide +kernel
theorem dX1_digest_120 : decode cX1_digest 120 = .ok (.getfield 32, 3) := by decide +kernel
theorem dX1_digest_123 : decode cX1_digest 123 = .ok (.iload_n 3, 1) := by decide +kernel
theorem dX1_digest_124 : decode cX1_digest 124 = .ok (.iaload, 1) := by decide +kernel
theorem dX1_digest_125 : decode cX1_digest 125 = .ok (.i2l, 1) := by decide +kernel
theorem dX1_digest_126 : decode cX1_digest 126 = .ok (.ladd, 1) := by decide +kernel
theorem dX1_digest_127 : decode cX1_digest 127 = .ok (.ldc2_w 124, 3) := by decide +kernel
theorem dX1_digest_130 : decode cX1_digest 130 = .ok (.lmul, 1) := by decide +kernel
theorem dX1_digest_131 : decode cX1_digest 131 = .ok (.aload_n 0, 1) := by decide +kernel
theorem dX1_digest_132 : decode cX1_digest 132 = .ok (.getfield 35, 3) := by decide +kernel
theorem dX1_digest_135 : decode cX1_digest 135 = .ok (.iload_n 3, 1) := by decide +kernel
theorem dX1_digest_136 : decode cX1_digest 136 = .ok (.iaload, 1) := by decide +kernel
theorem dX1_digest_137 : decode cX1_digest 137 = .ok (.i2l, 1) := by decide +kernel
theorem dX1_digest_138 : decode cX1_digest 138 = .ok (.ladd, 1) := by decide +kernel
theorem dX1_digest_139 : decode cX1_digest 139 = .ok (.lstore_n 1, 1) := by decide +kernel
theorem dX1_digest_140 : decode cX1_digest 140 = .ok (.iinc 3 1, 3) := by decide +kernel
theorem dX1_digest_143 : decode cX1_digest 143 = .ok (.goto (-37), 3) := by decide +kernel
theorem dX1_digest_146 : decode cX1_digest 146 = .ok (.lload_n 1, 1) := by decide +kernel
theorem dX1_digest_147 : decode cX1_digest 147 = .ok (.ldc2_w 124, 3) := by decide +kernel
theorem dX1_digest_150 : decode cX1_digest 150 = .ok (.lmul, 1) := by decide +kernel
theorem dX1_digest_151 : decode cX1_digest 151 = .ok (.aload_n 0, 1) := by decide +kernel
theorem dX1_digest_152 : decode cX1_digest 152 = .ok (.getfield 98, 3) := by decide +kernel
theorem dX1_digest_155 : decode cX1_digest 155 = .ok (.i2l, 1) := by decide +kernel
theorem dX1_digest_156 : decode cX1_digest 156 = .ok (.ladd, 1) := by decide +kernel
theorem dX1_digest_157 : decode cX1_digest 157 = .ok (.lstore_n 1, 1) := by decide +kernel
theorem dX1_digest_158 : decode cX1_digest 158 = .ok (.iconst 0, 1) := by decide +kernel
theorem dX1_digest_159 : decode cX1_digest 159 = .ok (.istore_n 3, 1) := by decide +kernel
theorem dX1_digest_160 : decode cX1_digest 160 = .ok (.iload_n 3, 1) := by decide +kernel
theorem dX1_digest_161 : decode cX1_digest 161 = .ok (.aload_n 0, 1) := by decide +kernel
theorem dX1_digest_162 : decode cX1_digest 162 = .ok (.getfield 98, 3) := by decide +kernel
theorem dX1_digest_165 : decode cX1_digest 165 = .ok (.if_icmp .ge 23, 3) := by decide +kernel
theorem dX1_digest_168 : decode cX1_digest 168 = .ok (.lload_n 1, 1) := by decide +kernel
theorem dX1_digest_169 : decode cX1_digest 169 = .ok (.ldc2_w 124, 3) := by decide +kernel
theorem dX1_digest_172 : decode cX1_digest 172 = .ok (.lmul, 1) := by decide +kernel
theorem dX1_digest_173 : decode cX1_digest 173 = .ok (.aload_n 0, 1) := by decide +kernel
theorem dX1_digest_174 : decode cX1_digest 174 = .ok (.getfield 42, 3) := by decide +kernel
theorem dX1_digest_177 : decode cX1_digest 177 = .ok (.iload_n 3, 1) := by decide +kernel
theorem dX1_digest_178 : decode cX1_digest 178 = .ok (.iaload, 1) := by decide +kernel
theorem dX1_digest_179 : decode cX1_digest 179 = .ok (.i2l, 1) := by decide +kernel
theorem dX1_digest_180 : decode cX1_digest 180 = .ok (.ladd, 1) := by decide +kernel
theorem dX1_digest_181 : decode cX1_digest 181 = .ok (.lstore_n 1, 1) := by decide +kernel
theorem dX1_digest_182 : decode cX1_digest 182 = .ok (.iinc 3 1, 3) := by decide +kernel
theorem dX1_digest_185 : decode cX1_digest 185 = .ok (.goto (-25), 3) := by decide +kernel
theorem dX1_digest_188 : decode cX1_digest 188 = .ok (.aload_n 0, 1) := by decide +kernel
theorem dX1_digest_189 : decode cX1_digest 189 = .ok (.getfield 48, 3) := by decide +kernel
theorem dX1_digest_192 : decode cX1_digest 192 = .ok (.astore_n 3, 1) := by decide +kernel
theorem dX1_digest_193 : decode cX1_digest 193 = .ok (.aload_n 3, 1) := by decide +kernel
theorem dX1_digest_194 : decode cX1_digest 194 = .ok (.arraylength, 1) := by decide +kernel
theorem dX1_digest_195 : decode cX1_digest 195 = .ok (.istore 4, 2) := by decide +kernel
theorem dX1_digest_197 : decode cX1_digest 197 = .ok (.iconst 0, 1) := by decide +kernel
theorem dX1_digest_198 : decode cX1_digest 198 = .ok (.istore 5, 2) := by decide +kernel
theorem dX1_digest_200 : decode cX1_digest 200 = .ok (.iload 5, 2) := by decide +kernel
theorem dX1_digest_202 : decode cX1_digest 202 = .ok (.iload 4, 2) := by decide +kernel
theorem dX1_digest_204 : decode cX1_digest 204 = .ok (.if_icmp .ge 24, 3) := by decide +kernel
theorem dX1_digest_207 : decode cX1_digest 207 = .ok (.aload_n 3, 1) := by decide +kernel
theorem dX1_digest_208 : decode cX1_digest 208 = .ok (.iload 5, 2) := by decide +kernel
theorem dX1_digest_210 : decode cX1_digest 210 = .ok (.laload, 1) := by decide +kernel
theorem dX1_digest_211 : decode cX1_digest 211 = .ok (.lstore 6, 2) := by decide +kernel
theorem dX1_digest_213 : decode cX1_digest 213 = .ok (.lload_n 1, 1) := by decide +kernel
theorem dX1_digest_214 : decode cX1_digest 214 = .ok (.ldc2_w 124, 3) := by decide +kernel
theorem dX1_digest_217 : decode cX1_digest 217 = .ok (.lmul, 1) := by decide +kernel
theorem dX1_digest_218 : decode cX1_digest 218 = .ok (.lload 6, 2) := by decide +kernel
theorem dX1_digest_220 : decode cX1_digest 220 = .ok (.ladd, 1) := by decide +kernel
theorem dX1_digest_221 : decode cX1_digest 221 = .ok (.lstore_n 1, 1) := by decide +kernel
theorem dX1_digest_222 : decode cX1_digest 222 = .ok (.iinc 5 1, 3) := by decide +kernel
theorem dX1_digest_225 : decode cX1_digest 225 = .ok (.goto (-25), 3) := by decide +kernel
theorem dX1_digest_228 : decode cX1_digest 228 = .ok (.lload_n 1, 1) := by decide +kernel
theorem dX1_digest_229 : decode cX1_digest 229 = .ok (.lreturn, 1) := by decide +kernel
theorem dJ9_max_f86c9_0 : decode cJ9_max_f86c9 0 = .ok (.lload_n 0, 1) := by decide +kernel
theorem dJ9_max_f86c9_1 : decode cJ9_max_f86c9 1 = .ok (.lload_n 2, 1) := by decide +kernel
theorem dJ9_max_f86c9_2 : decode cJ9_max_f86c9 2 = .ok (.lcmp, 1) := by decide +kernel
theorem dJ9_max_f86c9_3 : decode cJ9_max_f86c9 3 = .ok (.ifCond .lt 7, 3) := by decide +kernel
theorem dJ9_max_f86c9_6 : decode cJ9_max_f86c9 6 = .ok (.lload_n 0, 1) := by decide +kernel
theorem dJ9_max_f86c9_7 : decode cJ9_max_f86c9 7 = .ok (.goto 4, 3) := by decide +kernel
theorem dJ9_max_f86c9_10 : decode cJ9_max_f86c9 10 = .ok (.lload_n 2, 1) := by decide +kernel
theorem dJ9_max_f86c9_11 : decode cJ9_max_f86c9 11 = .ok (.lreturn, 1) := by decide +kernel
theorem dJ9_min_7cf53_0 : decode cJ9_min_7cf53 0 = .ok (.iload_n 0, 1) := by decide +kernel
theorem dJ9_min_7cf53_1 : decode cJ9_min_7cf53 1 = .ok (.iload_n 1, 1) := by decide +kernel
theorem dJ9_min_7cf53_2 : decode cJ9_min_7cf53 2 = .ok (.if_icmp .gt 7, 3) := by decide +kernel
theorem dJ9_min_7cf53_5 : decode cJ9_min_7cf53 5 = .ok (.iload_n 0, 1) := by decide +kernel
theorem dJ9_min_7cf53_6 : decode cJ9_min_7cf53 6 = .ok (.goto 4, 3) := by decide +kernel
theorem dJ9_min_7cf53_9 : decode cJ9_min_7cf53 9 = .ok (.iload_n 1, 1) := by decide +kernel
theorem dJ9_min_7cf53_10 : decode cJ9_min_7cf53 10 = .ok (.ireturn, 1) := by decide +kernel
