theorem dX0_init_0 : decode cX0_init 0 = .ok (.aload_n 0, 1) := by decide +kernel
theorem dX0_init_1 : decode cX0_init 1 = .ok (.invokespecial 3, 3) := by decide +kernel
theorem dX0_init_4 : decode cX0_init 4 = .ok (.aload_n 0, 1) := by decide +kernel
theorem dX0_init_5 : decode cX0_init 5 = .ok (.iconst 0, 1) := by decide +kernel
theorem dX0_init_6 : decode cX0_init 6 = .ok (.putfield 9, 3) := by decide +kernel
theorem dX0_init_9 : decode cX0_init 9 = .ok (.aload_n 0, 1) := by decide +kernel
theorem dX0_init_10 : decode cX0_init 10 = .ok (.bipush 8, 2) := by decide +kernel
theorem dX0_init_12 : decode cX0_init 12 = .ok (.newarray .int, 2) := by decide +kernel
theorem dX0_init_14 : decode cX0_init 14 = .ok (.putfield 13, 3) := by decide +kernel
theorem dX0_init_17 : decode cX0_init 17 = .ok (.aload_n 0, 1) := by decide +kernel
theorem dX0_init_18 : decode cX0_init 18 = .ok (.bipush 8, 2) := by decide +kernel
theorem dX0_init_20 : decode cX0_init 20 = .ok (.newarray .int, 2) := by decide +kernel
theorem dX0_init_22 : decode cX0_init 22 = .ok (.putfield 17, 3) := by decide +kernel
theorem dX0_init_25 : decode cX0_init 25 = .ok (.aload_n 0, 1) := by decide +kernel
theorem dX0_init_26 : decode cX0_init 26 = .ok (.bipush 8, 2) := by decide +kernel
theorem dX0_init_28 : decode cX0_init 28 = .ok (.newarray .int, 2) := by decide +kernel
theorem dX0_init_30 : decode cX0_init 30 = .ok (.putfield 20, 3) := by decide +kernel
theorem dX0_init_33 : decode cX0_init 33 = .ok (.aload_n 0, 1) := by decide +kernel
theorem dX0_init_34 : decode cX0_init 34 = .ok (.bipush 8, 2) := by decide +kernel
theorem dX0_init_36 : decode cX0_init 36 = .ok (.newarray .int, 2) := by decide +kernel
theorem dX0_init_38 : decode cX0_init 38 = .ok (.putfield 23, 3) := by decide +kernel
theorem dX0_init_41 : decode cX0_init 41 = .ok (.aload_n 0, 1) := by decide +kernel
theorem dX0_init_42 : decode cX0_init 42 = .ok (.bipush 8, 2) := by decide +kernel
theorem dX0_init_44 : decode cX0_init 44 = .ok (.newarray .int, 2) := by decide +kernel
theorem dX0_init_46 : decode cX0_init 46 = .ok (.putfield 26, 3) := by decide +kernel
theorem dX0_init_49 : decode cX0_init 49 = .ok (.aload_n 0, 1) := by decide +kernel
theorem dX0_init_50 : decode cX0_init 50 = .ok (.bipush 8, 2) := by decide +kernel
theorem dX0_init_52 : decode cX0_init 52 = .ok (.newarray .boolean, 2) := by decide +kernel
theorem dX0_init_54 : decode cX0_init 54 = .ok (.putfield 29, 3) := by decide +kernel
theorem dX0_init_57 : decode cX0_init 57 = .ok (.aload_n 0, 1) := by decide +kernel
theorem dX0_init_58 : decode cX0_init 58 = .ok (.iconst 0, 1) := by decide +kernel
theorem dX0_init_59 : decode cX0_init 59 = .ok (.putfield 33, 3) := by decide +kernel
theorem dX0_init_62 : decode cX0_init 62 = .ok (.aload_n 0, 1) := by decide +kernel
theorem dX0_init_63 : decode cX0_init 63 = .ok (.bipush 10, 2) := by decide +kernel
theorem dX0_init_65 : decode cX0_init 65 = .ok (.newarray .int, 2) := by decide +kernel
theorem dX0_init_67 : decode cX0_init 67 = .ok (.putfield 36, 3) := by decide +kernel
theorem dX0_init_70 : decode cX0_init 70 = .ok (.aload_n 0, 1) := by decide +kernel
theorem dX0_init_71 : decode cX0_init 71 = .ok (.bipush 10, 2) := by decide +kernel
theorem dX0_init_73 : decode cX0_init 73 = .ok (.newarray .int, 2) := by decide +kernel
theorem dX0_init_75 : decode cX0_init 75 = .ok (.putfield 39, 3) := by decide +kernel
theorem dX0_init_78 : decode cX0_init 78 = .ok (.aload_n 0, 1) := by decide +kernel
theorem dX0_init_79 : decode cX0_init 79 = .ok (.sipush 1000, 3) := by decide +kernel
theorem dX0_init_82 : decode cX0_init 82 = .ok (.putfield 42, 3) := by decide +kernel
theorem dX0_init_85 : decode cX0_init 85 = .ok (.aload_n 0, 1) := by decide +kernel
theorem dX0_init_86 : decode cX0_init 86 = .ok (.iconst 0, 1) := by decide +kernel
theorem dX0_init_87 : decode cX0_init 87 = .ok (.putfield 45, 3) := by decide +kernel
theorem dX0_init_90 : decode cX0_init 90 = .ok (.aload_n 0, 1) := by decide +kernel
theorem dX0_init_91 : decode cX0_init 91 = .ok (.bipush 12, 2) := by decide +kernel
theorem dX0_init_93 : decode cX0_init 93 = .ok (.newarray .int, 2) := by decide +kernel
theorem dX0_init_95 : decode cX0_init 95 = .ok (.putfield 48, 3) := by decide +kernel
theorem dX0_init_98 : decode cX0_init 98 = .ok (.aload_n 0, 1) := by decide +kernel
theorem dX0_init_99 : decode cX0_init 99 = .ok (.iconst (-1), 1) := by decide +kernel
theorem dX0_init_100 : decode cX0_init 100 = .ok (.putfield 51, 3) := by decide +kernel
theorem dX0_init_103 : decode cX0_init 103 = .ok (.aload_n 0, 1) := by decide +kernel
theorem dX0_init_104 : decode cX0_init 104 = .ok (.iconst 0, 1) := by decide +kernel
theorem dX0_init_105 : decode cX0_init 105 = .ok (.putfield 54, 3) := by decide +kernel
theorem dX0_init_108 : decode cX0_init 108 = .ok (.aload_n 0, 1) := by decide +kernel
theorem dX0_init_109 : decode cX0_init 109 = .ok (.bipush 10, 2) := by decide +kernel
theorem dX0_init_111 : decode cX0_init 111 = .ok (.newarray .long, 2) := by decide +kernel
theorem dX0_init_113 : decode cX0_init 113 = .ok (.putfield 57, 3) := by decide +kernel
theorem dX0_init_116 : decode cX0_init 116 = .ok (.aload_n 0, 1) := by decide +kernel
theorem dX0_init_117 : decode cX0_init 117 = .ok (.sipush 2001, 3) := by decide +kernel
theorem dX0_init_120 : decode cX0_init 120 = .ok (.newarray .long, 2) := by decide +kernel
theorem dX0_init_122 : decode cX0_init 122 = .ok (.putfield 61, 3) := by decide +kernel
theorem dX0_init_125 : decode cX0_init 125 = .ok (.aload_n 0, 1) := by decide +kernel
theorem dX0_init_126 : decode cX0_init 126 = .ok (.bipush 8, 2) := by decide +kernel
theorem dX0_init_128 : decode cX0_init 128 = .ok (.newarray .int, 2) := by decide +kernel
theorem dX0_init_130 : decode cX0_init 130 = .ok (.putfield 64, 3) := by decide +kernel
theorem dX0_init_133 : decode cX0_init 133 = .ok (.return_, 1) := by decide +kernel
set_option maxRecDepth 20000 in
theorem ggX0_addKind_X0_hasKindOfValue : GoodIn wsX0_addKind wsX0_hasKindOfValue := goodIn_r _ [13, 5, 6, 14, 15, 16, 17, 18, 19, 20, 21, 22, 23, 24, 25, 26, 27, 28, 29, 30, 31] (by decide +kernel) (by decide +kernel)
set_option maxRecDepth 20000 in
theorem gX0_addKind_X0_hasKindOfValue : GoodIn wsX0_addKind (wsV RX0 81 RX0 yX0_hasKindOfValue wsX0_hasKindOfValue) := goodIn_app (goodIn_of _ (by decide +kernel)) ggX0_addKind_X0_hasKindOfValue
theorem dX0_addKind_0 : decode cX0_addKind 0 = .ok (.iload_n 1, 1) := by decide +kernel
theorem dX0_addKind_1 : decode cX0_addKind 1 = .ok (.iconst 1, 1) := by decide +kernel
theorem dX0_addKind_2 : decode cX0_addKind 2 = .ok (.if_icmp .lt 10, 3) := by decide +kernel
theorem dX0_addKind_5 : decode cX0_addKind 5 = .ok (.iload_n 1, 1) := by decide +kernel
theorem dX0_addKind_6 : decode cX0_addKind 6 = .ok (.sipush 500, 3) := by decide +kernel
theorem dX0_addKind_9 : decode cX0_addKind 9 = .ok (.if_icmp .le 13, 3) := by decide +kernel
theorem dX0_addKind_12 : decode cX0_addKind 12 = .ok (.new 67, 3) := by decide +kernel
theorem dX0_addKind_15 : decode cX0_addKind 15 = .ok (.dup, 1) := by decide +kernel
theorem dX0_addKind_16 : decode cX0_addKind 16 = .ok (.ldc 69, 2) := by decide +kernel
theorem dX0_addKind_18 : decode cX0_addKind 18 = .ok (.invokespecial 71, 3) := by decide +kernel
theorem dX0_addKind_21 : decode cX0_addKind 21 = .ok (.athrow, 1) := by decide +kernel
theorem dX0_addKind_22 : decode cX0_addKind 22 = .ok (.iload_n 2, 1) := by decide +kernel
theorem dX0_addKind_23 : decode cX0_addKind 23 = .ok (.ifCond .lt 9, 3) := by decide +kernel
theorem dX0_addKind_26 : decode cX0_addKind 26 = .ok (.iload_n 2, 1) := by decide +kernel
theorem dX0_addKind_27 : decode cX0_addKind 27 = .ok (.bipush 60, 2) := by decide +kernel
theorem dX0_addKind_29 : decode cX0_addKind 29 = .ok (.if_icmp .le 13, 3) := by decide +kernel
theorem dX0_addKind_32 : decode cX0_addKind 32 = .ok (.new 67, 3) := by decide +kernel
theorem dX0_addKind_35 : decode cX0_addKind 35 = .ok (.dup, 1) := by decide +kernel
theorem dX0_addKind_36 : decode cX0_addKind 36 = .ok (.ldc 74, 2) := by decide +kernel
theorem dX0_addKind_38 : decode cX0_addKind 38 = .ok (.invokespecial 71, 3) := by decide +kernel
theorem dX0_addKind_41 : decode cX0_addKind 41 = .ok (.athrow, 1) := by decide +kernel
theorem dX0_addKind_42 : decode cX0_addKind 42 = .ok (.aload_n 0, 1) := by decide +kernel
theorem dX0_addKind_43 : decode cX0_addKind 43 = .ok (.getfield 9, 3) := by decide +kernel
theorem dX0_addKind_46 : decode cX0_addKind 46 = .ok (.bipush 8, 2) := by decide +kernel
theorem dX0_addKind_48 : decode cX0_addKind 48 = .ok (.if_icmp .lt 13, 3) := by decide +kernel
theorem dX0_addKind_51 : decode cX0_addKind 51 = .ok (.new 76, 3) := by decide +kernel
theorem dX0_addKind_54 : decode cX0_addKind 54 = .ok (.dup, 1) := by decide +kernel
theorem dX0_addKind_55 : decode cX0_addKind 55 = .ok (.ldc 78, 2) := by decide +kernel
theorem dX0_addKind_57 : decode cX0_addKind 57 = .ok (.invokespecial 80, 3) := by decide +kernel
theorem dX0_addKind_60 : decode cX0_addKind 60 = .ok (.athrow, 1) := by decide +kernel
theorem dX0_addKind_61 : decode cX0_addKind 61 = .ok (.aload_n 0, 1) := by decide +kernel
theorem dX0_addKind_62 : decode cX0_addKind 62 = .ok (.iload_n 1, 1) := by decide +kernel
theorem dX0_addKind_63 : decode cX0_addKind 63 = .ok (.invokevirtual 81, 3) := by decide +kernel
theorem dX0_addKind_66 : decode cX0_addKind 66 = .ok (.ifCond .eq 13, 3) := by decide +kernel
theorem dX0_addKind_69 : decode cX0_addKind 69 = .ok (.new 76, 3) := by decide +kernel
theorem dX0_addKind_72 : decode cX0_addKind 72 = .ok (.dup, 1) := by decide +kernel
theorem dX0_addKind_73 : decode cX0_addKind 73 = .ok (.ldc 85, 2) := by decide +kernel
theorem dX0_addKind_75 : decode cX0_addKind 75 = .ok (.invokespecial 80, 3) := by decide +kernel
theorem dX0_addKind_78 : decode cX0_addKind 78 = .ok (.athrow, 1) := by decide +kernel
theorem dX0_addKind_79 : decode cX0_addKind 79 = .ok (.aload_n 0, 1) := by decide +kernel
theorem dX0_addKind_80 : decode cX0_addKind 80 = .ok (.getfield 13, 3) := by decide +kernel
theorem dX0_addKind_83 : decode cX0_addKind 83 = .ok (.aload_n 0, 1) := by decide +kernel
theorem dX0_addKind_84 : decode cX0_addKind 84 = .ok (.getfield 9, 3) := by decide +kernel
theorem dX0_addKind_87 : decode cX0_addKind 87 = .ok (.iload_n 1, 1) := by decide +kernel
theorem dX0_addKind_88 : decode cX0_addKind 88 = .ok (.iastore, 1) := by decide +kernel
theorem dX0_addKind_89 : decode cX0_addKind 89 = .ok (.aload_n 0, 1) := by decide +kernel
theorem dX0_addKind_90 : decode cX0_addKind 90 = .ok (.getfield 17, 3) := by decide +kernel
theorem dX0_addKind_93 : decode cX0_addKind 93 = .ok (.aload_n 0, 1) := by decide +kernel
theorem dX0_addKind_94 : decode cX0_addKind 94 = .ok (.getfield 9, 3) := by decide +kernel
theorem dX0_addKind_97 : decode cX0_addKind 97 = .ok (.iload_n 2, 1) := by decide +kernel
theorem dX0_addKind_98 : decode cX0_addKind 98 = .ok (.iastore, 1) := by decide +kernel
theorem dX0_addKind_99 : decode cX0_addKind 99 = .ok (.aload_n 0, 1) := by decide +kernel
theorem dX0_addKind_100 : decode cX0_addKind 100 = .ok (.getfield 29, 3) := by decide +kernel
theorem dX0_addKind_103 : decode cX0_addKind 103 = .ok (.aload_n 0, 1) := by decide +kernel
theorem dX0_addKind_104 : decode cX0_addKind 104 = .ok (.getfield 9, 3) := by decide +kernel
theorem dX0_addKind_107 : decode cX0_addKind 107 = .ok (.iconst 1, 1) := by decide +kernel
theorem dX0_addKind_108 : decode cX0_addKind 108 = .ok (.bastore, 1) := by decide +kernel
theorem dX0_addKind_109 : decode cX0_addKind 109 = .ok (.aload_n 0, 1) := by decide +kernel
theorem dX0_addKind_110 : decode cX0_addKind 110 = .ok (.dup, 1) := by decide +kernel
theorem dX0_addKind_111 : decode cX0_addKind 111 = .ok (.getfield 9, 3) := by decide +kernel
theorem dX0_addKind_114 : decode cX0_addKind 114 = .ok (.iconst 1, 1) := by decide +kernel
theorem dX0_addKind_115 : decode cX0_addKind 115 = .ok (.iadd, 1) := by decide +kernel
theorem dX0_addKind_116 : decode cX0_addKind 116 = .ok (.putfield 9, 3) := by decide +kernel
theorem dX0_addKind_119 : decode cX0_addKind 119 = .ok (.aload_n 0, 1) := by decide +kernel
theorem dX0_addKind_120 : decode cX0_addKind 120 = .ok (.getfield 9, 3) := by decide +kernel
theorem dX0_addKind_123 : decode cX0_addKind 123 = .ok (.iconst 1, 1) := by decide +kernel
theorem dX0_addKind_124 : decode cX0_addKind 124 = .ok (.isub, 1) := by decide +kernel
theorem dX0_addKind_125 : decode cX0_addKind 125 = .ok (.ireturn, 1) := by decide +kernel
set_option maxRecDepth 20000 in
theorem ggX0_fill_X0_checkKind : GoodIn wsX0_fill wsX0_checkKind := goodIn_ca (goodIn_r _ [13, 14, 15, 16, 22, 23, 24, 25, 26, 27, 28, 29, 30, 31, 32, 33, 34, 35, 36, 37, 38, 39] (by decide +kernel) (by decide +kernel)) (goodIn_sub (fun _ h => List.mem_cons_of_mem _ (List.mem_append_left _ (List.mem_append_right _ h))) (by decide +kernel))
set_option maxRecDepth 20000 in
theorem gX0_fill_X0_checkKind : GoodIn wsX0_fill (wsV RX0 87 RX0 yX0_checkKind wsX0_checkKind) := goodIn_app (goodIn_of _ (by decide +kernel)) ggX0_fill_X0_checkKind
set_option maxRecDepth 20000 in
theorem ggX0_fill_X0_checkMany : GoodIn wsX0_fill wsX0_checkMany := goodIn_ca (goodIn_r _ [19, 20, 21] (by decide +kernel) (by decide +kernel)) (goodIn_sub (fun _ h => List.mem_cons_of_mem _ (List.mem_append_right _ h)) (by decide +kernel))
set_option maxRecDepth 20000 in
theorem gX0_fill_X0_checkMany : GoodIn wsX0_fill (va_wsS RX0 91 yX0_checkMany wsX0_checkMany) := goodIn_app (goodIn_of _ (by decide +kernel)) ggX0_fill_X0_checkMany
theorem dX0_fill_0 : decode cX0_fill 0 = .ok (.aload_n 0, 1) := by decide +kernel
theorem dX0_fill_1 : decode cX0_fill 1 = .ok (.iload_n 1, 1) := by decide +kernel
theorem dX0_fill_2 : decode cX0_fill 2 = .ok (.invokevirtual 87, 3) := by decide +kernel
theorem dX0_fill_5 : decode cX0_fill 5 = .ok (.iload_n 2, 1) := by decide +kernel
theorem dX0_fill_6 : decode cX0_fill 6 = .ok (.invokestatic 91, 3) := by decide +kernel
theorem dX0_fill_9 : decode cX0_fill 9 = .ok (.iload_n 2, 1) := by decide +kernel
theorem dX0_fill_10 : decode cX0_fill 10 = .ok (.aload_n 0, 1) := by decide +kernel
theorem dX0_fill_11 : decode cX0_fill 11 = .ok (.getfield 17, 3) := by decide +kernel
theorem dX0_fill_14 : decode cX0_fill 14 = .ok (.iload_n 1, 1) := by decide +kernel
theorem dX0_fill_15 : decode cX0_fill 15 = .ok (.iaload, 1) := by decide +kernel
theorem dX0_fill_16 : decode cX0_fill 16 = .ok (.aload_n 0, 1) := by decide +kernel
theorem dX0_fill_17 : decode cX0_fill 17 = .ok (.getfield 20, 3) := by decide +kernel
theorem dX0_fill_20 : decode cX0_fill 20 = .ok (.iload_n 1, 1) := by decide +kernel
theorem dX0_fill_21 : decode cX0_fill 21 = .ok (.iaload, 1) := by decide +kernel
theorem dX0_fill_22 : decode cX0_fill 22 = .ok (.isub, 1) := by decide +kernel
theorem dX0_fill_23 : decode cX0_fill 23 = .ok (.invokestatic 94, 3) := by decide +kernel
theorem dX0_fill_26 : decode cX0_fill 26 = .ok (.istore_n 3, 1) := by decide +kernel
theorem dX0_fill_27 : decode cX0_fill 27 = .ok (.aload_n 0, 1) := by decide +kernel
theorem dX0_fill_28 : decode cX0_fill 28 = .ok (.getfield 20, 3) := by decide +kernel
theorem dX0_fill_31 : decode cX0_fill 31 = .ok (.iload_n 1, 1) := by decide +kernel
theorem dX0_fill_32 : decode cX0_fill 32 = .ok (.dup2, 1) := by decide +kernel
theorem dX0_fill_33 : decode cX0_fill 33 = .ok (.iaload, 1) := by decide +kernel
theorem dX0_fill_34 : decode cX0_fill 34 = .ok (.iload_n 3, 1) := by decide +kernel
theorem dX0_fill_35 : decode cX0_fill 35 = .ok (.iadd, 1) := by decide +kernel
theorem dX0_fill_36 : decode cX0_fill 36 = .ok (.iastore, 1) := by decide +kernel
theorem dX0_fill_37 : decode cX0_fill 37 = .ok (.aload_n 0, 1) := by decide +kernel
theorem dX0_fill_38 : decode cX0_fill 38 = .ok (.getfield 57, 3) := by decide +kernel
theorem dX0_fill_41 : decode cX0_fill 41 = .ok (.iconst 4, 1) := by decide +kernel
theorem dX0_fill_42 : decode cX0_fill 42 = .ok (.dup2, 1) := by decide +kernel
theorem dX0_fill_43 : decode cX0_fill 43 = .ok (.laload, 1) := by decide +kernel
theorem dX0_fill_44 : decode cX0_fill 44 = .ok (.iload_n 3, 1) := by decide +kernel
theorem dX0_fill_45 : decode cX0_fill 45 = .ok (.aload_n 0, 1) := by decide +kernel
theorem dX0_fill_46 : decode cX0_fill 46 = .ok (.getfield 13, 3) := by decide +kernel
theorem dX0_fill_49 : decode cX0_fill 49 = .ok (.iload_n 1, 1) := by decide +kernel
theorem dX0_fill_50 : decode cX0_fill 50 = .ok (.iaload, 1) := by decide +kernel
theorem dX0_fill_51 : decode cX0_fill 51 = .ok (.imul, 1) := by decide +kernel
theorem dX0_fill_52 : decode cX0_fill 52 = .ok (.i2l, 1) := by decide +kernel
theorem dX0_fill_53 : decode cX0_fill 53 = .ok (.ladd, 1) := by decide +kernel
theorem dX0_fill_54 : decode cX0_fill 54 = .ok (.lastore, 1) := by decide +kernel
theorem dX0_fill_55 : decode cX0_fill 55 = .ok (.iload_n 2, 1) := by decide +kernel
theorem dX0_fill_56 : decode cX0_fill 56 = .ok (.iload_n 3, 1) := by decide +kernel
theorem dX0_fill_57 : decode cX0_fill 57 = .ok (.isub, 1) := by decide +kernel
theorem dX0_fill_58 : decode cX0_fill 58 = .ok (.ireturn, 1) := by decide +kernel
set_option maxRecDepth 20000 in
theorem ggX0_addProduct_X0_checkPriceAndStock : GoodIn wsX0_addProduct wsX0_checkPriceAndStock := goodIn_ca (goodIn_r _ [9, 10, 11] (by decide +kernel) (by decide +kernel)) (goodIn_sub (fun _ h => List.mem_cons_of_mem _ (List.mem_append_right _ h)) (by decide +kernel))
set_option maxRecDepth 20000 in
theorem gX0_addProduct_X0_checkPriceAndStock : GoodIn wsX0_addProduct (va_wsS RX0 102 yX0_checkPriceAndStock wsX0_checkPriceAndStock) := goodIn_app (goodIn_of _ (by decide +kernel)) ggX0_addProduct_X0_checkPriceAndStock
theorem dX0_addProduct_0 : decode cX0_addProduct 0 = .ok (.iload_n 1, 1) := by decide +kernel
theorem dX0_addProduct_1 : decode cX0_addProduct 1 = .ok (.iload_n 2, 1) := by decide +kernel
theorem dX0_addProduct_2 : decode cX0_addProduct 2 = .ok (.invokestatic 102, 3) := by decide +kernel
theorem dX0_addProduct_5 : decode cX0_addProduct 5 = .ok (.aload_n 0, 1) := by decide +kernel
theorem dX0_addProduct_6 : decode cX0_addProduct 6 = .ok (.getfield 33, 3) := by decide +kernel
theorem dX0_addProduct_9 : decode cX0_addProduct 9 = .ok (.bipush 10, 2) := by decide +kernel
theorem dX0_addProduct_11 : decode cX0_addProduct 11 = .ok (.if_icmp .lt 13, 3) := by decide +kernel
theorem dX0_addProduct_14 : decode cX0_addProduct 14 = .ok (.new 76, 3) := by decide +kernel
theorem dX0_addProduct_17 : decode cX0_addProduct 17 = .ok (.dup, 1) := by decide +kernel
theorem dX0_addProduct_18 : decode cX0_addProduct 18 = .ok (.ldc 106, 2) := by decide +kernel
theorem dX0_addProduct_20 : decode cX0_addProduct 20 = .ok (.invokespecial 80, 3) := by decide +kernel
theorem dX0_addProduct_23 : decode cX0_addProduct 23 = .ok (.athrow, 1) := by decide +kernel
theorem dX0_addProduct_24 : decode cX0_addProduct 24 = .ok (.aload_n 0, 1) := by decide +kernel
theorem dX0_addProduct_25 : decode cX0_addProduct 25 = .ok (.getfield 36, 3) := by decide +kernel
theorem dX0_addProduct_28 : decode cX0_addProduct 28 = .ok (.aload_n 0, 1) := by decide +kernel
theorem dX0_addProduct_29 : decode cX0_addProduct 29 = .ok (.getfield 33, 3) := by decide +kernel
theorem dX0_addProduct_32 : decode cX0_addProduct 32 = .ok (.iload_n 1, 1) := by decide +kernel
theorem dX0_addProduct_33 : decode cX0_addProduct 33 = .ok (.iastore, 1) := by decide +kernel
theorem dX0_addProduct_34 : decode cX0_addProduct 34 = .ok (.aload_n 0, 1) := by decide +kernel
theorem dX0_addProduct_35 : decode cX0_addProduct 35 = .ok (.getfield 39, 3) := by decide +kernel
theorem dX0_addProduct_38 : decode cX0_addProduct 38 = .ok (.aload_n 0, 1) := by decide +kernel
theorem dX0_addProduct_39 : decode cX0_addProduct 39 = .ok (.getfield 33, 3) := by decide +kernel
theorem dX0_addProduct_42 : decode cX0_addProduct 42 = .ok (.iload_n 2, 1) := by decide +kernel
theorem dX0_addProduct_43 : decode cX0_addProduct 43 = .ok (.iastore, 1) := by decide +kernel
theorem dX0_addProduct_44 : decode cX0_addProduct 44 = .ok (.aload_n 0, 1) := by decide +kernel
theorem dX0_addProduct_45 : decode cX0_addProduct 45 = .ok (.dup, 1) := by decide +kernel
theorem dX0_addProduct_46 : decode cX0_addProduct 46 = .ok (.getfield 33, 3) := by decide +kernel
theorem dX0_addProduct_49 : decode cX0_addProduct 49 = .ok (.iconst 1, 1) := by decide +kernel
theorem dX0_addProduct_50 : decode cX0_addProduct 50 = .ok (.iadd, 1) := by decide +kernel
theorem dX0_addProduct_51 : decode cX0_addProduct 51 = .ok (.putfield 33, 3) := by decide +kernel
theorem dX0_addProduct_54 : decode cX0_addProduct 54 = .ok (.aload_n 0, 1) := by decide +kernel
theorem dX0_addProduct_55 : decode cX0_addProduct 55 = .ok (.getfield 33, 3) := by decide +kernel
theorem dX0_addProduct_58 : decode cX0_addProduct 58 = .ok (.iconst 1, 1) := by decide +kernel
theorem dX0_addProduct_59 : decode cX0_addProduct 59 = .ok (.isub, 1) := by decide +kernel
theorem dX0_addProduct_60 : decode cX0_addProduct 60 = .ok (.ireturn, 1) := by decide +kernel
set_option maxRecDepth 20000 in
theorem ggX0_insert_X0_checkKind : GoodIn wsX0_insert wsX0_checkKind := goodIn_ca (goodIn_r _ [11, 12, 13, 14, 23, 24, 25, 26, 27, 28, 29, 30, 31, 32, 33, 34, 35, 36, 37, 38, 39, 40] (by decide +kernel) (by decide +kernel)) (goodIn_sub (fun _ h => List.mem_cons_of_mem _ (List.mem_append_right _ h)) (by decide +kernel))
set_option maxRecDepth 20000 in
theorem gX0_insert_X0_checkKind : GoodIn wsX0_insert (wsV RX0 87 RX0 yX0_checkKind wsX0_checkKind) := goodIn_app (goodIn_of _ (by decide +kernel)) ggX0_insert_X0_checkKind
set_option maxRecDepth 20000 in
theorem ggX0_insert_X0_credit : GoodIn wsX0_insert wsX0_credit := goodIn_r _ [18, 14, 3, 19, 20, 21, 10, 22, 2, 5, 23, 24, 25, 26, 27, 28, 29, 30, 31, 32, 33, 34, 35, 36, 37, 38, 39, 40] (by decide +kernel) (by decide +kernel)
set_option maxRecDepth 20000 in
theorem gX0_insert_X0_credit : GoodIn wsX0_insert (wsV RX0 111 RX0 yX0_credit wsX0_credit) := goodIn_app (goodIn_of _ (by decide +kernel)) ggX0_insert_X0_credit
theorem dX0_insert_0 : decode cX0_insert 0 = .ok (.aload_n 0, 1) := by decide +kernel
theorem dX0_insert_1 : decode cX0_insert 1 = .ok (.iload_n 1, 1) := by decide +kernel
theorem dX0_insert_2 : decode cX0_insert 2 = .ok (.invokevirtual 87, 3) := by decide +kernel
theorem dX0_insert_5 : decode cX0_insert 5 = .ok (.aload_n 0, 1) := by decide +kernel
theorem dX0_insert_6 : decode cX0_insert 6 = .ok (.getfield 29, 3) := by decide +kernel
theorem dX0_insert_9 : decode cX0_insert 9 = .ok (.iload_n 1, 1) := by decide +kernel
theorem dX0_insert_10 : decode cX0_insert 10 = .ok (.baload, 1) := by decide +kernel
theorem dX0_insert_11 : decode cX0_insert 11 = .ok (.ifCond .ne 5, 3) := by decide +kernel
theorem dX0_insert_14 : decode cX0_insert 14 = .ok (.iconst 1, 1) := by decide +kernel
theorem dX0_insert_15 : decode cX0_insert 15 = .ok (.ireturn, 1) := by decide +kernel
theorem dX0_insert_16 : decode cX0_insert 16 = .ok (.aload_n 0, 1) := by decide +kernel
theorem dX0_insert_17 : decode cX0_insert 17 = .ok (.getfield 45, 3) := by decide +kernel
theorem dX0_insert_20 : decode cX0_insert 20 = .ok (.bipush 12, 2) := by decide +kernel
theorem dX0_insert_22 : decode cX0_insert 22 = .ok (.if_icmp .lt 5, 3) := by decide +kernel
theorem dX0_insert_25 : decode cX0_insert 25 = .ok (.iconst 2, 1) := by decide +kernel
theorem dX0_insert_26 : decode cX0_insert 26 = .ok (.ireturn, 1) := by decide +kernel
theorem dX0_insert_27 : decode cX0_insert 27 = .ok (.aload_n 0, 1) := by decide +kernel
theorem dX0_insert_28 : decode cX0_insert 28 = .ok (.invokevirtual 111, 3) := by decide +kernel
theorem dX0_insert_31 : decode cX0_insert 31 = .ok (.aload_n 0, 1) := by decide +kernel
theorem dX0_insert_32 : decode cX0_insert 32 = .ok (.getfield 13, 3) := by decide +kernel
theorem dX0_insert_35 : decode cX0_insert 35 = .ok (.iload_n 1, 1) := by decide +kernel
theorem dX0_insert_36 : decode cX0_insert 36 = .ok (.iaload, 1) := by decide +kernel
theorem dX0_insert_37 : decode cX0_insert 37 = .ok (.iadd, 1) := by decide +kernel
theorem dX0_insert_38 : decode cX0_insert 38 = .ok (.aload_n 0, 1) := by decide +kernel
theorem dX0_insert_39 : decode cX0_insert 39 = .ok (.getfield 42, 3) := by decide +kernel
theorem dX0_insert_42 : decode cX0_insert 42 = .ok (.if_icmp .le 5, 3) := by decide +kernel
theorem dX0_insert_45 : decode cX0_insert 45 = .ok (.iconst 3, 1) := by decide +kernel
theorem dX0_insert_46 : decode cX0_insert 46 = .ok (.ireturn, 1) := by decide +kernel
theorem dX0_insert_47 : decode cX0_insert 47 = .ok (.aload_n 0, 1) := by decide +kernel
theorem dX0_insert_48 : decode cX0_insert 48 = .ok (.getfield 48, 3) := by decide +kernel
theorem dX0_insert_51 : decode cX0_insert 51 = .ok (.aload_n 0, 1) := by decide +kernel
theorem dX0_insert_52 : decode cX0_insert 52 = .ok (.getfield 45, 3) := by decide +kernel
theorem dX0_insert_55 : decode cX0_insert 55 = .ok (.iload_n 1, 1) := by decide +kernel
theorem dX0_insert_56 : decode cX0_insert 56 = .ok (.iastore, 1) := by decide +kernel
theorem dX0_insert_57 : decode cX0_insert 57 = .ok (.aload_n 0, 1) := by decide +kernel
theorem dX0_insert_58 : decode cX0_insert 58 = .ok (.dup, 1) := by decide +kernel
theorem dX0_insert_59 : decode cX0_insert 59 = .ok (.getfield 45, 3) := by decide +kernel
theorem dX0_insert_62 : decode cX0_insert 62 = .ok (.iconst 1, 1) := by decide +kernel
theorem dX0_insert_63 : decode cX0_insert 63 = .ok (.iadd, 1) := by decide +kernel
theorem dX0_insert_64 : decode cX0_insert 64 = .ok (.putfield 45, 3) := by decide +kernel
theorem dX0_insert_67 : decode cX0_insert 67 = .ok (.aload_n 0, 1) := by decide +kernel
theorem dX0_insert_68 : decode cX0_insert 68 = .ok (.getfield 57, 3) := by decide +kernel
theorem dX0_insert_71 : decode cX0_insert 71 = .ok (.iconst 0, 1) := by decide +kernel
theorem dX0_insert_72 : decode cX0_insert 72 = .ok (.dup2, 1) := by decide +kernel
theorem dX0_insert_73 : decode cX0_insert 73 = .ok (.laload, 1) := by decide +kernel
theorem dX0_insert_74 : decode cX0_insert 74 = .ok (.aload_n 0, 1) := by decide +kernel
theorem dX0_insert_75 : decode cX0_insert 75 = .ok (.getfield 13, 3) := by decide +kernel
theorem dX0_insert_78 : decode cX0_insert 78 = .ok (.iload_n 1, 1) := by decide +kernel
theorem dX0_insert_79 : decode cX0_insert 79 = .ok (.iaload, 1) := by decide +kernel
theorem dX0_insert_80 : decode cX0_insert 80 = .ok (.i2l, 1) := by decide +kernel
theorem dX0_insert_81 : decode cX0_insert 81 = .ok (.ladd, 1) := by decide +kernel
theorem dX0_insert_82 : decode cX0_insert 82 = .ok (.lastore, 1) := by decide +kernel
theorem dX0_insert_83 : decode cX0_insert 83 = .ok (.iconst 0, 1) := by decide +kernel
theorem dX0_insert_84 : decode cX0_insert 84 = .ok (.ireturn, 1) := by decide +kernel
set_option maxRecDepth 20000 in
theorem ggX0_cancel_X0_credit : GoodIn wsX0_cancel wsX0_credit := goodIn_r _ [7, 8, 9, 10, 11, 12, 6, 13, 1, 14, 15, 16, 17, 18, 19, 20, 21, 22, 23, 24, 25, 26, 27, 28, 29, 30, 31, 32] (by decide +kernel) (by decide +kernel)
set_option maxRecDepth 20000 in
theorem gX0_cancel_X0_credit : GoodIn wsX0_cancel (wsV RX0 111 RX0 yX0_credit wsX0_credit) := goodIn_app (goodIn_of _ (by decide +kernel)) ggX0_cancel_X0_credit
theorem dX0_cancel_0 : decode cX0_cancel 0 = .ok (.aload_n 0, 1) := by decide +kernel
theorem dX0_cancel_1 : decode cX0_cancel 1 = .ok (.invokevirtual 111, 3) := by decide +kernel
theorem dX0_cancel_4 : decode cX0_cancel 4 = .ok (.istore_n 1, 1) := by decide +kernel
theorem dX0_cancel_5 : decode cX0_cancel 5 = .ok (.aload_n 0, 1) := by decide +kernel
theorem dX0_cancel_6 : decode cX0_cancel 6 = .ok (.iconst 0, 1) := by decide +kernel
theorem dX0_cancel_7 : decode cX0_cancel 7 = .ok (.putfield 45, 3) := by decide +kernel
theorem dX0_cancel_10 : decode cX0_cancel 10 = .ok (.aload_n 0, 1) := by decide +kernel
theorem dX0_cancel_11 : decode cX0_cancel 11 = .ok (.getfield 57, 3) := by decide +kernel
theorem dX0_cancel_14 : decode cX0_cancel 14 = .ok (.iconst 1, 1) := by decide +kernel
theorem dX0_cancel_15 : decode cX0_cancel 15 = .ok (.dup2, 1) := by decide +kernel
theorem dX0_cancel_16 : decode cX0_cancel 16 = .ok (.laload, 1) := by decide +kernel
theorem dX0_cancel_17 : decode cX0_cancel 17 = .ok (.iload_n 1, 1) := by decide +kernel
theorem dX0_cancel_18 : decode cX0_cancel 18 = .ok (.i2l, 1) := by decide +kernel
theorem dX0_cancel_19 : decode cX0_cancel 19 = .ok (.ladd, 1) := by decide +kernel
theorem dX0_cancel_20 : decode cX0_cancel 20 = .ok (.lastore, 1) := by decide +kernel
theorem dX0_cancel_21 : decode cX0_cancel 21 = .ok (.iload_n 1, 1) := by decide +kernel
theorem dX0_cancel_22 : decode cX0_cancel 22 = .ok (.ireturn, 1) := by decide +kernel
set_option maxRecDepth 20000 in
theorem ggX0_buy_X0_checkProduct : GoodIn wsX0_buy wsX0_checkProduct := goodIn_ca (goodIn_r _ [11, 12, 13, 14, 82, 83, 84, 85, 86, 87, 88, 89, 90, 91, 92, 93, 94, 95, 96, 97, 98, 99] (by decide +kernel) (by decide +kernel)) (goodIn_sub (fun _ h => List.mem_cons_of_mem _ (List.mem_append_right _ h)) (by decide +kernel))
set_option maxRecDepth 20000 in
theorem gX0_buy_X0_checkProduct : GoodIn wsX0_buy (wsV RX0 108 RX0 yX0_checkProduct wsX0_checkProduct) := goodIn_app (goodIn_of _ (by decide +kernel)) ggX0_buy_X0_checkProduct
set_option maxRecDepth 20000 in
theorem ggX0_buy_X0_credit : GoodIn wsX0_buy wsX0_credit := goodIn_r _ [18, 19, 20, 21, 22, 23, 10, 24, 25, 26, 82, 83, 84, 85, 86, 87, 88, 89, 90, 91, 92, 93, 94, 95, 96, 97, 98, 99] (by decide +kernel) (by decide +kernel)
set_option maxRecDepth 20000 in
theorem gX0_buy_X0_credit : GoodIn wsX0_buy (wsV RX0 111 RX0 yX0_credit wsX0_credit) := goodIn_app (goodIn_of _ (by decide +kernel)) ggX0_buy_X0_credit
set_option maxRecDepth 20000 in
theorem ggX0_buy_X0_foreseeTubes : GoodIn wsX0_buy wsX0_foreseeTubes := goodIn_r _ [30, 19, 3, 31, 32, 33, 34, 35, 36, 21, 22, 23, 10, 24, 25, 26, 82, 83, 84, 85, 86, 87, 88, 89, 90, 91, 92, 93, 94, 95, 96, 97, 98, 99] (by decide +kernel) (by decide +kernel)
set_option maxRecDepth 20000 in
theorem gX0_buy_X0_foreseeTubes : GoodIn wsX0_buy (wsV RX0 115 RX0 yX0_foreseeTubes wsX0_foreseeTubes) := goodIn_app (goodIn_of _ (by decide +kernel)) ggX0_buy_X0_foreseeTubes
set_option maxRecDepth 20000 in
theorem ggX0_buy_X0_scoreWays : GoodIn wsX0_buy wsX0_scoreWays := goodIn_r _ [40, 33, 34, 35, 36, 41, 4, 19, 42, 43, 44, 10, 45, 46, 20, 47, 48, 49, 50, 51, 52, 53, 54, 55, 56, 57, 82, 83, 84, 85, 86, 87, 88, 89, 90, 91, 92, 93, 94, 95, 96, 97, 98, 99] (by decide +kernel) (by decide +kernel)
set_option maxRecDepth 20000 in
theorem gX0_buy_X0_scoreWays : GoodIn wsX0_buy (wsV RX0 118 RX0 yX0_scoreWays wsX0_scoreWays) := goodIn_app (goodIn_of _ (by decide +kernel)) ggX0_buy_X0_scoreWays
set_option maxRecDepth 20000 in
theorem ggX0_buy_X0_scoreOf : GoodIn wsX0_buy wsX0_scoreOf := goodIn_r _ [61, 4, 41, 82, 83, 84, 85, 86, 87, 88, 89, 90, 91, 92, 93, 94, 95, 96, 97, 98, 99] (by decide +kernel) (by decide +kernel)
set_option maxRecDepth 20000 in
theorem gX0_buy_X0_scoreOf : GoodIn wsX0_buy (wsV RX0 122 RX0 yX0_scoreOf wsX0_scoreOf) := goodIn_app (goodIn_of _ (by decide +kernel)) ggX0_buy_X0_scoreOf
set_option maxRecDepth 20000 in
theorem ggX0_buy_X0_dropWaiting : GoodIn wsX0_buy wsX0_dropWaiting := goodIn_r _ [65, 19, 32, 31, 33, 34, 35, 36, 66, 25, 21, 22, 23, 10, 24, 26, 82, 83, 84, 85, 86, 87, 88, 89, 90, 91, 92, 93, 94, 95, 96, 97, 98, 99] (by decide +kernel) (by decide +kernel)
set_option maxRecDepth 20000 in
theorem gX0_buy_X0_dropWaiting : GoodIn wsX0_buy (wsV RX0 128 RX0 yX0_dropWaiting wsX0_dropWaiting) := goodIn_app (goodIn_of _ (by decide +kernel)) ggX0_buy_X0_dropWaiting
set_option maxRecDepth 20000 in
theorem ggX0_buy_X0_payOut : GoodIn wsX0_buy wsX0_payOut := goodIn_r _ [70, 19, 71, 31, 72, 73, 74, 10, 75, 76, 47, 48, 49, 50, 20, 82, 83, 84, 85, 86, 87, 88, 89, 90, 91, 92, 93, 94, 95, 96, 97, 98, 99] (by decide +kernel) (by decide +kernel)
set_option maxRecDepth 20000 in
theorem gX0_buy_X0_payOut : GoodIn wsX0_buy (wsV RX0 131 RX0 yX0_payOut wsX0_payOut) := goodIn_app (goodIn_of _ (by decide +kernel)) ggX0_buy_X0_payOut
set_option maxRecDepth 20000 in
theorem ggX0_buy_X0_countSale : GoodIn wsX0_buy wsX0_countSale := goodIn_r _ [80, 81, 82, 83, 84, 85, 86, 87, 88, 89, 90, 91, 92, 93, 94, 95, 96, 97, 98, 99] (by decide +kernel) (by decide +kernel)
set_option maxRecDepth 20000 in
theorem gX0_buy_X0_countSale : GoodIn wsX0_buy (wsV RX0 135 RX0 yX0_countSale wsX0_countSale) := goodIn_app (goodIn_of _ (by decide +kernel)) ggX0_buy_X0_countSale
theorem dX0_buy_0 : decode cX0_buy 0 = .ok (.aload_n 0, 1) := by decide +kernel
theorem dX0_buy_1 : decode cX0_buy 1 = .ok (.iload_n 1, 1) := by decide +kernel
theorem dX0_buy_2 : decode cX0_buy 2 = .ok (.invokevirtual 108, 3) := by decide +kernel
theorem dX0_buy_5 : decode cX0_buy 5 = .ok (.aload_n 0, 1) := by decide +kernel
theorem dX0_buy_6 : decode cX0_buy 6 = .ok (.getfield 39, 3) := by decide +kernel
theorem dX0_buy_9 : decode cX0_buy 9 = .ok (.iload_n 1, 1) := by decide +kernel
theorem dX0_buy_10 : decode cX0_buy 10 = .ok (.iaload, 1) := by decide +kernel
theorem dX0_buy_11 : decode cX0_buy 11 = .ok (.ifCond .ne 5, 3) := by decide +kernel
theorem dX0_buy_14 : decode cX0_buy 14 = .ok (.iconst 1, 1) := by decide +kernel
theorem dX0_buy_15 : decode cX0_buy 15 = .ok (.ireturn, 1) := by decide +kernel
theorem dX0_buy_16 : decode cX0_buy 16 = .ok (.aload_n 0, 1) := by decide +kernel
theorem dX0_buy_17 : decode cX0_buy 17 = .ok (.getfield 36, 3) := by decide +kernel
theorem dX0_buy_20 : decode cX0_buy 20 = .ok (.iload_n 1, 1) := by decide +kernel
theorem dX0_buy_21 : decode cX0_buy 21 = .ok (.iaload, 1) := by decide +kernel
theorem dX0_buy_22 : decode cX0_buy 22 = .ok (.istore_n 2, 1) := by decide +kernel
theorem dX0_buy_23 : decode cX0_buy 23 = .ok (.aload_n 0, 1) := by decide +kernel
theorem dX0_buy_24 : decode cX0_buy 24 = .ok (.invokevirtual 111, 3) := by decide +kernel
theorem dX0_buy_27 : decode cX0_buy 27 = .ok (.iload_n 2, 1) := by decide +kernel
theorem dX0_buy_28 : decode cX0_buy 28 = .ok (.isub, 1) := by decide +kernel
theorem dX0_buy_29 : decode cX0_buy 29 = .ok (.istore_n 3, 1) := by decide +kernel
theorem dX0_buy_30 : decode cX0_buy 30 = .ok (.iload_n 3, 1) := by decide +kernel
theorem dX0_buy_31 : decode cX0_buy 31 = .ok (.ifCond .ge 5, 3) := by decide +kernel
theorem dX0_buy_34 : decode cX0_buy 34 = .ok (.iconst 2, 1) := by decide +kernel
theorem dX0_buy_35 : decode cX0_buy 35 = .ok (.ireturn, 1) := by decide +kernel
theorem dX0_buy_36 : decode cX0_buy 36 = .ok (.aload_n 0, 1) := by decide +kernel
theorem dX0_buy_37 : decode cX0_buy 37 = .ok (.invokevirtual 115, 3) := by decide +kernel
theorem dX0_buy_40 : decode cX0_buy 40 = .ok (.aload_n 0, 1) := by decide +kernel
theorem dX0_buy_41 : decode cX0_buy 41 = .ok (.iload_n 3, 1) := by decide +kernel
theorem dX0_buy_42 : decode cX0_buy 42 = .ok (.aload_n 0, 1) := by decide +kernel
theorem dX0_buy_43 : decode cX0_buy 43 = .ok (.getfield 64, 3) := by decide +kernel
theorem dX0_buy_46 : decode cX0_buy 46 = .ok (.invokevirtual 118, 3) := by decide +kernel
theorem dX0_buy_49 : decode cX0_buy 49 = .ok (.aload_n 0, 1) := by decide +kernel
theorem dX0_buy_50 : decode cX0_buy 50 = .ok (.iload_n 3, 1) := by decide +kernel
theorem dX0_buy_51 : decode cX0_buy 51 = .ok (.invokevirtual 122, 3) := by decide +kernel
theorem dX0_buy_54 : decode cX0_buy 54 = .ok (.lstore 4, 2) := by decide +kernel
theorem dX0_buy_56 : decode cX0_buy 56 = .ok (.lload 4, 2) := by decide +kernel
theorem dX0_buy_58 : decode cX0_buy 58 = .ok (.ldc2_w 126, 3) := by decide +kernel
theorem dX0_buy_61 : decode cX0_buy 61 = .ok (.lcmp, 1) := by decide +kernel
theorem dX0_buy_62 : decode cX0_buy 62 = .ok (.ifCond .ne 5, 3) := by decide +kernel
theorem dX0_buy_65 : decode cX0_buy 65 = .ok (.iconst 3, 1) := by decide +kernel
theorem dX0_buy_66 : decode cX0_buy 66 = .ok (.ireturn, 1) := by decide +kernel
theorem dX0_buy_67 : decode cX0_buy 67 = .ok (.aload_n 0, 1) := by decide +kernel
theorem dX0_buy_68 : decode cX0_buy 68 = .ok (.invokevirtual 128, 3) := by decide +kernel
theorem dX0_buy_71 : decode cX0_buy 71 = .ok (.aload_n 0, 1) := by decide +kernel
theorem dX0_buy_72 : decode cX0_buy 72 = .ok (.lload 4, 2) := by decide +kernel
theorem dX0_buy_74 : decode cX0_buy 74 = .ok (.invokevirtual 131, 3) := by decide +kernel
theorem dX0_buy_77 : decode cX0_buy 77 = .ok (.aload_n 0, 1) := by decide +kernel
theorem dX0_buy_78 : decode cX0_buy 78 = .ok (.getfield 39, 3) := by decide +kernel
theorem dX0_buy_81 : decode cX0_buy 81 = .ok (.iload_n 1, 1) := by decide +kernel
theorem dX0_buy_82 : decode cX0_buy 82 = .ok (.dup2, 1) := by decide +kernel
theorem dX0_buy_83 : decode cX0_buy 83 = .ok (.iaload, 1) := by decide +kernel
theorem dX0_buy_84 : decode cX0_buy 84 = .ok (.iconst 1, 1) := by decide +kernel
theorem dX0_buy_85 : decode cX0_buy 85 = .ok (.isub, 1) := by decide +kernel
theorem dX0_buy_86 : decode cX0_buy 86 = .ok (.iastore, 1) := by decide +kernel
theorem dX0_buy_87 : decode cX0_buy 87 = .ok (.aload_n 0, 1) := by decide +kernel
theorem dX0_buy_88 : decode cX0_buy 88 = .ok (.iload_n 1, 1) := by decide +kernel
theorem dX0_buy_89 : decode cX0_buy 89 = .ok (.putfield 51, 3) := by decide +kernel
theorem dX0_buy_92 : decode cX0_buy 92 = .ok (.aload_n 0, 1) := by decide +kernel
theorem dX0_buy_93 : decode cX0_buy 93 = .ok (.iload_n 2, 1) := by decide +kernel
theorem dX0_buy_94 : decode cX0_buy 94 = .ok (.putfield 54, 3) := by decide +kernel
theorem dX0_buy_97 : decode cX0_buy 97 = .ok (.aload_n 0, 1) := by decide +kernel
theorem dX0_buy_98 : decode cX0_buy 98 = .ok (.iload_n 2, 1) := by decide +kernel
theorem dX0_buy_99 : decode cX0_buy 99 = .ok (.iload_n 3, 1) := by decide +kernel
theorem dX0_buy_100 : decode cX0_buy 100 = .ok (.invokevirtual 135, 3) := by decide +kernel
theorem dX0_buy_103 : decode cX0_buy 103 = .ok (.iconst 0, 1) := by decide +kernel
theorem dX0_buy_104 : decode cX0_buy 104 = .ok (.ireturn, 1) := by decide +kernel
set_option maxRecDepth 20000 in
theorem ggX0_credit_X0_waitingOf : GoodIn wsX0_credit wsX0_waitingOf := goodIn_r _ [7, 8, 9, 10, 11, 12, 13, 14, 15, 16, 17, 18, 19, 20, 21, 22, 23, 24, 25, 26, 27] (by decide +kernel) (by decide +kernel)
set_option maxRecDepth 20000 in
theorem gX0_credit_X0_waitingOf : GoodIn wsX0_credit (wsV RX0 140 RX0 yX0_waitingOf wsX0_waitingOf) := goodIn_app (goodIn_of _ (by decide +kernel)) ggX0_credit_X0_waitingOf
theorem dX0_credit_0 : decode cX0_credit 0 = .ok (.iconst 0, 1) := by decide +kernel
theorem dX0_credit_1 : decode cX0_credit 1 = .ok (.istore_n 1, 1) := by decide +kernel
theorem dX0_credit_2 : decode cX0_credit 2 = .ok (.iconst 0, 1) := by decide +kernel
theorem dX0_credit_3 : decode cX0_credit 3 = .ok (.istore_n 2, 1) := by decide +kernel
theorem dX0_credit_4 : decode cX0_credit 4 = .ok (.iload_n 2, 1) := by decide +kernel
theorem dX0_credit_5 : decode cX0_credit 5 = .ok (.aload_n 0, 1) := by decide +kernel
theorem dX0_credit_6 : decode cX0_credit 6 = .ok (.getfield 9, 3) := by decide +kernel
theorem dX0_credit_9 : decode cX0_credit 9 = .ok (.if_icmp .ge 24, 3) := by decide +kernel
theorem dX0_credit_12 : decode cX0_credit 12 = .ok (.iload_n 1, 1) := by decide +kernel
theorem dX0_credit_13 : decode cX0_credit 13 = .ok (.aload_n 0, 1) := by decide +kernel
theorem dX0_credit_14 : decode cX0_credit 14 = .ok (.iload_n 2, 1) := by decide +kernel
theorem dX0_credit_15 : decode cX0_credit 15 = .ok (.invokevirtual 140, 3) := by decide +kernel
theorem dX0_credit_18 : decode cX0_credit 18 = .ok (.aload_n 0, 1) := by decide +kernel
theorem dX0_credit_19 : decode cX0_credit 19 = .ok (.getfield 13, 3) := by decide +kernel
theorem dX0_credit_22 : decode cX0_credit 22 = .ok (.iload_n 2, 1) := by decide +kernel
theorem dX0_credit_23 : decode cX0_credit 23 = .ok (.iaload, 1) := by decide +kernel
theorem dX0_credit_24 : decode cX0_credit 24 = .ok (.imul, 1) := by decide +kernel
theorem dX0_credit_25 : decode cX0_credit 25 = .ok (.iadd, 1) := by decide +kernel
theorem dX0_credit_26 : decode cX0_credit 26 = .ok (.istore_n 1, 1) := by decide +kernel
theorem dX0_credit_27 : decode cX0_credit 27 = .ok (.iinc 2 1, 3) := by decide +kernel
theorem dX0_credit_30 : decode cX0_credit 30 = .ok (.goto (-26), 3) := by decide +kernel
theorem dX0_credit_33 : decode cX0_credit 33 = .ok (.iload_n 1, 1) := by decide +kernel
theorem dX0_credit_34 : decode cX0_credit 34 = .ok (.ireturn, 1) := by decide +kernel
set_option maxRecDepth 20000 in
theorem ggX0_coins_X0_checkKind : GoodIn wsX0_coins wsX0_checkKind := goodIn_ca (goodIn_r _ [7, 1, 2, 8, 17, 18, 19, 20, 21, 22, 23, 24, 25, 26, 27, 28, 29, 30, 31, 32, 33, 34] (by decide +kernel) (by decide +kernel)) (goodIn_sub (fun _ h => List.mem_cons_of_mem _ (List.mem_append_right _ h)) (by decide +kernel))
set_option maxRecDepth 20000 in
theorem gX0_coins_X0_checkKind : GoodIn wsX0_coins (wsV RX0 87 RX0 yX0_checkKind wsX0_checkKind) := goodIn_app (goodIn_of _ (by decide +kernel)) ggX0_coins_X0_checkKind
set_option maxRecDepth 20000 in
theorem ggX0_coins_X0_toldOfKind : GoodIn wsX0_coins wsX0_toldOfKind := goodIn_r _ [12, 13, 14, 15, 16, 17, 18, 19, 20, 21, 22, 23, 24, 25, 26, 27, 28, 29, 30, 31, 32, 33, 34] (by decide +kernel) (by decide +kernel)
set_option maxRecDepth 20000 in
theorem gX0_coins_X0_toldOfKind : GoodIn wsX0_coins (wsV RX0 151 RX0 yX0_toldOfKind wsX0_toldOfKind) := goodIn_app (goodIn_of _ (by decide +kernel)) ggX0_coins_X0_toldOfKind
theorem dX0_coins_0 : decode cX0_coins 0 = .ok (.aload_n 0, 1) := by decide +kernel
theorem dX0_coins_1 : decode cX0_coins 1 = .ok (.iload_n 1, 1) := by decide +kernel
theorem dX0_coins_2 : decode cX0_coins 2 = .ok (.invokevirtual 87, 3) := by decide +kernel
theorem dX0_coins_5 : decode cX0_coins 5 = .ok (.iload_n 2, 1) := by decide +kernel
theorem dX0_coins_6 : decode cX0_coins 6 = .ok (.ifCond .lt 8, 3) := by decide +kernel
theorem dX0_coins_9 : decode cX0_coins 9 = .ok (.iload_n 2, 1) := by decide +kernel
theorem dX0_coins_10 : decode cX0_coins 10 = .ok (.iconst 4, 1) := by decide +kernel
theorem dX0_coins_11 : decode cX0_coins 11 = .ok (.if_icmp .lt 13, 3) := by decide +kernel
theorem dX0_coins_14 : decode cX0_coins 14 = .ok (.new 144, 3) := by decide +kernel
theorem dX0_coins_17 : decode cX0_coins 17 = .ok (.dup, 1) := by decide +kernel
theorem dX0_coins_18 : decode cX0_coins 18 = .ok (.ldc 149, 2) := by decide +kernel
theorem dX0_coins_20 : decode cX0_coins 20 = .ok (.invokespecial 148, 3) := by decide +kernel
theorem dX0_coins_23 : decode cX0_coins 23 = .ok (.athrow, 1) := by decide +kernel
theorem dX0_coins_24 : decode cX0_coins 24 = .ok (.aload_n 0, 1) := by decide +kernel
theorem dX0_coins_25 : decode cX0_coins 25 = .ok (.iload_n 1, 1) := by decide +kernel
theorem dX0_coins_26 : decode cX0_coins 26 = .ok (.iload_n 2, 1) := by decide +kernel
theorem dX0_coins_27 : decode cX0_coins 27 = .ok (.invokevirtual 151, 3) := by decide +kernel
theorem dX0_coins_30 : decode cX0_coins 30 = .ok (.ireturn, 1) := by decide +kernel
set_option maxRecDepth 20000 in
theorem ggX0_fewest_X0_checkAmount : GoodIn wsX0_fewest wsX0_checkAmount := goodIn_ca (goodIn_r _ [6, 7, 8] (by decide +kernel) (by decide +kernel)) (goodIn_sub (fun _ h => List.mem_cons_of_mem _ (List.mem_append_right _ h)) (by decide +kernel))
set_option maxRecDepth 20000 in
theorem gX0_fewest_X0_checkAmount : GoodIn wsX0_fewest (va_wsS RX0 154 yX0_checkAmount wsX0_checkAmount) := goodIn_app (goodIn_of _ (by decide +kernel)) ggX0_fewest_X0_checkAmount
set_option maxRecDepth 20000 in
theorem ggX0_fewest_X0_scoreWays : GoodIn wsX0_fewest wsX0_scoreWays := goodIn_r _ [12, 13, 14, 15, 16, 17, 2, 18, 19, 20, 21, 5, 22, 23, 24, 25, 26, 27, 28, 29, 30, 31, 32, 33, 34, 35, 43, 44, 45, 46, 47, 48, 49, 50, 51, 52, 53, 54, 55, 56, 57, 58, 59, 60] (by decide +kernel) (by decide +kernel)
set_option maxRecDepth 20000 in
theorem gX0_fewest_X0_scoreWays : GoodIn wsX0_fewest (wsV RX0 118 RX0 yX0_scoreWays wsX0_scoreWays) := goodIn_app (goodIn_of _ (by decide +kernel)) ggX0_fewest_X0_scoreWays
set_option maxRecDepth 20000 in
theorem ggX0_fewest_X0_scoreOf : GoodIn wsX0_fewest wsX0_scoreOf := goodIn_r _ [39, 2, 17, 43, 44, 45, 46, 47, 48, 49, 50, 51, 52, 53, 54, 55, 56, 57, 58, 59, 60] (by decide +kernel) (by decide +kernel)
set_option maxRecDepth 20000 in
theorem gX0_fewest_X0_scoreOf : GoodIn wsX0_fewest (wsV RX0 122 RX0 yX0_scoreOf wsX0_scoreOf) := goodIn_app (goodIn_of _ (by decide +kernel)) ggX0_fewest_X0_scoreOf
set_option maxRecDepth 20000 in
theorem ggX0_fewest_X0_coinsInWay : GoodIn wsX0_fewest wsX0_coinsInWay := goodIn_r _ [42] (by decide +kernel) (by decide +kernel)
set_option maxRecDepth 20000 in
theorem gX0_fewest_X0_coinsInWay : GoodIn wsX0_fewest (va_wsS RX0 157 yX0_coinsInWay wsX0_coinsInWay) := goodIn_app (goodIn_of _ (by decide +kernel)) ggX0_fewest_X0_coinsInWay
theorem dX0_fewest_0 : decode cX0_fewest 0 = .ok (.iload_n 1, 1) := by decide +kernel
theorem dX0_fewest_1 : decode cX0_fewest 1 = .ok (.invokestatic 154, 3) := by decide +kernel
theorem dX0_fewest_4 : decode cX0_fewest 4 = .ok (.aload_n 0, 1) := by decide +kernel
theorem dX0_fewest_5 : decode cX0_fewest 5 = .ok (.iload_n 1, 1) := by decide +kernel
theorem dX0_fewest_6 : decode cX0_fewest 6 = .ok (.aload_n 0, 1) := by decide +kernel
theorem dX0_fewest_7 : decode cX0_fewest 7 = .ok (.getfield 20, 3) := by decide +kernel
theorem dX0_fewest_10 : decode cX0_fewest 10 = .ok (.invokevirtual 118, 3) := by decide +kernel
theorem dX0_fewest_13 : decode cX0_fewest 13 = .ok (.aload_n 0, 1) := by decide +kernel
theorem dX0_fewest_14 : decode cX0_fewest 14 = .ok (.iload_n 1, 1) := by decide +kernel
theorem dX0_fewest_15 : decode cX0_fewest 15 = .ok (.invokevirtual 122, 3) := by decide +kernel
theorem dX0_fewest_18 : decode cX0_fewest 18 = .ok (.lstore_n 2, 1) := by decide +kernel
theorem dX0_fewest_19 : decode cX0_fewest 19 = .ok (.lload_n 2, 1) := by decide +kernel
theorem dX0_fewest_20 : decode cX0_fewest 20 = .ok (.ldc2_w 126, 3) := by decide +kernel
theorem dX0_fewest_23 : decode cX0_fewest 23 = .ok (.lcmp, 1) := by decide +kernel
theorem dX0_fewest_24 : decode cX0_fewest 24 = .ok (.ifCond .ne 7, 3) := by decide +kernel
theorem dX0_fewest_27 : decode cX0_fewest 27 = .ok (.iconst (-1), 1) := by decide +kernel
theorem dX0_fewest_28 : decode cX0_fewest 28 = .ok (.goto 7, 3) := by decide +kernel
theorem dX0_fewest_31 : decode cX0_fewest 31 = .ok (.lload_n 2, 1) := by decide +kernel
theorem dX0_fewest_32 : decode cX0_fewest 32 = .ok (.invokestatic 157, 3) := by decide +kernel
theorem dX0_fewest_35 : decode cX0_fewest 35 = .ok (.ireturn, 1) := by decide +kernel
set_option maxRecDepth 20000 in
theorem ggX0_part_X0_checkAmount : GoodIn wsX0_part wsX0_checkAmount := goodIn_ca (goodIn_r _ [6, 7, 8] (by decide +kernel) (by decide +kernel)) (goodIn_sub (fun _ h => List.mem_cons_of_mem _ (List.mem_append_left _ (List.mem_append_right _ h))) (by decide +kernel))
set_option maxRecDepth 20000 in
theorem gX0_part_X0_checkAmount : GoodIn wsX0_part (va_wsS RX0 154 yX0_checkAmount wsX0_checkAmount) := goodIn_app (goodIn_of _ (by decide +kernel)) ggX0_part_X0_checkAmount
set_option maxRecDepth 20000 in
theorem ggX0_part_X0_checkKind : GoodIn wsX0_part wsX0_checkKind := goodIn_ca (goodIn_r _ [12, 13, 14, 15, 51, 52, 53, 54, 55, 56, 57, 58, 59, 60, 61, 62, 63, 64, 65, 66, 67, 68] (by decide +kernel) (by decide +kernel)) (goodIn_sub (fun _ h => List.mem_cons_of_mem _ (List.mem_append_right _ h)) (by decide +kernel))
set_option maxRecDepth 20000 in
theorem gX0_part_X0_checkKind : GoodIn wsX0_part (wsV RX0 87 RX0 yX0_checkKind wsX0_checkKind) := goodIn_app (goodIn_of _ (by decide +kernel)) ggX0_part_X0_checkKind
set_option maxRecDepth 20000 in
theorem ggX0_part_X0_scoreWays : GoodIn wsX0_part wsX0_scoreWays := goodIn_r _ [19, 20, 21, 22, 23, 24, 2, 15, 25, 26, 27, 5, 28, 29, 30, 31, 32, 33, 34, 35, 36, 37, 38, 39, 40, 41, 51, 52, 53, 54, 55, 56, 57, 58, 59, 60, 61, 62, 63, 64, 65, 66, 67, 68] (by decide +kernel) (by decide +kernel)
set_option maxRecDepth 20000 in
theorem gX0_part_X0_scoreWays : GoodIn wsX0_part (wsV RX0 118 RX0 yX0_scoreWays wsX0_scoreWays) := goodIn_app (goodIn_of _ (by decide +kernel)) ggX0_part_X0_scoreWays
set_option maxRecDepth 20000 in
theorem ggX0_part_X0_scoreOf : GoodIn wsX0_part wsX0_scoreOf := goodIn_r _ [45, 2, 24, 51, 52, 53, 54, 55, 56, 57, 58, 59, 60, 61, 62, 63, 64, 65, 66, 67, 68] (by decide +kernel) (by decide +kernel)
set_option maxRecDepth 20000 in
theorem gX0_part_X0_scoreOf : GoodIn wsX0_part (wsV RX0 122 RX0 yX0_scoreOf wsX0_scoreOf) := goodIn_app (goodIn_of _ (by decide +kernel)) ggX0_part_X0_scoreOf
set_option maxRecDepth 20000 in
theorem ggX0_part_X0_coinsOfKindInWay : GoodIn wsX0_part wsX0_coinsOfKindInWay := goodIn_r _ [49, 50, 31, 32, 33, 5, 34, 15, 30, 51, 52, 53, 54, 55, 56, 57, 58, 59, 60, 61, 62, 63, 64, 65, 66, 67, 68] (by decide +kernel) (by decide +kernel)
set_option maxRecDepth 20000 in
theorem gX0_part_X0_coinsOfKindInWay : GoodIn wsX0_part (wsV RX0 161 RX0 yX0_coinsOfKindInWay wsX0_coinsOfKindInWay) := goodIn_app (goodIn_of _ (by decide +kernel)) ggX0_part_X0_coinsOfKindInWay
theorem dX0_part_0 : decode cX0_part 0 = .ok (.iload_n 1, 1) := by decide +kernel
theorem dX0_part_1 : decode cX0_part 1 = .ok (.invokestatic 154, 3) := by decide +kernel
theorem dX0_part_4 : decode cX0_part 4 = .ok (.aload_n 0, 1) := by decide +kernel
theorem dX0_part_5 : decode cX0_part 5 = .ok (.iload_n 2, 1) := by decide +kernel
theorem dX0_part_6 : decode cX0_part 6 = .ok (.invokevirtual 87, 3) := by decide +kernel
theorem dX0_part_9 : decode cX0_part 9 = .ok (.aload_n 0, 1) := by decide +kernel
theorem dX0_part_10 : decode cX0_part 10 = .ok (.iload_n 1, 1) := by decide +kernel
theorem dX0_part_11 : decode cX0_part 11 = .ok (.aload_n 0, 1) := by decide +kernel
theorem dX0_part_12 : decode cX0_part 12 = .ok (.getfield 20, 3) := by decide +kernel
theorem dX0_part_15 : decode cX0_part 15 = .ok (.invokevirtual 118, 3) := by decide +kernel
theorem dX0_part_18 : decode cX0_part 18 = .ok (.aload_n 0, 1) := by decide +kernel
theorem dX0_part_19 : decode cX0_part 19 = .ok (.iload_n 1, 1) := by decide +kernel
theorem dX0_part_20 : decode cX0_part 20 = .ok (.invokevirtual 122, 3) := by decide +kernel
theorem dX0_part_23 : decode cX0_part 23 = .ok (.lstore_n 3, 1) := by decide +kernel
theorem dX0_part_24 : decode cX0_part 24 = .ok (.lload_n 3, 1) := by decide +kernel
theorem dX0_part_25 : decode cX0_part 25 = .ok (.ldc2_w 126, 3) := by decide +kernel
theorem dX0_part_28 : decode cX0_part 28 = .ok (.lcmp, 1) := by decide +kernel
theorem dX0_part_29 : decode cX0_part 29 = .ok (.ifCond .ne 7, 3) := by decide +kernel
theorem dX0_part_32 : decode cX0_part 32 = .ok (.iconst (-1), 1) := by decide +kernel
theorem dX0_part_33 : decode cX0_part 33 = .ok (.goto 9, 3) := by decide +kernel
theorem dX0_part_36 : decode cX0_part 36 = .ok (.aload_n 0, 1) := by decide +kernel
theorem dX0_part_37 : decode cX0_part 37 = .ok (.lload_n 3, 1) := by decide +kernel
theorem dX0_part_38 : decode cX0_part 38 = .ok (.iload_n 2, 1) := by decide +kernel
theorem dX0_part_39 : decode cX0_part 39 = .ok (.invokevirtual 161, 3) := by decide +kernel
theorem dX0_part_42 : decode cX0_part 42 = .ok (.ireturn, 1) := by decide +kernel
set_option maxRecDepth 20000 in
theorem ggX0_below_X0_checkAmount : GoodIn wsX0_below wsX0_checkAmount := goodIn_ca (goodIn_r _ [6, 7, 8] (by decide +kernel) (by decide +kernel)) (goodIn_sub (fun _ h => List.mem_cons_of_mem _ (List.mem_append_right _ h)) (by decide +kernel))
set_option maxRecDepth 20000 in
theorem gX0_below_X0_checkAmount : GoodIn wsX0_below (va_wsS RX0 154 yX0_checkAmount wsX0_checkAmount) := goodIn_app (goodIn_of _ (by decide +kernel)) ggX0_below_X0_checkAmount
set_option maxRecDepth 20000 in
theorem ggX0_below_X0_scoreWays : GoodIn wsX0_below wsX0_scoreWays := goodIn_r _ [12, 13, 14, 15, 16, 17, 2, 18, 19, 20, 21, 5, 22, 23, 24, 25, 26, 27, 28, 29, 30, 31, 32, 33, 34, 35, 40, 41, 42, 43, 44, 45, 46, 47, 48, 49, 50, 51, 52, 53, 54, 55, 56, 57] (by decide +kernel) (by decide +kernel)
set_option maxRecDepth 20000 in
theorem gX0_below_X0_scoreWays : GoodIn wsX0_below (wsV RX0 118 RX0 yX0_scoreWays wsX0_scoreWays) := goodIn_app (goodIn_of _ (by decide +kernel)) ggX0_below_X0_scoreWays
set_option maxRecDepth 20000 in
theorem ggX0_below_X0_scoreOf : GoodIn wsX0_below wsX0_scoreOf := goodIn_r _ [39, 2, 17, 40, 41, 42, 43, 44, 45, 46, 47, 48, 49, 50, 51, 52, 53, 54, 55, 56, 57] (by decide +kernel) (by decide +kernel)
set_option maxRecDepth 20000 in
theorem gX0_below_X0_scoreOf : GoodIn wsX0_below (wsV RX0 122 RX0 yX0_scoreOf wsX0_scoreOf) := goodIn_app (goodIn_of _ (by decide +kernel)) ggX0_below_X0_scoreOf
theorem dX0_below_0 : decode cX0_below 0 = .ok (.iload_n 1, 1) := by decide +kernel
theorem dX0_below_1 : decode cX0_below 1 = .ok (.invokestatic 154, 3) := by decide +kernel
theorem dX0_below_4 : decode cX0_below 4 = .ok (.aload_n 0, 1) := by decide +kernel
theorem dX0_below_5 : decode cX0_below 5 = .ok (.iload_n 1, 1) := by decide +kernel
theorem dX0_below_6 : decode cX0_below 6 = .ok (.aload_n 0, 1) := by decide +kernel
theorem dX0_below_7 : decode cX0_below 7 = .ok (.getfield 20, 3) := by decide +kernel
theorem dX0_below_10 : decode cX0_below 10 = .ok (.invokevirtual 118, 3) := by decide +kernel
theorem dX0_below_13 : decode cX0_below 13 = .ok (.iload_n 1, 1) := by decide +kernel
theorem dX0_below_14 : decode cX0_below 14 = .ok (.istore_n 2, 1) := by decide +kernel
theorem dX0_below_15 : decode cX0_below 15 = .ok (.iload_n 2, 1) := by decide +kernel
theorem dX0_below_16 : decode cX0_below 16 = .ok (.ifCond .le 23, 3) := by decide +kernel
theorem dX0_below_19 : decode cX0_below 19 = .ok (.aload_n 0, 1) := by decide +kernel
theorem dX0_below_20 : decode cX0_below 20 = .ok (.iload_n 2, 1) := by decide +kernel
theorem dX0_below_21 : decode cX0_below 21 = .ok (.invokevirtual 122, 3) := by decide +kernel
theorem dX0_below_24 : decode cX0_below 24 = .ok (.ldc2_w 126, 3) := by decide +kernel
theorem dX0_below_27 : decode cX0_below 27 = .ok (.lcmp, 1) := by decide +kernel
theorem dX0_below_28 : decode cX0_below 28 = .ok (.ifCond .eq 5, 3) := by decide +kernel
theorem dX0_below_31 : decode cX0_below 31 = .ok (.iload_n 2, 1) := by decide +kernel
theorem dX0_below_32 : decode cX0_below 32 = .ok (.ireturn, 1) := by decide +kernel
theorem dX0_below_33 : decode cX0_below 33 = .ok (.iinc 2 (-1), 3) := by decide +kernel
theorem dX0_below_36 : decode cX0_below 36 = .ok (.goto (-21), 3) := by decide +kernel
theorem dX0_below_39 : decode cX0_below 39 = .ok (.iconst 0, 1) := by decide +kernel
theorem dX0_below_40 : decode cX0_below 40 = .ok (.ireturn, 1) := by decide +kernel
set_option maxRecDepth 20000 in
theorem ggX0_gaps_X0_checkAmount : GoodIn wsX0_gaps wsX0_checkAmount := goodIn_ca (goodIn_r _ [6, 7, 8] (by decide +kernel) (by decide +kernel)) (goodIn_sub (fun _ h => List.mem_cons_of_mem _ (List.mem_append_right _ h)) (by decide +kernel))
set_option maxRecDepth 20000 in
theorem gX0_gaps_X0_checkAmount : GoodIn wsX0_gaps (va_wsS RX0 154 yX0_checkAmount wsX0_checkAmount) := goodIn_app (goodIn_of _ (by decide +kernel)) ggX0_gaps_X0_checkAmount
set_option maxRecDepth 20000 in
theorem ggX0_gaps_X0_unit : GoodIn wsX0_gaps wsX0_unit := goodIn_r _ [12, 13, 14, 15, 16, 5, 17, 18, 48, 49, 50, 51, 52, 53, 54, 55, 56, 57, 58, 59, 60, 61, 62, 63, 64, 65] (by decide +kernel) (by decide +kernel)
set_option maxRecDepth 20000 in
theorem gX0_gaps_X0_unit : GoodIn wsX0_gaps (wsV RX0 165 RX0 yX0_unit wsX0_unit) := goodIn_app (goodIn_of _ (by decide +kernel)) ggX0_gaps_X0_unit
set_option maxRecDepth 20000 in
theorem ggX0_gaps_X0_scoreWays : GoodIn wsX0_gaps wsX0_scoreWays := goodIn_r _ [22, 23, 24, 25, 26, 27, 2, 13, 28, 29, 30, 5, 31, 32, 18, 33, 34, 35, 36, 37, 38, 39, 40, 41, 42, 43, 48, 49, 50, 51, 52, 53, 54, 55, 56, 57, 58, 59, 60, 61, 62, 63, 64, 65] (by decide +kernel) (by decide +kernel)
set_option maxRecDepth 20000 in
theorem gX0_gaps_X0_scoreWays : GoodIn wsX0_gaps (wsV RX0 118 RX0 yX0_scoreWays wsX0_scoreWays) := goodIn_app (goodIn_of _ (by decide +kernel)) ggX0_gaps_X0_scoreWays
set_option maxRecDepth 20000 in
theorem ggX0_gaps_X0_scoreOf : GoodIn wsX0_gaps wsX0_scoreOf := goodIn_r _ [47, 2, 27, 48, 49, 50, 51, 52, 53, 54, 55, 56, 57, 58, 59, 60, 61, 62, 63, 64, 65] (by decide +kernel) (by decide +kernel)
set_option maxRecDepth 20000 in
theorem gX0_gaps_X0_scoreOf : GoodIn wsX0_gaps (wsV RX0 122 RX0 yX0_scoreOf wsX0_scoreOf) := goodIn_app (goodIn_of _ (by decide +kernel)) ggX0_gaps_X0_scoreOf
theorem dX0_gaps_0 : decode cX0_gaps 0 = .ok (.iload_n 1, 1) := by decide +kernel
theorem dX0_gaps_1 : decode cX0_gaps 1 = .ok (.invokestatic 154, 3) := by decide +kernel
theorem dX0_gaps_4 : decode cX0_gaps 4 = .ok (.aload_n 0, 1) := by decide +kernel
theorem dX0_gaps_5 : decode cX0_gaps 5 = .ok (.invokevirtual 165, 3) := by decide +kernel
theorem dX0_gaps_8 : decode cX0_gaps 8 = .ok (.istore_n 2, 1) := by decide +kernel
theorem dX0_gaps_9 : decode cX0_gaps 9 = .ok (.iload_n 2, 1) := by decide +kernel
theorem dX0_gaps_10 : decode cX0_gaps 10 = .ok (.iconst 1, 1) := by decide +kernel
theorem dX0_gaps_11 : decode cX0_gaps 11 = .ok (.if_icmp .ge 5, 3) := by decide +kernel
theorem dX0_gaps_14 : decode cX0_gaps 14 = .ok (.iconst 0, 1) := by decide +kernel
theorem dX0_gaps_15 : decode cX0_gaps 15 = .ok (.ireturn, 1) := by decide +kernel
theorem dX0_gaps_16 : decode cX0_gaps 16 = .ok (.aload_n 0, 1) := by decide +kernel
theorem dX0_gaps_17 : decode cX0_gaps 17 = .ok (.iload_n 1, 1) := by decide +kernel
theorem dX0_gaps_18 : decode cX0_gaps 18 = .ok (.aload_n 0, 1) := by decide +kernel
theorem dX0_gaps_19 : decode cX0_gaps 19 = .ok (.getfield 20, 3) := by decide +kernel
theorem dX0_gaps_22 : decode cX0_gaps 22 = .ok (.invokevirtual 118, 3) := by decide +kernel
theorem dX0_gaps_25 : decode cX0_gaps 25 = .ok (.iconst 0, 1) := by decide +kernel
theorem dX0_gaps_26 : decode cX0_gaps 26 = .ok (.istore_n 3, 1) := by decide +kernel
theorem dX0_gaps_27 : decode cX0_gaps 27 = .ok (.iconst 1, 1) := by decide +kernel
theorem dX0_gaps_28 : decode cX0_gaps 28 = .ok (.istore 4, 2) := by decide +kernel
theorem dX0_gaps_30 : decode cX0_gaps 30 = .ok (.iload 4, 2) := by decide +kernel
theorem dX0_gaps_32 : decode cX0_gaps 32 = .ok (.iload_n 1, 1) := by decide +kernel
theorem dX0_gaps_33 : decode cX0_gaps 33 = .ok (.if_icmp .gt 32, 3) := by decide +kernel
theorem dX0_gaps_36 : decode cX0_gaps 36 = .ok (.iload 4, 2) := by decide +kernel
theorem dX0_gaps_38 : decode cX0_gaps 38 = .ok (.iload_n 2, 1) := by decide +kernel
theorem dX0_gaps_39 : decode cX0_gaps 39 = .ok (.irem, 1) := by decide +kernel
theorem dX0_gaps_40 : decode cX0_gaps 40 = .ok (.ifCond .ne 19, 3) := by decide +kernel
theorem dX0_gaps_43 : decode cX0_gaps 43 = .ok (.aload_n 0, 1) := by decide +kernel
theorem dX0_gaps_44 : decode cX0_gaps 44 = .ok (.iload 4, 2) := by decide +kernel
theorem dX0_gaps_46 : decode cX0_gaps 46 = .ok (.invokevirtual 122, 3) := by decide +kernel
theorem dX0_gaps_49 : decode cX0_gaps 49 = .ok (.ldc2_w 126, 3) := by decide +kernel
theorem dX0_gaps_52 : decode cX0_gaps 52 = .ok (.lcmp, 1) := by decide +kernel
theorem dX0_gaps_53 : decode cX0_gaps 53 = .ok (.ifCond .ne 6, 3) := by decide +kernel
theorem dX0_gaps_56 : decode cX0_gaps 56 = .ok (.iinc 3 1, 3) := by decide +kernel
theorem dX0_gaps_59 : decode cX0_gaps 59 = .ok (.iinc 4 1, 3) := by decide +kernel
theorem dX0_gaps_62 : decode cX0_gaps 62 = .ok (.goto (-32), 3) := by decide +kernel
theorem dX0_gaps_65 : decode cX0_gaps 65 = .ok (.iload_n 3, 1) := by decide +kernel
theorem dX0_gaps_66 : decode cX0_gaps 66 = .ok (.ireturn, 1) := by decide +kernel
set_option maxRecDepth 20000 in
theorem ggX0_unit_X0_dividesAllValues : GoodIn wsX0_unit wsX0_dividesAllValues := goodIn_r _ [6, 1, 7, 8, 9, 10, 11, 12, 13, 14, 15, 16, 17, 18, 19, 20, 21, 22, 23, 24, 25] (by decide +kernel) (by decide +kernel)
set_option maxRecDepth 20000 in
theorem gX0_unit_X0_dividesAllValues : GoodIn wsX0_unit (wsV RX0 168 RX0 yX0_dividesAllValues wsX0_dividesAllValues) := goodIn_app (goodIn_of _ (by decide +kernel)) ggX0_unit_X0_dividesAllValues
theorem dX0_unit_0 : decode cX0_unit 0 = .ok (.aload_n 0, 1) := by decide +kernel
theorem dX0_unit_1 : decode cX0_unit 1 = .ok (.getfield 9, 3) := by decide +kernel
theorem dX0_unit_4 : decode cX0_unit 4 = .ok (.ifCond .ne 5, 3) := by decide +kernel
theorem dX0_unit_7 : decode cX0_unit 7 = .ok (.iconst 0, 1) := by decide +kernel
theorem dX0_unit_8 : decode cX0_unit 8 = .ok (.ireturn, 1) := by decide +kernel
theorem dX0_unit_9 : decode cX0_unit 9 = .ok (.sipush 500, 3) := by decide +kernel
theorem dX0_unit_12 : decode cX0_unit 12 = .ok (.istore_n 1, 1) := by decide +kernel
theorem dX0_unit_13 : decode cX0_unit 13 = .ok (.iload_n 1, 1) := by decide +kernel
theorem dX0_unit_14 : decode cX0_unit 14 = .ok (.iconst 1, 1) := by decide +kernel
theorem dX0_unit_15 : decode cX0_unit 15 = .ok (.if_icmp .le 19, 3) := by decide +kernel
theorem dX0_unit_18 : decode cX0_unit 18 = .ok (.aload_n 0, 1) := by decide +kernel
theorem dX0_unit_19 : decode cX0_unit 19 = .ok (.iload_n 1, 1) := by decide +kernel
theorem dX0_unit_20 : decode cX0_unit 20 = .ok (.invokevirtual 168, 3) := by decide +kernel
theorem dX0_unit_23 : decode cX0_unit 23 = .ok (.ifCond .eq 5, 3) := by decide +kernel
theorem dX0_unit_26 : decode cX0_unit 26 = .ok (.iload_n 1, 1) := by decide +kernel
theorem dX0_unit_27 : decode cX0_unit 27 = .ok (.ireturn, 1) := by decide +kernel
theorem dX0_unit_28 : decode cX0_unit 28 = .ok (.iinc 1 (-1), 3) := by decide +kernel
theorem dX0_unit_31 : decode cX0_unit 31 = .ok (.goto (-18), 3) := by decide +kernel
theorem dX0_unit_34 : decode cX0_unit 34 = .ok (.iconst 1, 1) := by decide +kernel
theorem dX0_unit_35 : decode cX0_unit 35 = .ok (.ireturn, 1) := by decide +kernel
theorem dX0_audit_0 : decode cX0_audit 0 = .ok (.iload_n 1, 1) := by decide +kernel
theorem dX0_audit_1 : decode cX0_audit 1 = .ok (.ifCond .lt 9, 3) := by decide +kernel
theorem dX0_audit_4 : decode cX0_audit 4 = .ok (.iload_n 1, 1) := by decide +kernel
theorem dX0_audit_5 : decode cX0_audit 5 = .ok (.bipush 10, 2) := by decide +kernel
theorem dX0_audit_7 : decode cX0_audit 7 = .ok (.if_icmp .lt 13, 3) := by decide +kernel
theorem dX0_audit_10 : decode cX0_audit 10 = .ok (.new 144, 3) := by decide +kernel
theorem dX0_audit_13 : decode cX0_audit 13 = .ok (.dup, 1) := by decide +kernel
theorem dX0_audit_14 : decode cX0_audit 14 = .ok (.ldc 174, 2) := by decide +kernel
theorem dX0_audit_16 : decode cX0_audit 16 = .ok (.invokespecial 148, 3) := by decide +kernel
theorem dX0_audit_19 : decode cX0_audit 19 = .ok (.athrow, 1) := by decide +kernel
theorem dX0_audit_20 : decode cX0_audit 20 = .ok (.aload_n 0, 1) := by decide +kernel
theorem dX0_audit_21 : decode cX0_audit 21 = .ok (.getfield 57, 3) := by decide +kernel
theorem dX0_audit_24 : decode cX0_audit 24 = .ok (.iload_n 1, 1) := by decide +kernel
theorem dX0_audit_25 : decode cX0_audit 25 = .ok (.laload, 1) := by decide +kernel
theorem dX0_audit_26 : decode cX0_audit 26 = .ok (.lreturn, 1) := by decide +kernel
set_option maxRecDepth 20000 in
theorem ggX0_digest_X0_digestOfKinds : GoodIn wsX0_digest wsX0_digestOfKinds := goodIn_r _ [14, 2, 15, 16, 17, 18, 19, 13, 20, 21, 22, 23, 24, 25, 26, 27, 28, 29, 30, 31, 32, 33, 34, 35, 36, 37, 38, 39, 40, 41, 42] (by decide +kernel) (by decide +kernel)
set_option maxRecDepth 20000 in
theorem gX0_digest_X0_digestOfKinds : GoodIn wsX0_digest (wsV RX0 178 RX0 yX0_digestOfKinds wsX0_digestOfKinds) := goodIn_app (goodIn_of _ (by decide +kernel)) ggX0_digest_X0_digestOfKinds
theorem dX0_digest_0 : decode cX0_digest 0 = .ok (.aload_n 0, 1) := by decide +kernel
theorem dX0_digest_1 : decode cX0_digest 1 = .ok (.ldc2_w 176, 3) := by decide +kernel
theorem dX0_digest_4 : decode cX0_digest 4 = .ok (.invokevirtual 178, 3) := by decide +kernel
theorem dX0_digest_7 : decode cX0_digest 7 = .ok (.lstore_n 1, 1) := by decide +kernel
theorem dX0_digest_8 : decode cX0_digest 8 = .ok (.lload_n 1, 1) := by decide +kernel
theorem dX0_digest_9 : decode cX0_digest 9 = .ok (.ldc2_w 182, 3) := by decide +kernel
theorem dX0_digest_12 : decode cX0_digest 12 = .ok (.lmul, 1) := by decide +kernel
theorem dX0_digest_13 : decode cX0_digest 13 = .ok (.aload_n 0, 1) := by decide +kernel
theorem dX0_digest_14 : decode cX0_digest 14 = .ok (.getfield 42, 3) := by decide +kernel
theorem dX0_digest_17 : decode cX0_digest 17 = .ok (.i2l, 1) := by decide +kernel
theorem dX0_digest_18 : decode cX0_digest 18 = .ok (.ladd, 1) := by decide +kernel
theorem dX0_digest_19 : decode cX0_digest 19 = .ok (.lstore_n 1, 1) := by decide +kernel
theorem dX0_digest_20 : decode cX0_digest 20 = .ok (.lload_n 1, 1) := by decide +kernel
theorem dX0_digest_21 : decode cX0_digest 21 = .ok (.ldc2_w 182, 3) := by decide +kernel
theorem dX0_digest_24 : decode cX0_digest 24 = .ok (.lmul, 1) := by decide +kernel
theorem dX0_digest_25 : decode cX0_digest 25 = .ok (.aload_n 0, 1) := by decide +kernel
theorem dX0_digest_26 : decode cX0_digest 26 = .ok (.getfield 33, 3) := by decide +kernel
theorem dX0_digest_29 : decode cX0_digest 29 = .ok (.i2l, 1) := by decide +kernel
theorem dX0_digest_30 : decode cX0_digest 30 = .ok (.ladd, 1) := by decide +kernel
theorem dX0_digest_31 : decode cX0_digest 31 = .ok (.lstore_n 1, 1) := by decide +kernel
theorem dX0_digest_32 : decode cX0_digest 32 = .ok (.iconst 0, 1) := by decide +kernel
theorem dX0_digest_33 : decode cX0_digest 33 = .ok (.istore_n 3, 1) := by decide +kernel
theorem dX0_digest_34 : decode cX0_digest 34 = .ok (.iload_n 3, 1) := by decide +kernel
theorem dX0_digest_35 : decode cX0_digest 35 = .ok (.aload_n 0, 1) := by decide +kernel
theorem dX0_digest_36 : decode cX0_digest 36 = .ok (.getfield 33, 3) := by decide +kernel
theorem dX0_digest_39 : decode cX0_digest 39 = .ok (.if_icmp .ge 37, 3) := by decide +kernel
theorem dX0_digest_42 : decode cX0_digest 42 = .ok (.lload_n 1, 1) := by decide +kernel
theorem dX0_digest_43 : decode cX0_digest 43 = .ok (.ldc2_w 182, 3) := by decide +kernel
theorem dX0_digest_46 : decode cX0_digest 46 = .ok (.lmul, 1) := by decide +kernel
theorem dX0_digest_47 : decode cX0_digest 47 = .ok (.aload_n 0, 1) := by decide +kernel
theorem dX0_digest_48 : decode cX0_digest 48 = .ok (.getfield 36, 3) := by decide +kernel
theorem dX0_digest_51 : decode cX0_digest 51 = .ok (.iload_n 3, 1) := by decide +kernel
theorem dX0_digest_52 : decode cX0_digest 52 = .ok (.iaload, 1) := by decide +kernel
theorem dX0_digest_53 : decode cX0_digest 53 = .ok (.i2l, 1) := by decide +kernel
theorem dX0_digest_54 : decode cX0_digest 54 = .ok (.ladd, 1) := by decide +kernel
theorem dX0_digest_55 : decode cX0_digest 55 = .ok (.lstore_n 1, 1) := by decide +kernel
theorem dX0_digest_56 : decode cX0_digest 56 = .ok (.lload_n 1, 1) := by decide +kernel
theorem dX0_digest_57 : decode cX0_digest 57 = .ok (.ldc2_w 182, 3) := by decide +kernel
theorem dX0_digest_60 : decode cX0_digest 60 = .ok (.lmul, 1) := by decide +kernel
theorem dX0_digest_61 : decode cX0_digest 61 = .ok (.aload_n 0, 1) := by decide +kernel
theorem dX0_digest_62 : decode cX0_digest 62 = .ok (.getfield 39, 3) := by decide +kernel
theorem dX0_digest_65 : decode cX0_digest 65 = .ok (.iload_n 3, 1) := by decide +kernel
theorem dX0_digest_66 : decode cX0_digest 66 = .ok (.iaload, 1) := by decide +kernel
theorem dX0_digest_67 : decode cX0_digest 67 = .ok (.i2l, 1) := by decide +kernel
theorem dX0_digest_68 : decode cX0_digest 68 = .ok (.ladd, 1) := by decide +kernel
theorem dX0_digest_69 : decode cX0_digest 69 = .ok (.lstore_n 1, 1) := by decide +kernel
theorem dX0_digest_70 : decode cX0_digest 70 = .ok (.iinc 3 1, 3) := by decide +kernel
theorem dX0_digest_73 : decode cX0_digest 73 = .ok (.goto (-39), 3) := by decide +kernel
theorem dX0_digest_76 : decode cX0_digest 76 = .ok (.lload_n 1, 1) := by decide +kernel
theorem dX0_digest_77 : decode cX0_digest 77 = .ok (.ldc2_w 182, 3) := by decide +kernel
theorem dX0_digest_80 : decode cX0_digest 80 = .ok (.lmul, 1) := by decide +kernel
theorem dX0_digest_81 : decode cX0_digest 81 = .ok (.aload_n 0, 1) := by decide +kernel
theorem dX0_digest_82 : decode cX0_digest 82 = .ok (.getfield 45, 3) := by decide +kernel
theorem dX0_digest_85 : decode cX0_digest 85 = .ok (.i2l, 1) := by decide +kernel
theorem dX0_digest_86 : decode cX0_digest 86 = .ok (.ladd, 1) := by decide +kernel
theorem dX0_digest_87 : decode cX0_digest 87 = .ok (.lstore_n 1, 1) := by decide +kernel
theorem dX0_digest_88 : decode cX0_digest 88 = .ok (.iconst 0, 1) := by decide +kernel
theorem dX0_digest_89 : decode cX0_digest 89 = .ok (.istore_n 3, 1) := by decide +kernel
theorem dX0_digest_90 : decode cX0_digest 90 = .ok (.iload_n 3, 1) := by decide +kernel
theorem dX0_digest_91 : decode cX0_digest 91 = .ok (.aload_n 0, 1) := by decide +kernel
theorem dX0_digest_92 : decode cX0_digest 92 = .ok (.getfield 45, 3) := by decide +kernel
theorem dX0_digest_95 : decode cX0_digest 95 = .ok (.if_icmp .ge 23, 3) := by decide +kernel
theorem dX0_digest_98 : decode cX0_digest 98 = .ok (.lload_n 1, 1) := by decide +kernel
theorem dX0_digest_99 : decode cX0_digest 99 = .ok (.ldc2_w 182, 3) := by decide +kernel
theorem dX0_digest_102 : decode cX0_digest 102 = .ok (.lmul, 1) := by decide +kernel
theorem dX0_digest_103 : decode cX0_digest 103 = .ok (.aload_n 0, 1) := by decide +kernel
theorem dX0_digest_104 : decode cX0_digest 104 = .ok (.getfield 48, 3) := by decide +kernel
theorem dX0_digest_107 : decode cX0_digest 107 = .ok (.iload_n 3, 1) := by decide +kernel
theorem dX0_digest_108 : decode cX0_digest 108 = .ok (.iaload, 1) := by decide +kernel
theorem dX0_digest_109 : decode cX0_digest 109 = .ok (.i2l, 1) := by decide +kernel
theorem dX0_digest_110 : decode cX0_digest 110 = .ok (.ladd, 1) := by decide +kernel
theorem dX0_digest_111 : decode cX0_digest 111 = .ok (.lstore_n 1, 1) := by decide +kernel
theorem dX0_digest_112 : decode cX0_digest 112 = .ok (.iinc 3 1, 3) := by decide +kernel
theorem dX0_digest_115 : decode cX0_digest 115 = .ok (.goto (-25), 3) := by decide +kernel
theorem dX0_digest_118 : decode cX0_digest 118 = .ok (.iconst 0, 1) := by decide +kernel
theorem dX0_digest_119 : decode cX0_digest 119 = .ok (.istore_n 3, 1) := by decide +kernel
theorem dX0_digest_120 : decode cX0_digest 120 = .ok (.iload_n 3, 1) := by decide +kernel
theorem dX0_digest_121 : decode cX0_digest 121 = .ok (.bipush 10, 2) := by decide +kernel
theorem dX0_digest_123 : decode cX0_digest 123 = .ok (.if_icmp .ge 22, 3) := by decide +kernel
theorem dX0_digest_126 : decode cX0_digest 126 = .ok (.lload_n 1, 1) := by decide +kernel
theorem dX0_digest_127 : decode cX0_digest 127 = .ok (.ldc2_w 182, 3) := by decide +kernel
theorem dX0_digest_130 : decode cX0_digest 130 = .ok (.lmul, 1) := by decide +kernel
theorem dX0_digest_131 : decode cX0_digest 131 = .ok (.aload_n 0, 1) := by decide +kernel
theorem dX0_digest_132 : decode cX0_digest 132 = .ok (.getfield 57, 3) := by decide +kernel
theorem dX0_digest_135 : decode cX0_digest 135 = .ok (.iload_n 3, 1) := by decide +kernel
theorem dX0_digest_136 : decode cX0_digest 136 = .ok (.laload, 1) := by decide +kernel
theorem dX0_digest_137 : decode cX0_digest 137 = .ok (.ladd, 1) := by decide +kernel
theorem dX0_digest_138 : decode cX0_digest 138 = .ok (.lstore_n 1, 1) := by decide +kernel
theorem dX0_digest_139 : decode cX0_digest 139 = .ok (.iinc 3 1, 3) := by decide +kernel
theorem dX0_digest_142 : decode cX0_digest 142 = .ok (.goto (-22), 3) := by decide +kernel
theorem dX0_digest_145 : decode cX0_digest 145 = .ok (.lload_n 1, 1) := by decide +kernel
theorem dX0_digest_146 : decode cX0_digest 146 = .ok (.lreturn, 1) := by decide +kernel
theorem dX0_checkKind_0 : decode cX0_checkKind 0 = .ok (.iload_n 1, 1) := by decide +kernel
theorem dX0_checkKind_1 : decode cX0_checkKind 1 = .ok (.ifCond .lt 11, 3) := by decide +kernel
theorem dX0_checkKind_4 : decode cX0_checkKind 4 = .ok (.iload_n 1, 1) := by decide +kernel
theorem dX0_checkKind_5 : decode cX0_checkKind 5 = .ok (.aload_n 0, 1) := by decide +kernel
theorem dX0_checkKind_6 : decode cX0_checkKind 6 = .ok (.getfield 9, 3) := by decide +kernel
theorem dX0_checkKind_9 : decode cX0_checkKind 9 = .ok (.if_icmp .lt 13, 3) := by decide +kernel
theorem dX0_checkKind_12 : decode cX0_checkKind 12 = .ok (.new 144, 3) := by decide +kernel
theorem dX0_checkKind_15 : decode cX0_checkKind 15 = .ok (.dup, 1) := by decide +kernel
theorem dX0_checkKind_16 : decode cX0_checkKind 16 = .ok (.ldc 184, 2) := by decide +kernel
theorem dX0_checkKind_18 : decode cX0_checkKind 18 = .ok (.invokespecial 148, 3) := by decide +kernel
theorem dX0_checkKind_21 : decode cX0_checkKind 21 = .ok (.athrow, 1) := by decide +kernel
theorem dX0_checkKind_22 : decode cX0_checkKind 22 = .ok (.return_, 1) := by decide +kernel
theorem dX0_checkProduct_0 : decode cX0_checkProduct 0 = .ok (.iload_n 1, 1) := by decide +kernel
theorem dX0_checkProduct_1 : decode cX0_checkProduct 1 = .ok (.ifCond .lt 11, 3) := by decide +kernel
theorem dX0_checkProduct_4 : decode cX0_checkProduct 4 = .ok (.iload_n 1, 1) := by decide +kernel
theorem dX0_checkProduct_5 : decode cX0_checkProduct 5 = .ok (.aload_n 0, 1) := by decide +kernel
theorem dX0_checkProduct_6 : decode cX0_checkProduct 6 = .ok (.getfield 33, 3) := by decide +kernel
theorem dX0_checkProduct_9 : decode cX0_checkProduct 9 = .ok (.if_icmp .lt 13, 3) := by decide +kernel
theorem dX0_checkProduct_12 : decode cX0_checkProduct 12 = .ok (.new 144, 3) := by decide +kernel
theorem dX0_checkProduct_15 : decode cX0_checkProduct 15 = .ok (.dup, 1) := by decide +kernel
theorem dX0_checkProduct_16 : decode cX0_checkProduct 16 = .ok (.ldc 186, 2) := by decide +kernel
theorem dX0_checkProduct_18 : decode cX0_checkProduct 18 = .ok (.invokespecial 148, 3) := by decide +kernel
theorem dX0_checkProduct_21 : decode cX0_checkProduct 21 = .ok (.athrow, 1) := by decide +kernel
theorem dX0_checkProduct_22 : decode cX0_checkProduct 22 = .ok (.return_, 1) := by decide +kernel
theorem dX0_checkMany_0 : decode cX0_checkMany 0 = .ok (.iload_n 0, 1) := by decide +kernel
theorem dX0_checkMany_1 : decode cX0_checkMany 1 = .ok (.ifCond .lt 9, 3) := by decide +kernel
theorem dX0_checkMany_4 : decode cX0_checkMany 4 = .ok (.iload_n 0, 1) := by decide +kernel
theorem dX0_checkMany_5 : decode cX0_checkMany 5 = .ok (.bipush 60, 2) := by decide +kernel
theorem dX0_checkMany_7 : decode cX0_checkMany 7 = .ok (.if_icmp .le 13, 3) := by decide +kernel
theorem dX0_checkMany_10 : decode cX0_checkMany 10 = .ok (.new 67, 3) := by decide +kernel
theorem dX0_checkMany_13 : decode cX0_checkMany 13 = .ok (.dup, 1) := by decide +kernel
theorem dX0_checkMany_14 : decode cX0_checkMany 14 = .ok (.ldc 188, 2) := by decide +kernel
theorem dX0_checkMany_16 : decode cX0_checkMany 16 = .ok (.invokespecial 71, 3) := by decide +kernel
theorem dX0_checkMany_19 : decode cX0_checkMany 19 = .ok (.athrow, 1) := by decide +kernel
theorem dX0_checkMany_20 : decode cX0_checkMany 20 = .ok (.return_, 1) := by decide +kernel
theorem dX0_checkPriceAndStock_0 : decode cX0_checkPriceAndStock 0 = .ok (.iload_n 0, 1) := by decide +kernel
theorem dX0_checkPriceAndStock_1 : decode cX0_checkPriceAndStock 1 = .ok (.iconst 1, 1) := by decide +kernel
theorem dX0_checkPriceAndStock_2 : decode cX0_checkPriceAndStock 2 = .ok (.if_icmp .lt 10, 3) := by decide +kernel
theorem dX0_checkPriceAndStock_5 : decode cX0_checkPriceAndStock 5 = .ok (.iload_n 0, 1) := by decide +kernel
theorem dX0_checkPriceAndStock_6 : decode cX0_checkPriceAndStock 6 = .ok (.sipush 2000, 3) := by decide +kernel
theorem dX0_checkPriceAndStock_9 : decode cX0_checkPriceAndStock 9 = .ok (.if_icmp .le 13, 3) := by decide +kernel
theorem dX0_checkPriceAndStock_12 : decode cX0_checkPriceAndStock 12 = .ok (.new 67, 3) := by decide +kernel
theorem dX0_checkPriceAndStock_15 : decode cX0_checkPriceAndStock 15 = .ok (.dup, 1) := by decide +kernel
theorem dX0_checkPriceAndStock_16 : decode cX0_checkPriceAndStock 16 = .ok (.ldc 190, 2) := by decide +kernel
theorem dX0_checkPriceAndStock_18 : decode cX0_checkPriceAndStock 18 = .ok (.invokespecial 71, 3) := by decide +kernel
theorem dX0_checkPriceAndStock_21 : decode cX0_checkPriceAndStock 21 = .ok (.athrow, 1) := by decide +kernel
theorem dX0_checkPriceAndStock_22 : decode cX0_checkPriceAndStock 22 = .ok (.iload_n 1, 1) := by decide +kernel
theorem dX0_checkPriceAndStock_23 : decode cX0_checkPriceAndStock 23 = .ok (.ifCond .lt 9, 3) := by decide +kernel
theorem dX0_checkPriceAndStock_26 : decode cX0_checkPriceAndStock 26 = .ok (.iload_n 1, 1) := by decide +kernel
theorem dX0_checkPriceAndStock_27 : decode cX0_checkPriceAndStock 27 = .ok (.bipush 99, 2) := by decide +kernel
theorem dX0_checkPriceAndStock_29 : decode cX0_checkPriceAndStock 29 = .ok (.if_icmp .le 13, 3) := by decide +kernel
theorem dX0_checkPriceAndStock_32 : decode cX0_checkPriceAndStock 32 = .ok (.new 67, 3) := by decide +kernel
theorem dX0_checkPriceAndStock_35 : decode cX0_checkPriceAndStock 35 = .ok (.dup, 1) := by decide +kernel
theorem dX0_checkPriceAndStock_36 : decode cX0_checkPriceAndStock 36 = .ok (.ldc 192, 2) := by decide +kernel
theorem dX0_checkPriceAndStock_38 : decode cX0_checkPriceAndStock 38 = .ok (.invokespecial 71, 3) := by decide +kernel
theorem dX0_checkPriceAndStock_41 : decode cX0_checkPriceAndStock 41 = .ok (.athrow, 1) := by decide +kernel
theorem dX0_checkPriceAndStock_42 : decode cX0_checkPriceAndStock 42 = .ok (.return_, 1) := by decide +kernel
theorem dX0_checkAmount_0 : decode cX0_checkAmount 0 = .ok (.iload_n 0, 1) := by decide +kernel
theorem dX0_checkAmount_1 : decode cX0_checkAmount 1 = .ok (.ifCond .lt 10, 3) := by decide +kernel
theorem dX0_checkAmount_4 : decode cX0_checkAmount 4 = .ok (.iload_n 0, 1) := by decide +kernel
theorem dX0_checkAmount_5 : decode cX0_checkAmount 5 = .ok (.sipush 2000, 3) := by decide +kernel
theorem dX0_checkAmount_8 : decode cX0_checkAmount 8 = .ok (.if_icmp .le 13, 3) := by decide +kernel
theorem dX0_checkAmount_11 : decode cX0_checkAmount 11 = .ok (.new 67, 3) := by decide +kernel
theorem dX0_checkAmount_14 : decode cX0_checkAmount 14 = .ok (.dup, 1) := by decide +kernel
theorem dX0_checkAmount_15 : decode cX0_checkAmount 15 = .ok (.ldc 194, 2) := by decide +kernel
theorem dX0_checkAmount_17 : decode cX0_checkAmount 17 = .ok (.invokespecial 71, 3) := by decide +kernel
theorem dX0_checkAmount_20 : decode cX0_checkAmount 20 = .ok (.athrow, 1) := by decide +kernel
theorem dX0_checkAmount_21 : decode cX0_checkAmount 21 = .ok (.return_, 1) := by decide +kernel
theorem dX0_hasKindOfValue_0 : decode cX0_hasKindOfValue 0 = .ok (.iconst 0, 1) := by decide +kernel
theorem dX0_hasKindOfValue_1 : decode cX0_hasKindOfValue 1 = .ok (.istore_n 2, 1) := by decide +kernel
theorem dX0_hasKindOfValue_2 : decode cX0_hasKindOfValue 2 = .ok (.iload_n 2, 1) := by decide +kernel
theorem dX0_hasKindOfValue_3 : decode cX0_hasKindOfValue 3 = .ok (.aload_n 0, 1) := by decide +kernel
theorem dX0_hasKindOfValue_4 : decode cX0_hasKindOfValue 4 = .ok (.getfield 9, 3) := by decide +kernel
theorem dX0_hasKindOfValue_7 : decode cX0_hasKindOfValue 7 = .ok (.if_icmp .ge 21, 3) := by decide +kernel
theorem dX0_hasKindOfValue_10 : decode cX0_hasKindOfValue 10 = .ok (.aload_n 0, 1) := by decide +kernel
theorem dX0_hasKindOfValue_11 : decode cX0_hasKindOfValue 11 = .ok (.getfield 13, 3) := by decide +kernel
theorem dX0_hasKindOfValue_14 : decode cX0_hasKindOfValue 14 = .ok (.iload_n 2, 1) := by decide +kernel
theorem dX0_hasKindOfValue_15 : decode cX0_hasKindOfValue 15 = .ok (.iaload, 1) := by decide +kernel
theorem dX0_hasKindOfValue_16 : decode cX0_hasKindOfValue 16 = .ok (.iload_n 1, 1) := by decide +kernel
theorem dX0_hasKindOfValue_17 : decode cX0_hasKindOfValue 17 = .ok (.if_icmp .ne 5, 3) := by decide +kernel
theorem dX0_hasKindOfValue_20 : decode cX0_hasKindOfValue 20 = .ok (.iconst 1, 1) := by decide +kernel
theorem dX0_hasKindOfValue_21 : decode cX0_hasKindOfValue 21 = .ok (.ireturn, 1) := by decide +kernel
theorem dX0_hasKindOfValue_22 : decode cX0_hasKindOfValue 22 = .ok (.iinc 2 1, 3) := by decide +kernel
theorem dX0_hasKindOfValue_25 : decode cX0_hasKindOfValue 25 = .ok (.goto (-23), 3) := by decide +kernel
theorem dX0_hasKindOfValue_28 : decode cX0_hasKindOfValue 28 = .ok (.iconst 0, 1) := by decide +kernel
theorem dX0_hasKindOfValue_29 : decode cX0_hasKindOfValue 29 = .ok (.ireturn, 1) := by decide +kernel
theorem dX0_dividesAllValues_0 : decode cX0_dividesAllValues 0 = .ok (.iconst 0, 1) := by decide +kernel
theorem dX0_dividesAllValues_1 : decode cX0_dividesAllValues 1 = .ok (.istore_n 2, 1) := by decide +kernel
theorem dX0_dividesAllValues_2 : decode cX0_dividesAllValues 2 = .ok (.iload_n 2, 1) := by decide +kernel
theorem dX0_dividesAllValues_3 : decode cX0_dividesAllValues 3 = .ok (.aload_n 0, 1) := by decide +kernel
theorem dX0_dividesAllValues_4 : decode cX0_dividesAllValues 4 = .ok (.getfield 9, 3) := by decide +kernel
theorem dX0_dividesAllValues_7 : decode cX0_dividesAllValues 7 = .ok (.if_icmp .ge 27, 3) := by decide +kernel
theorem dX0_dividesAllValues_10 : decode cX0_dividesAllValues 10 = .ok (.iload_n 1, 1) := by decide +kernel
theorem dX0_dividesAllValues_11 : decode cX0_dividesAllValues 11 = .ok (.iconst 1, 1) := by decide +kernel
theorem dX0_dividesAllValues_12 : decode cX0_dividesAllValues 12 = .ok (.if_icmp .lt 14, 3) := by decide +kernel
theorem dX0_dividesAllValues_15 : decode cX0_dividesAllValues 15 = .ok (.aload_n 0, 1) := by decide +kernel
theorem dX0_dividesAllValues_16 : decode cX0_dividesAllValues 16 = .ok (.getfield 13, 3) := by decide +kernel
theorem dX0_dividesAllValues_19 : decode cX0_dividesAllValues 19 = .ok (.iload_n 2, 1) := by decide +kernel
theorem dX0_dividesAllValues_20 : decode cX0_dividesAllValues 20 = .ok (.iaload, 1) := by decide +kernel
theorem dX0_dividesAllValues_21 : decode cX0_dividesAllValues 21 = .ok (.iload_n 1, 1) := by decide +kernel
theorem dX0_dividesAllValues_22 : decode cX0_dividesAllValues 22 = .ok (.irem, 1) := by decide +kernel
theorem dX0_dividesAllValues_23 : decode cX0_dividesAllValues 23 = .ok (.ifCond .eq 5, 3) := by decide +kernel
theorem dX0_dividesAllValues_26 : decode cX0_dividesAllValues 26 = .ok (.iconst 0, 1) := by decide +kernel
theorem dX0_dividesAllValues_27 : decode cX0_dividesAllValues 27 = .ok (.ireturn, 1) := by decide +kernel
theorem dX0_dividesAllValues_28 : decode cX0_dividesAllValues 28 = .ok (.iinc 2 1, 3) := by decide +kernel
theorem dX0_dividesAllValues_31 : decode cX0_dividesAllValues 31 = .ok (.goto (-29), 3) := by decide +kernel
theorem dX0_dividesAllValues_34 : decode cX0_dividesAllValues 34 = .ok (.iconst 1, 1) := by decide +kernel
theorem dX0_dividesAllValues_35 : decode cX0_dividesAllValues 35 = .ok (.ireturn, 1) := by decide +kernel
theorem dX0_toldOfKind_0 : decode cX0_toldOfKind 0 = .ok (.iload_n 2, 1) := by decide +kernel
theorem dX0_toldOfKind_1 : decode cX0_toldOfKind 1 = .ok (.tableswitch 59 0 3 #[31, 38, 45, 52], 31) := by decide +kernel
theorem dX0_toldOfKind_32 : decode cX0_toldOfKind 32 = .ok (.aload_n 0, 1) := by decide +kernel
theorem dX0_toldOfKind_33 : decode cX0_toldOfKind 33 = .ok (.getfield 13, 3) := by decide +kernel
theorem dX0_toldOfKind_36 : decode cX0_toldOfKind 36 = .ok (.iload_n 1, 1) := by decide +kernel
theorem dX0_toldOfKind_37 : decode cX0_toldOfKind 37 = .ok (.iaload, 1) := by decide +kernel
theorem dX0_toldOfKind_38 : decode cX0_toldOfKind 38 = .ok (.ireturn, 1) := by decide +kernel
theorem dX0_toldOfKind_39 : decode cX0_toldOfKind 39 = .ok (.aload_n 0, 1) := by decide +kernel
theorem dX0_toldOfKind_40 : decode cX0_toldOfKind 40 = .ok (.getfield 20, 3) := by decide +kernel
theorem dX0_toldOfKind_43 : decode cX0_toldOfKind 43 = .ok (.iload_n 1, 1) := by decide +kernel
theorem dX0_toldOfKind_44 : decode cX0_toldOfKind 44 = .ok (.iaload, 1) := by decide +kernel
theorem dX0_toldOfKind_45 : decode cX0_toldOfKind 45 = .ok (.ireturn, 1) := by decide +kernel
theorem dX0_toldOfKind_46 : decode cX0_toldOfKind 46 = .ok (.aload_n 0, 1) := by decide +kernel
theorem dX0_toldOfKind_47 : decode cX0_toldOfKind 47 = .ok (.getfield 23, 3) := by decide +kernel
theorem dX0_toldOfKind_50 : decode cX0_toldOfKind 50 = .ok (.iload_n 1, 1) := by decide +kernel
theorem dX0_toldOfKind_51 : decode cX0_toldOfKind 51 = .ok (.iaload, 1) := by decide +kernel
theorem dX0_toldOfKind_52 : decode cX0_toldOfKind 52 = .ok (.ireturn, 1) := by decide +kernel
theorem dX0_toldOfKind_53 : decode cX0_toldOfKind 53 = .ok (.aload_n 0, 1) := by decide +kernel
theorem dX0_toldOfKind_54 : decode cX0_toldOfKind 54 = .ok (.getfield 26, 3) := by decide +kernel
theorem dX0_toldOfKind_57 : decode cX0_toldOfKind 57 = .ok (.iload_n 1, 1) := by decide +kernel
theorem dX0_toldOfKind_58 : decode cX0_toldOfKind 58 = .ok (.iaload, 1) := by decide +kernel
theorem dX0_toldOfKind_59 : decode cX0_toldOfKind 59 = .ok (.ireturn, 1) := by decide +kernel
theorem dX0_toldOfKind_60 : decode cX0_toldOfKind 60 = .ok (.iconst 0, 1) := by decide +kernel
theorem dX0_toldOfKind_61 : decode cX0_toldOfKind 61 = .ok (.ireturn, 1) := by decide +kernel
set_option maxRecDepth 20000 in
theorem ggX0_digestOfKinds_X0_toldOfKind : GoodIn wsX0_digestOfKinds wsX0_toldOfKind := goodIn_r _ [8, 9, 10, 11, 12, 13, 14, 15, 16, 17, 18, 19, 20, 21, 22, 23, 24, 25, 26, 27, 28, 29, 30] (by decide +kernel) (by decide +kernel)
set_option maxRecDepth 20000 in
theorem gX0_digestOfKinds_X0_toldOfKind : GoodIn wsX0_digestOfKinds (wsV RX0 151 RX0 yX0_toldOfKind wsX0_toldOfKind) := goodIn_app (goodIn_of _ (by decide +kernel)) ggX0_digestOfKinds_X0_toldOfKind
theorem dX0_digestOfKinds_0 : decode cX0_digestOfKinds 0 = .ok (.lload_n 1, 1) := by decide +kernel
theorem dX0_digestOfKinds_1 : decode cX0_digestOfKinds 1 = .ok (.ldc2_w 182, 3) := by decide +kernel
theorem dX0_digestOfKinds_4 : decode cX0_digestOfKinds 4 = .ok (.lmul, 1) := by decide +kernel
theorem dX0_digestOfKinds_5 : decode cX0_digestOfKinds 5 = .ok (.aload_n 0, 1) := by decide +kernel
theorem dX0_digestOfKinds_6 : decode cX0_digestOfKinds 6 = .ok (.getfield 9, 3) := by decide +kernel
theorem dX0_digestOfKinds_9 : decode cX0_digestOfKinds 9 = .ok (.i2l, 1) := by decide +kernel
theorem dX0_digestOfKinds_10 : decode cX0_digestOfKinds 10 = .ok (.ladd, 1) := by decide +kernel
theorem dX0_digestOfKinds_11 : decode cX0_digestOfKinds 11 = .ok (.lstore_n 3, 1) := by decide +kernel
theorem dX0_digestOfKinds_12 : decode cX0_digestOfKinds 12 = .ok (.iconst 0, 1) := by decide +kernel
theorem dX0_digestOfKinds_13 : decode cX0_digestOfKinds 13 = .ok (.istore 5, 2) := by decide +kernel
theorem dX0_digestOfKinds_15 : decode cX0_digestOfKinds 15 = .ok (.iload 5, 2) := by decide +kernel
theorem dX0_digestOfKinds_17 : decode cX0_digestOfKinds 17 = .ok (.aload_n 0, 1) := by decide +kernel
theorem dX0_digestOfKinds_18 : decode cX0_digestOfKinds 18 = .ok (.getfield 9, 3) := by decide +kernel
theorem dX0_digestOfKinds_21 : decode cX0_digestOfKinds 21 = .ok (.if_icmp .ge 63, 3) := by decide +kernel
theorem dX0_digestOfKinds_24 : decode cX0_digestOfKinds 24 = .ok (.iconst 0, 1) := by decide +kernel
theorem dX0_digestOfKinds_25 : decode cX0_digestOfKinds 25 = .ok (.istore 6, 2) := by decide +kernel
theorem dX0_digestOfKinds_27 : decode cX0_digestOfKinds 27 = .ok (.iload 6, 2) := by decide +kernel
theorem dX0_digestOfKinds_29 : decode cX0_digestOfKinds 29 = .ok (.iconst 4, 1) := by decide +kernel
theorem dX0_digestOfKinds_30 : decode cX0_digestOfKinds 30 = .ok (.if_icmp .ge 25, 3) := by decide +kernel
theorem dX0_digestOfKinds_33 : decode cX0_digestOfKinds 33 = .ok (.lload_n 3, 1) := by decide +kernel
theorem dX0_digestOfKinds_34 : decode cX0_digestOfKinds 34 = .ok (.ldc2_w 182, 3) := by decide +kernel
theorem dX0_digestOfKinds_37 : decode cX0_digestOfKinds 37 = .ok (.lmul, 1) := by decide +kernel
theorem dX0_digestOfKinds_38 : decode cX0_digestOfKinds 38 = .ok (.aload_n 0, 1) := by decide +kernel
theorem dX0_digestOfKinds_39 : decode cX0_digestOfKinds 39 = .ok (.iload 5, 2) := by decide +kernel
theorem dX0_digestOfKinds_41 : decode cX0_digestOfKinds 41 = .ok (.iload 6, 2) := by decide +kernel
theorem dX0_digestOfKinds_43 : decode cX0_digestOfKinds 43 = .ok (.invokevirtual 151, 3) := by decide +kernel
theorem dX0_digestOfKinds_46 : decode cX0_digestOfKinds 46 = .ok (.i2l, 1) := by decide +kernel
theorem dX0_digestOfKinds_47 : decode cX0_digestOfKinds 47 = .ok (.ladd, 1) := by decide +kernel
theorem dX0_digestOfKinds_48 : decode cX0_digestOfKinds 48 = .ok (.lstore_n 3, 1) := by decide +kernel
theorem dX0_digestOfKinds_49 : decode cX0_digestOfKinds 49 = .ok (.iinc 6 1, 3) := by decide +kernel
theorem dX0_digestOfKinds_52 : decode cX0_digestOfKinds 52 = .ok (.goto (-25), 3) := by decide +kernel
theorem dX0_digestOfKinds_55 : decode cX0_digestOfKinds 55 = .ok (.lload_n 3, 1) := by decide +kernel
theorem dX0_digestOfKinds_56 : decode cX0_digestOfKinds 56 = .ok (.ldc2_w 182, 3) := by decide +kernel
theorem dX0_digestOfKinds_59 : decode cX0_digestOfKinds 59 = .ok (.lmul, 1) := by decide +kernel
theorem dX0_digestOfKinds_60 : decode cX0_digestOfKinds 60 = .ok (.aload_n 0, 1) := by decide +kernel
theorem dX0_digestOfKinds_61 : decode cX0_digestOfKinds 61 = .ok (.getfield 29, 3) := by decide +kernel
theorem dX0_digestOfKinds_64 : decode cX0_digestOfKinds 64 = .ok (.iload 5, 2) := by decide +kernel
theorem dX0_digestOfKinds_66 : decode cX0_digestOfKinds 66 = .ok (.baload, 1) := by decide +kernel
theorem dX0_digestOfKinds_67 : decode cX0_digestOfKinds 67 = .ok (.ifCond .eq 7, 3) := by decide +kernel
theorem dX0_digestOfKinds_70 : decode cX0_digestOfKinds 70 = .ok (.iconst 1, 1) := by decide +kernel
theorem dX0_digestOfKinds_71 : decode cX0_digestOfKinds 71 = .ok (.goto 4, 3) := by decide +kernel
theorem dX0_digestOfKinds_74 : decode cX0_digestOfKinds 74 = .ok (.iconst 0, 1) := by decide +kernel
theorem dX0_digestOfKinds_75 : decode cX0_digestOfKinds 75 = .ok (.i2l, 1) := by decide +kernel
theorem dX0_digestOfKinds_76 : decode cX0_digestOfKinds 76 = .ok (.ladd, 1) := by decide +kernel
theorem dX0_digestOfKinds_77 : decode cX0_digestOfKinds 77 = .ok (.lstore_n 3, 1) := by decide +kernel
theorem dX0_digestOfKinds_78 : decode cX0_digestOfKinds 78 = .ok (.iinc 5 1, 3) := by decide +kernel
theorem dX0_digestOfKinds_81 : decode cX0_digestOfKinds 81 = .ok (.goto (-66), 3) := by decide +kernel
theorem dX0_digestOfKinds_84 : decode cX0_digestOfKinds 84 = .ok (.lload_n 3, 1) := by decide +kernel
theorem dX0_digestOfKinds_85 : decode cX0_digestOfKinds 85 = .ok (.lreturn, 1) := by decide +kernel
theorem dX0_waitingOf_0 : decode cX0_waitingOf 0 = .ok (.iconst 0, 1) := by decide +kernel
theorem dX0_waitingOf_1 : decode cX0_waitingOf 1 = .ok (.istore_n 2, 1) := by decide +kernel
theorem dX0_waitingOf_2 : decode cX0_waitingOf 2 = .ok (.iconst 0, 1) := by decide +kernel
theorem dX0_waitingOf_3 : decode cX0_waitingOf 3 = .ok (.istore_n 3, 1) := by decide +kernel
theorem dX0_waitingOf_4 : decode cX0_waitingOf 4 = .ok (.iload_n 3, 1) := by decide +kernel
theorem dX0_waitingOf_5 : decode cX0_waitingOf 5 = .ok (.aload_n 0, 1) := by decide +kernel
theorem dX0_waitingOf_6 : decode cX0_waitingOf 6 = .ok (.getfield 45, 3) := by decide +kernel
theorem dX0_waitingOf_9 : decode cX0_waitingOf 9 = .ok (.if_icmp .ge 22, 3) := by decide +kernel
theorem dX0_waitingOf_12 : decode cX0_waitingOf 12 = .ok (.aload_n 0, 1) := by decide +kernel
theorem dX0_waitingOf_13 : decode cX0_waitingOf 13 = .ok (.getfield 48, 3) := by decide +kernel
theorem dX0_waitingOf_16 : decode cX0_waitingOf 16 = .ok (.iload_n 3, 1) := by decide +kernel
theorem dX0_waitingOf_17 : decode cX0_waitingOf 17 = .ok (.iaload, 1) := by decide +kernel
theorem dX0_waitingOf_18 : decode cX0_waitingOf 18 = .ok (.iload_n 1, 1) := by decide +kernel
theorem dX0_waitingOf_19 : decode cX0_waitingOf 19 = .ok (.if_icmp .ne 6, 3) := by decide +kernel
theorem dX0_waitingOf_22 : decode cX0_waitingOf 22 = .ok (.iinc 2 1, 3) := by decide +kernel
theorem dX0_waitingOf_25 : decode cX0_waitingOf 25 = .ok (.iinc 3 1, 3) := by decide +kernel
theorem dX0_waitingOf_28 : decode cX0_waitingOf 28 = .ok (.goto (-24), 3) := by decide +kernel
theorem dX0_waitingOf_31 : decode cX0_waitingOf 31 = .ok (.iload_n 2, 1) := by decide +kernel
theorem dX0_waitingOf_32 : decode cX0_waitingOf 32 = .ok (.ireturn, 1) := by decide +kernel
set_option maxRecDepth 20000 in
theorem ggX0_foreseeTubes_X0_waitingOf : GoodIn wsX0_foreseeTubes wsX0_waitingOf := goodIn_r _ [13, 14, 15, 16, 17, 18, 19, 20, 21, 22, 23, 24, 25, 26, 27, 28, 29, 30, 31, 32, 33] (by decide +kernel) (by decide +kernel)
set_option maxRecDepth 20000 in
theorem gX0_foreseeTubes_X0_waitingOf : GoodIn wsX0_foreseeTubes (wsV RX0 140 RX0 yX0_waitingOf wsX0_waitingOf) := goodIn_app (goodIn_of _ (by decide +kernel)) ggX0_foreseeTubes_X0_waitingOf
theorem dX0_foreseeTubes_0 : decode cX0_foreseeTubes 0 = .ok (.iconst 0, 1) := by decide +kernel
theorem dX0_foreseeTubes_1 : decode cX0_foreseeTubes 1 = .ok (.istore_n 1, 1) := by decide +kernel
theorem dX0_foreseeTubes_2 : decode cX0_foreseeTubes 2 = .ok (.iload_n 1, 1) := by decide +kernel
theorem dX0_foreseeTubes_3 : decode cX0_foreseeTubes 3 = .ok (.aload_n 0, 1) := by decide +kernel
theorem dX0_foreseeTubes_4 : decode cX0_foreseeTubes 4 = .ok (.getfield 9, 3) := by decide +kernel
theorem dX0_foreseeTubes_7 : decode cX0_foreseeTubes 7 = .ok (.if_icmp .ge 36, 3) := by decide +kernel
theorem dX0_foreseeTubes_10 : decode cX0_foreseeTubes 10 = .ok (.aload_n 0, 1) := by decide +kernel
theorem dX0_foreseeTubes_11 : decode cX0_foreseeTubes 11 = .ok (.getfield 64, 3) := by decide +kernel
theorem dX0_foreseeTubes_14 : decode cX0_foreseeTubes 14 = .ok (.iload_n 1, 1) := by decide +kernel
theorem dX0_foreseeTubes_15 : decode cX0_foreseeTubes 15 = .ok (.aload_n 0, 1) := by decide +kernel
theorem dX0_foreseeTubes_16 : decode cX0_foreseeTubes 16 = .ok (.getfield 20, 3) := by decide +kernel
theorem dX0_foreseeTubes_19 : decode cX0_foreseeTubes 19 = .ok (.iload_n 1, 1) := by decide +kernel
theorem dX0_foreseeTubes_20 : decode cX0_foreseeTubes 20 = .ok (.iaload, 1) := by decide +kernel
theorem dX0_foreseeTubes_21 : decode cX0_foreseeTubes 21 = .ok (.aload_n 0, 1) := by decide +kernel
theorem dX0_foreseeTubes_22 : decode cX0_foreseeTubes 22 = .ok (.iload_n 1, 1) := by decide +kernel
theorem dX0_foreseeTubes_23 : decode cX0_foreseeTubes 23 = .ok (.invokevirtual 140, 3) := by decide +kernel
theorem dX0_foreseeTubes_26 : decode cX0_foreseeTubes 26 = .ok (.iadd, 1) := by decide +kernel
theorem dX0_foreseeTubes_27 : decode cX0_foreseeTubes 27 = .ok (.aload_n 0, 1) := by decide +kernel
theorem dX0_foreseeTubes_28 : decode cX0_foreseeTubes 28 = .ok (.getfield 17, 3) := by decide +kernel
theorem dX0_foreseeTubes_31 : decode cX0_foreseeTubes 31 = .ok (.iload_n 1, 1) := by decide +kernel
theorem dX0_foreseeTubes_32 : decode cX0_foreseeTubes 32 = .ok (.iaload, 1) := by decide +kernel
theorem dX0_foreseeTubes_33 : decode cX0_foreseeTubes 33 = .ok (.invokestatic 94, 3) := by decide +kernel
theorem dX0_foreseeTubes_36 : decode cX0_foreseeTubes 36 = .ok (.iastore, 1) := by decide +kernel
theorem dX0_foreseeTubes_37 : decode cX0_foreseeTubes 37 = .ok (.iinc 1 1, 3) := by decide +kernel
theorem dX0_foreseeTubes_40 : decode cX0_foreseeTubes 40 = .ok (.goto (-38), 3) := by decide +kernel
theorem dX0_foreseeTubes_43 : decode cX0_foreseeTubes 43 = .ok (.return_, 1) := by decide +kernel
set_option maxRecDepth 20000 in
theorem ggX0_dropWaiting_X0_waitingOf : GoodIn wsX0_dropWaiting wsX0_waitingOf := goodIn_r _ [14, 9, 15, 16, 17, 18, 19, 20, 21, 22, 23, 24, 25, 26, 27, 28, 29, 30, 31, 32, 33] (by decide +kernel) (by decide +kernel)
set_option maxRecDepth 20000 in
theorem gX0_dropWaiting_X0_waitingOf : GoodIn wsX0_dropWaiting (wsV RX0 140 RX0 yX0_waitingOf wsX0_waitingOf) := goodIn_app (goodIn_of _ (by decide +kernel)) ggX0_dropWaiting_X0_waitingOf
theorem dX0_dropWaiting_0 : decode cX0_dropWaiting 0 = .ok (.iconst 0, 1) := by decide +kernel
theorem dX0_dropWaiting_1 : decode cX0_dropWaiting 1 = .ok (.istore_n 1, 1) := by decide +kernel
theorem dX0_dropWaiting_2 : decode cX0_dropWaiting 2 = .ok (.iload_n 1, 1) := by decide +kernel
theorem dX0_dropWaiting_3 : decode cX0_dropWaiting 3 = .ok (.aload_n 0, 1) := by decide +kernel
theorem dX0_dropWaiting_4 : decode cX0_dropWaiting 4 = .ok (.getfield 9, 3) := by decide +kernel
theorem dX0_dropWaiting_7 : decode cX0_dropWaiting 7 = .ok (.if_icmp .ge 55, 3) := by decide +kernel
theorem dX0_dropWaiting_10 : decode cX0_dropWaiting 10 = .ok (.aload_n 0, 1) := by decide +kernel
theorem dX0_dropWaiting_11 : decode cX0_dropWaiting 11 = .ok (.iload_n 1, 1) := by decide +kernel
theorem dX0_dropWaiting_12 : decode cX0_dropWaiting 12 = .ok (.invokevirtual 140, 3) := by decide +kernel
theorem dX0_dropWaiting_15 : decode cX0_dropWaiting 15 = .ok (.istore_n 2, 1) := by decide +kernel
theorem dX0_dropWaiting_16 : decode cX0_dropWaiting 16 = .ok (.iload_n 2, 1) := by decide +kernel
theorem dX0_dropWaiting_17 : decode cX0_dropWaiting 17 = .ok (.aload_n 0, 1) := by decide +kernel
theorem dX0_dropWaiting_18 : decode cX0_dropWaiting 18 = .ok (.getfield 17, 3) := by decide +kernel
theorem dX0_dropWaiting_21 : decode cX0_dropWaiting 21 = .ok (.iload_n 1, 1) := by decide +kernel
theorem dX0_dropWaiting_22 : decode cX0_dropWaiting 22 = .ok (.iaload, 1) := by decide +kernel
theorem dX0_dropWaiting_23 : decode cX0_dropWaiting 23 = .ok (.aload_n 0, 1) := by decide +kernel
theorem dX0_dropWaiting_24 : decode cX0_dropWaiting 24 = .ok (.getfield 20, 3) := by decide +kernel
theorem dX0_dropWaiting_27 : decode cX0_dropWaiting 27 = .ok (.iload_n 1, 1) := by decide +kernel
theorem dX0_dropWaiting_28 : decode cX0_dropWaiting 28 = .ok (.iaload, 1) := by decide +kernel
theorem dX0_dropWaiting_29 : decode cX0_dropWaiting 29 = .ok (.isub, 1) := by decide +kernel
theorem dX0_dropWaiting_30 : decode cX0_dropWaiting 30 = .ok (.invokestatic 94, 3) := by decide +kernel
theorem dX0_dropWaiting_33 : decode cX0_dropWaiting 33 = .ok (.istore_n 3, 1) := by decide +kernel
theorem dX0_dropWaiting_34 : decode cX0_dropWaiting 34 = .ok (.aload_n 0, 1) := by decide +kernel
theorem dX0_dropWaiting_35 : decode cX0_dropWaiting 35 = .ok (.getfield 20, 3) := by decide +kernel
theorem dX0_dropWaiting_38 : decode cX0_dropWaiting 38 = .ok (.iload_n 1, 1) := by decide +kernel
theorem dX0_dropWaiting_39 : decode cX0_dropWaiting 39 = .ok (.dup2, 1) := by decide +kernel
theorem dX0_dropWaiting_40 : decode cX0_dropWaiting 40 = .ok (.iaload, 1) := by decide +kernel
theorem dX0_dropWaiting_41 : decode cX0_dropWaiting 41 = .ok (.iload_n 3, 1) := by decide +kernel
theorem dX0_dropWaiting_42 : decode cX0_dropWaiting 42 = .ok (.iadd, 1) := by decide +kernel
theorem dX0_dropWaiting_43 : decode cX0_dropWaiting 43 = .ok (.iastore, 1) := by decide +kernel
theorem dX0_dropWaiting_44 : decode cX0_dropWaiting 44 = .ok (.aload_n 0, 1) := by decide +kernel
theorem dX0_dropWaiting_45 : decode cX0_dropWaiting 45 = .ok (.getfield 23, 3) := by decide +kernel
theorem dX0_dropWaiting_48 : decode cX0_dropWaiting 48 = .ok (.iload_n 1, 1) := by decide +kernel
theorem dX0_dropWaiting_49 : decode cX0_dropWaiting 49 = .ok (.dup2, 1) := by decide +kernel
theorem dX0_dropWaiting_50 : decode cX0_dropWaiting 50 = .ok (.iaload, 1) := by decide +kernel
theorem dX0_dropWaiting_51 : decode cX0_dropWaiting 51 = .ok (.iload_n 2, 1) := by decide +kernel
theorem dX0_dropWaiting_52 : decode cX0_dropWaiting 52 = .ok (.iload_n 3, 1) := by decide +kernel
theorem dX0_dropWaiting_53 : decode cX0_dropWaiting 53 = .ok (.isub, 1) := by decide +kernel
theorem dX0_dropWaiting_54 : decode cX0_dropWaiting 54 = .ok (.iadd, 1) := by decide +kernel
theorem dX0_dropWaiting_55 : decode cX0_dropWaiting 55 = .ok (.iastore, 1) := by decide +kernel
theorem dX0_dropWaiting_56 : decode cX0_dropWaiting 56 = .ok (.iinc 1 1, 3) := by decide +kernel
theorem dX0_dropWaiting_59 : decode cX0_dropWaiting 59 = .ok (.goto (-57), 3) := by decide +kernel
theorem dX0_dropWaiting_62 : decode cX0_dropWaiting 62 = .ok (.aload_n 0, 1) := by decide +kernel
theorem dX0_dropWaiting_63 : decode cX0_dropWaiting 63 = .ok (.iconst 0, 1) := by decide +kernel
theorem dX0_dropWaiting_64 : decode cX0_dropWaiting 64 = .ok (.putfield 45, 3) := by decide +kernel
theorem dX0_dropWaiting_67 : decode cX0_dropWaiting 67 = .ok (.return_, 1) := by decide +kernel
set_option maxRecDepth 20000 in
theorem ggX0_payOut_X0_coinsOfKindInWay : GoodIn wsX0_payOut wsX0_coinsOfKindInWay := goodIn_r _ [8, 9, 10, 11, 12, 7, 13, 1, 14, 15, 16, 17, 18, 19, 20, 21, 22, 23, 24, 25, 26, 27, 28, 29, 30, 31, 32] (by decide +kernel) (by decide +kernel)
set_option maxRecDepth 20000 in
theorem gX0_payOut_X0_coinsOfKindInWay : GoodIn wsX0_payOut (wsV RX0 161 RX0 yX0_coinsOfKindInWay wsX0_coinsOfKindInWay) := goodIn_app (goodIn_of _ (by decide +kernel)) ggX0_payOut_X0_coinsOfKindInWay
theorem dX0_payOut_0 : decode cX0_payOut 0 = .ok (.iconst 0, 1) := by decide +kernel
theorem dX0_payOut_1 : decode cX0_payOut 1 = .ok (.istore_n 3, 1) := by decide +kernel
theorem dX0_payOut_2 : decode cX0_payOut 2 = .ok (.iload_n 3, 1) := by decide +kernel
theorem dX0_payOut_3 : decode cX0_payOut 3 = .ok (.aload_n 0, 1) := by decide +kernel
theorem dX0_payOut_4 : decode cX0_payOut 4 = .ok (.getfield 9, 3) := by decide +kernel
theorem dX0_payOut_7 : decode cX0_payOut 7 = .ok (.if_icmp .ge 36, 3) := by decide +kernel
theorem dX0_payOut_10 : decode cX0_payOut 10 = .ok (.aload_n 0, 1) := by decide +kernel
theorem dX0_payOut_11 : decode cX0_payOut 11 = .ok (.getfield 26, 3) := by decide +kernel
theorem dX0_payOut_14 : decode cX0_payOut 14 = .ok (.iload_n 3, 1) := by decide +kernel
theorem dX0_payOut_15 : decode cX0_payOut 15 = .ok (.aload_n 0, 1) := by decide +kernel
theorem dX0_payOut_16 : decode cX0_payOut 16 = .ok (.lload_n 1, 1) := by decide +kernel
theorem dX0_payOut_17 : decode cX0_payOut 17 = .ok (.iload_n 3, 1) := by decide +kernel
theorem dX0_payOut_18 : decode cX0_payOut 18 = .ok (.invokevirtual 161, 3) := by decide +kernel
theorem dX0_payOut_21 : decode cX0_payOut 21 = .ok (.iastore, 1) := by decide +kernel
theorem dX0_payOut_22 : decode cX0_payOut 22 = .ok (.aload_n 0, 1) := by decide +kernel
theorem dX0_payOut_23 : decode cX0_payOut 23 = .ok (.getfield 20, 3) := by decide +kernel
theorem dX0_payOut_26 : decode cX0_payOut 26 = .ok (.iload_n 3, 1) := by decide +kernel
theorem dX0_payOut_27 : decode cX0_payOut 27 = .ok (.dup2, 1) := by decide +kernel
theorem dX0_payOut_28 : decode cX0_payOut 28 = .ok (.iaload, 1) := by decide +kernel
theorem dX0_payOut_29 : decode cX0_payOut 29 = .ok (.aload_n 0, 1) := by decide +kernel
theorem dX0_payOut_30 : decode cX0_payOut 30 = .ok (.getfield 26, 3) := by decide +kernel
theorem dX0_payOut_33 : decode cX0_payOut 33 = .ok (.iload_n 3, 1) := by decide +kernel
theorem dX0_payOut_34 : decode cX0_payOut 34 = .ok (.iaload, 1) := by decide +kernel
theorem dX0_payOut_35 : decode cX0_payOut 35 = .ok (.isub, 1) := by decide +kernel
theorem dX0_payOut_36 : decode cX0_payOut 36 = .ok (.iastore, 1) := by decide +kernel
theorem dX0_payOut_37 : decode cX0_payOut 37 = .ok (.iinc 3 1, 3) := by decide +kernel
theorem dX0_payOut_40 : decode cX0_payOut 40 = .ok (.goto (-38), 3) := by decide +kernel
theorem dX0_payOut_43 : decode cX0_payOut 43 = .ok (.return_, 1) := by decide +kernel
theorem dX0_countSale_0 : decode cX0_countSale 0 = .ok (.aload_n 0, 1) := by decide +kernel
theorem dX0_countSale_1 : decode cX0_countSale 1 = .ok (.getfield 57, 3) := by decide +kernel
theorem dX0_countSale_4 : decode cX0_countSale 4 = .ok (.iconst 2, 1) := by decide +kernel
theorem dX0_countSale_5 : decode cX0_countSale 5 = .ok (.dup2, 1) := by decide +kernel
theorem dX0_countSale_6 : decode cX0_countSale 6 = .ok (.laload, 1) := by decide +kernel
theorem dX0_countSale_7 : decode cX0_countSale 7 = .ok (.iload_n 2, 1) := by decide +kernel
theorem dX0_countSale_8 : decode cX0_countSale 8 = .ok (.i2l, 1) := by decide +kernel
theorem dX0_countSale_9 : decode cX0_countSale 9 = .ok (.ladd, 1) := by decide +kernel
theorem dX0_countSale_10 : decode cX0_countSale 10 = .ok (.lastore, 1) := by decide +kernel
theorem dX0_countSale_11 : decode cX0_countSale 11 = .ok (.aload_n 0, 1) := by decide +kernel
theorem dX0_countSale_12 : decode cX0_countSale 12 = .ok (.getfield 57, 3) := by decide +kernel
theorem dX0_countSale_15 : decode cX0_countSale 15 = .ok (.bipush 7, 2) := by decide +kernel
theorem dX0_countSale_17 : decode cX0_countSale 17 = .ok (.dup2, 1) := by decide +kernel
theorem dX0_countSale_18 : decode cX0_countSale 18 = .ok (.laload, 1) := by decide +kernel
theorem dX0_countSale_19 : decode cX0_countSale 19 = .ok (.iload_n 1, 1) := by decide +kernel
theorem dX0_countSale_20 : decode cX0_countSale 20 = .ok (.i2l, 1) := by decide +kernel
theorem dX0_countSale_21 : decode cX0_countSale 21 = .ok (.ladd, 1) := by decide +kernel
theorem dX0_countSale_22 : decode cX0_countSale 22 = .ok (.lastore, 1) := by decide +kernel
theorem dX0_countSale_23 : decode cX0_countSale 23 = .ok (.aload_n 0, 1) := by decide +kernel
theorem dX0_countSale_24 : decode cX0_countSale 24 = .ok (.getfield 57, 3) := by decide +kernel
theorem dX0_countSale_27 : decode cX0_countSale 27 = .ok (.bipush 8, 2) := by decide +kernel
theorem dX0_countSale_29 : decode cX0_countSale 29 = .ok (.dup2, 1) := by decide +kernel
theorem dX0_countSale_30 : decode cX0_countSale 30 = .ok (.laload, 1) := by decide +kernel
theorem dX0_countSale_31 : decode cX0_countSale 31 = .ok (.lconst 1, 1) := by decide +kernel
theorem dX0_countSale_32 : decode cX0_countSale 32 = .ok (.ladd, 1) := by decide +kernel
theorem dX0_countSale_33 : decode cX0_countSale 33 = .ok (.lastore, 1) := by decide +kernel
theorem dX0_countSale_34 : decode cX0_countSale 34 = .ok (.iload_n 2, 1) := by decide +kernel
theorem dX0_countSale_35 : decode cX0_countSale 35 = .ok (.ifCond .ne 14, 3) := by decide +kernel
theorem dX0_countSale_38 : decode cX0_countSale 38 = .ok (.aload_n 0, 1) := by decide +kernel
theorem dX0_countSale_39 : decode cX0_countSale 39 = .ok (.getfield 57, 3) := by decide +kernel
theorem dX0_countSale_42 : decode cX0_countSale 42 = .ok (.bipush 9, 2) := by decide +kernel
theorem dX0_countSale_44 : decode cX0_countSale 44 = .ok (.dup2, 1) := by decide +kernel
theorem dX0_countSale_45 : decode cX0_countSale 45 = .ok (.laload, 1) := by decide +kernel
theorem dX0_countSale_46 : decode cX0_countSale 46 = .ok (.lconst 1, 1) := by decide +kernel
theorem dX0_countSale_47 : decode cX0_countSale 47 = .ok (.ladd, 1) := by decide +kernel
theorem dX0_countSale_48 : decode cX0_countSale 48 = .ok (.lastore, 1) := by decide +kernel
theorem dX0_countSale_49 : decode cX0_countSale 49 = .ok (.return_, 1) := by decide +kernel
set_option maxRecDepth 20000 in
theorem ggX0_scoreWays_X0_addKindToWays : GoodIn wsX0_scoreWays wsX0_addKindToWays := goodIn_r _ [12, 13, 1, 2, 3, 4, 14, 15, 16, 17, 11, 18, 7, 19, 20, 21, 22, 5, 6, 23, 24, 25, 26, 27, 28, 29, 30, 31, 32, 33, 34, 35, 36, 37, 38, 39, 40, 41, 42, 43] (by decide +kernel) (by decide +kernel)
set_option maxRecDepth 20000 in
theorem gX0_scoreWays_X0_addKindToWays : GoodIn wsX0_scoreWays (wsV RX0 196 RX0 yX0_addKindToWays wsX0_addKindToWays) := goodIn_app (goodIn_of _ (by decide +kernel)) ggX0_scoreWays_X0_addKindToWays
theorem dX0_scoreWays_0 : decode cX0_scoreWays 0 = .ok (.iload_n 1, 1) := by decide +kernel
theorem dX0_scoreWays_1 : decode cX0_scoreWays 1 = .ok (.sipush 2000, 3) := by decide +kernel
theorem dX0_scoreWays_4 : decode cX0_scoreWays 4 = .ok (.invokestatic 94, 3) := by decide +kernel
theorem dX0_scoreWays_7 : decode cX0_scoreWays 7 = .ok (.istore_n 3, 1) := by decide +kernel
theorem dX0_scoreWays_8 : decode cX0_scoreWays 8 = .ok (.aload_n 0, 1) := by decide +kernel
theorem dX0_scoreWays_9 : decode cX0_scoreWays 9 = .ok (.getfield 61, 3) := by decide +kernel
theorem dX0_scoreWays_12 : decode cX0_scoreWays 12 = .ok (.iconst 0, 1) := by decide +kernel
theorem dX0_scoreWays_13 : decode cX0_scoreWays 13 = .ok (.lconst 0, 1) := by decide +kernel
theorem dX0_scoreWays_14 : decode cX0_scoreWays 14 = .ok (.lastore, 1) := by decide +kernel
theorem dX0_scoreWays_15 : decode cX0_scoreWays 15 = .ok (.iconst 1, 1) := by decide +kernel
theorem dX0_scoreWays_16 : decode cX0_scoreWays 16 = .ok (.istore 4, 2) := by decide +kernel
theorem dX0_scoreWays_18 : decode cX0_scoreWays 18 = .ok (.iload 4, 2) := by decide +kernel
theorem dX0_scoreWays_20 : decode cX0_scoreWays 20 = .ok (.iload_n 3, 1) := by decide +kernel
theorem dX0_scoreWays_21 : decode cX0_scoreWays 21 = .ok (.if_icmp .gt 19, 3) := by decide +kernel
theorem dX0_scoreWays_24 : decode cX0_scoreWays 24 = .ok (.aload_n 0, 1) := by decide +kernel
theorem dX0_scoreWays_25 : decode cX0_scoreWays 25 = .ok (.getfield 61, 3) := by decide +kernel
theorem dX0_scoreWays_28 : decode cX0_scoreWays 28 = .ok (.iload 4, 2) := by decide +kernel
theorem dX0_scoreWays_30 : decode cX0_scoreWays 30 = .ok (.ldc2_w 126, 3) := by decide +kernel
theorem dX0_scoreWays_33 : decode cX0_scoreWays 33 = .ok (.lastore, 1) := by decide +kernel
theorem dX0_scoreWays_34 : decode cX0_scoreWays 34 = .ok (.iinc 4 1, 3) := by decide +kernel
theorem dX0_scoreWays_37 : decode cX0_scoreWays 37 = .ok (.goto (-19), 3) := by decide +kernel
theorem dX0_scoreWays_40 : decode cX0_scoreWays 40 = .ok (.iconst 0, 1) := by decide +kernel
theorem dX0_scoreWays_41 : decode cX0_scoreWays 41 = .ok (.istore 4, 2) := by decide +kernel
theorem dX0_scoreWays_43 : decode cX0_scoreWays 43 = .ok (.iload 4, 2) := by decide +kernel
theorem dX0_scoreWays_45 : decode cX0_scoreWays 45 = .ok (.aload_n 0, 1) := by decide +kernel
theorem dX0_scoreWays_46 : decode cX0_scoreWays 46 = .ok (.getfield 9, 3) := by decide +kernel
theorem dX0_scoreWays_49 : decode cX0_scoreWays 49 = .ok (.if_icmp .ge 20, 3) := by decide +kernel
theorem dX0_scoreWays_52 : decode cX0_scoreWays 52 = .ok (.aload_n 0, 1) := by decide +kernel
theorem dX0_scoreWays_53 : decode cX0_scoreWays 53 = .ok (.iload 4, 2) := by decide +kernel
theorem dX0_scoreWays_55 : decode cX0_scoreWays 55 = .ok (.aload_n 2, 1) := by decide +kernel
theorem dX0_scoreWays_56 : decode cX0_scoreWays 56 = .ok (.iload 4, 2) := by decide +kernel
theorem dX0_scoreWays_58 : decode cX0_scoreWays 58 = .ok (.iaload, 1) := by decide +kernel
theorem dX0_scoreWays_59 : decode cX0_scoreWays 59 = .ok (.iload_n 3, 1) := by decide +kernel
theorem dX0_scoreWays_60 : decode cX0_scoreWays 60 = .ok (.invokevirtual 196, 3) := by decide +kernel
theorem dX0_scoreWays_63 : decode cX0_scoreWays 63 = .ok (.iinc 4 1, 3) := by decide +kernel
theorem dX0_scoreWays_66 : decode cX0_scoreWays 66 = .ok (.goto (-23), 3) := by decide +kernel
theorem dX0_scoreWays_69 : decode cX0_scoreWays 69 = .ok (.return_, 1) := by decide +kernel
set_option maxRecDepth 20000 in
theorem ggX0_addKindToWays_X0_digitOf : GoodIn wsX0_addKindToWays wsX0_digitOf := goodIn_r _ [11, 12, 6, 22, 23, 24, 25, 26, 27, 28, 29, 30, 31, 32, 33, 34, 35, 36, 37, 38, 39] (by decide +kernel) (by decide +kernel)
set_option maxRecDepth 20000 in
theorem gX0_addKindToWays_X0_digitOf : GoodIn wsX0_addKindToWays (wsV RX0 200 RX0 yX0_digitOf wsX0_digitOf) := goodIn_app (goodIn_of _ (by decide +kernel)) ggX0_addKindToWays_X0_digitOf
set_option maxRecDepth 20000 in
theorem ggX0_addKindToWays_X0_addPackToWays : GoodIn wsX0_addKindToWays wsX0_addPackToWays := goodIn_r _ [16, 17, 18, 19, 20, 4, 21, 22, 23, 24, 25, 26, 27, 28, 29, 30, 31, 32, 33, 34, 35, 36, 37, 38, 39] (by decide +kernel) (by decide +kernel)
set_option maxRecDepth 20000 in
theorem gX0_addKindToWays_X0_addPackToWays : GoodIn wsX0_addKindToWays (wsV RX0 205 RX0 yX0_addPackToWays wsX0_addPackToWays) := goodIn_app (goodIn_of _ (by decide +kernel)) ggX0_addKindToWays_X0_addPackToWays
theorem dX0_addKindToWays_0 : decode cX0_addKindToWays 0 = .ok (.lconst 1, 1) := by decide +kernel
theorem dX0_addKindToWays_1 : decode cX0_addKindToWays 1 = .ok (.aload_n 0, 1) := by decide +kernel
theorem dX0_addKindToWays_2 : decode cX0_addKindToWays 2 = .ok (.iload_n 1, 1) := by decide +kernel
theorem dX0_addKindToWays_3 : decode cX0_addKindToWays 3 = .ok (.invokevirtual 200, 3) := by decide +kernel
theorem dX0_addKindToWays_6 : decode cX0_addKindToWays 6 = .ok (.lshl, 1) := by decide +kernel
theorem dX0_addKindToWays_7 : decode cX0_addKindToWays 7 = .ok (.ldc2_w 203, 3) := by decide +kernel
theorem dX0_addKindToWays_10 : decode cX0_addKindToWays 10 = .ok (.lsub, 1) := by decide +kernel
theorem dX0_addKindToWays_11 : decode cX0_addKindToWays 11 = .ok (.lstore 4, 2) := by decide +kernel
theorem dX0_addKindToWays_13 : decode cX0_addKindToWays 13 = .ok (.iload_n 2, 1) := by decide +kernel
theorem dX0_addKindToWays_14 : decode cX0_addKindToWays 14 = .ok (.istore 6, 2) := by decide +kernel
theorem dX0_addKindToWays_16 : decode cX0_addKindToWays 16 = .ok (.iconst 1, 1) := by decide +kernel
theorem dX0_addKindToWays_17 : decode cX0_addKindToWays 17 = .ok (.istore 7, 2) := by decide +kernel
theorem dX0_addKindToWays_19 : decode cX0_addKindToWays 19 = .ok (.iload 7, 2) := by decide +kernel
theorem dX0_addKindToWays_21 : decode cX0_addKindToWays 21 = .ok (.bipush 60, 2) := by decide +kernel
theorem dX0_addKindToWays_23 : decode cX0_addKindToWays 23 = .ok (.if_icmp .gt 53, 3) := by decide +kernel
theorem dX0_addKindToWays_26 : decode cX0_addKindToWays 26 = .ok (.iload 7, 2) := by decide +kernel
theorem dX0_addKindToWays_28 : decode cX0_addKindToWays 28 = .ok (.iload 6, 2) := by decide +kernel
theorem dX0_addKindToWays_30 : decode cX0_addKindToWays 30 = .ok (.invokestatic 94, 3) := by decide +kernel
theorem dX0_addKindToWays_33 : decode cX0_addKindToWays 33 = .ok (.istore 8, 2) := by decide +kernel
theorem dX0_addKindToWays_35 : decode cX0_addKindToWays 35 = .ok (.iload 8, 2) := by decide +kernel
theorem dX0_addKindToWays_37 : decode cX0_addKindToWays 37 = .ok (.ifCond .le 23, 3) := by decide +kernel
theorem dX0_addKindToWays_40 : decode cX0_addKindToWays 40 = .ok (.aload_n 0, 1) := by decide +kernel
theorem dX0_addKindToWays_41 : decode cX0_addKindToWays 41 = .ok (.iload 8, 2) := by decide +kernel
theorem dX0_addKindToWays_43 : decode cX0_addKindToWays 43 = .ok (.aload_n 0, 1) := by decide +kernel
theorem dX0_addKindToWays_44 : decode cX0_addKindToWays 44 = .ok (.getfield 13, 3) := by decide +kernel
theorem dX0_addKindToWays_47 : decode cX0_addKindToWays 47 = .ok (.iload_n 1, 1) := by decide +kernel
theorem dX0_addKindToWays_48 : decode cX0_addKindToWays 48 = .ok (.iaload, 1) := by decide +kernel
theorem dX0_addKindToWays_49 : decode cX0_addKindToWays 49 = .ok (.imul, 1) := by decide +kernel
theorem dX0_addKindToWays_50 : decode cX0_addKindToWays 50 = .ok (.iload 8, 2) := by decide +kernel
theorem dX0_addKindToWays_52 : decode cX0_addKindToWays 52 = .ok (.i2l, 1) := by decide +kernel
theorem dX0_addKindToWays_53 : decode cX0_addKindToWays 53 = .ok (.lload 4, 2) := by decide +kernel
theorem dX0_addKindToWays_55 : decode cX0_addKindToWays 55 = .ok (.lmul, 1) := by decide +kernel
theorem dX0_addKindToWays_56 : decode cX0_addKindToWays 56 = .ok (.iload_n 3, 1) := by decide +kernel
theorem dX0_addKindToWays_57 : decode cX0_addKindToWays 57 = .ok (.invokevirtual 205, 3) := by decide +kernel
theorem dX0_addKindToWays_60 : decode cX0_addKindToWays 60 = .ok (.iload 6, 2) := by decide +kernel
theorem dX0_addKindToWays_62 : decode cX0_addKindToWays 62 = .ok (.iload 8, 2) := by decide +kernel
theorem dX0_addKindToWays_64 : decode cX0_addKindToWays 64 = .ok (.isub, 1) := by decide +kernel
theorem dX0_addKindToWays_65 : decode cX0_addKindToWays 65 = .ok (.istore 6, 2) := by decide +kernel
theorem dX0_addKindToWays_67 : decode cX0_addKindToWays 67 = .ok (.iload 7, 2) := by decide +kernel
theorem dX0_addKindToWays_69 : decode cX0_addKindToWays 69 = .ok (.iconst 2, 1) := by decide +kernel
theorem dX0_addKindToWays_70 : decode cX0_addKindToWays 70 = .ok (.imul, 1) := by decide +kernel
theorem dX0_addKindToWays_71 : decode cX0_addKindToWays 71 = .ok (.istore 7, 2) := by decide +kernel
theorem dX0_addKindToWays_73 : decode cX0_addKindToWays 73 = .ok (.goto (-54), 3) := by decide +kernel
theorem dX0_addKindToWays_76 : decode cX0_addKindToWays 76 = .ok (.return_, 1) := by decide +kernel
theorem dX0_addPackToWays_0 : decode cX0_addPackToWays 0 = .ok (.iload 4, 2) := by decide +kernel
theorem dX0_addPackToWays_2 : decode cX0_addPackToWays 2 = .ok (.istore 5, 2) := by decide +kernel
theorem dX0_addPackToWays_4 : decode cX0_addPackToWays 4 = .ok (.iload 5, 2) := by decide +kernel
theorem dX0_addPackToWays_6 : decode cX0_addPackToWays 6 = .ok (.iload_n 1, 1) := by decide +kernel
theorem dX0_addPackToWays_7 : decode cX0_addPackToWays 7 = .ok (.if_icmp .lt 50, 3) := by decide +kernel
theorem dX0_addPackToWays_10 : decode cX0_addPackToWays 10 = .ok (.aload_n 0, 1) := by decide +kernel
theorem dX0_addPackToWays_11 : decode cX0_addPackToWays 11 = .ok (.getfield 61, 3) := by decide +kernel
theorem dX0_addPackToWays_14 : decode cX0_addPackToWays 14 = .ok (.iload 5, 2) := by decide +kernel
theorem dX0_addPackToWays_16 : decode cX0_addPackToWays 16 = .ok (.iload_n 1, 1) := by decide +kernel
theorem dX0_addPackToWays_17 : decode cX0_addPackToWays 17 = .ok (.isub, 1) := by decide +kernel
theorem dX0_addPackToWays_18 : decode cX0_addPackToWays 18 = .ok (.laload, 1) := by decide +kernel
theorem dX0_addPackToWays_19 : decode cX0_addPackToWays 19 = .ok (.lstore 6, 2) := by decide +kernel
theorem dX0_addPackToWays_21 : decode cX0_addPackToWays 21 = .ok (.lload 6, 2) := by decide +kernel
theorem dX0_addPackToWays_23 : decode cX0_addPackToWays 23 = .ok (.ldc2_w 126, 3) := by decide +kernel
theorem dX0_addPackToWays_26 : decode cX0_addPackToWays 26 = .ok (.lcmp, 1) := by decide +kernel
theorem dX0_addPackToWays_27 : decode cX0_addPackToWays 27 = .ok (.ifCond .eq 24, 3) := by decide +kernel
theorem dX0_addPackToWays_30 : decode cX0_addPackToWays 30 = .ok (.aload_n 0, 1) := by decide +kernel
theorem dX0_addPackToWays_31 : decode cX0_addPackToWays 31 = .ok (.getfield 61, 3) := by decide +kernel
theorem dX0_addPackToWays_34 : decode cX0_addPackToWays 34 = .ok (.iload 5, 2) := by decide +kernel
theorem dX0_addPackToWays_36 : decode cX0_addPackToWays 36 = .ok (.aload_n 0, 1) := by decide +kernel
theorem dX0_addPackToWays_37 : decode cX0_addPackToWays 37 = .ok (.getfield 61, 3) := by decide +kernel
theorem dX0_addPackToWays_40 : decode cX0_addPackToWays 40 = .ok (.iload 5, 2) := by decide +kernel
theorem dX0_addPackToWays_42 : decode cX0_addPackToWays 42 = .ok (.laload, 1) := by decide +kernel
theorem dX0_addPackToWays_43 : decode cX0_addPackToWays 43 = .ok (.lload 6, 2) := by decide +kernel
theorem dX0_addPackToWays_45 : decode cX0_addPackToWays 45 = .ok (.lload_n 2, 1) := by decide +kernel
theorem dX0_addPackToWays_46 : decode cX0_addPackToWays 46 = .ok (.ladd, 1) := by decide +kernel
theorem dX0_addPackToWays_47 : decode cX0_addPackToWays 47 = .ok (.invokestatic 209, 3) := by decide +kernel
theorem dX0_addPackToWays_50 : decode cX0_addPackToWays 50 = .ok (.lastore, 1) := by decide +kernel
theorem dX0_addPackToWays_51 : decode cX0_addPackToWays 51 = .ok (.iinc 5 (-1), 3) := by decide +kernel
theorem dX0_addPackToWays_54 : decode cX0_addPackToWays 54 = .ok (.goto (-50), 3) := by decide +kernel
theorem dX0_addPackToWays_57 : decode cX0_addPackToWays 57 = .ok (.return_, 1) := by decide +kernel
theorem dX0_scoreOf_0 : decode cX0_scoreOf 0 = .ok (.iload_n 1, 1) := by decide +kernel
theorem dX0_scoreOf_1 : decode cX0_scoreOf 1 = .ok (.ifCond .lt 10, 3) := by decide +kernel
theorem dX0_scoreOf_4 : decode cX0_scoreOf 4 = .ok (.iload_n 1, 1) := by decide +kernel
theorem dX0_scoreOf_5 : decode cX0_scoreOf 5 = .ok (.sipush 2000, 3) := by decide +kernel
theorem dX0_scoreOf_8 : decode cX0_scoreOf 8 = .ok (.if_icmp .le 9, 3) := by decide +kernel
theorem dX0_scoreOf_11 : decode cX0_scoreOf 11 = .ok (.ldc2_w 126, 3) := by decide +kernel
theorem dX0_scoreOf_14 : decode cX0_scoreOf 14 = .ok (.goto 9, 3) := by decide +kernel
theorem dX0_scoreOf_17 : decode cX0_scoreOf 17 = .ok (.aload_n 0, 1) := by decide +kernel
theorem dX0_scoreOf_18 : decode cX0_scoreOf 18 = .ok (.getfield 61, 3) := by decide +kernel
theorem dX0_scoreOf_21 : decode cX0_scoreOf 21 = .ok (.iload_n 1, 1) := by decide +kernel
theorem dX0_scoreOf_22 : decode cX0_scoreOf 22 = .ok (.laload, 1) := by decide +kernel
theorem dX0_scoreOf_23 : decode cX0_scoreOf 23 = .ok (.lreturn, 1) := by decide +kernel
theorem dX0_digitOf_0 : decode cX0_digitOf 0 = .ok (.iconst 0, 1) := by decide +kernel
theorem dX0_digitOf_1 : decode cX0_digitOf 1 = .ok (.istore_n 2, 1) := by decide +kernel
theorem dX0_digitOf_2 : decode cX0_digitOf 2 = .ok (.iconst 0, 1) := by decide +kernel
theorem dX0_digitOf_3 : decode cX0_digitOf 3 = .ok (.istore_n 3, 1) := by decide +kernel
theorem dX0_digitOf_4 : decode cX0_digitOf 4 = .ok (.iload_n 3, 1) := by decide +kernel
theorem dX0_digitOf_5 : decode cX0_digitOf 5 = .ok (.aload_n 0, 1) := by decide +kernel
theorem dX0_digitOf_6 : decode cX0_digitOf 6 = .ok (.getfield 9, 3) := by decide +kernel
theorem dX0_digitOf_9 : decode cX0_digitOf 9 = .ok (.if_icmp .ge 27, 3) := by decide +kernel
theorem dX0_digitOf_12 : decode cX0_digitOf 12 = .ok (.aload_n 0, 1) := by decide +kernel
theorem dX0_digitOf_13 : decode cX0_digitOf 13 = .ok (.getfield 13, 3) := by decide +kernel
theorem dX0_digitOf_16 : decode cX0_digitOf 16 = .ok (.iload_n 3, 1) := by decide +kernel
theorem dX0_digitOf_17 : decode cX0_digitOf 17 = .ok (.iaload, 1) := by decide +kernel
theorem dX0_digitOf_18 : decode cX0_digitOf 18 = .ok (.aload_n 0, 1) := by decide +kernel
theorem dX0_digitOf_19 : decode cX0_digitOf 19 = .ok (.getfield 13, 3) := by decide +kernel
theorem dX0_digitOf_22 : decode cX0_digitOf 22 = .ok (.iload_n 1, 1) := by decide +kernel
theorem dX0_digitOf_23 : decode cX0_digitOf 23 = .ok (.iaload, 1) := by decide +kernel
theorem dX0_digitOf_24 : decode cX0_digitOf 24 = .ok (.if_icmp .ge 6, 3) := by decide +kernel
theorem dX0_digitOf_27 : decode cX0_digitOf 27 = .ok (.iinc 2 1, 3) := by decide +kernel
theorem dX0_digitOf_30 : decode cX0_digitOf 30 = .ok (.iinc 3 1, 3) := by decide +kernel
theorem dX0_digitOf_33 : decode cX0_digitOf 33 = .ok (.goto (-29), 3) := by decide +kernel
theorem dX0_digitOf_36 : decode cX0_digitOf 36 = .ok (.iload_n 2, 1) := by decide +kernel
theorem dX0_digitOf_37 : decode cX0_digitOf 37 = .ok (.bipush 6, 2) := by decide +kernel
theorem dX0_digitOf_39 : decode cX0_digitOf 39 = .ok (.imul, 1) := by decide +kernel
theorem dX0_digitOf_40 : decode cX0_digitOf 40 = .ok (.ireturn, 1) := by decide +kernel
theorem dX0_coinsInWay_0 : decode cX0_coinsInWay 0 = .ok (.lload_n 0, 1) := by decide +kernel
theorem dX0_coinsInWay_1 : decode cX0_coinsInWay 1 = .ok (.bipush 48, 2) := by decide +kernel
theorem dX0_coinsInWay_3 : decode cX0_coinsInWay 3 = .ok (.lshr, 1) := by decide +kernel
theorem dX0_coinsInWay_4 : decode cX0_coinsInWay 4 = .ok (.lneg, 1) := by decide +kernel
theorem dX0_coinsInWay_5 : decode cX0_coinsInWay 5 = .ok (.l2i, 1) := by decide +kernel
theorem dX0_coinsInWay_6 : decode cX0_coinsInWay 6 = .ok (.ireturn, 1) := by decide +kernel
set_option maxRecDepth 20000 in
theorem ggX0_coinsOfKindInWay_X0_digitOf : GoodIn wsX0_coinsOfKindInWay wsX0_digitOf := goodIn_r _ [6, 7, 8, 9, 10, 11, 12, 13, 14, 15, 16, 17, 18, 19, 20, 21, 22, 23, 24, 25, 26] (by decide +kernel) (by decide +kernel)
set_option maxRecDepth 20000 in
theorem gX0_coinsOfKindInWay_X0_digitOf : GoodIn wsX0_coinsOfKindInWay (wsV RX0 200 RX0 yX0_digitOf wsX0_digitOf) := goodIn_app (goodIn_of _ (by decide +kernel)) ggX0_coinsOfKindInWay_X0_digitOf
theorem dX0_coinsOfKindInWay_0 : decode cX0_coinsOfKindInWay 0 = .ok (.lload_n 1, 1) := by decide +kernel
theorem dX0_coinsOfKindInWay_1 : decode cX0_coinsOfKindInWay 1 = .ok (.aload_n 0, 1) := by decide +kernel
theorem dX0_coinsOfKindInWay_2 : decode cX0_coinsOfKindInWay 2 = .ok (.iload_n 3, 1) := by decide +kernel
theorem dX0_coinsOfKindInWay_3 : decode cX0_coinsOfKindInWay 3 = .ok (.invokevirtual 200, 3) := by decide +kernel
theorem dX0_coinsOfKindInWay_6 : decode cX0_coinsOfKindInWay 6 = .ok (.lshr, 1) := by decide +kernel
theorem dX0_coinsOfKindInWay_7 : decode cX0_coinsOfKindInWay 7 = .ok (.ldc2_w 213, 3) := by decide +kernel
theorem dX0_coinsOfKindInWay_10 : decode cX0_coinsOfKindInWay 10 = .ok (.land, 1) := by decide +kernel
theorem dX0_coinsOfKindInWay_11 : decode cX0_coinsOfKindInWay 11 = .ok (.l2i, 1) := by decide +kernel
theorem dX0_coinsOfKindInWay_12 : decode cX0_coinsOfKindInWay 12 = .ok (.ireturn, 1) := by decide +kernel
theorem dJ9_max_f86c9_0 : decode cJ9_max_f86c9 0 = .ok (.lload_n 0, 1) := by decide +kernel
theorem dJ9_max_f86c9_1 : decode cJ9_max_f86c9 1 = .ok (.lload_n 2, 1) := by decide +kernel
theorem dJ9_max_f86c9_2 : decode cJ9_max_f86c9 2 = .ok (.lcmp, 1) := by decide +kernel
theorem dJ9_max_f86c9_3 : decode cJ9_max_f86c9 3 = .ok (.ifCond .lt 7, 3) := by decide +kernel
theorem dJ9_max_f86c9_6 : decode cJ9_max_f86c9 6 = .ok (.lload_n 0, 1) := by decide +kernel
theorem dJ9_max_f86c9_7 : decode cJ9_max_f86c9 7 = .ok (.goto 4, 3) := by decide +kernel
theorem dJ9_max_f86c9_10 : decode cJ9_max_f86c9 10 = .ok (.lload_n 2, 1) := by decide +kernel
theorem dJ9_max_f86c9_11 : decode cJ9_max_f86c9 11 = .ok (.lreturn, 1) := by decide +kernel
theorem dJ9_min_7cf53_0 : decode cJ9_min_7cf53 0 = .ok (.iload_n 0, 1) := by decide +kernel
theorem dJ9_min_7cf53_1 : decode cJ9_min_7cf53 1 = .ok (.iload_n 1, 1) := by decide +kernel
theorem dJ9_min_7cf53_2 : decode cJ9_min_7cf53 2 = .ok (.if_icmp .gt 7, 3) := by decide +kernel
theorem dJ9_min_7cf53_5 : decode cJ9_min_7cf53 5 = .ok (.iload_n 0, 1) := by decide +kernel
theorem dJ9_min_7cf53_6 : decode cJ9_min_7cf53 6 = .ok (.goto 4, 3) := by decide +kernel
theorem dJ9_min_7cf53_9 : decode cJ9_min_7cf53 9 = .ok (.iload_n 1, 1) := by decide +kernel
theorem dJ9_min_7cf53_10 : decode cJ9_min_7cf53 10 = .ok (.ireturn, 1) := by decide +kernel
