theorem dX0_init_0 : decode cX0_init 0 = .ok (.aload_n 0, 1) := by decide +kernel
theorem dX0_init_1 : decode cX0_init 1 = .ok (.invokespecial 3, 3) := by decide +kernel
theorem dX0_init_4 : decode cX0_init 4 = .ok (.aload_n 0, 1) := by decide +kernel
theorem dX0_init_5 : decode cX0_init 5 = .ok (.bipush 14, 2) := by decide +kernel
theorem dX0_init_7 : decode cX0_init 7 = .ok (.newarray .int, 2) := by decide +kernel
theorem dX0_init_9 : decode cX0_init 9 = .ok (.putfield 9, 3) := by decide +kernel
theorem dX0_init_12 : decode cX0_init 12 = .ok (.aload_n 0, 1) := by decide +kernel
theorem dX0_init_13 : decode cX0_init 13 = .ok (.bipush 14, 2) := by decide +kernel
theorem dX0_init_15 : decode cX0_init 15 = .ok (.newarray .long, 2) := by decide +kernel
theorem dX0_init_17 : decode cX0_init 17 = .ok (.putfield 15, 3) := by decide +kernel
theorem dX0_init_20 : decode cX0_init 20 = .ok (.aload_n 0, 1) := by decide +kernel
theorem dX0_init_21 : decode cX0_init 21 = .ok (.bipush 14, 2) := by decide +kernel
theorem dX0_init_23 : decode cX0_init 23 = .ok (.newarray .long, 2) := by decide +kernel
theorem dX0_init_25 : decode cX0_init 25 = .ok (.putfield 19, 3) := by decide +kernel
theorem dX0_init_28 : decode cX0_init 28 = .ok (.aload_n 0, 1) := by decide +kernel
theorem dX0_init_29 : decode cX0_init 29 = .ok (.bipush 15, 2) := by decide +kernel
theorem dX0_init_31 : decode cX0_init 31 = .ok (.newarray .long, 2) := by decide +kernel
theorem dX0_init_33 : decode cX0_init 33 = .ok (.putfield 22, 3) := by decide +kernel
theorem dX0_init_36 : decode cX0_init 36 = .ok (.aload_n 0, 1) := by decide +kernel
theorem dX0_init_37 : decode cX0_init 37 = .ok (.bipush 15, 2) := by decide +kernel
theorem dX0_init_39 : decode cX0_init 39 = .ok (.newarray .long, 2) := by decide +kernel
theorem dX0_init_41 : decode cX0_init 41 = .ok (.putfield 25, 3) := by decide +kernel
theorem dX0_init_44 : decode cX0_init 44 = .ok (.aload_n 0, 1) := by decide +kernel
theorem dX0_init_45 : decode cX0_init 45 = .ok (.bipush 15, 2) := by decide +kernel
theorem dX0_init_47 : decode cX0_init 47 = .ok (.newarray .int, 2) := by decide +kernel
theorem dX0_init_49 : decode cX0_init 49 = .ok (.putfield 28, 3) := by decide +kernel
theorem dX0_init_52 : decode cX0_init 52 = .ok (.aload_n 0, 1) := by decide +kernel
theorem dX0_init_53 : decode cX0_init 53 = .ok (.bipush 15, 2) := by decide +kernel
theorem dX0_init_55 : decode cX0_init 55 = .ok (.newarray .long, 2) := by decide +kernel
theorem dX0_init_57 : decode cX0_init 57 = .ok (.putfield 31, 3) := by decide +kernel
theorem dX0_init_60 : decode cX0_init 60 = .ok (.return_, 1) := by decide +kernel
theorem dX0_begin_0 : decode cX0_begin 0 = .ok (.aload_n 0, 1) := by decide +kernel
theorem dX0_begin_1 : decode cX0_begin 1 = .ok (.iload_n 1, 1) := by decide +kernel
theorem dX0_begin_2 : decode cX0_begin 2 = .ok (.putfield 34, 3) := by decide +kernel
theorem dX0_begin_5 : decode cX0_begin 5 = .ok (.aload_n 0, 1) := by decide +kernel
theorem dX0_begin_6 : decode cX0_begin 6 = .ok (.iload_n 2, 1) := by decide +kernel
theorem dX0_begin_7 : decode cX0_begin 7 = .ok (.putfield 38, 3) := by decide +kernel
theorem dX0_begin_10 : decode cX0_begin 10 = .ok (.aload_n 0, 1) := by decide +kernel
theorem dX0_begin_11 : decode cX0_begin 11 = .ok (.iconst 0, 1) := by decide +kernel
theorem dX0_begin_12 : decode cX0_begin 12 = .ok (.putfield 41, 3) := by decide +kernel
theorem dX0_begin_15 : decode cX0_begin 15 = .ok (.aload_n 0, 1) := by decide +kernel
theorem dX0_begin_16 : decode cX0_begin 16 = .ok (.ldc2_w 44, 3) := by decide +kernel
theorem dX0_begin_19 : decode cX0_begin 19 = .ok (.putfield 46, 3) := by decide +kernel
theorem dX0_begin_22 : decode cX0_begin 22 = .ok (.return_, 1) := by decide +kernel
set_option maxRecDepth 20000 in
theorem ggX0_offer_X0_inFours : GoodIn wsX0_offer wsX0_inFours := goodIn_r _ [11] (by decide +kernel) (by decide +kernel)
set_option maxRecDepth 20000 in
theorem gX0_offer_X0_inFours : GoodIn wsX0_offer (va_wsS RX0 50 yX0_inFours wsX0_inFours) := goodIn_app (goodIn_of _ (by decide +kernel)) ggX0_offer_X0_inFours
theorem dX0_offer_0 : decode cX0_offer 0 = .ok (.aload_n 0, 1) := by decide +kernel
theorem dX0_offer_1 : decode cX0_offer 1 = .ok (.getfield 41, 3) := by decide +kernel
theorem dX0_offer_4 : decode cX0_offer 4 = .ok (.bipush 14, 2) := by decide +kernel
theorem dX0_offer_6 : decode cX0_offer 6 = .ok (.if_icmp .ge 72, 3) := by decide +kernel
theorem dX0_offer_9 : decode cX0_offer 9 = .ok (.aload_n 0, 1) := by decide +kernel
theorem dX0_offer_10 : decode cX0_offer 10 = .ok (.getfield 9, 3) := by decide +kernel
theorem dX0_offer_13 : decode cX0_offer 13 = .ok (.aload_n 0, 1) := by decide +kernel
theorem dX0_offer_14 : decode cX0_offer 14 = .ok (.getfield 41, 3) := by decide +kernel
theorem dX0_offer_17 : decode cX0_offer 17 = .ok (.iload_n 1, 1) := by decide +kernel
theorem dX0_offer_18 : decode cX0_offer 18 = .ok (.iastore, 1) := by decide +kernel
theorem dX0_offer_19 : decode cX0_offer 19 = .ok (.aload_n 0, 1) := by decide +kernel
theorem dX0_offer_20 : decode cX0_offer 20 = .ok (.getfield 15, 3) := by decide +kernel
theorem dX0_offer_23 : decode cX0_offer 23 = .ok (.aload_n 0, 1) := by decide +kernel
theorem dX0_offer_24 : decode cX0_offer 24 = .ok (.getfield 41, 3) := by decide +kernel
theorem dX0_offer_27 : decode cX0_offer 27 = .ok (.iload_n 2, 1) := by decide +kernel
theorem dX0_offer_28 : decode cX0_offer 28 = .ok (.invokestatic 50, 3) := by decide +kernel
theorem dX0_offer_31 : decode cX0_offer 31 = .ok (.lastore, 1) := by decide +kernel
theorem dX0_offer_32 : decode cX0_offer 32 = .ok (.aload_n 0, 1) := by decide +kernel
theorem dX0_offer_33 : decode cX0_offer 33 = .ok (.getfield 19, 3) := by decide +kernel
theorem dX0_offer_36 : decode cX0_offer 36 = .ok (.aload_n 0, 1) := by decide +kernel
theorem dX0_offer_37 : decode cX0_offer 37 = .ok (.getfield 41, 3) := by decide +kernel
theorem dX0_offer_40 : decode cX0_offer 40 = .ok (.lload_n 3, 1) := by decide +kernel
theorem dX0_offer_41 : decode cX0_offer 41 = .ok (.lastore, 1) := by decide +kernel
theorem dX0_offer_42 : decode cX0_offer 42 = .ok (.aload_n 0, 1) := by decide +kernel
theorem dX0_offer_43 : decode cX0_offer 43 = .ok (.dup, 1) := by decide +kernel
theorem dX0_offer_44 : decode cX0_offer 44 = .ok (.getfield 46, 3) := by decide +kernel
theorem dX0_offer_47 : decode cX0_offer 47 = .ok (.aload_n 0, 1) := by decide +kernel
theorem dX0_offer_48 : decode cX0_offer 48 = .ok (.getfield 15, 3) := by decide +kernel
theorem dX0_offer_51 : decode cX0_offer 51 = .ok (.aload_n 0, 1) := by decide +kernel
theorem dX0_offer_52 : decode cX0_offer 52 = .ok (.getfield 41, 3) := by decide +kernel
theorem dX0_offer_55 : decode cX0_offer 55 = .ok (.laload, 1) := by decide +kernel
theorem dX0_offer_56 : decode cX0_offer 56 = .ok (.ldc2_w 54, 3) := by decide +kernel
theorem dX0_offer_59 : decode cX0_offer 59 = .ok (.lmul, 1) := by decide +kernel
theorem dX0_offer_60 : decode cX0_offer 60 = .ok (.ldc2_w 44, 3) := by decide +kernel
theorem dX0_offer_63 : decode cX0_offer 63 = .ok (.lxor, 1) := by decide +kernel
theorem dX0_offer_64 : decode cX0_offer 64 = .ok (.land, 1) := by decide +kernel
theorem dX0_offer_65 : decode cX0_offer 65 = .ok (.putfield 46, 3) := by decide +kernel
theorem dX0_offer_68 : decode cX0_offer 68 = .ok (.aload_n 0, 1) := by decide +kernel
theorem dX0_offer_69 : decode cX0_offer 69 = .ok (.dup, 1) := by decide +kernel
theorem dX0_offer_70 : decode cX0_offer 70 = .ok (.getfield 41, 3) := by decide +kernel
theorem dX0_offer_73 : decode cX0_offer 73 = .ok (.iconst 1, 1) := by decide +kernel
theorem dX0_offer_74 : decode cX0_offer 74 = .ok (.iadd, 1) := by decide +kernel
theorem dX0_offer_75 : decode cX0_offer 75 = .ok (.putfield 41, 3) := by decide +kernel
theorem dX0_offer_78 : decode cX0_offer 78 = .ok (.return_, 1) := by decide +kernel
theorem dX0_inFours_0 : decode cX0_inFours 0 = .ok (.lconst 0, 1) := by decide +kernel
theorem dX0_inFours_1 : decode cX0_inFours 1 = .ok (.lstore_n 1, 1) := by decide +kernel
theorem dX0_inFours_2 : decode cX0_inFours 2 = .ok (.iconst 0, 1) := by decide +kernel
theorem dX0_inFours_3 : decode cX0_inFours 3 = .ok (.istore_n 3, 1) := by decide +kernel
theorem dX0_inFours_4 : decode cX0_inFours 4 = .ok (.iload_n 3, 1) := by decide +kernel
theorem dX0_inFours_5 : decode cX0_inFours 5 = .ok (.bipush 16, 2) := by decide +kernel
theorem dX0_inFours_7 : decode cX0_inFours 7 = .ok (.if_icmp .ge 25, 3) := by decide +kernel
theorem dX0_inFours_10 : decode cX0_inFours 10 = .ok (.iload_n 0, 1) := by decide +kernel
theorem dX0_inFours_11 : decode cX0_inFours 11 = .ok (.iload_n 3, 1) := by decide +kernel
theorem dX0_inFours_12 : decode cX0_inFours 12 = .ok (.ishr, 1) := by decide +kernel
theorem dX0_inFours_13 : decode cX0_inFours 13 = .ok (.iconst 1, 1) := by decide +kernel
theorem dX0_inFours_14 : decode cX0_inFours 14 = .ok (.iand, 1) := by decide +kernel
theorem dX0_inFours_15 : decode cX0_inFours 15 = .ok (.ifCond .eq 11, 3) := by decide +kernel
theorem dX0_inFours_18 : decode cX0_inFours 18 = .ok (.lload_n 1, 1) := by decide +kernel
theorem dX0_inFours_19 : decode cX0_inFours 19 = .ok (.lconst 1, 1) := by decide +kernel
theorem dX0_inFours_20 : decode cX0_inFours 20 = .ok (.iconst 4, 1) := by decide +kernel
theorem dX0_inFours_21 : decode cX0_inFours 21 = .ok (.iload_n 3, 1) := by decide +kernel
theorem dX0_inFours_22 : decode cX0_inFours 22 = .ok (.imul, 1) := by decide +kernel
theorem dX0_inFours_23 : decode cX0_inFours 23 = .ok (.lshl, 1) := by decide +kernel
theorem dX0_inFours_24 : decode cX0_inFours 24 = .ok (.lor, 1) := by decide +kernel
theorem dX0_inFours_25 : decode cX0_inFours 25 = .ok (.lstore_n 1, 1) := by decide +kernel
theorem dX0_inFours_26 : decode cX0_inFours 26 = .ok (.iinc 3 1, 3) := by decide +kernel
theorem dX0_inFours_29 : decode cX0_inFours 29 = .ok (.goto (-25), 3) := by decide +kernel
theorem dX0_inFours_32 : decode cX0_inFours 32 = .ok (.lload_n 1, 1) := by decide +kernel
theorem dX0_inFours_33 : decode cX0_inFours 33 = .ok (.lreturn, 1) := by decide +kernel
theorem dX0_sumUp_0 : decode cX0_sumUp 0 = .ok (.aload_n 0, 1) := by decide +kernel
theorem dX0_sumUp_1 : decode cX0_sumUp 1 = .ok (.getfield 22, 3) := by decide +kernel
theorem dX0_sumUp_4 : decode cX0_sumUp 4 = .ok (.aload_n 0, 1) := by decide +kernel
theorem dX0_sumUp_5 : decode cX0_sumUp 5 = .ok (.getfield 41, 3) := by decide +kernel
theorem dX0_sumUp_8 : decode cX0_sumUp 8 = .ok (.lconst 0, 1) := by decide +kernel
theorem dX0_sumUp_9 : decode cX0_sumUp 9 = .ok (.lastore, 1) := by decide +kernel
theorem dX0_sumUp_10 : decode cX0_sumUp 10 = .ok (.aload_n 0, 1) := by decide +kernel
theorem dX0_sumUp_11 : decode cX0_sumUp 11 = .ok (.getfield 25, 3) := by decide +kernel
theorem dX0_sumUp_14 : decode cX0_sumUp 14 = .ok (.aload_n 0, 1) := by decide +kernel
theorem dX0_sumUp_15 : decode cX0_sumUp 15 = .ok (.getfield 41, 3) := by decide +kernel
theorem dX0_sumUp_18 : decode cX0_sumUp 18 = .ok (.lconst 0, 1) := by decide +kernel
theorem dX0_sumUp_19 : decode cX0_sumUp 19 = .ok (.lastore, 1) := by decide +kernel
theorem dX0_sumUp_20 : decode cX0_sumUp 20 = .ok (.aload_n 0, 1) := by decide +kernel
theorem dX0_sumUp_21 : decode cX0_sumUp 21 = .ok (.getfield 28, 3) := by decide +kernel
theorem dX0_sumUp_24 : decode cX0_sumUp 24 = .ok (.aload_n 0, 1) := by decide +kernel
theorem dX0_sumUp_25 : decode cX0_sumUp 25 = .ok (.getfield 41, 3) := by decide +kernel
theorem dX0_sumUp_28 : decode cX0_sumUp 28 = .ok (.iconst 0, 1) := by decide +kernel
theorem dX0_sumUp_29 : decode cX0_sumUp 29 = .ok (.iastore, 1) := by decide +kernel
theorem dX0_sumUp_30 : decode cX0_sumUp 30 = .ok (.aload_n 0, 1) := by decide +kernel
theorem dX0_sumUp_31 : decode cX0_sumUp 31 = .ok (.getfield 31, 3) := by decide +kernel
theorem dX0_sumUp_34 : decode cX0_sumUp 34 = .ok (.aload_n 0, 1) := by decide +kernel
theorem dX0_sumUp_35 : decode cX0_sumUp 35 = .ok (.getfield 41, 3) := by decide +kernel
theorem dX0_sumUp_38 : decode cX0_sumUp 38 = .ok (.lconst 0, 1) := by decide +kernel
theorem dX0_sumUp_39 : decode cX0_sumUp 39 = .ok (.lastore, 1) := by decide +kernel
theorem dX0_sumUp_40 : decode cX0_sumUp 40 = .ok (.aload_n 0, 1) := by decide +kernel
theorem dX0_sumUp_41 : decode cX0_sumUp 41 = .ok (.getfield 41, 3) := by decide +kernel
theorem dX0_sumUp_44 : decode cX0_sumUp 44 = .ok (.iconst 1, 1) := by decide +kernel
theorem dX0_sumUp_45 : decode cX0_sumUp 45 = .ok (.isub, 1) := by decide +kernel
theorem dX0_sumUp_46 : decode cX0_sumUp 46 = .ok (.istore_n 1, 1) := by decide +kernel
theorem dX0_sumUp_47 : decode cX0_sumUp 47 = .ok (.iload_n 1, 1) := by decide +kernel
theorem dX0_sumUp_48 : decode cX0_sumUp 48 = .ok (.ifCond .lt 134, 3) := by decide +kernel
theorem dX0_sumUp_51 : decode cX0_sumUp 51 = .ok (.aload_n 0, 1) := by decide +kernel
theorem dX0_sumUp_52 : decode cX0_sumUp 52 = .ok (.getfield 19, 3) := by decide +kernel
theorem dX0_sumUp_55 : decode cX0_sumUp 55 = .ok (.iload_n 1, 1) := by decide +kernel
theorem dX0_sumUp_56 : decode cX0_sumUp 56 = .ok (.laload, 1) := by decide +kernel
theorem dX0_sumUp_57 : decode cX0_sumUp 57 = .ok (.lconst 0, 1) := by decide +kernel
theorem dX0_sumUp_58 : decode cX0_sumUp 58 = .ok (.lcmp, 1) := by decide +kernel
theorem dX0_sumUp_59 : decode cX0_sumUp 59 = .ok (.ifCond .le 7, 3) := by decide +kernel
theorem dX0_sumUp_62 : decode cX0_sumUp 62 = .ok (.iconst 1, 1) := by decide +kernel
theorem dX0_sumUp_63 : decode cX0_sumUp 63 = .ok (.goto 4, 3) := by decide +kernel
theorem dX0_sumUp_66 : decode cX0_sumUp 66 = .ok (.iconst 0, 1) := by decide +kernel
theorem dX0_sumUp_67 : decode cX0_sumUp 67 = .ok (.istore_n 2, 1) := by decide +kernel
theorem dX0_sumUp_68 : decode cX0_sumUp 68 = .ok (.aload_n 0, 1) := by decide +kernel
theorem dX0_sumUp_69 : decode cX0_sumUp 69 = .ok (.getfield 22, 3) := by decide +kernel
theorem dX0_sumUp_72 : decode cX0_sumUp 72 = .ok (.iload_n 1, 1) := by decide +kernel
theorem dX0_sumUp_73 : decode cX0_sumUp 73 = .ok (.aload_n 0, 1) := by decide +kernel
theorem dX0_sumUp_74 : decode cX0_sumUp 74 = .ok (.getfield 22, 3) := by decide +kernel
theorem dX0_sumUp_77 : decode cX0_sumUp 77 = .ok (.iload_n 1, 1) := by decide +kernel
theorem dX0_sumUp_78 : decode cX0_sumUp 78 = .ok (.iconst 1, 1) := by decide +kernel
theorem dX0_sumUp_79 : decode cX0_sumUp 79 = .ok (.iadd, 1) := by decide +kernel
theorem dX0_sumUp_80 : decode cX0_sumUp 80 = .ok (.laload, 1) := by decide +kernel
theorem dX0_sumUp_81 : decode cX0_sumUp 81 = .ok (.aload_n 0, 1) := by decide +kernel
theorem dX0_sumUp_82 : decode cX0_sumUp 82 = .ok (.getfield 15, 3) := by decide +kernel
theorem dX0_sumUp_85 : decode cX0_sumUp 85 = .ok (.iload_n 1, 1) := by decide +kernel
theorem dX0_sumUp_86 : decode cX0_sumUp 86 = .ok (.laload, 1) := by decide +kernel
theorem dX0_sumUp_87 : decode cX0_sumUp 87 = .ok (.ladd, 1) := by decide +kernel
theorem dX0_sumUp_88 : decode cX0_sumUp 88 = .ok (.lastore, 1) := by decide +kernel
theorem dX0_sumUp_89 : decode cX0_sumUp 89 = .ok (.aload_n 0, 1) := by decide +kernel
theorem dX0_sumUp_90 : decode cX0_sumUp 90 = .ok (.getfield 25, 3) := by decide +kernel
theorem dX0_sumUp_93 : decode cX0_sumUp 93 = .ok (.iload_n 1, 1) := by decide +kernel
theorem dX0_sumUp_94 : decode cX0_sumUp 94 = .ok (.aload_n 0, 1) := by decide +kernel
theorem dX0_sumUp_95 : decode cX0_sumUp 95 = .ok (.getfield 25, 3) := by decide +kernel
theorem dX0_sumUp_98 : decode cX0_sumUp 98 = .ok (.iload_n 1, 1) := by decide +kernel
theorem dX0_sumUp_99 : decode cX0_sumUp 99 = .ok (.iconst 1, 1) := by decide +kernel
theorem dX0_sumUp_100 : decode cX0_sumUp 100 = .ok (.iadd, 1) := by decide +kernel
theorem dX0_sumUp_101 : decode cX0_sumUp 101 = .ok (.laload, 1) := by decide +kernel
theorem dX0_sumUp_102 : decode cX0_sumUp 102 = .ok (.iload_n 2, 1) := by decide +kernel
theorem dX0_sumUp_103 : decode cX0_sumUp 103 = .ok (.ifCond .eq 12, 3) := by decide +kernel
theorem dX0_sumUp_106 : decode cX0_sumUp 106 = .ok (.aload_n 0, 1) := by decide +kernel
theorem dX0_sumUp_107 : decode cX0_sumUp 107 = .ok (.getfield 15, 3) := by decide +kernel
theorem dX0_sumUp_110 : decode cX0_sumUp 110 = .ok (.iload_n 1, 1) := by decide +kernel
theorem dX0_sumUp_111 : decode cX0_sumUp 111 = .ok (.laload, 1) := by decide +kernel
theorem dX0_sumUp_112 : decode cX0_sumUp 112 = .ok (.goto 4, 3) := by decide +kernel
theorem dX0_sumUp_115 : decode cX0_sumUp 115 = .ok (.lconst 0, 1) := by decide +kernel
theorem dX0_sumUp_116 : decode cX0_sumUp 116 = .ok (.ladd, 1) := by decide +kernel
theorem dX0_sumUp_117 : decode cX0_sumUp 117 = .ok (.lastore, 1) := by decide +kernel
theorem dX0_sumUp_118 : decode cX0_sumUp 118 = .ok (.aload_n 0, 1) := by decide +kernel
theorem dX0_sumUp_119 : decode cX0_sumUp 119 = .ok (.getfield 28, 3) := by decide +kernel
theorem dX0_sumUp_122 : decode cX0_sumUp 122 = .ok (.iload_n 1, 1) := by decide +kernel
theorem dX0_sumUp_123 : decode cX0_sumUp 123 = .ok (.aload_n 0, 1) := by decide +kernel
theorem dX0_sumUp_124 : decode cX0_sumUp 124 = .ok (.getfield 28, 3) := by decide +kernel
theorem dX0_sumUp_127 : decode cX0_sumUp 127 = .ok (.iload_n 1, 1) := by decide +kernel
theorem dX0_sumUp_128 : decode cX0_sumUp 128 = .ok (.iconst 1, 1) := by decide +kernel
theorem dX0_sumUp_129 : decode cX0_sumUp 129 = .ok (.iadd, 1) := by decide +kernel
theorem dX0_sumUp_130 : decode cX0_sumUp 130 = .ok (.iaload, 1) := by decide +kernel
theorem dX0_sumUp_131 : decode cX0_sumUp 131 = .ok (.iload_n 2, 1) := by decide +kernel
theorem dX0_sumUp_132 : decode cX0_sumUp 132 = .ok (.ifCond .eq 12, 3) := by decide +kernel
theorem dX0_sumUp_135 : decode cX0_sumUp 135 = .ok (.aload_n 0, 1) := by decide +kernel
theorem dX0_sumUp_136 : decode cX0_sumUp 136 = .ok (.getfield 9, 3) := by decide +kernel
theorem dX0_sumUp_139 : decode cX0_sumUp 139 = .ok (.iload_n 1, 1) := by decide +kernel
theorem dX0_sumUp_140 : decode cX0_sumUp 140 = .ok (.iaload, 1) := by decide +kernel
theorem dX0_sumUp_141 : decode cX0_sumUp 141 = .ok (.goto 4, 3) := by decide +kernel
theorem dX0_sumUp_144 : decode cX0_sumUp 144 = .ok (.iconst 0, 1) := by decide +kernel
theorem dX0_sumUp_145 : decode cX0_sumUp 145 = .ok (.ior, 1) := by decide +kernel
theorem dX0_sumUp_146 : decode cX0_sumUp 146 = .ok (.iastore, 1) := by decide +kernel
theorem dX0_sumUp_147 : decode cX0_sumUp 147 = .ok (.aload_n 0, 1) := by decide +kernel
theorem dX0_sumUp_148 : decode cX0_sumUp 148 = .ok (.getfield 31, 3) := by decide +kernel
theorem dX0_sumUp_151 : decode cX0_sumUp 151 = .ok (.iload_n 1, 1) := by decide +kernel
theorem dX0_sumUp_152 : decode cX0_sumUp 152 = .ok (.aload_n 0, 1) := by decide +kernel
theorem dX0_sumUp_153 : decode cX0_sumUp 153 = .ok (.getfield 31, 3) := by decide +kernel
theorem dX0_sumUp_156 : decode cX0_sumUp 156 = .ok (.iload_n 1, 1) := by decide +kernel
theorem dX0_sumUp_157 : decode cX0_sumUp 157 = .ok (.iconst 1, 1) := by decide +kernel
theorem dX0_sumUp_158 : decode cX0_sumUp 158 = .ok (.iadd, 1) := by decide +kernel
theorem dX0_sumUp_159 : decode cX0_sumUp 159 = .ok (.laload, 1) := by decide +kernel
theorem dX0_sumUp_160 : decode cX0_sumUp 160 = .ok (.iload_n 2, 1) := by decide +kernel
theorem dX0_sumUp_161 : decode cX0_sumUp 161 = .ok (.ifCond .eq 12, 3) := by decide +kernel
theorem dX0_sumUp_164 : decode cX0_sumUp 164 = .ok (.aload_n 0, 1) := by decide +kernel
theorem dX0_sumUp_165 : decode cX0_sumUp 165 = .ok (.getfield 19, 3) := by decide +kernel
theorem dX0_sumUp_168 : decode cX0_sumUp 168 = .ok (.iload_n 1, 1) := by decide +kernel
theorem dX0_sumUp_169 : decode cX0_sumUp 169 = .ok (.laload, 1) := by decide +kernel
theorem dX0_sumUp_170 : decode cX0_sumUp 170 = .ok (.goto 4, 3) := by decide +kernel
theorem dX0_sumUp_173 : decode cX0_sumUp 173 = .ok (.lconst 0, 1) := by decide +kernel
theorem dX0_sumUp_174 : decode cX0_sumUp 174 = .ok (.ladd, 1) := by decide +kernel
theorem dX0_sumUp_175 : decode cX0_sumUp 175 = .ok (.lastore, 1) := by decide +kernel
theorem dX0_sumUp_176 : decode cX0_sumUp 176 = .ok (.iinc 1 (-1), 3) := by decide +kernel
theorem dX0_sumUp_179 : decode cX0_sumUp 179 = .ok (.goto (-132), 3) := by decide +kernel
theorem dX0_sumUp_182 : decode cX0_sumUp 182 = .ok (.return_, 1) := by decide +kernel
set_option maxRecDepth 20000 in
theorem ggX0_findBest_X0_searchFrom : GoodIn wsX0_findBest wsX0_searchFrom := goodIn_r _ [6, 7, 1, 8, 9, 10, 11, 12, 13, 14, 15, 16, 17, 18, 5, 19, 20, 21, 22, 23, 24, 25, 26, 27, 28, 29, 30, 31, 32, 33, 34, 2, 3, 4, 35, 36, 37, 38, 39, 40, 41, 42, 43, 44, 45, 46, 47, 48] (by decide +kernel) (by decide +kernel)
set_option maxRecDepth 20000 in
theorem gX0_findBest_X0_searchFrom : GoodIn wsX0_findBest (wsV RX0 60 RX0 yX0_searchFrom wsX0_searchFrom) := goodIn_app (goodIn_of _ (by decide +kernel)) ggX0_findBest_X0_searchFrom
theorem dX0_findBest_0 : decode cX0_findBest 0 = .ok (.aload_n 0, 1) := by decide +kernel
theorem dX0_findBest_1 : decode cX0_findBest 1 = .ok (.iconst 0, 1) := by decide +kernel
theorem dX0_findBest_2 : decode cX0_findBest 2 = .ok (.putfield 56, 3) := by decide +kernel
theorem dX0_findBest_5 : decode cX0_findBest 5 = .ok (.aload_n 0, 1) := by decide +kernel
theorem dX0_findBest_6 : decode cX0_findBest 6 = .ok (.iconst 0, 1) := by decide +kernel
theorem dX0_findBest_7 : decode cX0_findBest 7 = .ok (.iconst 0, 1) := by decide +kernel
theorem dX0_findBest_8 : decode cX0_findBest 8 = .ok (.lconst 0, 1) := by decide +kernel
theorem dX0_findBest_9 : decode cX0_findBest 9 = .ok (.lconst 0, 1) := by decide +kernel
theorem dX0_findBest_10 : decode cX0_findBest 10 = .ok (.invokevirtual 60, 3) := by decide +kernel
theorem dX0_findBest_13 : decode cX0_findBest 13 = .ok (.aload_n 0, 1) := by decide +kernel
theorem dX0_findBest_14 : decode cX0_findBest 14 = .ok (.getfield 56, 3) := by decide +kernel
theorem dX0_findBest_17 : decode cX0_findBest 17 = .ok (.ireturn, 1) := by decide +kernel
set_option maxRecDepth 20000 in
theorem ggX0_countFitting_X0_fittingFrom : GoodIn wsX0_countFitting wsX0_fittingFrom := goodIn_r _ [5, 6, 7, 8, 9, 10, 11, 4, 12, 13, 14, 15, 16, 17, 18, 19, 20, 21, 22, 23, 24, 25, 26, 1, 2, 3, 27, 28, 29, 30, 31, 32, 33, 34, 35, 36, 37, 38, 39, 40] (by decide +kernel) (by decide +kernel)
set_option maxRecDepth 20000 in
theorem gX0_countFitting_X0_fittingFrom : GoodIn wsX0_countFitting (wsV RX0 64 RX0 yX0_fittingFrom wsX0_fittingFrom) := goodIn_app (goodIn_of _ (by decide +kernel)) ggX0_countFitting_X0_fittingFrom
theorem dX0_countFitting_0 : decode cX0_countFitting 0 = .ok (.aload_n 0, 1) := by decide +kernel
theorem dX0_countFitting_1 : decode cX0_countFitting 1 = .ok (.iconst 0, 1) := by decide +kernel
theorem dX0_countFitting_2 : decode cX0_countFitting 2 = .ok (.lconst 0, 1) := by decide +kernel
theorem dX0_countFitting_3 : decode cX0_countFitting 3 = .ok (.invokevirtual 64, 3) := by decide +kernel
theorem dX0_countFitting_6 : decode cX0_countFitting 6 = .ok (.ireturn, 1) := by decide +kernel
set_option maxRecDepth 20000 in
theorem ggX0_searchFrom_X0_isLost : GoodIn wsX0_searchFrom wsX0_isLost := goodIn_r _ [15, 16, 17, 18, 19, 14, 20, 21, 22, 23, 24, 25, 26, 27, 28, 29, 30, 34, 35, 36, 37, 38, 39, 40, 41, 42, 43, 44, 45, 46, 47] (by decide +kernel) (by decide +kernel)
set_option maxRecDepth 20000 in
theorem gX0_searchFrom_X0_isLost : GoodIn wsX0_searchFrom (wsV RX0 71 RX0 yX0_isLost wsX0_isLost) := goodIn_app (goodIn_of _ (by decide +kernel)) ggX0_searchFrom_X0_isLost
set_option maxRecDepth 20000 in
theorem ggX0_searchFrom_X0_someAbove : GoodIn wsX0_searchFrom wsX0_someAbove := goodIn_r _ [20, 21, 22, 23, 24, 34, 35, 36, 37, 38, 39, 40, 41, 42, 43, 44, 45, 46, 47] (by decide +kernel) (by decide +kernel)
set_option maxRecDepth 20000 in
theorem gX0_searchFrom_X0_someAbove : GoodIn wsX0_searchFrom (wsV RX0 75 RX0 yX0_someAbove wsX0_someAbove) := goodIn_app (goodIn_of _ (by decide +kernel)) ggX0_searchFrom_X0_someAbove
set_option maxRecDepth 20000 in
theorem ggX0_searchFrom_X0_someBelow : GoodIn wsX0_searchFrom wsX0_someBelow := goodIn_r _ [28, 29, 30, 22, 23, 24, 34, 35, 36, 37, 38, 39, 40, 41, 42, 43, 44, 45, 46, 47] (by decide +kernel) (by decide +kernel)
set_option maxRecDepth 20000 in
theorem gX0_searchFrom_X0_someBelow : GoodIn wsX0_searchFrom (wsV RX0 79 RX0 yX0_someBelow wsX0_someBelow) := goodIn_app (goodIn_of _ (by decide +kernel)) ggX0_searchFrom_X0_someBelow
set_option maxRecDepth 20000 in
theorem ggX0_searchFrom_X0_searchFrom : GoodIn wsX0_searchFrom wsX0_searchFrom := goodIn_r _ [0, 1, 2, 3, 4, 5, 6, 7, 8, 9, 10, 11, 12, 13, 14, 15, 16, 17, 18, 19, 20, 21, 22, 23, 24, 25, 26, 27, 28, 29, 30, 31, 32, 33, 34, 35, 36, 37, 38, 39, 40, 41, 42, 43, 44, 45, 46, 47] (by decide +kernel) (by decide +kernel)
set_option maxRecDepth 20000 in
theorem gX0_searchFrom_X0_searchFrom : GoodIn wsX0_searchFrom (wsV RX0 60 RX0 yX0_searchFrom wsX0_searchFrom) := goodIn_app (goodIn_of _ (by decide +kernel)) ggX0_searchFrom_X0_searchFrom
theorem dX0_searchFrom_0 : decode cX0_searchFrom 0 = .ok (.iload_n 1, 1) := by decide +kernel
theorem dX0_searchFrom_1 : decode cX0_searchFrom 1 = .ok (.aload_n 0, 1) := by decide +kernel
theorem dX0_searchFrom_2 : decode cX0_searchFrom 2 = .ok (.getfield 41, 3) := by decide +kernel
theorem dX0_searchFrom_5 : decode cX0_searchFrom 5 = .ok (.if_icmp .gt 36, 3) := by decide +kernel
theorem dX0_searchFrom_8 : decode cX0_searchFrom 8 = .ok (.aload_n 0, 1) := by decide +kernel
theorem dX0_searchFrom_9 : decode cX0_searchFrom 9 = .ok (.getfield 56, 3) := by decide +kernel
theorem dX0_searchFrom_12 : decode cX0_searchFrom 12 = .ok (.ifCond .eq 20, 3) := by decide +kernel
theorem dX0_searchFrom_15 : decode cX0_searchFrom 15 = .ok (.lload 5, 2) := by decide +kernel
theorem dX0_searchFrom_17 : decode cX0_searchFrom 17 = .ok (.aload_n 0, 1) := by decide +kernel
theorem dX0_searchFrom_18 : decode cX0_searchFrom 18 = .ok (.getfield 31, 3) := by decide +kernel
theorem dX0_searchFrom_21 : decode cX0_searchFrom 21 = .ok (.iload_n 1, 1) := by decide +kernel
theorem dX0_searchFrom_22 : decode cX0_searchFrom 22 = .ok (.laload, 1) := by decide +kernel
theorem dX0_searchFrom_23 : decode cX0_searchFrom 23 = .ok (.ladd, 1) := by decide +kernel
theorem dX0_searchFrom_24 : decode cX0_searchFrom 24 = .ok (.aload_n 0, 1) := by decide +kernel
theorem dX0_searchFrom_25 : decode cX0_searchFrom 25 = .ok (.getfield 68, 3) := by decide +kernel
theorem dX0_searchFrom_28 : decode cX0_searchFrom 28 = .ok (.lcmp, 1) := by decide +kernel
theorem dX0_searchFrom_29 : decode cX0_searchFrom 29 = .ok (.ifCond .le 12, 3) := by decide +kernel
theorem dX0_searchFrom_32 : decode cX0_searchFrom 32 = .ok (.aload_n 0, 1) := by decide +kernel
theorem dX0_searchFrom_33 : decode cX0_searchFrom 33 = .ok (.iload_n 1, 1) := by decide +kernel
theorem dX0_searchFrom_34 : decode cX0_searchFrom 34 = .ok (.lload_n 3, 1) := by decide +kernel
theorem dX0_searchFrom_35 : decode cX0_searchFrom 35 = .ok (.invokevirtual 71, 3) := by decide +kernel
theorem dX0_searchFrom_38 : decode cX0_searchFrom 38 = .ok (.ifCond .eq 4, 3) := by decide +kernel
theorem dX0_searchFrom_41 : decode cX0_searchFrom 41 = .ok (.return_, 1) := by decide +kernel
theorem dX0_searchFrom_42 : decode cX0_searchFrom 42 = .ok (.lload_n 3, 1) := by decide +kernel
theorem dX0_searchFrom_43 : decode cX0_searchFrom 43 = .ok (.aload_n 0, 1) := by decide +kernel
theorem dX0_searchFrom_44 : decode cX0_searchFrom 44 = .ok (.getfield 25, 3) := by decide +kernel
theorem dX0_searchFrom_47 : decode cX0_searchFrom 47 = .ok (.iload_n 1, 1) := by decide +kernel
theorem dX0_searchFrom_48 : decode cX0_searchFrom 48 = .ok (.laload, 1) := by decide +kernel
theorem dX0_searchFrom_49 : decode cX0_searchFrom 49 = .ok (.ladd, 1) := by decide +kernel
theorem dX0_searchFrom_50 : decode cX0_searchFrom 50 = .ok (.lstore 7, 2) := by decide +kernel
theorem dX0_searchFrom_52 : decode cX0_searchFrom 52 = .ok (.aload_n 0, 1) := by decide +kernel
theorem dX0_searchFrom_53 : decode cX0_searchFrom 53 = .ok (.lload 7, 2) := by decide +kernel
theorem dX0_searchFrom_55 : decode cX0_searchFrom 55 = .ok (.invokevirtual 75, 3) := by decide +kernel
theorem dX0_searchFrom_58 : decode cX0_searchFrom 58 = .ok (.ifCond .ne 43, 3) := by decide +kernel
theorem dX0_searchFrom_61 : decode cX0_searchFrom 61 = .ok (.aload_n 0, 1) := by decide +kernel
theorem dX0_searchFrom_62 : decode cX0_searchFrom 62 = .ok (.lload 7, 2) := by decide +kernel
theorem dX0_searchFrom_64 : decode cX0_searchFrom 64 = .ok (.invokevirtual 79, 3) := by decide +kernel
theorem dX0_searchFrom_67 : decode cX0_searchFrom 67 = .ok (.ifCond .ne 34, 3) := by decide +kernel
theorem dX0_searchFrom_70 : decode cX0_searchFrom 70 = .ok (.aload_n 0, 1) := by decide +kernel
theorem dX0_searchFrom_71 : decode cX0_searchFrom 71 = .ok (.iconst 1, 1) := by decide +kernel
theorem dX0_searchFrom_72 : decode cX0_searchFrom 72 = .ok (.putfield 56, 3) := by decide +kernel
theorem dX0_searchFrom_75 : decode cX0_searchFrom 75 = .ok (.aload_n 0, 1) := by decide +kernel
theorem dX0_searchFrom_76 : decode cX0_searchFrom 76 = .ok (.iload_n 2, 1) := by decide +kernel
theorem dX0_searchFrom_77 : decode cX0_searchFrom 77 = .ok (.aload_n 0, 1) := by decide +kernel
theorem dX0_searchFrom_78 : decode cX0_searchFrom 78 = .ok (.getfield 28, 3) := by decide +kernel
theorem dX0_searchFrom_81 : decode cX0_searchFrom 81 = .ok (.iload_n 1, 1) := by decide +kernel
theorem dX0_searchFrom_82 : decode cX0_searchFrom 82 = .ok (.iaload, 1) := by decide +kernel
theorem dX0_searchFrom_83 : decode cX0_searchFrom 83 = .ok (.ior, 1) := by decide +kernel
theorem dX0_searchFrom_84 : decode cX0_searchFrom 84 = .ok (.putfield 82, 3) := by decide +kernel
theorem dX0_searchFrom_87 : decode cX0_searchFrom 87 = .ok (.aload_n 0, 1) := by decide +kernel
theorem dX0_searchFrom_88 : decode cX0_searchFrom 88 = .ok (.lload 5, 2) := by decide +kernel
theorem dX0_searchFrom_90 : decode cX0_searchFrom 90 = .ok (.aload_n 0, 1) := by decide +kernel
theorem dX0_searchFrom_91 : decode cX0_searchFrom 91 = .ok (.getfield 31, 3) := by decide +kernel
theorem dX0_searchFrom_94 : decode cX0_searchFrom 94 = .ok (.iload_n 1, 1) := by decide +kernel
theorem dX0_searchFrom_95 : decode cX0_searchFrom 95 = .ok (.laload, 1) := by decide +kernel
theorem dX0_searchFrom_96 : decode cX0_searchFrom 96 = .ok (.ladd, 1) := by decide +kernel
theorem dX0_searchFrom_97 : decode cX0_searchFrom 97 = .ok (.putfield 68, 3) := by decide +kernel
theorem dX0_searchFrom_100 : decode cX0_searchFrom 100 = .ok (.return_, 1) := by decide +kernel
theorem dX0_searchFrom_101 : decode cX0_searchFrom 101 = .ok (.iload_n 1, 1) := by decide +kernel
theorem dX0_searchFrom_102 : decode cX0_searchFrom 102 = .ok (.aload_n 0, 1) := by decide +kernel
theorem dX0_searchFrom_103 : decode cX0_searchFrom 103 = .ok (.getfield 41, 3) := by decide +kernel
theorem dX0_searchFrom_106 : decode cX0_searchFrom 106 = .ok (.if_icmp .lt 4, 3) := by decide +kernel
theorem dX0_searchFrom_109 : decode cX0_searchFrom 109 = .ok (.return_, 1) := by decide +kernel
theorem dX0_searchFrom_110 : decode cX0_searchFrom 110 = .ok (.aload_n 0, 1) := by decide +kernel
theorem dX0_searchFrom_111 : decode cX0_searchFrom 111 = .ok (.getfield 19, 3) := by decide +kernel
theorem dX0_searchFrom_114 : decode cX0_searchFrom 114 = .ok (.iload_n 1, 1) := by decide +kernel
theorem dX0_searchFrom_115 : decode cX0_searchFrom 115 = .ok (.laload, 1) := by decide +kernel
theorem dX0_searchFrom_116 : decode cX0_searchFrom 116 = .ok (.lconst 0, 1) := by decide +kernel
theorem dX0_searchFrom_117 : decode cX0_searchFrom 117 = .ok (.lcmp, 1) := by decide +kernel
theorem dX0_searchFrom_118 : decode cX0_searchFrom 118 = .ok (.ifCond .le 7, 3) := by decide +kernel
theorem dX0_searchFrom_121 : decode cX0_searchFrom 121 = .ok (.iconst 1, 1) := by decide +kernel
theorem dX0_searchFrom_122 : decode cX0_searchFrom 122 = .ok (.goto 4, 3) := by decide +kernel
theorem dX0_searchFrom_125 : decode cX0_searchFrom 125 = .ok (.iconst 0, 1) := by decide +kernel
theorem dX0_searchFrom_126 : decode cX0_searchFrom 126 = .ok (.istore 9, 2) := by decide +kernel
theorem dX0_searchFrom_128 : decode cX0_searchFrom 128 = .ok (.iload 9, 2) := by decide +kernel
theorem dX0_searchFrom_130 : decode cX0_searchFrom 130 = .ok (.ifCond .ne 14, 3) := by decide +kernel
theorem dX0_searchFrom_133 : decode cX0_searchFrom 133 = .ok (.aload_n 0, 1) := by decide +kernel
theorem dX0_searchFrom_134 : decode cX0_searchFrom 134 = .ok (.iload_n 1, 1) := by decide +kernel
theorem dX0_searchFrom_135 : decode cX0_searchFrom 135 = .ok (.iconst 1, 1) := by decide +kernel
theorem dX0_searchFrom_136 : decode cX0_searchFrom 136 = .ok (.iadd, 1) := by decide +kernel
theorem dX0_searchFrom_137 : decode cX0_searchFrom 137 = .ok (.iload_n 2, 1) := by decide +kernel
theorem dX0_searchFrom_138 : decode cX0_searchFrom 138 = .ok (.lload_n 3, 1) := by decide +kernel
theorem dX0_searchFrom_139 : decode cX0_searchFrom 139 = .ok (.lload 5, 2) := by decide +kernel
theorem dX0_searchFrom_141 : decode cX0_searchFrom 141 = .ok (.invokevirtual 60, 3) := by decide +kernel
theorem dX0_searchFrom_144 : decode cX0_searchFrom 144 = .ok (.aload_n 0, 1) := by decide +kernel
theorem dX0_searchFrom_145 : decode cX0_searchFrom 145 = .ok (.iload_n 1, 1) := by decide +kernel
theorem dX0_searchFrom_146 : decode cX0_searchFrom 146 = .ok (.iconst 1, 1) := by decide +kernel
theorem dX0_searchFrom_147 : decode cX0_searchFrom 147 = .ok (.iadd, 1) := by decide +kernel
theorem dX0_searchFrom_148 : decode cX0_searchFrom 148 = .ok (.iload_n 2, 1) := by decide +kernel
theorem dX0_searchFrom_149 : decode cX0_searchFrom 149 = .ok (.aload_n 0, 1) := by decide +kernel
theorem dX0_searchFrom_150 : decode cX0_searchFrom 150 = .ok (.getfield 9, 3) := by decide +kernel
theorem dX0_searchFrom_153 : decode cX0_searchFrom 153 = .ok (.iload_n 1, 1) := by decide +kernel
theorem dX0_searchFrom_154 : decode cX0_searchFrom 154 = .ok (.iaload, 1) := by decide +kernel
theorem dX0_searchFrom_155 : decode cX0_searchFrom 155 = .ok (.ior, 1) := by decide +kernel
theorem dX0_searchFrom_156 : decode cX0_searchFrom 156 = .ok (.lload_n 3, 1) := by decide +kernel
theorem dX0_searchFrom_157 : decode cX0_searchFrom 157 = .ok (.aload_n 0, 1) := by decide +kernel
theorem dX0_searchFrom_158 : decode cX0_searchFrom 158 = .ok (.getfield 15, 3) := by decide +kernel
theorem dX0_searchFrom_161 : decode cX0_searchFrom 161 = .ok (.iload_n 1, 1) := by decide +kernel
theorem dX0_searchFrom_162 : decode cX0_searchFrom 162 = .ok (.laload, 1) := by decide +kernel
theorem dX0_searchFrom_163 : decode cX0_searchFrom 163 = .ok (.ladd, 1) := by decide +kernel
theorem dX0_searchFrom_164 : decode cX0_searchFrom 164 = .ok (.lload 5, 2) := by decide +kernel
theorem dX0_searchFrom_166 : decode cX0_searchFrom 166 = .ok (.aload_n 0, 1) := by decide +kernel
theorem dX0_searchFrom_167 : decode cX0_searchFrom 167 = .ok (.getfield 19, 3) := by decide +kernel
theorem dX0_searchFrom_170 : decode cX0_searchFrom 170 = .ok (.iload_n 1, 1) := by decide +kernel
theorem dX0_searchFrom_171 : decode cX0_searchFrom 171 = .ok (.laload, 1) := by decide +kernel
theorem dX0_searchFrom_172 : decode cX0_searchFrom 172 = .ok (.ladd, 1) := by decide +kernel
theorem dX0_searchFrom_173 : decode cX0_searchFrom 173 = .ok (.invokevirtual 60, 3) := by decide +kernel
theorem dX0_searchFrom_176 : decode cX0_searchFrom 176 = .ok (.iload 9, 2) := by decide +kernel
theorem dX0_searchFrom_178 : decode cX0_searchFrom 178 = .ok (.ifCond .eq 14, 3) := by decide +kernel
theorem dX0_searchFrom_181 : decode cX0_searchFrom 181 = .ok (.aload_n 0, 1) := by decide +kernel
theorem dX0_searchFrom_182 : decode cX0_searchFrom 182 = .ok (.iload_n 1, 1) := by decide +kernel
theorem dX0_searchFrom_183 : decode cX0_searchFrom 183 = .ok (.iconst 1, 1) := by decide +kernel
theorem dX0_searchFrom_184 : decode cX0_searchFrom 184 = .ok (.iadd, 1) := by decide +kernel
theorem dX0_searchFrom_185 : decode cX0_searchFrom 185 = .ok (.iload_n 2, 1) := by decide +kernel
theorem dX0_searchFrom_186 : decode cX0_searchFrom 186 = .ok (.lload_n 3, 1) := by decide +kernel
theorem dX0_searchFrom_187 : decode cX0_searchFrom 187 = .ok (.lload 5, 2) := by decide +kernel
theorem dX0_searchFrom_189 : decode cX0_searchFrom 189 = .ok (.invokevirtual 60, 3) := by decide +kernel
theorem dX0_searchFrom_192 : decode cX0_searchFrom 192 = .ok (.return_, 1) := by decide +kernel
set_option maxRecDepth 20000 in
theorem ggX0_fittingFrom_X0_isLost : GoodIn wsX0_fittingFrom wsX0_isLost := goodIn_r _ [8, 2, 9, 10, 11, 7, 12, 13, 14, 15, 16, 17, 18, 19, 20, 21, 22, 26, 27, 28, 29, 30, 31, 32, 33, 34, 35, 36, 37, 38, 39] (by decide +kernel) (by decide +kernel)
set_option maxRecDepth 20000 in
theorem gX0_fittingFrom_X0_isLost : GoodIn wsX0_fittingFrom (wsV RX0 71 RX0 yX0_isLost wsX0_isLost) := goodIn_app (goodIn_of _ (by decide +kernel)) ggX0_fittingFrom_X0_isLost
set_option maxRecDepth 20000 in
theorem ggX0_fittingFrom_X0_someBelow : GoodIn wsX0_fittingFrom wsX0_someBelow := goodIn_r _ [20, 21, 22, 14, 15, 16, 26, 27, 28, 29, 30, 31, 32, 33, 34, 35, 36, 37, 38, 39] (by decide +kernel) (by decide +kernel)
set_option maxRecDepth 20000 in
theorem gX0_fittingFrom_X0_someBelow : GoodIn wsX0_fittingFrom (wsV RX0 79 RX0 yX0_someBelow wsX0_someBelow) := goodIn_app (goodIn_of _ (by decide +kernel)) ggX0_fittingFrom_X0_someBelow
set_option maxRecDepth 20000 in
theorem ggX0_fittingFrom_X0_someAbove : GoodIn wsX0_fittingFrom wsX0_someAbove := goodIn_r _ [12, 13, 14, 15, 16, 26, 27, 28, 29, 30, 31, 32, 33, 34, 35, 36, 37, 38, 39] (by decide +kernel) (by decide +kernel)
set_option maxRecDepth 20000 in
theorem gX0_fittingFrom_X0_someAbove : GoodIn wsX0_fittingFrom (wsV RX0 75 RX0 yX0_someAbove wsX0_someAbove) := goodIn_app (goodIn_of _ (by decide +kernel)) ggX0_fittingFrom_X0_someAbove
set_option maxRecDepth 20000 in
theorem ggX0_fittingFrom_X0_fittingFrom : GoodIn wsX0_fittingFrom wsX0_fittingFrom := goodIn_r _ [0, 1, 2, 3, 4, 5, 6, 7, 8, 9, 10, 11, 12, 13, 14, 15, 16, 17, 18, 19, 20, 21, 22, 23, 24, 25, 26, 27, 28, 29, 30, 31, 32, 33, 34, 35, 36, 37, 38, 39] (by decide +kernel) (by decide +kernel)
set_option maxRecDepth 20000 in
theorem gX0_fittingFrom_X0_fittingFrom : GoodIn wsX0_fittingFrom (wsV RX0 64 RX0 yX0_fittingFrom wsX0_fittingFrom) := goodIn_app (goodIn_of _ (by decide +kernel)) ggX0_fittingFrom_X0_fittingFrom
theorem dX0_fittingFrom_0 : decode cX0_fittingFrom 0 = .ok (.iload_n 1, 1) := by decide +kernel
theorem dX0_fittingFrom_1 : decode cX0_fittingFrom 1 = .ok (.aload_n 0, 1) := by decide +kernel
theorem dX0_fittingFrom_2 : decode cX0_fittingFrom 2 = .ok (.getfield 41, 3) := by decide +kernel
theorem dX0_fittingFrom_5 : decode cX0_fittingFrom 5 = .ok (.if_icmp .gt 12, 3) := by decide +kernel
theorem dX0_fittingFrom_8 : decode cX0_fittingFrom 8 = .ok (.aload_n 0, 1) := by decide +kernel
theorem dX0_fittingFrom_9 : decode cX0_fittingFrom 9 = .ok (.iload_n 1, 1) := by decide +kernel
theorem dX0_fittingFrom_10 : decode cX0_fittingFrom 10 = .ok (.lload_n 2, 1) := by decide +kernel
theorem dX0_fittingFrom_11 : decode cX0_fittingFrom 11 = .ok (.invokevirtual 71, 3) := by decide +kernel
theorem dX0_fittingFrom_14 : decode cX0_fittingFrom 14 = .ok (.ifCond .eq 5, 3) := by decide +kernel
theorem dX0_fittingFrom_17 : decode cX0_fittingFrom 17 = .ok (.iconst 0, 1) := by decide +kernel
theorem dX0_fittingFrom_18 : decode cX0_fittingFrom 18 = .ok (.ireturn, 1) := by decide +kernel
theorem dX0_fittingFrom_19 : decode cX0_fittingFrom 19 = .ok (.aload_n 0, 1) := by decide +kernel
theorem dX0_fittingFrom_20 : decode cX0_fittingFrom 20 = .ok (.lload_n 2, 1) := by decide +kernel
theorem dX0_fittingFrom_21 : decode cX0_fittingFrom 21 = .ok (.invokevirtual 79, 3) := by decide +kernel
theorem dX0_fittingFrom_24 : decode cX0_fittingFrom 24 = .ok (.ifCond .ne 27, 3) := by decide +kernel
theorem dX0_fittingFrom_27 : decode cX0_fittingFrom 27 = .ok (.aload_n 0, 1) := by decide +kernel
theorem dX0_fittingFrom_28 : decode cX0_fittingFrom 28 = .ok (.lload_n 2, 1) := by decide +kernel
theorem dX0_fittingFrom_29 : decode cX0_fittingFrom 29 = .ok (.aload_n 0, 1) := by decide +kernel
theorem dX0_fittingFrom_30 : decode cX0_fittingFrom 30 = .ok (.getfield 22, 3) := by decide +kernel
theorem dX0_fittingFrom_33 : decode cX0_fittingFrom 33 = .ok (.iload_n 1, 1) := by decide +kernel
theorem dX0_fittingFrom_34 : decode cX0_fittingFrom 34 = .ok (.laload, 1) := by decide +kernel
theorem dX0_fittingFrom_35 : decode cX0_fittingFrom 35 = .ok (.ladd, 1) := by decide +kernel
theorem dX0_fittingFrom_36 : decode cX0_fittingFrom 36 = .ok (.invokevirtual 75, 3) := by decide +kernel
theorem dX0_fittingFrom_39 : decode cX0_fittingFrom 39 = .ok (.ifCond .ne 12, 3) := by decide +kernel
theorem dX0_fittingFrom_42 : decode cX0_fittingFrom 42 = .ok (.iconst 1, 1) := by decide +kernel
theorem dX0_fittingFrom_43 : decode cX0_fittingFrom 43 = .ok (.aload_n 0, 1) := by decide +kernel
theorem dX0_fittingFrom_44 : decode cX0_fittingFrom 44 = .ok (.getfield 41, 3) := by decide +kernel
theorem dX0_fittingFrom_47 : decode cX0_fittingFrom 47 = .ok (.iload_n 1, 1) := by decide +kernel
theorem dX0_fittingFrom_48 : decode cX0_fittingFrom 48 = .ok (.isub, 1) := by decide +kernel
theorem dX0_fittingFrom_49 : decode cX0_fittingFrom 49 = .ok (.ishl, 1) := by decide +kernel
theorem dX0_fittingFrom_50 : decode cX0_fittingFrom 50 = .ok (.ireturn, 1) := by decide +kernel
theorem dX0_fittingFrom_51 : decode cX0_fittingFrom 51 = .ok (.iload_n 1, 1) := by decide +kernel
theorem dX0_fittingFrom_52 : decode cX0_fittingFrom 52 = .ok (.aload_n 0, 1) := by decide +kernel
theorem dX0_fittingFrom_53 : decode cX0_fittingFrom 53 = .ok (.getfield 41, 3) := by decide +kernel
theorem dX0_fittingFrom_56 : decode cX0_fittingFrom 56 = .ok (.if_icmp .lt 7, 3) := by decide +kernel
theorem dX0_fittingFrom_59 : decode cX0_fittingFrom 59 = .ok (.iconst 0, 1) := by decide +kernel
theorem dX0_fittingFrom_60 : decode cX0_fittingFrom 60 = .ok (.goto 27, 3) := by decide +kernel
theorem dX0_fittingFrom_63 : decode cX0_fittingFrom 63 = .ok (.aload_n 0, 1) := by decide +kernel
theorem dX0_fittingFrom_64 : decode cX0_fittingFrom 64 = .ok (.iload_n 1, 1) := by decide +kernel
theorem dX0_fittingFrom_65 : decode cX0_fittingFrom 65 = .ok (.iconst 1, 1) := by decide +kernel
theorem dX0_fittingFrom_66 : decode cX0_fittingFrom 66 = .ok (.iadd, 1) := by decide +kernel
theorem dX0_fittingFrom_67 : decode cX0_fittingFrom 67 = .ok (.lload_n 2, 1) := by decide +kernel
theorem dX0_fittingFrom_68 : decode cX0_fittingFrom 68 = .ok (.invokevirtual 64, 3) := by decide +kernel
theorem dX0_fittingFrom_71 : decode cX0_fittingFrom 71 = .ok (.aload_n 0, 1) := by decide +kernel
theorem dX0_fittingFrom_72 : decode cX0_fittingFrom 72 = .ok (.iload_n 1, 1) := by decide +kernel
theorem dX0_fittingFrom_73 : decode cX0_fittingFrom 73 = .ok (.iconst 1, 1) := by decide +kernel
theorem dX0_fittingFrom_74 : decode cX0_fittingFrom 74 = .ok (.iadd, 1) := by decide +kernel
theorem dX0_fittingFrom_75 : decode cX0_fittingFrom 75 = .ok (.lload_n 2, 1) := by decide +kernel
theorem dX0_fittingFrom_76 : decode cX0_fittingFrom 76 = .ok (.aload_n 0, 1) := by decide +kernel
theorem dX0_fittingFrom_77 : decode cX0_fittingFrom 77 = .ok (.getfield 15, 3) := by decide +kernel
theorem dX0_fittingFrom_80 : decode cX0_fittingFrom 80 = .ok (.iload_n 1, 1) := by decide +kernel
theorem dX0_fittingFrom_81 : decode cX0_fittingFrom 81 = .ok (.laload, 1) := by decide +kernel
theorem dX0_fittingFrom_82 : decode cX0_fittingFrom 82 = .ok (.ladd, 1) := by decide +kernel
theorem dX0_fittingFrom_83 : decode cX0_fittingFrom 83 = .ok (.invokevirtual 64, 3) := by decide +kernel
theorem dX0_fittingFrom_86 : decode cX0_fittingFrom 86 = .ok (.iadd, 1) := by decide +kernel
theorem dX0_fittingFrom_87 : decode cX0_fittingFrom 87 = .ok (.ireturn, 1) := by decide +kernel
set_option maxRecDepth 20000 in
theorem ggX0_isLost_X0_someAbove : GoodIn wsX0_isLost wsX0_someAbove := goodIn_r _ [6, 7, 8, 9, 10, 17, 18, 19, 20, 21, 22, 23, 24, 25, 26, 27, 28, 29, 30] (by decide +kernel) (by decide +kernel)
set_option maxRecDepth 20000 in
theorem gX0_isLost_X0_someAbove : GoodIn wsX0_isLost (wsV RX0 75 RX0 yX0_someAbove wsX0_someAbove) := goodIn_app (goodIn_of _ (by decide +kernel)) ggX0_isLost_X0_someAbove
set_option maxRecDepth 20000 in
theorem ggX0_isLost_X0_someBelow : GoodIn wsX0_isLost wsX0_someBelow := goodIn_r _ [14, 15, 16, 8, 9, 10, 17, 18, 19, 20, 21, 22, 23, 24, 25, 26, 27, 28, 29, 30] (by decide +kernel) (by decide +kernel)
set_option maxRecDepth 20000 in
theorem gX0_isLost_X0_someBelow : GoodIn wsX0_isLost (wsV RX0 79 RX0 yX0_someBelow wsX0_someBelow) := goodIn_app (goodIn_of _ (by decide +kernel)) ggX0_isLost_X0_someBelow
theorem dX0_isLost_0 : decode cX0_isLost 0 = .ok (.aload_n 0, 1) := by decide +kernel
theorem dX0_isLost_1 : decode cX0_isLost 1 = .ok (.lload_n 2, 1) := by decide +kernel
theorem dX0_isLost_2 : decode cX0_isLost 2 = .ok (.invokevirtual 75, 3) := by decide +kernel
theorem dX0_isLost_5 : decode cX0_isLost 5 = .ok (.ifCond .ne 18, 3) := by decide +kernel
theorem dX0_isLost_8 : decode cX0_isLost 8 = .ok (.aload_n 0, 1) := by decide +kernel
theorem dX0_isLost_9 : decode cX0_isLost 9 = .ok (.lload_n 2, 1) := by decide +kernel
theorem dX0_isLost_10 : decode cX0_isLost 10 = .ok (.aload_n 0, 1) := by decide +kernel
theorem dX0_isLost_11 : decode cX0_isLost 11 = .ok (.getfield 22, 3) := by decide +kernel
theorem dX0_isLost_14 : decode cX0_isLost 14 = .ok (.iload_n 1, 1) := by decide +kernel
theorem dX0_isLost_15 : decode cX0_isLost 15 = .ok (.laload, 1) := by decide +kernel
theorem dX0_isLost_16 : decode cX0_isLost 16 = .ok (.ladd, 1) := by decide +kernel
theorem dX0_isLost_17 : decode cX0_isLost 17 = .ok (.invokevirtual 79, 3) := by decide +kernel
theorem dX0_isLost_20 : decode cX0_isLost 20 = .ok (.ifCond .eq 7, 3) := by decide +kernel
theorem dX0_isLost_23 : decode cX0_isLost 23 = .ok (.iconst 1, 1) := by decide +kernel
theorem dX0_isLost_24 : decode cX0_isLost 24 = .ok (.goto 4, 3) := by decide +kernel
theorem dX0_isLost_27 : decode cX0_isLost 27 = .ok (.iconst 0, 1) := by decide +kernel
theorem dX0_isLost_28 : decode cX0_isLost 28 = .ok (.ireturn, 1) := by decide +kernel
theorem dX0_someAbove_0 : decode cX0_someAbove 0 = .ok (.bipush 127, 2) := by decide +kernel
theorem dX0_someAbove_2 : decode cX0_someAbove 2 = .ok (.aload_n 0, 1) := by decide +kernel
theorem dX0_someAbove_3 : decode cX0_someAbove 3 = .ok (.getfield 38, 3) := by decide +kernel
theorem dX0_someAbove_6 : decode cX0_someAbove 6 = .ok (.isub, 1) := by decide +kernel
theorem dX0_someAbove_7 : decode cX0_someAbove 7 = .ok (.i2l, 1) := by decide +kernel
theorem dX0_someAbove_8 : decode cX0_someAbove 8 = .ok (.ldc2_w 85, 3) := by decide +kernel
theorem dX0_someAbove_11 : decode cX0_someAbove 11 = .ok (.lmul, 1) := by decide +kernel
theorem dX0_someAbove_12 : decode cX0_someAbove 12 = .ok (.lstore_n 3, 1) := by decide +kernel
theorem dX0_someAbove_13 : decode cX0_someAbove 13 = .ok (.lload_n 1, 1) := by decide +kernel
theorem dX0_someAbove_14 : decode cX0_someAbove 14 = .ok (.ldc2_w 87, 3) := by decide +kernel
theorem dX0_someAbove_17 : decode cX0_someAbove 17 = .ok (.land, 1) := by decide +kernel
theorem dX0_someAbove_18 : decode cX0_someAbove 18 = .ok (.lload_n 3, 1) := by decide +kernel
theorem dX0_someAbove_19 : decode cX0_someAbove 19 = .ok (.ladd, 1) := by decide +kernel
theorem dX0_someAbove_20 : decode cX0_someAbove 20 = .ok (.lstore 5, 2) := by decide +kernel
theorem dX0_someAbove_22 : decode cX0_someAbove 22 = .ok (.lload_n 1, 1) := by decide +kernel
theorem dX0_someAbove_23 : decode cX0_someAbove 23 = .ok (.iconst 4, 1) := by decide +kernel
theorem dX0_someAbove_24 : decode cX0_someAbove 24 = .ok (.lushr, 1) := by decide +kernel
theorem dX0_someAbove_25 : decode cX0_someAbove 25 = .ok (.ldc2_w 87, 3) := by decide +kernel
theorem dX0_someAbove_28 : decode cX0_someAbove 28 = .ok (.land, 1) := by decide +kernel
theorem dX0_someAbove_29 : decode cX0_someAbove 29 = .ok (.lload_n 3, 1) := by decide +kernel
theorem dX0_someAbove_30 : decode cX0_someAbove 30 = .ok (.ladd, 1) := by decide +kernel
theorem dX0_someAbove_31 : decode cX0_someAbove 31 = .ok (.lstore 7, 2) := by decide +kernel
theorem dX0_someAbove_33 : decode cX0_someAbove 33 = .ok (.lload 5, 2) := by decide +kernel
theorem dX0_someAbove_35 : decode cX0_someAbove 35 = .ok (.lload 7, 2) := by decide +kernel
theorem dX0_someAbove_37 : decode cX0_someAbove 37 = .ok (.lor, 1) := by decide +kernel
theorem dX0_someAbove_38 : decode cX0_someAbove 38 = .ok (.ldc2_w 89, 3) := by decide +kernel
theorem dX0_someAbove_41 : decode cX0_someAbove 41 = .ok (.land, 1) := by decide +kernel
theorem dX0_someAbove_42 : decode cX0_someAbove 42 = .ok (.lconst 0, 1) := by decide +kernel
theorem dX0_someAbove_43 : decode cX0_someAbove 43 = .ok (.lcmp, 1) := by decide +kernel
theorem dX0_someAbove_44 : decode cX0_someAbove 44 = .ok (.ifCond .eq 7, 3) := by decide +kernel
theorem dX0_someAbove_47 : decode cX0_someAbove 47 = .ok (.iconst 1, 1) := by decide +kernel
theorem dX0_someAbove_48 : decode cX0_someAbove 48 = .ok (.goto 4, 3) := by decide +kernel
theorem dX0_someAbove_51 : decode cX0_someAbove 51 = .ok (.iconst 0, 1) := by decide +kernel
theorem dX0_someAbove_52 : decode cX0_someAbove 52 = .ok (.ireturn, 1) := by decide +kernel
theorem dX0_someBelow_0 : decode cX0_someBelow 0 = .ok (.lload_n 1, 1) := by decide +kernel
theorem dX0_someBelow_1 : decode cX0_someBelow 1 = .ok (.aload_n 0, 1) := by decide +kernel
theorem dX0_someBelow_2 : decode cX0_someBelow 2 = .ok (.getfield 46, 3) := by decide +kernel
theorem dX0_someBelow_5 : decode cX0_someBelow 5 = .ok (.lor, 1) := by decide +kernel
theorem dX0_someBelow_6 : decode cX0_someBelow 6 = .ok (.lstore_n 3, 1) := by decide +kernel
theorem dX0_someBelow_7 : decode cX0_someBelow 7 = .ok (.sipush 128, 3) := by decide +kernel
theorem dX0_someBelow_10 : decode cX0_someBelow 10 = .ok (.aload_n 0, 1) := by decide +kernel
theorem dX0_someBelow_11 : decode cX0_someBelow 11 = .ok (.getfield 34, 3) := by decide +kernel
theorem dX0_someBelow_14 : decode cX0_someBelow 14 = .ok (.isub, 1) := by decide +kernel
theorem dX0_someBelow_15 : decode cX0_someBelow 15 = .ok (.i2l, 1) := by decide +kernel
theorem dX0_someBelow_16 : decode cX0_someBelow 16 = .ok (.ldc2_w 85, 3) := by decide +kernel
theorem dX0_someBelow_19 : decode cX0_someBelow 19 = .ok (.lmul, 1) := by decide +kernel
theorem dX0_someBelow_20 : decode cX0_someBelow 20 = .ok (.lstore 5, 2) := by decide +kernel
theorem dX0_someBelow_22 : decode cX0_someBelow 22 = .ok (.lload_n 3, 1) := by decide +kernel
theorem dX0_someBelow_23 : decode cX0_someBelow 23 = .ok (.ldc2_w 87, 3) := by decide +kernel
theorem dX0_someBelow_26 : decode cX0_someBelow 26 = .ok (.land, 1) := by decide +kernel
theorem dX0_someBelow_27 : decode cX0_someBelow 27 = .ok (.lload 5, 2) := by decide +kernel
theorem dX0_someBelow_29 : decode cX0_someBelow 29 = .ok (.ladd, 1) := by decide +kernel
theorem dX0_someBelow_30 : decode cX0_someBelow 30 = .ok (.lstore 7, 2) := by decide +kernel
theorem dX0_someBelow_32 : decode cX0_someBelow 32 = .ok (.lload_n 3, 1) := by decide +kernel
theorem dX0_someBelow_33 : decode cX0_someBelow 33 = .ok (.iconst 4, 1) := by decide +kernel
theorem dX0_someBelow_34 : decode cX0_someBelow 34 = .ok (.lushr, 1) := by decide +kernel
theorem dX0_someBelow_35 : decode cX0_someBelow 35 = .ok (.ldc2_w 87, 3) := by decide +kernel
theorem dX0_someBelow_38 : decode cX0_someBelow 38 = .ok (.land, 1) := by decide +kernel
theorem dX0_someBelow_39 : decode cX0_someBelow 39 = .ok (.lload 5, 2) := by decide +kernel
theorem dX0_someBelow_41 : decode cX0_someBelow 41 = .ok (.ladd, 1) := by decide +kernel
theorem dX0_someBelow_42 : decode cX0_someBelow 42 = .ok (.lstore 9, 2) := by decide +kernel
theorem dX0_someBelow_44 : decode cX0_someBelow 44 = .ok (.lload 7, 2) := by decide +kernel
theorem dX0_someBelow_46 : decode cX0_someBelow 46 = .ok (.lload 9, 2) := by decide +kernel
theorem dX0_someBelow_48 : decode cX0_someBelow 48 = .ok (.land, 1) := by decide +kernel
theorem dX0_someBelow_49 : decode cX0_someBelow 49 = .ok (.ldc2_w 89, 3) := by decide +kernel
theorem dX0_someBelow_52 : decode cX0_someBelow 52 = .ok (.land, 1) := by decide +kernel
theorem dX0_someBelow_53 : decode cX0_someBelow 53 = .ok (.ldc2_w 89, 3) := by decide +kernel
theorem dX0_someBelow_56 : decode cX0_someBelow 56 = .ok (.lcmp, 1) := by decide +kernel
theorem dX0_someBelow_57 : decode cX0_someBelow 57 = .ok (.ifCond .eq 7, 3) := by decide +kernel
theorem dX0_someBelow_60 : decode cX0_someBelow 60 = .ok (.iconst 1, 1) := by decide +kernel
theorem dX0_someBelow_61 : decode cX0_someBelow 61 = .ok (.goto 4, 3) := by decide +kernel
theorem dX0_someBelow_64 : decode cX0_someBelow 64 = .ok (.iconst 0, 1) := by decide +kernel
theorem dX0_someBelow_65 : decode cX0_someBelow 65 = .ok (.ireturn, 1) := by decide +kernel
theorem dX1_init_0 : decode cX1_init 0 = .ok (.aload_n 0, 1) := by decide +kernel
theorem dX1_init_1 : decode cX1_init 1 = .ok (.invokespecial 3, 3) := by decide +kernel
theorem dX1_init_4 : decode cX1_init 4 = .ok (.aload_n 0, 1) := by decide +kernel
theorem dX1_init_5 : decode cX1_init 5 = .ok (.bipush 14, 2) := by decide +kernel
theorem dX1_init_7 : decode cX1_init 7 = .ok (.newarray .int, 2) := by decide +kernel
theorem dX1_init_9 : decode cX1_init 9 = .ok (.putfield 9, 3) := by decide +kernel
theorem dX1_init_12 : decode cX1_init 12 = .ok (.aload_n 0, 1) := by decide +kernel
theorem dX1_init_13 : decode cX1_init 13 = .ok (.bipush 14, 2) := by decide +kernel
theorem dX1_init_15 : decode cX1_init 15 = .ok (.newarray .int, 2) := by decide +kernel
theorem dX1_init_17 : decode cX1_init 17 = .ok (.putfield 15, 3) := by decide +kernel
theorem dX1_init_20 : decode cX1_init 20 = .ok (.aload_n 0, 1) := by decide +kernel
theorem dX1_init_21 : decode cX1_init 21 = .ok (.iconst 1, 1) := by decide +kernel
theorem dX1_init_22 : decode cX1_init 22 = .ok (.newarray .int, 2) := by decide +kernel
theorem dX1_init_24 : decode cX1_init 24 = .ok (.dup, 1) := by decide +kernel
theorem dX1_init_25 : decode cX1_init 25 = .ok (.iconst 0, 1) := by decide +kernel
theorem dX1_init_26 : decode cX1_init 26 = .ok (.bipush 12, 2) := by decide +kernel
theorem dX1_init_28 : decode cX1_init 28 = .ok (.iastore, 1) := by decide +kernel
theorem dX1_init_29 : decode cX1_init 29 = .ok (.putfield 18, 3) := by decide +kernel
theorem dX1_init_32 : decode cX1_init 32 = .ok (.return_, 1) := by decide +kernel
theorem dX1_hearOf_0 : decode cX1_hearOf 0 = .ok (.aload_n 0, 1) := by decide +kernel
theorem dX1_hearOf_1 : decode cX1_hearOf 1 = .ok (.getfield 21, 3) := by decide +kernel
theorem dX1_hearOf_4 : decode cX1_hearOf 4 = .ok (.bipush 14, 2) := by decide +kernel
theorem dX1_hearOf_6 : decode cX1_hearOf 6 = .ok (.if_icmp .ge 23, 3) := by decide +kernel
theorem dX1_hearOf_9 : decode cX1_hearOf 9 = .ok (.aload_n 0, 1) := by decide +kernel
theorem dX1_hearOf_10 : decode cX1_hearOf 10 = .ok (.getfield 9, 3) := by decide +kernel
theorem dX1_hearOf_13 : decode cX1_hearOf 13 = .ok (.aload_n 0, 1) := by decide +kernel
theorem dX1_hearOf_14 : decode cX1_hearOf 14 = .ok (.getfield 21, 3) := by decide +kernel
theorem dX1_hearOf_17 : decode cX1_hearOf 17 = .ok (.iload_n 1, 1) := by decide +kernel
theorem dX1_hearOf_18 : decode cX1_hearOf 18 = .ok (.iastore, 1) := by decide +kernel
theorem dX1_hearOf_19 : decode cX1_hearOf 19 = .ok (.aload_n 0, 1) := by decide +kernel
theorem dX1_hearOf_20 : decode cX1_hearOf 20 = .ok (.dup, 1) := by decide +kernel
theorem dX1_hearOf_21 : decode cX1_hearOf 21 = .ok (.getfield 21, 3) := by decide +kernel
theorem dX1_hearOf_24 : decode cX1_hearOf 24 = .ok (.iconst 1, 1) := by decide +kernel
theorem dX1_hearOf_25 : decode cX1_hearOf 25 = .ok (.iadd, 1) := by decide +kernel
theorem dX1_hearOf_26 : decode cX1_hearOf 26 = .ok (.putfield 21, 3) := by decide +kernel
theorem dX1_hearOf_29 : decode cX1_hearOf 29 = .ok (.return_, 1) := by decide +kernel
theorem dX1_clear_0 : decode cX1_clear 0 = .ok (.aload_n 0, 1) := by decide +kernel
theorem dX1_clear_1 : decode cX1_clear 1 = .ok (.iconst 0, 1) := by decide +kernel
theorem dX1_clear_2 : decode cX1_clear 2 = .ok (.putfield 25, 3) := by decide +kernel
theorem dX1_clear_5 : decode cX1_clear 5 = .ok (.return_, 1) := by decide +kernel
theorem dX1_has_0 : decode cX1_has 0 = .ok (.iload_n 1, 1) := by decide +kernel
theorem dX1_has_1 : decode cX1_has 1 = .ok (.ifCond .lt 15, 3) := by decide +kernel
theorem dX1_has_4 : decode cX1_has 4 = .ok (.iload_n 1, 1) := by decide +kernel
theorem dX1_has_5 : decode cX1_has 5 = .ok (.aload_n 0, 1) := by decide +kernel
theorem dX1_has_6 : decode cX1_has 6 = .ok (.getfield 25, 3) := by decide +kernel
theorem dX1_has_9 : decode cX1_has 9 = .ok (.if_icmp .ge 7, 3) := by decide +kernel
theorem dX1_has_12 : decode cX1_has 12 = .ok (.iconst 1, 1) := by decide +kernel
theorem dX1_has_13 : decode cX1_has 13 = .ok (.goto 4, 3) := by decide +kernel
theorem dX1_has_16 : decode cX1_has 16 = .ok (.iconst 0, 1) := by decide +kernel
theorem dX1_has_17 : decode cX1_has 17 = .ok (.ireturn, 1) := by decide +kernel
theorem dX1_pageOf_0 : decode cX1_pageOf 0 = .ok (.iconst 0, 1) := by decide +kernel
theorem dX1_pageOf_1 : decode cX1_pageOf 1 = .ok (.istore_n 2, 1) := by decide +kernel
theorem dX1_pageOf_2 : decode cX1_pageOf 2 = .ok (.iload_n 2, 1) := by decide +kernel
theorem dX1_pageOf_3 : decode cX1_pageOf 3 = .ok (.aload_n 0, 1) := by decide +kernel
theorem dX1_pageOf_4 : decode cX1_pageOf 4 = .ok (.getfield 25, 3) := by decide +kernel
theorem dX1_pageOf_7 : decode cX1_pageOf 7 = .ok (.if_icmp .ge 24, 3) := by decide +kernel
theorem dX1_pageOf_10 : decode cX1_pageOf 10 = .ok (.aload_n 0, 1) := by decide +kernel
theorem dX1_pageOf_11 : decode cX1_pageOf 11 = .ok (.getfield 15, 3) := by decide +kernel
theorem dX1_pageOf_14 : decode cX1_pageOf 14 = .ok (.iload_n 2, 1) := by decide +kernel
theorem dX1_pageOf_15 : decode cX1_pageOf 15 = .ok (.iaload, 1) := by decide +kernel
theorem dX1_pageOf_16 : decode cX1_pageOf 16 = .ok (.iload_n 1, 1) := by decide +kernel
theorem dX1_pageOf_17 : decode cX1_pageOf 17 = .ok (.ishr, 1) := by decide +kernel
theorem dX1_pageOf_18 : decode cX1_pageOf 18 = .ok (.iconst 1, 1) := by decide +kernel
theorem dX1_pageOf_19 : decode cX1_pageOf 19 = .ok (.iand, 1) := by decide +kernel
theorem dX1_pageOf_20 : decode cX1_pageOf 20 = .ok (.ifCond .eq 5, 3) := by decide +kernel
theorem dX1_pageOf_23 : decode cX1_pageOf 23 = .ok (.iload_n 2, 1) := by decide +kernel
theorem dX1_pageOf_24 : decode cX1_pageOf 24 = .ok (.ireturn, 1) := by decide +kernel
theorem dX1_pageOf_25 : decode cX1_pageOf 25 = .ok (.iinc 2 1, 3) := by decide +kernel
theorem dX1_pageOf_28 : decode cX1_pageOf 28 = .ok (.goto (-26), 3) := by decide +kernel
theorem dX1_pageOf_31 : decode cX1_pageOf 31 = .ok (.iconst (-1), 1) := by decide +kernel
theorem dX1_pageOf_32 : decode cX1_pageOf 32 = .ok (.ireturn, 1) := by decide +kernel
theorem dX1_pointsOf_0 : decode cX1_pointsOf 0 = .ok (.iconst 0, 1) := by decide +kernel
theorem dX1_pointsOf_1 : decode cX1_pointsOf 1 = .ok (.istore_n 2, 1) := by decide +kernel
theorem dX1_pointsOf_2 : decode cX1_pointsOf 2 = .ok (.iconst 0, 1) := by decide +kernel
theorem dX1_pointsOf_3 : decode cX1_pointsOf 3 = .ok (.istore_n 3, 1) := by decide +kernel
theorem dX1_pointsOf_4 : decode cX1_pointsOf 4 = .ok (.iload_n 3, 1) := by decide +kernel
theorem dX1_pointsOf_5 : decode cX1_pointsOf 5 = .ok (.aload_n 0, 1) := by decide +kernel
theorem dX1_pointsOf_6 : decode cX1_pointsOf 6 = .ok (.getfield 21, 3) := by decide +kernel
theorem dX1_pointsOf_9 : decode cX1_pointsOf 9 = .ok (.if_icmp .ge 26, 3) := by decide +kernel
theorem dX1_pointsOf_12 : decode cX1_pointsOf 12 = .ok (.iload_n 1, 1) := by decide +kernel
theorem dX1_pointsOf_13 : decode cX1_pointsOf 13 = .ok (.iload_n 3, 1) := by decide +kernel
theorem dX1_pointsOf_14 : decode cX1_pointsOf 14 = .ok (.ishr, 1) := by decide +kernel
theorem dX1_pointsOf_15 : decode cX1_pointsOf 15 = .ok (.iconst 1, 1) := by decide +kernel
theorem dX1_pointsOf_16 : decode cX1_pointsOf 16 = .ok (.iand, 1) := by decide +kernel
theorem dX1_pointsOf_17 : decode cX1_pointsOf 17 = .ok (.ifCond .eq 12, 3) := by decide +kernel
theorem dX1_pointsOf_20 : decode cX1_pointsOf 20 = .ok (.iload_n 2, 1) := by decide +kernel
theorem dX1_pointsOf_21 : decode cX1_pointsOf 21 = .ok (.aload_n 0, 1) := by decide +kernel
theorem dX1_pointsOf_22 : decode cX1_pointsOf 22 = .ok (.getfield 9, 3) := by decide +kernel
theorem dX1_pointsOf_25 : decode cX1_pointsOf 25 = .ok (.iload_n 3, 1) := by decide +kernel
theorem dX1_pointsOf_26 : decode cX1_pointsOf 26 = .ok (.iaload, 1) := by decide +kernel
theorem dX1_pointsOf_27 : decode cX1_pointsOf 27 = .ok (.iadd, 1) := by decide +kernel
theorem dX1_pointsOf_28 : decode cX1_pointsOf 28 = .ok (.istore_n 2, 1) := by decide +kernel
theorem dX1_pointsOf_29 : decode cX1_pointsOf 29 = .ok (.iinc 3 1, 3) := by decide +kernel
theorem dX1_pointsOf_32 : decode cX1_pointsOf 32 = .ok (.goto (-28), 3) := by decide +kernel
theorem dX1_pointsOf_35 : decode cX1_pointsOf 35 = .ok (.iload_n 2, 1) := by decide +kernel
theorem dX1_pointsOf_36 : decode cX1_pointsOf 36 = .ok (.ireturn, 1) := by decide +kernel
set_option maxRecDepth 20000 in
theorem ggX1_pagesFor_X1_learnSetsWith : GoodIn wsX1_pagesFor wsX1_learnSetsWith := goodIn_r _ [8, 3, 9, 10, 11, 12, 13, 1, 14, 15, 16, 17, 18, 19, 20, 21, 22, 23, 24, 25, 26, 27, 28, 29, 30, 31, 7, 32, 33, 34, 35, 36, 37, 38, 39, 40, 41, 42] (by decide +kernel) (by decide +kernel)
set_option maxRecDepth 20000 in
theorem gX1_pagesFor_X1_learnSetsWith : GoodIn wsX1_pagesFor (wsV RX1 31 RX1 yX1_learnSetsWith wsX1_learnSetsWith) := goodIn_app (goodIn_of _ (by decide +kernel)) ggX1_pagesFor_X1_learnSetsWith
theorem dX1_pagesFor_0 : decode cX1_pagesFor 0 = .ok (.aload_n 0, 1) := by decide +kernel
theorem dX1_pagesFor_1 : decode cX1_pagesFor 1 = .ok (.getfield 28, 3) := by decide +kernel
theorem dX1_pagesFor_4 : decode cX1_pagesFor 4 = .ok (.istore_n 2, 1) := by decide +kernel
theorem dX1_pagesFor_5 : decode cX1_pagesFor 5 = .ok (.iload_n 2, 1) := by decide +kernel
theorem dX1_pagesFor_6 : decode cX1_pagesFor 6 = .ok (.aload_n 0, 1) := by decide +kernel
theorem dX1_pagesFor_7 : decode cX1_pagesFor 7 = .ok (.getfield 21, 3) := by decide +kernel
theorem dX1_pagesFor_10 : decode cX1_pagesFor 10 = .ok (.if_icmp .ge 20, 3) := by decide +kernel
theorem dX1_pagesFor_13 : decode cX1_pagesFor 13 = .ok (.iload_n 1, 1) := by decide +kernel
theorem dX1_pagesFor_14 : decode cX1_pagesFor 14 = .ok (.iload_n 2, 1) := by decide +kernel
theorem dX1_pagesFor_15 : decode cX1_pagesFor 15 = .ok (.ishr, 1) := by decide +kernel
theorem dX1_pagesFor_16 : decode cX1_pagesFor 16 = .ok (.ifCond .le 14, 3) := by decide +kernel
theorem dX1_pagesFor_19 : decode cX1_pagesFor 19 = .ok (.aload_n 0, 1) := by decide +kernel
theorem dX1_pagesFor_20 : decode cX1_pagesFor 20 = .ok (.iload_n 2, 1) := by decide +kernel
theorem dX1_pagesFor_21 : decode cX1_pagesFor 21 = .ok (.invokevirtual 31, 3) := by decide +kernel
theorem dX1_pagesFor_24 : decode cX1_pagesFor 24 = .ok (.iinc 2 1, 3) := by decide +kernel
theorem dX1_pagesFor_27 : decode cX1_pagesFor 27 = .ok (.goto (-22), 3) := by decide +kernel
theorem dX1_pagesFor_30 : decode cX1_pagesFor 30 = .ok (.iload_n 1, 1) := by decide +kernel
theorem dX1_pagesFor_31 : decode cX1_pagesFor 31 = .ok (.ifCond .lt 23, 3) := by decide +kernel
theorem dX1_pagesFor_34 : decode cX1_pagesFor 34 = .ok (.iload_n 1, 1) := by decide +kernel
theorem dX1_pagesFor_35 : decode cX1_pagesFor 35 = .ok (.aload_n 0, 1) := by decide +kernel
theorem dX1_pagesFor_36 : decode cX1_pagesFor 36 = .ok (.getfield 18, 3) := by decide +kernel
theorem dX1_pagesFor_39 : decode cX1_pagesFor 39 = .ok (.arraylength, 1) := by decide +kernel
theorem dX1_pagesFor_40 : decode cX1_pagesFor 40 = .ok (.if_icmp .ge 14, 3) := by decide +kernel
theorem dX1_pagesFor_43 : decode cX1_pagesFor 43 = .ok (.aload_n 0, 1) := by decide +kernel
theorem dX1_pagesFor_44 : decode cX1_pagesFor 44 = .ok (.getfield 18, 3) := by decide +kernel
theorem dX1_pagesFor_47 : decode cX1_pagesFor 47 = .ok (.iload_n 1, 1) := by decide +kernel
theorem dX1_pagesFor_48 : decode cX1_pagesFor 48 = .ok (.iaload, 1) := by decide +kernel
theorem dX1_pagesFor_49 : decode cX1_pagesFor 49 = .ok (.iconst 4, 1) := by decide +kernel
theorem dX1_pagesFor_50 : decode cX1_pagesFor 50 = .ok (.ishr, 1) := by decide +kernel
theorem dX1_pagesFor_51 : decode cX1_pagesFor 51 = .ok (.goto 4, 3) := by decide +kernel
theorem dX1_pagesFor_54 : decode cX1_pagesFor 54 = .ok (.iconst (-1), 1) := by decide +kernel
theorem dX1_pagesFor_55 : decode cX1_pagesFor 55 = .ok (.ireturn, 1) := by decide +kernel
set_option maxRecDepth 20000 in
theorem ggX1_learnSetsWith_J7_copyOf_59c91 : GoodIn wsX1_learnSetsWith wsJ7_copyOf_59c91 := goodIn_r _ [11, 12, 13, 14, 15, 16, 17, 18, 19, 4, 5, 6, 20, 21, 22, 23] (by decide +kernel) (by decide +kernel)
set_option maxRecDepth 20000 in
theorem gX1_learnSetsWith_J7_copyOf_59c91 : GoodIn wsX1_learnSetsWith (va_wsS RX1 35 yJ7_copyOf_59c91 wsJ7_copyOf_59c91) := goodIn_app (goodIn_of _ (by decide +kernel)) ggX1_learnSetsWith_J7_copyOf_59c91
set_option maxRecDepth 20000 in
theorem ggX1_learnSetsWith_X1_withOneMore : GoodIn wsX1_learnSetsWith wsX1_withOneMore := goodIn_r _ [27] (by decide +kernel) (by decide +kernel)
set_option maxRecDepth 20000 in
theorem gX1_learnSetsWith_X1_withOneMore : GoodIn wsX1_learnSetsWith (va_wsS RX1 41 yX1_withOneMore wsX1_withOneMore) := goodIn_app (goodIn_of _ (by decide +kernel)) ggX1_learnSetsWith_X1_withOneMore
theorem dX1_learnSetsWith_0 : decode cX1_learnSetsWith 0 = .ok (.iconst 1, 1) := by decide +kernel
theorem dX1_learnSetsWith_1 : decode cX1_learnSetsWith 1 = .ok (.iload_n 1, 1) := by decide +kernel
theorem dX1_learnSetsWith_2 : decode cX1_learnSetsWith 2 = .ok (.ishl, 1) := by decide +kernel
theorem dX1_learnSetsWith_3 : decode cX1_learnSetsWith 3 = .ok (.istore_n 2, 1) := by decide +kernel
theorem dX1_learnSetsWith_4 : decode cX1_learnSetsWith 4 = .ok (.aload_n 0, 1) := by decide +kernel
theorem dX1_learnSetsWith_5 : decode cX1_learnSetsWith 5 = .ok (.aload_n 0, 1) := by decide +kernel
theorem dX1_learnSetsWith_6 : decode cX1_learnSetsWith 6 = .ok (.getfield 18, 3) := by decide +kernel
theorem dX1_learnSetsWith_9 : decode cX1_learnSetsWith 9 = .ok (.iload_n 2, 1) := by decide +kernel
theorem dX1_learnSetsWith_10 : decode cX1_learnSetsWith 10 = .ok (.iconst 2, 1) := by decide +kernel
theorem dX1_learnSetsWith_11 : decode cX1_learnSetsWith 11 = .ok (.imul, 1) := by decide +kernel
theorem dX1_learnSetsWith_12 : decode cX1_learnSetsWith 12 = .ok (.invokestatic 35, 3) := by decide +kernel
theorem dX1_learnSetsWith_15 : decode cX1_learnSetsWith 15 = .ok (.putfield 18, 3) := by decide +kernel
theorem dX1_learnSetsWith_18 : decode cX1_learnSetsWith 18 = .ok (.iload_n 2, 1) := by decide +kernel
theorem dX1_learnSetsWith_19 : decode cX1_learnSetsWith 19 = .ok (.istore_n 3, 1) := by decide +kernel
theorem dX1_learnSetsWith_20 : decode cX1_learnSetsWith 20 = .ok (.iload_n 3, 1) := by decide +kernel
theorem dX1_learnSetsWith_21 : decode cX1_learnSetsWith 21 = .ok (.aload_n 0, 1) := by decide +kernel
theorem dX1_learnSetsWith_22 : decode cX1_learnSetsWith 22 = .ok (.getfield 18, 3) := by decide +kernel
theorem dX1_learnSetsWith_25 : decode cX1_learnSetsWith 25 = .ok (.arraylength, 1) := by decide +kernel
theorem dX1_learnSetsWith_26 : decode cX1_learnSetsWith 26 = .ok (.if_icmp .ge 74, 3) := by decide +kernel
theorem dX1_learnSetsWith_29 : decode cX1_learnSetsWith 29 = .ok (.sipush 1000, 3) := by decide +kernel
theorem dX1_learnSetsWith_32 : decode cX1_learnSetsWith 32 = .ok (.istore 4, 2) := by decide +kernel
theorem dX1_learnSetsWith_34 : decode cX1_learnSetsWith 34 = .ok (.iconst 0, 1) := by decide +kernel
theorem dX1_learnSetsWith_35 : decode cX1_learnSetsWith 35 = .ok (.istore 5, 2) := by decide +kernel
theorem dX1_learnSetsWith_37 : decode cX1_learnSetsWith 37 = .ok (.iload 5, 2) := by decide +kernel
theorem dX1_learnSetsWith_39 : decode cX1_learnSetsWith 39 = .ok (.iload_n 1, 1) := by decide +kernel
theorem dX1_learnSetsWith_40 : decode cX1_learnSetsWith 40 = .ok (.if_icmp .gt 46, 3) := by decide +kernel
theorem dX1_learnSetsWith_43 : decode cX1_learnSetsWith 43 = .ok (.iload_n 3, 1) := by decide +kernel
theorem dX1_learnSetsWith_44 : decode cX1_learnSetsWith 44 = .ok (.iload 5, 2) := by decide +kernel
theorem dX1_learnSetsWith_46 : decode cX1_learnSetsWith 46 = .ok (.ishr, 1) := by decide +kernel
theorem dX1_learnSetsWith_47 : decode cX1_learnSetsWith 47 = .ok (.iconst 1, 1) := by decide +kernel
theorem dX1_learnSetsWith_48 : decode cX1_learnSetsWith 48 = .ok (.iand, 1) := by decide +kernel
theorem dX1_learnSetsWith_49 : decode cX1_learnSetsWith 49 = .ok (.ifCond .eq 31, 3) := by decide +kernel
theorem dX1_learnSetsWith_52 : decode cX1_learnSetsWith 52 = .ok (.iload 4, 2) := by decide +kernel
theorem dX1_learnSetsWith_54 : decode cX1_learnSetsWith 54 = .ok (.aload_n 0, 1) := by decide +kernel
theorem dX1_learnSetsWith_55 : decode cX1_learnSetsWith 55 = .ok (.getfield 18, 3) := by decide +kernel
theorem dX1_learnSetsWith_58 : decode cX1_learnSetsWith 58 = .ok (.iload_n 3, 1) := by decide +kernel
theorem dX1_learnSetsWith_59 : decode cX1_learnSetsWith 59 = .ok (.iconst 1, 1) := by decide +kernel
theorem dX1_learnSetsWith_60 : decode cX1_learnSetsWith 60 = .ok (.iload 5, 2) := by decide +kernel
theorem dX1_learnSetsWith_62 : decode cX1_learnSetsWith 62 = .ok (.ishl, 1) := by decide +kernel
theorem dX1_learnSetsWith_63 : decode cX1_learnSetsWith 63 = .ok (.isub, 1) := by decide +kernel
theorem dX1_learnSetsWith_64 : decode cX1_learnSetsWith 64 = .ok (.iaload, 1) := by decide +kernel
theorem dX1_learnSetsWith_65 : decode cX1_learnSetsWith 65 = .ok (.aload_n 0, 1) := by decide +kernel
theorem dX1_learnSetsWith_66 : decode cX1_learnSetsWith 66 = .ok (.getfield 9, 3) := by decide +kernel
theorem dX1_learnSetsWith_69 : decode cX1_learnSetsWith 69 = .ok (.iload 5, 2) := by decide +kernel
theorem dX1_learnSetsWith_71 : decode cX1_learnSetsWith 71 = .ok (.iaload, 1) := by decide +kernel
theorem dX1_learnSetsWith_72 : decode cX1_learnSetsWith 72 = .ok (.invokestatic 41, 3) := by decide +kernel
theorem dX1_learnSetsWith_75 : decode cX1_learnSetsWith 75 = .ok (.invokestatic 45, 3) := by decide +kernel
theorem dX1_learnSetsWith_78 : decode cX1_learnSetsWith 78 = .ok (.istore 4, 2) := by decide +kernel
theorem dX1_learnSetsWith_80 : decode cX1_learnSetsWith 80 = .ok (.iinc 5 1, 3) := by decide +kernel
theorem dX1_learnSetsWith_83 : decode cX1_learnSetsWith 83 = .ok (.goto (-46), 3) := by decide +kernel
theorem dX1_learnSetsWith_86 : decode cX1_learnSetsWith 86 = .ok (.aload_n 0, 1) := by decide +kernel
theorem dX1_learnSetsWith_87 : decode cX1_learnSetsWith 87 = .ok (.getfield 18, 3) := by decide +kernel
theorem dX1_learnSetsWith_90 : decode cX1_learnSetsWith 90 = .ok (.iload_n 3, 1) := by decide +kernel
theorem dX1_learnSetsWith_91 : decode cX1_learnSetsWith 91 = .ok (.iload 4, 2) := by decide +kernel
theorem dX1_learnSetsWith_93 : decode cX1_learnSetsWith 93 = .ok (.iastore, 1) := by decide +kernel
theorem dX1_learnSetsWith_94 : decode cX1_learnSetsWith 94 = .ok (.iinc 3 1, 3) := by decide +kernel
theorem dX1_learnSetsWith_97 : decode cX1_learnSetsWith 97 = .ok (.goto (-77), 3) := by decide +kernel
theorem dX1_learnSetsWith_100 : decode cX1_learnSetsWith 100 = .ok (.aload_n 0, 1) := by decide +kernel
theorem dX1_learnSetsWith_101 : decode cX1_learnSetsWith 101 = .ok (.iload_n 1, 1) := by decide +kernel
theorem dX1_learnSetsWith_102 : decode cX1_learnSetsWith 102 = .ok (.iconst 1, 1) := by decide +kernel
theorem dX1_learnSetsWith_103 : decode cX1_learnSetsWith 103 = .ok (.iadd, 1) := by decide +kernel
theorem dX1_learnSetsWith_104 : decode cX1_learnSetsWith 104 = .ok (.putfield 28, 3) := by decide +kernel
theorem dX1_learnSetsWith_107 : decode cX1_learnSetsWith 107 = .ok (.return_, 1) := by decide +kernel
theorem dX1_withOneMore_0 : decode cX1_withOneMore 0 = .ok (.iload_n 0, 1) := by decide +kernel
theorem dX1_withOneMore_1 : decode cX1_withOneMore 1 = .ok (.bipush 15, 2) := by decide +kernel
theorem dX1_withOneMore_3 : decode cX1_withOneMore 3 = .ok (.iand, 1) := by decide +kernel
theorem dX1_withOneMore_4 : decode cX1_withOneMore 4 = .ok (.iload_n 1, 1) := by decide +kernel
theorem dX1_withOneMore_5 : decode cX1_withOneMore 5 = .ok (.iadd, 1) := by decide +kernel
theorem dX1_withOneMore_6 : decode cX1_withOneMore 6 = .ok (.bipush 12, 2) := by decide +kernel
theorem dX1_withOneMore_8 : decode cX1_withOneMore 8 = .ok (.if_icmp .gt 7, 3) := by decide +kernel
theorem dX1_withOneMore_11 : decode cX1_withOneMore 11 = .ok (.iconst 1, 1) := by decide +kernel
theorem dX1_withOneMore_12 : decode cX1_withOneMore 12 = .ok (.goto 4, 3) := by decide +kernel
theorem dX1_withOneMore_15 : decode cX1_withOneMore 15 = .ok (.iconst 0, 1) := by decide +kernel
theorem dX1_withOneMore_16 : decode cX1_withOneMore 16 = .ok (.istore_n 2, 1) := by decide +kernel
theorem dX1_withOneMore_17 : decode cX1_withOneMore 17 = .ok (.iload_n 2, 1) := by decide +kernel
theorem dX1_withOneMore_18 : decode cX1_withOneMore 18 = .ok (.ifCond .eq 9, 3) := by decide +kernel
theorem dX1_withOneMore_21 : decode cX1_withOneMore 21 = .ok (.iload_n 0, 1) := by decide +kernel
theorem dX1_withOneMore_22 : decode cX1_withOneMore 22 = .ok (.iload_n 1, 1) := by decide +kernel
theorem dX1_withOneMore_23 : decode cX1_withOneMore 23 = .ok (.iadd, 1) := by decide +kernel
theorem dX1_withOneMore_24 : decode cX1_withOneMore 24 = .ok (.goto 12, 3) := by decide +kernel
theorem dX1_withOneMore_27 : decode cX1_withOneMore 27 = .ok (.iload_n 0, 1) := by decide +kernel
theorem dX1_withOneMore_28 : decode cX1_withOneMore 28 = .ok (.bipush (-16), 2) := by decide +kernel
theorem dX1_withOneMore_30 : decode cX1_withOneMore 30 = .ok (.iand, 1) := by decide +kernel
theorem dX1_withOneMore_31 : decode cX1_withOneMore 31 = .ok (.bipush 16, 2) := by decide +kernel
theorem dX1_withOneMore_33 : decode cX1_withOneMore 33 = .ok (.iadd, 1) := by decide +kernel
theorem dX1_withOneMore_34 : decode cX1_withOneMore 34 = .ok (.iload_n 1, 1) := by decide +kernel
theorem dX1_withOneMore_35 : decode cX1_withOneMore 35 = .ok (.iadd, 1) := by decide +kernel
theorem dX1_withOneMore_36 : decode cX1_withOneMore 36 = .ok (.ireturn, 1) := by decide +kernel
set_option maxRecDepth 20000 in
theorem ggX1_layOut_X1_pagesFor : GoodIn wsX1_layOut wsX1_pagesFor := goodIn_r _ [6, 7, 8, 9, 10, 11, 12, 5, 13, 14, 15, 16, 17, 18, 19, 20, 21, 22, 23, 24, 25, 26, 27, 28, 29, 30, 31, 32, 33, 34, 35, 36, 37, 55, 56, 57, 58, 59, 60, 61, 62, 63, 64] (by decide +kernel) (by decide +kernel)
set_option maxRecDepth 20000 in
theorem gX1_layOut_X1_pagesFor : GoodIn wsX1_layOut (wsV RX1 50 RX1 yX1_pagesFor wsX1_pagesFor) := goodIn_app (goodIn_of _ (by decide +kernel)) ggX1_layOut_X1_pagesFor
set_option maxRecDepth 20000 in
theorem ggX1_layOut_X1_layOnto : GoodIn wsX1_layOut wsX1_layOnto := goodIn_r _ [41, 1, 42, 43, 44, 45, 5, 46, 47, 48, 49, 50, 8, 14, 2, 3, 4, 6, 7, 9, 10, 11, 12, 13, 15, 16, 17, 18, 19, 20, 21, 22, 23, 24, 25, 26, 27, 28, 29, 30, 31, 32, 33, 34, 35, 36, 37, 51, 52, 53, 54, 55, 56, 57, 58, 59, 60, 61, 62, 63, 64] (by decide +kernel) (by decide +kernel)
set_option maxRecDepth 20000 in
theorem gX1_layOut_X1_layOnto : GoodIn wsX1_layOut (wsV RX1 54 RX1 yX1_layOnto wsX1_layOnto) := goodIn_app (goodIn_of _ (by decide +kernel)) ggX1_layOut_X1_layOnto
theorem dX1_layOut_0 : decode cX1_layOut 0 = .ok (.aload_n 0, 1) := by decide +kernel
theorem dX1_layOut_1 : decode cX1_layOut 1 = .ok (.iload_n 1, 1) := by decide +kernel
theorem dX1_layOut_2 : decode cX1_layOut 2 = .ok (.invokevirtual 50, 3) := by decide +kernel
theorem dX1_layOut_5 : decode cX1_layOut 5 = .ok (.istore_n 3, 1) := by decide +kernel
theorem dX1_layOut_6 : decode cX1_layOut 6 = .ok (.iload_n 3, 1) := by decide +kernel
theorem dX1_layOut_7 : decode cX1_layOut 7 = .ok (.iload_n 2, 1) := by decide +kernel
theorem dX1_layOut_8 : decode cX1_layOut 8 = .ok (.if_icmp .gt 13, 3) := by decide +kernel
theorem dX1_layOut_11 : decode cX1_layOut 11 = .ok (.iload_n 3, 1) := by decide +kernel
theorem dX1_layOut_12 : decode cX1_layOut 12 = .ok (.bipush 14, 2) := by decide +kernel
theorem dX1_layOut_14 : decode cX1_layOut 14 = .ok (.if_icmp .gt 7, 3) := by decide +kernel
theorem dX1_layOut_17 : decode cX1_layOut 17 = .ok (.iload_n 3, 1) := by decide +kernel
theorem dX1_layOut_18 : decode cX1_layOut 18 = .ok (.ifCond .ge 5, 3) := by decide +kernel
theorem dX1_layOut_21 : decode cX1_layOut 21 = .ok (.iconst (-1), 1) := by decide +kernel
theorem dX1_layOut_22 : decode cX1_layOut 22 = .ok (.ireturn, 1) := by decide +kernel
theorem dX1_layOut_23 : decode cX1_layOut 23 = .ok (.aload_n 0, 1) := by decide +kernel
theorem dX1_layOut_24 : decode cX1_layOut 24 = .ok (.iload_n 3, 1) := by decide +kernel
theorem dX1_layOut_25 : decode cX1_layOut 25 = .ok (.putfield 25, 3) := by decide +kernel
theorem dX1_layOut_28 : decode cX1_layOut 28 = .ok (.aload_n 0, 1) := by decide +kernel
theorem dX1_layOut_29 : decode cX1_layOut 29 = .ok (.iconst 1, 1) := by decide +kernel
theorem dX1_layOut_30 : decode cX1_layOut 30 = .ok (.iload_n 3, 1) := by decide +kernel
theorem dX1_layOut_31 : decode cX1_layOut 31 = .ok (.ishl, 1) := by decide +kernel
theorem dX1_layOut_32 : decode cX1_layOut 32 = .ok (.iconst 1, 1) := by decide +kernel
theorem dX1_layOut_33 : decode cX1_layOut 33 = .ok (.isub, 1) := by decide +kernel
theorem dX1_layOut_34 : decode cX1_layOut 34 = .ok (.iload_n 1, 1) := by decide +kernel
theorem dX1_layOut_35 : decode cX1_layOut 35 = .ok (.invokevirtual 54, 3) := by decide +kernel
theorem dX1_layOut_38 : decode cX1_layOut 38 = .ok (.iload_n 3, 1) := by decide +kernel
theorem dX1_layOut_39 : decode cX1_layOut 39 = .ok (.ireturn, 1) := by decide +kernel
set_option maxRecDepth 20000 in
theorem ggX1_layOnto_X1_nextPage : GoodIn wsX1_layOnto wsX1_nextPage := goodIn_r _ [7, 8, 9, 10, 11, 12, 13, 14, 15, 16, 6, 17, 18, 19, 20, 21, 22, 23, 24, 25, 26, 27, 28, 29, 30, 31, 32, 33, 34, 35, 36, 37, 38, 39, 40, 41, 42, 43, 44, 45, 46, 47, 48, 49, 50, 51, 52, 53, 54, 55, 56, 57, 58, 59, 60] (by decide +kernel) (by decide +kernel)
set_option maxRecDepth 20000 in
theorem gX1_layOnto_X1_nextPage : GoodIn wsX1_layOnto (wsV RX1 58 RX1 yX1_nextPage wsX1_nextPage) := goodIn_app (goodIn_of _ (by decide +kernel)) ggX1_layOnto_X1_nextPage
theorem dX1_layOnto_0 : decode cX1_layOnto 0 = .ok (.iload_n 2, 1) := by decide +kernel
theorem dX1_layOnto_1 : decode cX1_layOnto 1 = .ok (.istore_n 3, 1) := by decide +kernel
theorem dX1_layOnto_2 : decode cX1_layOnto 2 = .ok (.iconst 0, 1) := by decide +kernel
theorem dX1_layOnto_3 : decode cX1_layOnto 3 = .ok (.istore 4, 2) := by decide +kernel
theorem dX1_layOnto_5 : decode cX1_layOnto 5 = .ok (.iload 4, 2) := by decide +kernel
theorem dX1_layOnto_7 : decode cX1_layOnto 7 = .ok (.aload_n 0, 1) := by decide +kernel
theorem dX1_layOnto_8 : decode cX1_layOnto 8 = .ok (.getfield 25, 3) := by decide +kernel
theorem dX1_layOnto_11 : decode cX1_layOnto 11 = .ok (.if_icmp .ge 42, 3) := by decide +kernel
theorem dX1_layOnto_14 : decode cX1_layOnto 14 = .ok (.iload_n 1, 1) := by decide +kernel
theorem dX1_layOnto_15 : decode cX1_layOnto 15 = .ok (.iload 4, 2) := by decide +kernel
theorem dX1_layOnto_17 : decode cX1_layOnto 17 = .ok (.ishr, 1) := by decide +kernel
theorem dX1_layOnto_18 : decode cX1_layOnto 18 = .ok (.iconst 1, 1) := by decide +kernel
theorem dX1_layOnto_19 : decode cX1_layOnto 19 = .ok (.iand, 1) := by decide +kernel
theorem dX1_layOnto_20 : decode cX1_layOnto 20 = .ok (.ifCond .eq 27, 3) := by decide +kernel
theorem dX1_layOnto_23 : decode cX1_layOnto 23 = .ok (.aload_n 0, 1) := by decide +kernel
theorem dX1_layOnto_24 : decode cX1_layOnto 24 = .ok (.getfield 15, 3) := by decide +kernel
theorem dX1_layOnto_27 : decode cX1_layOnto 27 = .ok (.iload 4, 2) := by decide +kernel
theorem dX1_layOnto_29 : decode cX1_layOnto 29 = .ok (.aload_n 0, 1) := by decide +kernel
theorem dX1_layOnto_30 : decode cX1_layOnto 30 = .ok (.iload_n 3, 1) := by decide +kernel
theorem dX1_layOnto_31 : decode cX1_layOnto 31 = .ok (.invokevirtual 58, 3) := by decide +kernel
theorem dX1_layOnto_34 : decode cX1_layOnto 34 = .ok (.iastore, 1) := by decide +kernel
theorem dX1_layOnto_35 : decode cX1_layOnto 35 = .ok (.iload_n 3, 1) := by decide +kernel
theorem dX1_layOnto_36 : decode cX1_layOnto 36 = .ok (.aload_n 0, 1) := by decide +kernel
theorem dX1_layOnto_37 : decode cX1_layOnto 37 = .ok (.getfield 15, 3) := by decide +kernel
theorem dX1_layOnto_40 : decode cX1_layOnto 40 = .ok (.iload 4, 2) := by decide +kernel
theorem dX1_layOnto_42 : decode cX1_layOnto 42 = .ok (.iaload, 1) := by decide +kernel
theorem dX1_layOnto_43 : decode cX1_layOnto 43 = .ok (.iconst (-1), 1) := by decide +kernel
theorem dX1_layOnto_44 : decode cX1_layOnto 44 = .ok (.ixor, 1) := by decide +kernel
theorem dX1_layOnto_45 : decode cX1_layOnto 45 = .ok (.iand, 1) := by decide +kernel
theorem dX1_layOnto_46 : decode cX1_layOnto 46 = .ok (.istore_n 3, 1) := by decide +kernel
theorem dX1_layOnto_47 : decode cX1_layOnto 47 = .ok (.iinc 4 1, 3) := by decide +kernel
theorem dX1_layOnto_50 : decode cX1_layOnto 50 = .ok (.goto (-45), 3) := by decide +kernel
theorem dX1_layOnto_53 : decode cX1_layOnto 53 = .ok (.return_, 1) := by decide +kernel
set_option maxRecDepth 20000 in
theorem ggX1_nextPage_X1_pagesFor : GoodIn wsX1_nextPage wsX1_pagesFor := goodIn_r _ [11, 12, 5, 13, 14, 15, 16, 10, 17, 6, 18, 19, 20, 21, 22, 23, 24, 25, 26, 27, 28, 29, 30, 31, 32, 33, 34, 35, 36, 37, 38, 39, 40, 45, 46, 47, 48, 49, 50, 51, 52, 53, 54] (by decide +kernel) (by decide +kernel)
set_option maxRecDepth 20000 in
theorem gX1_nextPage_X1_pagesFor : GoodIn wsX1_nextPage (wsV RX1 50 RX1 yX1_pagesFor wsX1_pagesFor) := goodIn_app (goodIn_of _ (by decide +kernel)) ggX1_nextPage_X1_pagesFor
set_option maxRecDepth 20000 in
theorem ggX1_nextPage_X1_fillPage : GoodIn wsX1_nextPage wsX1_fillPage := goodIn_r _ [44, 4, 3, 1, 2, 5, 6, 7, 8, 9, 10, 11, 12, 13, 14, 15, 16, 17, 18, 19, 20, 21, 22, 23, 24, 25, 26, 27, 28, 29, 30, 31, 32, 33, 34, 35, 36, 37, 38, 39, 40, 41, 42, 43, 45, 46, 47, 48, 49, 50, 51, 52, 53, 54] (by decide +kernel) (by decide +kernel)
set_option maxRecDepth 20000 in
theorem gX1_nextPage_X1_fillPage : GoodIn wsX1_nextPage (wsV RX1 73 RX1 yX1_fillPage wsX1_fillPage) := goodIn_app (goodIn_of _ (by decide +kernel)) ggX1_nextPage_X1_fillPage
theorem dX1_nextPage_0 : decode cX1_nextPage 0 = .ok (.aload_n 0, 1) := by decide +kernel
theorem dX1_nextPage_1 : decode cX1_nextPage 1 = .ok (.iload_n 1, 1) := by decide +kernel
theorem dX1_nextPage_2 : decode cX1_nextPage 2 = .ok (.putfield 61, 3) := by decide +kernel
theorem dX1_nextPage_5 : decode cX1_nextPage 5 = .ok (.aload_n 0, 1) := by decide +kernel
theorem dX1_nextPage_6 : decode cX1_nextPage 6 = .ok (.aload_n 0, 1) := by decide +kernel
theorem dX1_nextPage_7 : decode cX1_nextPage 7 = .ok (.iload_n 1, 1) := by decide +kernel
theorem dX1_nextPage_8 : decode cX1_nextPage 8 = .ok (.invokevirtual 50, 3) := by decide +kernel
theorem dX1_nextPage_11 : decode cX1_nextPage 11 = .ok (.iconst 1, 1) := by decide +kernel
theorem dX1_nextPage_12 : decode cX1_nextPage 12 = .ok (.isub, 1) := by decide +kernel
theorem dX1_nextPage_13 : decode cX1_nextPage 13 = .ok (.putfield 64, 3) := by decide +kernel
theorem dX1_nextPage_16 : decode cX1_nextPage 16 = .ok (.aload_n 0, 1) := by decide +kernel
theorem dX1_nextPage_17 : decode cX1_nextPage 17 = .ok (.iconst 0, 1) := by decide +kernel
theorem dX1_nextPage_18 : decode cX1_nextPage 18 = .ok (.putfield 67, 3) := by decide +kernel
theorem dX1_nextPage_21 : decode cX1_nextPage 21 = .ok (.aload_n 0, 1) := by decide +kernel
theorem dX1_nextPage_22 : decode cX1_nextPage 22 = .ok (.iconst 0, 1) := by decide +kernel
theorem dX1_nextPage_23 : decode cX1_nextPage 23 = .ok (.putfield 70, 3) := by decide +kernel
theorem dX1_nextPage_26 : decode cX1_nextPage 26 = .ok (.iconst 0, 1) := by decide +kernel
theorem dX1_nextPage_27 : decode cX1_nextPage 27 = .ok (.istore_n 2, 1) := by decide +kernel
theorem dX1_nextPage_28 : decode cX1_nextPage 28 = .ok (.iload_n 2, 1) := by decide +kernel
theorem dX1_nextPage_29 : decode cX1_nextPage 29 = .ok (.aload_n 0, 1) := by decide +kernel
theorem dX1_nextPage_30 : decode cX1_nextPage 30 = .ok (.getfield 21, 3) := by decide +kernel
theorem dX1_nextPage_33 : decode cX1_nextPage 33 = .ok (.if_icmp .ge 38, 3) := by decide +kernel
theorem dX1_nextPage_36 : decode cX1_nextPage 36 = .ok (.iload_n 1, 1) := by decide +kernel
theorem dX1_nextPage_37 : decode cX1_nextPage 37 = .ok (.iload_n 2, 1) := by decide +kernel
theorem dX1_nextPage_38 : decode cX1_nextPage 38 = .ok (.ishr, 1) := by decide +kernel
theorem dX1_nextPage_39 : decode cX1_nextPage 39 = .ok (.iconst 1, 1) := by decide +kernel
theorem dX1_nextPage_40 : decode cX1_nextPage 40 = .ok (.iand, 1) := by decide +kernel
theorem dX1_nextPage_41 : decode cX1_nextPage 41 = .ok (.ifCond .eq 24, 3) := by decide +kernel
theorem dX1_nextPage_44 : decode cX1_nextPage 44 = .ok (.aload_n 0, 1) := by decide +kernel
theorem dX1_nextPage_45 : decode cX1_nextPage 45 = .ok (.iconst 1, 1) := by decide +kernel
theorem dX1_nextPage_46 : decode cX1_nextPage 46 = .ok (.iload_n 2, 1) := by decide +kernel
theorem dX1_nextPage_47 : decode cX1_nextPage 47 = .ok (.ishl, 1) := by decide +kernel
theorem dX1_nextPage_48 : decode cX1_nextPage 48 = .ok (.aload_n 0, 1) := by decide +kernel
theorem dX1_nextPage_49 : decode cX1_nextPage 49 = .ok (.getfield 9, 3) := by decide +kernel
theorem dX1_nextPage_52 : decode cX1_nextPage 52 = .ok (.iload_n 2, 1) := by decide +kernel
theorem dX1_nextPage_53 : decode cX1_nextPage 53 = .ok (.iaload, 1) := by decide +kernel
theorem dX1_nextPage_54 : decode cX1_nextPage 54 = .ok (.iload_n 2, 1) := by decide +kernel
theorem dX1_nextPage_55 : decode cX1_nextPage 55 = .ok (.iconst 1, 1) := by decide +kernel
theorem dX1_nextPage_56 : decode cX1_nextPage 56 = .ok (.iadd, 1) := by decide +kernel
theorem dX1_nextPage_57 : decode cX1_nextPage 57 = .ok (.invokevirtual 73, 3) := by decide +kernel
theorem dX1_nextPage_60 : decode cX1_nextPage 60 = .ok (.aload_n 0, 1) := by decide +kernel
theorem dX1_nextPage_61 : decode cX1_nextPage 61 = .ok (.getfield 67, 3) := by decide +kernel
theorem dX1_nextPage_64 : decode cX1_nextPage 64 = .ok (.ireturn, 1) := by decide +kernel
theorem dX1_nextPage_65 : decode cX1_nextPage 65 = .ok (.iinc 2 1, 3) := by decide +kernel
theorem dX1_nextPage_68 : decode cX1_nextPage 68 = .ok (.goto (-40), 3) := by decide +kernel
theorem dX1_nextPage_71 : decode cX1_nextPage 71 = .ok (.aload_n 0, 1) := by decide +kernel
theorem dX1_nextPage_72 : decode cX1_nextPage 72 = .ok (.getfield 67, 3) := by decide +kernel
theorem dX1_nextPage_75 : decode cX1_nextPage 75 = .ok (.ireturn, 1) := by decide +kernel
set_option maxRecDepth 20000 in
theorem ggX1_fillPage_X1_pagesFor : GoodIn wsX1_fillPage wsX1_pagesFor := goodIn_r _ [11, 12, 5, 13, 14, 15, 16, 10, 17, 6, 18, 19, 20, 21, 22, 23, 24, 25, 26, 27, 28, 29, 30, 31, 32, 33, 34, 35, 36, 37, 38, 39, 40, 44, 45, 46, 47, 48, 49, 50, 51, 52, 53] (by decide +kernel) (by decide +kernel)
set_option maxRecDepth 20000 in
theorem gX1_fillPage_X1_pagesFor : GoodIn wsX1_fillPage (wsV RX1 50 RX1 yX1_pagesFor wsX1_pagesFor) := goodIn_app (goodIn_of _ (by decide +kernel)) ggX1_fillPage_X1_pagesFor
set_option maxRecDepth 20000 in
theorem ggX1_fillPage_X1_fillPage : GoodIn wsX1_fillPage wsX1_fillPage := goodIn_r _ [0, 1, 2, 3, 4, 5, 6, 7, 8, 9, 10, 11, 12, 13, 14, 15, 16, 17, 18, 19, 20, 21, 22, 23, 24, 25, 26, 27, 28, 29, 30, 31, 32, 33, 34, 35, 36, 37, 38, 39, 40, 41, 42, 43, 44, 45, 46, 47, 48, 49, 50, 51, 52, 53] (by decide +kernel) (by decide +kernel)
set_option maxRecDepth 20000 in
theorem gX1_fillPage_X1_fillPage : GoodIn wsX1_fillPage (wsV RX1 73 RX1 yX1_fillPage wsX1_fillPage) := goodIn_app (goodIn_of _ (by decide +kernel)) ggX1_fillPage_X1_fillPage
theorem dX1_fillPage_0 : decode cX1_fillPage 0 = .ok (.iload_n 2, 1) := by decide +kernel
theorem dX1_fillPage_1 : decode cX1_fillPage 1 = .ok (.aload_n 0, 1) := by decide +kernel
theorem dX1_fillPage_2 : decode cX1_fillPage 2 = .ok (.getfield 70, 3) := by decide +kernel
theorem dX1_fillPage_5 : decode cX1_fillPage 5 = .ok (.if_icmp .gt 19, 3) := by decide +kernel
theorem dX1_fillPage_8 : decode cX1_fillPage 8 = .ok (.iload_n 2, 1) := by decide +kernel
theorem dX1_fillPage_9 : decode cX1_fillPage 9 = .ok (.aload_n 0, 1) := by decide +kernel
theorem dX1_fillPage_10 : decode cX1_fillPage 10 = .ok (.getfield 70, 3) := by decide +kernel
theorem dX1_fillPage_13 : decode cX1_fillPage 13 = .ok (.if_icmp .ne 15, 3) := by decide +kernel
theorem dX1_fillPage_16 : decode cX1_fillPage 16 = .ok (.iload_n 1, 1) := by decide +kernel
theorem dX1_fillPage_17 : decode cX1_fillPage 17 = .ok (.aload_n 0, 1) := by decide +kernel
theorem dX1_fillPage_18 : decode cX1_fillPage 18 = .ok (.getfield 67, 3) := by decide +kernel
theorem dX1_fillPage_21 : decode cX1_fillPage 21 = .ok (.if_icmp .ge 7, 3) := by decide +kernel
theorem dX1_fillPage_24 : decode cX1_fillPage 24 = .ok (.iconst 1, 1) := by decide +kernel
theorem dX1_fillPage_25 : decode cX1_fillPage 25 = .ok (.goto 4, 3) := by decide +kernel
theorem dX1_fillPage_28 : decode cX1_fillPage 28 = .ok (.iconst 0, 1) := by decide +kernel
theorem dX1_fillPage_29 : decode cX1_fillPage 29 = .ok (.istore 4, 2) := by decide +kernel
theorem dX1_fillPage_31 : decode cX1_fillPage 31 = .ok (.iload 4, 2) := by decide +kernel
theorem dX1_fillPage_33 : decode cX1_fillPage 33 = .ok (.ifCond .eq 32, 3) := by decide +kernel
theorem dX1_fillPage_36 : decode cX1_fillPage 36 = .ok (.aload_n 0, 1) := by decide +kernel
theorem dX1_fillPage_37 : decode cX1_fillPage 37 = .ok (.aload_n 0, 1) := by decide +kernel
theorem dX1_fillPage_38 : decode cX1_fillPage 38 = .ok (.getfield 61, 3) := by decide +kernel
theorem dX1_fillPage_41 : decode cX1_fillPage 41 = .ok (.iload_n 1, 1) := by decide +kernel
theorem dX1_fillPage_42 : decode cX1_fillPage 42 = .ok (.iconst (-1), 1) := by decide +kernel
theorem dX1_fillPage_43 : decode cX1_fillPage 43 = .ok (.ixor, 1) := by decide +kernel
theorem dX1_fillPage_44 : decode cX1_fillPage 44 = .ok (.iand, 1) := by decide +kernel
theorem dX1_fillPage_45 : decode cX1_fillPage 45 = .ok (.invokevirtual 50, 3) := by decide +kernel
theorem dX1_fillPage_48 : decode cX1_fillPage 48 = .ok (.aload_n 0, 1) := by decide +kernel
theorem dX1_fillPage_49 : decode cX1_fillPage 49 = .ok (.getfield 64, 3) := by decide +kernel
theorem dX1_fillPage_52 : decode cX1_fillPage 52 = .ok (.if_icmp .gt 13, 3) := by decide +kernel
theorem dX1_fillPage_55 : decode cX1_fillPage 55 = .ok (.aload_n 0, 1) := by decide +kernel
theorem dX1_fillPage_56 : decode cX1_fillPage 56 = .ok (.iload_n 1, 1) := by decide +kernel
theorem dX1_fillPage_57 : decode cX1_fillPage 57 = .ok (.putfield 67, 3) := by decide +kernel
theorem dX1_fillPage_60 : decode cX1_fillPage 60 = .ok (.aload_n 0, 1) := by decide +kernel
theorem dX1_fillPage_61 : decode cX1_fillPage 61 = .ok (.iload_n 2, 1) := by decide +kernel
theorem dX1_fillPage_62 : decode cX1_fillPage 62 = .ok (.putfield 70, 3) := by decide +kernel
theorem dX1_fillPage_65 : decode cX1_fillPage 65 = .ok (.iload_n 3, 1) := by decide +kernel
theorem dX1_fillPage_66 : decode cX1_fillPage 66 = .ok (.istore 5, 2) := by decide +kernel
theorem dX1_fillPage_68 : decode cX1_fillPage 68 = .ok (.iload 5, 2) := by decide +kernel
theorem dX1_fillPage_70 : decode cX1_fillPage 70 = .ok (.aload_n 0, 1) := by decide +kernel
theorem dX1_fillPage_71 : decode cX1_fillPage 71 = .ok (.getfield 21, 3) := by decide +kernel
theorem dX1_fillPage_74 : decode cX1_fillPage 74 = .ok (.if_icmp .ge 58, 3) := by decide +kernel
theorem dX1_fillPage_77 : decode cX1_fillPage 77 = .ok (.aload_n 0, 1) := by decide +kernel
theorem dX1_fillPage_78 : decode cX1_fillPage 78 = .ok (.getfield 61, 3) := by decide +kernel
theorem dX1_fillPage_81 : decode cX1_fillPage 81 = .ok (.iload 5, 2) := by decide +kernel
theorem dX1_fillPage_83 : decode cX1_fillPage 83 = .ok (.ishr, 1) := by decide +kernel
theorem dX1_fillPage_84 : decode cX1_fillPage 84 = .ok (.iconst 1, 1) := by decide +kernel
theorem dX1_fillPage_85 : decode cX1_fillPage 85 = .ok (.iand, 1) := by decide +kernel
theorem dX1_fillPage_86 : decode cX1_fillPage 86 = .ok (.ifCond .eq 40, 3) := by decide +kernel
theorem dX1_fillPage_89 : decode cX1_fillPage 89 = .ok (.iload_n 2, 1) := by decide +kernel
theorem dX1_fillPage_90 : decode cX1_fillPage 90 = .ok (.aload_n 0, 1) := by decide +kernel
theorem dX1_fillPage_91 : decode cX1_fillPage 91 = .ok (.getfield 9, 3) := by decide +kernel
theorem dX1_fillPage_94 : decode cX1_fillPage 94 = .ok (.iload 5, 2) := by decide +kernel
theorem dX1_fillPage_96 : decode cX1_fillPage 96 = .ok (.iaload, 1) := by decide +kernel
theorem dX1_fillPage_97 : decode cX1_fillPage 97 = .ok (.iadd, 1) := by decide +kernel
theorem dX1_fillPage_98 : decode cX1_fillPage 98 = .ok (.bipush 12, 2) := by decide +kernel
theorem dX1_fillPage_100 : decode cX1_fillPage 100 = .ok (.if_icmp .gt 26, 3) := by decide +kernel
theorem dX1_fillPage_103 : decode cX1_fillPage 103 = .ok (.aload_n 0, 1) := by decide +kernel
theorem dX1_fillPage_104 : decode cX1_fillPage 104 = .ok (.iload_n 1, 1) := by decide +kernel
theorem dX1_fillPage_105 : decode cX1_fillPage 105 = .ok (.iconst 1, 1) := by decide +kernel
theorem dX1_fillPage_106 : decode cX1_fillPage 106 = .ok (.iload 5, 2) := by decide +kernel
theorem dX1_fillPage_108 : decode cX1_fillPage 108 = .ok (.ishl, 1) := by decide +kernel
theorem dX1_fillPage_109 : decode cX1_fillPage 109 = .ok (.ior, 1) := by decide +kernel
theorem dX1_fillPage_110 : decode cX1_fillPage 110 = .ok (.iload_n 2, 1) := by decide +kernel
theorem dX1_fillPage_111 : decode cX1_fillPage 111 = .ok (.aload_n 0, 1) := by decide +kernel
theorem dX1_fillPage_112 : decode cX1_fillPage 112 = .ok (.getfield 9, 3) := by decide +kernel
theorem dX1_fillPage_115 : decode cX1_fillPage 115 = .ok (.iload 5, 2) := by decide +kernel
theorem dX1_fillPage_117 : decode cX1_fillPage 117 = .ok (.iaload, 1) := by decide +kernel
theorem dX1_fillPage_118 : decode cX1_fillPage 118 = .ok (.iadd, 1) := by decide +kernel
theorem dX1_fillPage_119 : decode cX1_fillPage 119 = .ok (.iload 5, 2) := by decide +kernel
theorem dX1_fillPage_121 : decode cX1_fillPage 121 = .ok (.iconst 1, 1) := by decide +kernel
theorem dX1_fillPage_122 : decode cX1_fillPage 122 = .ok (.iadd, 1) := by decide +kernel
theorem dX1_fillPage_123 : decode cX1_fillPage 123 = .ok (.invokevirtual 73, 3) := by decide +kernel
theorem dX1_fillPage_126 : decode cX1_fillPage 126 = .ok (.iinc 5 1, 3) := by decide +kernel
theorem dX1_fillPage_129 : decode cX1_fillPage 129 = .ok (.goto (-61), 3) := by decide +kernel
theorem dX1_fillPage_132 : decode cX1_fillPage 132 = .ok (.return_, 1) := by decide +kernel
set_option maxRecDepth 20000 in
theorem ggX1_bringIn_X1_pagesToChange : GoodIn wsX1_bringIn wsX1_pagesToChange := goodIn_r _ [7, 1, 2, 8, 9, 10, 6, 11, 12, 13, 14, 15, 16, 17, 18, 19, 20, 21, 22, 23, 24, 25, 26, 27, 28, 29, 30, 31, 32, 33, 34, 35, 36, 37, 38, 39, 40, 41, 42, 43, 44, 45, 46, 47, 48, 49, 50, 74, 75, 76, 77, 78, 79, 80, 81, 82, 83] (by decide +kernel) (by decide +kernel)
set_option maxRecDepth 20000 in
theorem gX1_bringIn_X1_pagesToChange : GoodIn wsX1_bringIn (wsV RX1 77 RX1 yX1_pagesToChange wsX1_pagesToChange) := goodIn_app (goodIn_of _ (by decide +kernel)) ggX1_bringIn_X1_pagesToChange
set_option maxRecDepth 20000 in
theorem ggX1_bringIn_X1_layOnto : GoodIn wsX1_bringIn wsX1_layOnto := goodIn_r _ [54, 1, 2, 55, 56, 57, 6, 58, 59, 60, 61, 62, 12, 13, 18, 19, 20, 21, 22, 23, 24, 25, 26, 27, 28, 29, 30, 31, 32, 33, 34, 35, 36, 37, 38, 39, 40, 41, 42, 43, 44, 45, 46, 47, 48, 49, 50, 63, 64, 65, 66, 74, 75, 76, 77, 78, 79, 80, 81, 82, 83] (by decide +kernel) (by decide +kernel)
set_option maxRecDepth 20000 in
theorem gX1_bringIn_X1_layOnto : GoodIn wsX1_bringIn (wsV RX1 54 RX1 yX1_layOnto wsX1_layOnto) := goodIn_app (goodIn_of _ (by decide +kernel)) ggX1_bringIn_X1_layOnto
set_option maxRecDepth 20000 in
theorem ggX1_bringIn_J6_bitCount_0f7a4 : GoodIn wsX1_bringIn wsJ6_bitCount_0f7a4 := goodIn_r _ [70, 71, 72, 73] (by decide +kernel) (by decide +kernel)
set_option maxRecDepth 20000 in
theorem gX1_bringIn_J6_bitCount_0f7a4 : GoodIn wsX1_bringIn (va_wsS RX1 80 yJ6_bitCount_0f7a4 wsJ6_bitCount_0f7a4) := goodIn_app (goodIn_of _ (by decide +kernel)) ggX1_bringIn_J6_bitCount_0f7a4
theorem dX1_bringIn_0 : decode cX1_bringIn 0 = .ok (.aload_n 0, 1) := by decide +kernel
theorem dX1_bringIn_1 : decode cX1_bringIn 1 = .ok (.iload_n 1, 1) := by decide +kernel
theorem dX1_bringIn_2 : decode cX1_bringIn 2 = .ok (.invokevirtual 77, 3) := by decide +kernel
theorem dX1_bringIn_5 : decode cX1_bringIn 5 = .ok (.istore_n 3, 1) := by decide +kernel
theorem dX1_bringIn_6 : decode cX1_bringIn 6 = .ok (.iload_n 3, 1) := by decide +kernel
theorem dX1_bringIn_7 : decode cX1_bringIn 7 = .ok (.ifCond .ne 46, 3) := by decide +kernel
theorem dX1_bringIn_10 : decode cX1_bringIn 10 = .ok (.aload_n 0, 1) := by decide +kernel
theorem dX1_bringIn_11 : decode cX1_bringIn 11 = .ok (.getfield 25, 3) := by decide +kernel
theorem dX1_bringIn_14 : decode cX1_bringIn 14 = .ok (.iload_n 2, 1) := by decide +kernel
theorem dX1_bringIn_15 : decode cX1_bringIn 15 = .ok (.if_icmp .ge 12, 3) := by decide +kernel
theorem dX1_bringIn_18 : decode cX1_bringIn 18 = .ok (.aload_n 0, 1) := by decide +kernel
theorem dX1_bringIn_19 : decode cX1_bringIn 19 = .ok (.getfield 25, 3) := by decide +kernel
theorem dX1_bringIn_22 : decode cX1_bringIn 22 = .ok (.bipush 14, 2) := by decide +kernel
theorem dX1_bringIn_24 : decode cX1_bringIn 24 = .ok (.if_icmp .lt 5, 3) := by decide +kernel
theorem dX1_bringIn_27 : decode cX1_bringIn 27 = .ok (.iconst (-1), 1) := by decide +kernel
theorem dX1_bringIn_28 : decode cX1_bringIn 28 = .ok (.ireturn, 1) := by decide +kernel
theorem dX1_bringIn_29 : decode cX1_bringIn 29 = .ok (.aload_n 0, 1) := by decide +kernel
theorem dX1_bringIn_30 : decode cX1_bringIn 30 = .ok (.getfield 15, 3) := by decide +kernel
theorem dX1_bringIn_33 : decode cX1_bringIn 33 = .ok (.aload_n 0, 1) := by decide +kernel
theorem dX1_bringIn_34 : decode cX1_bringIn 34 = .ok (.getfield 25, 3) := by decide +kernel
theorem dX1_bringIn_37 : decode cX1_bringIn 37 = .ok (.iconst 1, 1) := by decide +kernel
theorem dX1_bringIn_38 : decode cX1_bringIn 38 = .ok (.iload_n 1, 1) := by decide +kernel
theorem dX1_bringIn_39 : decode cX1_bringIn 39 = .ok (.ishl, 1) := by decide +kernel
theorem dX1_bringIn_40 : decode cX1_bringIn 40 = .ok (.iastore, 1) := by decide +kernel
theorem dX1_bringIn_41 : decode cX1_bringIn 41 = .ok (.aload_n 0, 1) := by decide +kernel
theorem dX1_bringIn_42 : decode cX1_bringIn 42 = .ok (.dup, 1) := by decide +kernel
theorem dX1_bringIn_43 : decode cX1_bringIn 43 = .ok (.getfield 25, 3) := by decide +kernel
theorem dX1_bringIn_46 : decode cX1_bringIn 46 = .ok (.iconst 1, 1) := by decide +kernel
theorem dX1_bringIn_47 : decode cX1_bringIn 47 = .ok (.iadd, 1) := by decide +kernel
theorem dX1_bringIn_48 : decode cX1_bringIn 48 = .ok (.putfield 25, 3) := by decide +kernel
theorem dX1_bringIn_51 : decode cX1_bringIn 51 = .ok (.iconst 1, 1) := by decide +kernel
theorem dX1_bringIn_52 : decode cX1_bringIn 52 = .ok (.ireturn, 1) := by decide +kernel
theorem dX1_bringIn_53 : decode cX1_bringIn 53 = .ok (.iconst 1, 1) := by decide +kernel
theorem dX1_bringIn_54 : decode cX1_bringIn 54 = .ok (.iload_n 1, 1) := by decide +kernel
theorem dX1_bringIn_55 : decode cX1_bringIn 55 = .ok (.ishl, 1) := by decide +kernel
theorem dX1_bringIn_56 : decode cX1_bringIn 56 = .ok (.istore 4, 2) := by decide +kernel
theorem dX1_bringIn_58 : decode cX1_bringIn 58 = .ok (.iconst 0, 1) := by decide +kernel
theorem dX1_bringIn_59 : decode cX1_bringIn 59 = .ok (.istore 5, 2) := by decide +kernel
theorem dX1_bringIn_61 : decode cX1_bringIn 61 = .ok (.iload 5, 2) := by decide +kernel
theorem dX1_bringIn_63 : decode cX1_bringIn 63 = .ok (.aload_n 0, 1) := by decide +kernel
theorem dX1_bringIn_64 : decode cX1_bringIn 64 = .ok (.getfield 25, 3) := by decide +kernel
theorem dX1_bringIn_67 : decode cX1_bringIn 67 = .ok (.if_icmp .ge 30, 3) := by decide +kernel
theorem dX1_bringIn_70 : decode cX1_bringIn 70 = .ok (.iload_n 3, 1) := by decide +kernel
theorem dX1_bringIn_71 : decode cX1_bringIn 71 = .ok (.iload 5, 2) := by decide +kernel
theorem dX1_bringIn_73 : decode cX1_bringIn 73 = .ok (.ishr, 1) := by decide +kernel
theorem dX1_bringIn_74 : decode cX1_bringIn 74 = .ok (.iconst 1, 1) := by decide +kernel
theorem dX1_bringIn_75 : decode cX1_bringIn 75 = .ok (.iand, 1) := by decide +kernel
theorem dX1_bringIn_76 : decode cX1_bringIn 76 = .ok (.ifCond .eq 15, 3) := by decide +kernel
theorem dX1_bringIn_79 : decode cX1_bringIn 79 = .ok (.iload 4, 2) := by decide +kernel
theorem dX1_bringIn_81 : decode cX1_bringIn 81 = .ok (.aload_n 0, 1) := by decide +kernel
theorem dX1_bringIn_82 : decode cX1_bringIn 82 = .ok (.getfield 15, 3) := by decide +kernel
theorem dX1_bringIn_85 : decode cX1_bringIn 85 = .ok (.iload 5, 2) := by decide +kernel
theorem dX1_bringIn_87 : decode cX1_bringIn 87 = .ok (.iaload, 1) := by decide +kernel
theorem dX1_bringIn_88 : decode cX1_bringIn 88 = .ok (.ior, 1) := by decide +kernel
theorem dX1_bringIn_89 : decode cX1_bringIn 89 = .ok (.istore 4, 2) := by decide +kernel
theorem dX1_bringIn_91 : decode cX1_bringIn 91 = .ok (.iinc 5 1, 3) := by decide +kernel
theorem dX1_bringIn_94 : decode cX1_bringIn 94 = .ok (.goto (-33), 3) := by decide +kernel
theorem dX1_bringIn_97 : decode cX1_bringIn 97 = .ok (.aload_n 0, 1) := by decide +kernel
theorem dX1_bringIn_98 : decode cX1_bringIn 98 = .ok (.iload_n 3, 1) := by decide +kernel
theorem dX1_bringIn_99 : decode cX1_bringIn 99 = .ok (.iload 4, 2) := by decide +kernel
theorem dX1_bringIn_101 : decode cX1_bringIn 101 = .ok (.invokevirtual 54, 3) := by decide +kernel
theorem dX1_bringIn_104 : decode cX1_bringIn 104 = .ok (.iload_n 3, 1) := by decide +kernel
theorem dX1_bringIn_105 : decode cX1_bringIn 105 = .ok (.invokestatic 80, 3) := by decide +kernel
theorem dX1_bringIn_108 : decode cX1_bringIn 108 = .ok (.ireturn, 1) := by decide +kernel
set_option maxRecDepth 20000 in
theorem ggX1_pagesToChange_X1_pointsOf : GoodIn wsX1_pagesToChange wsX1_pointsOf := goodIn_r _ [7, 8, 9, 47, 48, 49, 50, 51, 52, 53, 54, 55, 56] (by decide +kernel) (by decide +kernel)
set_option maxRecDepth 20000 in
theorem gX1_pagesToChange_X1_pointsOf : GoodIn wsX1_pagesToChange (wsV RX1 85 RX1 yX1_pointsOf wsX1_pointsOf) := goodIn_app (goodIn_of _ (by decide +kernel)) ggX1_pagesToChange_X1_pointsOf
set_option maxRecDepth 20000 in
theorem ggX1_pagesToChange_X1_leastPages : GoodIn wsX1_pagesToChange wsX1_leastPages := goodIn_r _ [13, 1, 2, 14, 15, 16, 6, 17, 18, 8, 19, 20, 21, 22, 23, 9, 24, 25, 26, 27, 28, 29, 30, 31, 32, 33, 34, 35, 36, 37, 38, 39, 40, 41, 42, 43, 44, 45, 46, 10, 11, 12, 47, 48, 49, 50, 51, 52, 53, 54, 55, 56] (by decide +kernel) (by decide +kernel)
set_option maxRecDepth 20000 in
theorem gX1_pagesToChange_X1_leastPages : GoodIn wsX1_pagesToChange (wsV RX1 88 RX1 yX1_leastPages wsX1_leastPages) := goodIn_app (goodIn_of _ (by decide +kernel)) ggX1_pagesToChange_X1_leastPages
theorem dX1_pagesToChange_0 : decode cX1_pagesToChange 0 = .ok (.iconst 1, 1) := by decide +kernel
theorem dX1_pagesToChange_1 : decode cX1_pagesToChange 1 = .ok (.iload_n 1, 1) := by decide +kernel
theorem dX1_pagesToChange_2 : decode cX1_pagesToChange 2 = .ok (.ishl, 1) := by decide +kernel
theorem dX1_pagesToChange_3 : decode cX1_pagesToChange 3 = .ok (.istore_n 2, 1) := by decide +kernel
theorem dX1_pagesToChange_4 : decode cX1_pagesToChange 4 = .ok (.iconst 0, 1) := by decide +kernel
theorem dX1_pagesToChange_5 : decode cX1_pagesToChange 5 = .ok (.istore_n 3, 1) := by decide +kernel
theorem dX1_pagesToChange_6 : decode cX1_pagesToChange 6 = .ok (.iload_n 3, 1) := by decide +kernel
theorem dX1_pagesToChange_7 : decode cX1_pagesToChange 7 = .ok (.aload_n 0, 1) := by decide +kernel
theorem dX1_pagesToChange_8 : decode cX1_pagesToChange 8 = .ok (.getfield 25, 3) := by decide +kernel
theorem dX1_pagesToChange_11 : decode cX1_pagesToChange 11 = .ok (.if_icmp .ge 18, 3) := by decide +kernel
theorem dX1_pagesToChange_14 : decode cX1_pagesToChange 14 = .ok (.iload_n 2, 1) := by decide +kernel
theorem dX1_pagesToChange_15 : decode cX1_pagesToChange 15 = .ok (.aload_n 0, 1) := by decide +kernel
theorem dX1_pagesToChange_16 : decode cX1_pagesToChange 16 = .ok (.getfield 15, 3) := by decide +kernel
theorem dX1_pagesToChange_19 : decode cX1_pagesToChange 19 = .ok (.iload_n 3, 1) := by decide +kernel
theorem dX1_pagesToChange_20 : decode cX1_pagesToChange 20 = .ok (.iaload, 1) := by decide +kernel
theorem dX1_pagesToChange_21 : decode cX1_pagesToChange 21 = .ok (.ior, 1) := by decide +kernel
theorem dX1_pagesToChange_22 : decode cX1_pagesToChange 22 = .ok (.istore_n 2, 1) := by decide +kernel
theorem dX1_pagesToChange_23 : decode cX1_pagesToChange 23 = .ok (.iinc 3 1, 3) := by decide +kernel
theorem dX1_pagesToChange_26 : decode cX1_pagesToChange 26 = .ok (.goto (-20), 3) := by decide +kernel
theorem dX1_pagesToChange_29 : decode cX1_pagesToChange 29 = .ok (.aload_n 0, 1) := by decide +kernel
theorem dX1_pagesToChange_30 : decode cX1_pagesToChange 30 = .ok (.iload_n 2, 1) := by decide +kernel
theorem dX1_pagesToChange_31 : decode cX1_pagesToChange 31 = .ok (.invokevirtual 85, 3) := by decide +kernel
theorem dX1_pagesToChange_34 : decode cX1_pagesToChange 34 = .ok (.aload_n 0, 1) := by decide +kernel
theorem dX1_pagesToChange_35 : decode cX1_pagesToChange 35 = .ok (.getfield 25, 3) := by decide +kernel
theorem dX1_pagesToChange_38 : decode cX1_pagesToChange 38 = .ok (.bipush 12, 2) := by decide +kernel
theorem dX1_pagesToChange_40 : decode cX1_pagesToChange 40 = .ok (.imul, 1) := by decide +kernel
theorem dX1_pagesToChange_41 : decode cX1_pagesToChange 41 = .ok (.if_icmp .le 5, 3) := by decide +kernel
theorem dX1_pagesToChange_44 : decode cX1_pagesToChange 44 = .ok (.iconst 0, 1) := by decide +kernel
theorem dX1_pagesToChange_45 : decode cX1_pagesToChange 45 = .ok (.ireturn, 1) := by decide +kernel
theorem dX1_pagesToChange_46 : decode cX1_pagesToChange 46 = .ok (.iconst 1, 1) := by decide +kernel
theorem dX1_pagesToChange_47 : decode cX1_pagesToChange 47 = .ok (.istore_n 3, 1) := by decide +kernel
theorem dX1_pagesToChange_48 : decode cX1_pagesToChange 48 = .ok (.iload_n 3, 1) := by decide +kernel
theorem dX1_pagesToChange_49 : decode cX1_pagesToChange 49 = .ok (.aload_n 0, 1) := by decide +kernel
theorem dX1_pagesToChange_50 : decode cX1_pagesToChange 50 = .ok (.getfield 25, 3) := by decide +kernel
theorem dX1_pagesToChange_53 : decode cX1_pagesToChange 53 = .ok (.if_icmp .gt 33, 3) := by decide +kernel
theorem dX1_pagesToChange_56 : decode cX1_pagesToChange 56 = .ok (.aload_n 0, 1) := by decide +kernel
theorem dX1_pagesToChange_57 : decode cX1_pagesToChange 57 = .ok (.iload_n 3, 1) := by decide +kernel
theorem dX1_pagesToChange_58 : decode cX1_pagesToChange 58 = .ok (.aload_n 0, 1) := by decide +kernel
theorem dX1_pagesToChange_59 : decode cX1_pagesToChange 59 = .ok (.getfield 25, 3) := by decide +kernel
theorem dX1_pagesToChange_62 : decode cX1_pagesToChange 62 = .ok (.iconst 1, 1) := by decide +kernel
theorem dX1_pagesToChange_63 : decode cX1_pagesToChange 63 = .ok (.iload_n 1, 1) := by decide +kernel
theorem dX1_pagesToChange_64 : decode cX1_pagesToChange 64 = .ok (.ishl, 1) := by decide +kernel
theorem dX1_pagesToChange_65 : decode cX1_pagesToChange 65 = .ok (.iload_n 3, 1) := by decide +kernel
theorem dX1_pagesToChange_66 : decode cX1_pagesToChange 66 = .ok (.invokevirtual 88, 3) := by decide +kernel
theorem dX1_pagesToChange_69 : decode cX1_pagesToChange 69 = .ok (.istore 4, 2) := by decide +kernel
theorem dX1_pagesToChange_71 : decode cX1_pagesToChange 71 = .ok (.iload 4, 2) := by decide +kernel
theorem dX1_pagesToChange_73 : decode cX1_pagesToChange 73 = .ok (.iconst (-1), 1) := by decide +kernel
theorem dX1_pagesToChange_74 : decode cX1_pagesToChange 74 = .ok (.if_icmp .eq 6, 3) := by decide +kernel
theorem dX1_pagesToChange_77 : decode cX1_pagesToChange 77 = .ok (.iload 4, 2) := by decide +kernel
theorem dX1_pagesToChange_79 : decode cX1_pagesToChange 79 = .ok (.ireturn, 1) := by decide +kernel
theorem dX1_pagesToChange_80 : decode cX1_pagesToChange 80 = .ok (.iinc 3 1, 3) := by decide +kernel
theorem dX1_pagesToChange_83 : decode cX1_pagesToChange 83 = .ok (.goto (-35), 3) := by decide +kernel
theorem dX1_pagesToChange_86 : decode cX1_pagesToChange 86 = .ok (.iconst 0, 1) := by decide +kernel
theorem dX1_pagesToChange_87 : decode cX1_pagesToChange 87 = .ok (.ireturn, 1) := by decide +kernel
set_option maxRecDepth 20000 in
theorem ggX1_leastPages_X1_pagesFor : GoodIn wsX1_leastPages wsX1_pagesFor := goodIn_r _ [7, 8, 9, 10, 11, 12, 13, 6, 14, 15, 16, 17, 18, 19, 20, 21, 22, 23, 24, 25, 26, 27, 28, 29, 30, 31, 32, 33, 34, 35, 36, 37, 38, 42, 43, 44, 45, 46, 47, 48, 49, 50, 51] (by decide +kernel) (by decide +kernel)
set_option maxRecDepth 20000 in
theorem gX1_leastPages_X1_pagesFor : GoodIn wsX1_leastPages (wsV RX1 50 RX1 yX1_pagesFor wsX1_pagesFor) := goodIn_app (goodIn_of _ (by decide +kernel)) ggX1_leastPages_X1_pagesFor
set_option maxRecDepth 20000 in
theorem ggX1_leastPages_X1_leastPages : GoodIn wsX1_leastPages wsX1_leastPages := goodIn_r _ [0, 1, 2, 3, 4, 5, 6, 7, 8, 9, 10, 11, 12, 13, 14, 15, 16, 17, 18, 19, 20, 21, 22, 23, 24, 25, 26, 27, 28, 29, 30, 31, 32, 33, 34, 35, 36, 37, 38, 39, 40, 41, 42, 43, 44, 45, 46, 47, 48, 49, 50, 51] (by decide +kernel) (by decide +kernel)
set_option maxRecDepth 20000 in
theorem gX1_leastPages_X1_leastPages : GoodIn wsX1_leastPages (wsV RX1 88 RX1 yX1_leastPages wsX1_leastPages) := goodIn_app (goodIn_of _ (by decide +kernel)) ggX1_leastPages_X1_leastPages
theorem dX1_leastPages_0 : decode cX1_leastPages 0 = .ok (.iload_n 1, 1) := by decide +kernel
theorem dX1_leastPages_1 : decode cX1_leastPages 1 = .ok (.ifCond .gt 19, 3) := by decide +kernel
theorem dX1_leastPages_4 : decode cX1_leastPages 4 = .ok (.aload_n 0, 1) := by decide +kernel
theorem dX1_leastPages_5 : decode cX1_leastPages 5 = .ok (.iload_n 3, 1) := by decide +kernel
theorem dX1_leastPages_6 : decode cX1_leastPages 6 = .ok (.invokevirtual 50, 3) := by decide +kernel
theorem dX1_leastPages_9 : decode cX1_leastPages 9 = .ok (.iload 4, 2) := by decide +kernel
theorem dX1_leastPages_11 : decode cX1_leastPages 11 = .ok (.if_icmp .gt 7, 3) := by decide +kernel
theorem dX1_leastPages_14 : decode cX1_leastPages 14 = .ok (.iconst 0, 1) := by decide +kernel
theorem dX1_leastPages_15 : decode cX1_leastPages 15 = .ok (.goto 4, 3) := by decide +kernel
theorem dX1_leastPages_18 : decode cX1_leastPages 18 = .ok (.iconst (-1), 1) := by decide +kernel
theorem dX1_leastPages_19 : decode cX1_leastPages 19 = .ok (.ireturn, 1) := by decide +kernel
theorem dX1_leastPages_20 : decode cX1_leastPages 20 = .ok (.iload_n 1, 1) := by decide +kernel
theorem dX1_leastPages_21 : decode cX1_leastPages 21 = .ok (.iconst 1, 1) := by decide +kernel
theorem dX1_leastPages_22 : decode cX1_leastPages 22 = .ok (.isub, 1) := by decide +kernel
theorem dX1_leastPages_23 : decode cX1_leastPages 23 = .ok (.istore 5, 2) := by decide +kernel
theorem dX1_leastPages_25 : decode cX1_leastPages 25 = .ok (.iload 5, 2) := by decide +kernel
theorem dX1_leastPages_27 : decode cX1_leastPages 27 = .ok (.iload_n 2, 1) := by decide +kernel
theorem dX1_leastPages_28 : decode cX1_leastPages 28 = .ok (.if_icmp .ge 54, 3) := by decide +kernel
theorem dX1_leastPages_31 : decode cX1_leastPages 31 = .ok (.iload 5, 2) := by decide +kernel
theorem dX1_leastPages_33 : decode cX1_leastPages 33 = .ok (.aload_n 0, 1) := by decide +kernel
theorem dX1_leastPages_34 : decode cX1_leastPages 34 = .ok (.getfield 25, 3) := by decide +kernel
theorem dX1_leastPages_37 : decode cX1_leastPages 37 = .ok (.if_icmp .ge 45, 3) := by decide +kernel
theorem dX1_leastPages_40 : decode cX1_leastPages 40 = .ok (.aload_n 0, 1) := by decide +kernel
theorem dX1_leastPages_41 : decode cX1_leastPages 41 = .ok (.iload_n 1, 1) := by decide +kernel
theorem dX1_leastPages_42 : decode cX1_leastPages 42 = .ok (.iconst 1, 1) := by decide +kernel
theorem dX1_leastPages_43 : decode cX1_leastPages 43 = .ok (.isub, 1) := by decide +kernel
theorem dX1_leastPages_44 : decode cX1_leastPages 44 = .ok (.iload 5, 2) := by decide +kernel
theorem dX1_leastPages_46 : decode cX1_leastPages 46 = .ok (.iload_n 3, 1) := by decide +kernel
theorem dX1_leastPages_47 : decode cX1_leastPages 47 = .ok (.aload_n 0, 1) := by decide +kernel
theorem dX1_leastPages_48 : decode cX1_leastPages 48 = .ok (.getfield 15, 3) := by decide +kernel
theorem dX1_leastPages_51 : decode cX1_leastPages 51 = .ok (.iload 5, 2) := by decide +kernel
theorem dX1_leastPages_53 : decode cX1_leastPages 53 = .ok (.iaload, 1) := by decide +kernel
theorem dX1_leastPages_54 : decode cX1_leastPages 54 = .ok (.ior, 1) := by decide +kernel
theorem dX1_leastPages_55 : decode cX1_leastPages 55 = .ok (.iload 4, 2) := by decide +kernel
theorem dX1_leastPages_57 : decode cX1_leastPages 57 = .ok (.invokevirtual 88, 3) := by decide +kernel
theorem dX1_leastPages_60 : decode cX1_leastPages 60 = .ok (.istore 6, 2) := by decide +kernel
theorem dX1_leastPages_62 : decode cX1_leastPages 62 = .ok (.iload 6, 2) := by decide +kernel
theorem dX1_leastPages_64 : decode cX1_leastPages 64 = .ok (.iconst (-1), 1) := by decide +kernel
theorem dX1_leastPages_65 : decode cX1_leastPages 65 = .ok (.if_icmp .eq 11, 3) := by decide +kernel
theorem dX1_leastPages_68 : decode cX1_leastPages 68 = .ok (.iload 6, 2) := by decide +kernel
theorem dX1_leastPages_70 : decode cX1_leastPages 70 = .ok (.iconst 1, 1) := by decide +kernel
theorem dX1_leastPages_71 : decode cX1_leastPages 71 = .ok (.iload 5, 2) := by decide +kernel
theorem dX1_leastPages_73 : decode cX1_leastPages 73 = .ok (.ishl, 1) := by decide +kernel
theorem dX1_leastPages_74 : decode cX1_leastPages 74 = .ok (.ior, 1) := by decide +kernel
theorem dX1_leastPages_75 : decode cX1_leastPages 75 = .ok (.ireturn, 1) := by decide +kernel
theorem dX1_leastPages_76 : decode cX1_leastPages 76 = .ok (.iinc 5 1, 3) := by decide +kernel
theorem dX1_leastPages_79 : decode cX1_leastPages 79 = .ok (.goto (-54), 3) := by decide +kernel
theorem dX1_leastPages_82 : decode cX1_leastPages 82 = .ok (.iconst (-1), 1) := by decide +kernel
theorem dX1_leastPages_83 : decode cX1_leastPages 83 = .ok (.ireturn, 1) := by decide +kernel
set_option maxRecDepth 20000 in
theorem ggX1_takeOut_X1_pageOf : GoodIn wsX1_takeOut wsX1_pageOf := goodIn_r _ [7, 1, 2, 8, 9, 10, 11, 12, 13, 14, 15, 16, 17] (by decide +kernel) (by decide +kernel)
set_option maxRecDepth 20000 in
theorem gX1_takeOut_X1_pageOf : GoodIn wsX1_takeOut (wsV RX1 92 RX1 yX1_pageOf wsX1_pageOf) := goodIn_app (goodIn_of _ (by decide +kernel)) ggX1_takeOut_X1_pageOf
theorem dX1_takeOut_0 : decode cX1_takeOut 0 = .ok (.aload_n 0, 1) := by decide +kernel
theorem dX1_takeOut_1 : decode cX1_takeOut 1 = .ok (.iload_n 1, 1) := by decide +kernel
theorem dX1_takeOut_2 : decode cX1_takeOut 2 = .ok (.invokevirtual 92, 3) := by decide +kernel
theorem dX1_takeOut_5 : decode cX1_takeOut 5 = .ok (.istore_n 2, 1) := by decide +kernel
theorem dX1_takeOut_6 : decode cX1_takeOut 6 = .ok (.iload_n 2, 1) := by decide +kernel
theorem dX1_takeOut_7 : decode cX1_takeOut 7 = .ok (.iconst (-1), 1) := by decide +kernel
theorem dX1_takeOut_8 : decode cX1_takeOut 8 = .ok (.if_icmp .eq 11, 3) := by decide +kernel
theorem dX1_takeOut_11 : decode cX1_takeOut 11 = .ok (.iload_n 2, 1) := by decide +kernel
theorem dX1_takeOut_12 : decode cX1_takeOut 12 = .ok (.aload_n 0, 1) := by decide +kernel
theorem dX1_takeOut_13 : decode cX1_takeOut 13 = .ok (.getfield 25, 3) := by decide +kernel
theorem dX1_takeOut_16 : decode cX1_takeOut 16 = .ok (.if_icmp .lt 5, 3) := by decide +kernel
theorem dX1_takeOut_19 : decode cX1_takeOut 19 = .ok (.iconst 0, 1) := by decide +kernel
theorem dX1_takeOut_20 : decode cX1_takeOut 20 = .ok (.ireturn, 1) := by decide +kernel
theorem dX1_takeOut_21 : decode cX1_takeOut 21 = .ok (.aload_n 0, 1) := by decide +kernel
theorem dX1_takeOut_22 : decode cX1_takeOut 22 = .ok (.getfield 15, 3) := by decide +kernel
theorem dX1_takeOut_25 : decode cX1_takeOut 25 = .ok (.iload_n 2, 1) := by decide +kernel
theorem dX1_takeOut_26 : decode cX1_takeOut 26 = .ok (.dup2, 1) := by decide +kernel
theorem dX1_takeOut_27 : decode cX1_takeOut 27 = .ok (.iaload, 1) := by decide +kernel
theorem dX1_takeOut_28 : decode cX1_takeOut 28 = .ok (.iconst 1, 1) := by decide +kernel
theorem dX1_takeOut_29 : decode cX1_takeOut 29 = .ok (.iload_n 1, 1) := by decide +kernel
theorem dX1_takeOut_30 : decode cX1_takeOut 30 = .ok (.ishl, 1) := by decide +kernel
theorem dX1_takeOut_31 : decode cX1_takeOut 31 = .ok (.iconst (-1), 1) := by decide +kernel
theorem dX1_takeOut_32 : decode cX1_takeOut 32 = .ok (.ixor, 1) := by decide +kernel
theorem dX1_takeOut_33 : decode cX1_takeOut 33 = .ok (.iand, 1) := by decide +kernel
theorem dX1_takeOut_34 : decode cX1_takeOut 34 = .ok (.iastore, 1) := by decide +kernel
theorem dX1_takeOut_35 : decode cX1_takeOut 35 = .ok (.iconst 1, 1) := by decide +kernel
theorem dX1_takeOut_36 : decode cX1_takeOut 36 = .ok (.ireturn, 1) := by decide +kernel
theorem dX2_init_0 : decode cX2_init 0 = .ok (.aload_n 0, 1) := by decide +kernel
theorem dX2_init_1 : decode cX2_init 1 = .ok (.invokespecial 3, 3) := by decide +kernel
theorem dX2_init_4 : decode cX2_init 4 = .ok (.aload_n 0, 1) := by decide +kernel
theorem dX2_init_5 : decode cX2_init 5 = .ok (.bipush 8, 2) := by decide +kernel
theorem dX2_init_7 : decode cX2_init 7 = .ok (.newarray .int, 2) := by decide +kernel
theorem dX2_init_9 : decode cX2_init 9 = .ok (.putfield 9, 3) := by decide +kernel
theorem dX2_init_12 : decode cX2_init 12 = .ok (.aload_n 0, 1) := by decide +kernel
theorem dX2_init_13 : decode cX2_init 13 = .ok (.bipush 8, 2) := by decide +kernel
theorem dX2_init_15 : decode cX2_init 15 = .ok (.newarray .int, 2) := by decide +kernel
theorem dX2_init_17 : decode cX2_init 17 = .ok (.putfield 15, 3) := by decide +kernel
theorem dX2_init_20 : decode cX2_init 20 = .ok (.aload_n 0, 1) := by decide +kernel
theorem dX2_init_21 : decode cX2_init 21 = .ok (.bipush 8, 2) := by decide +kernel
theorem dX2_init_23 : decode cX2_init 23 = .ok (.newarray .int, 2) := by decide +kernel
theorem dX2_init_25 : decode cX2_init 25 = .ok (.putfield 18, 3) := by decide +kernel
theorem dX2_init_28 : decode cX2_init 28 = .ok (.aload_n 0, 1) := by decide +kernel
theorem dX2_init_29 : decode cX2_init 29 = .ok (.bipush 8, 2) := by decide +kernel
theorem dX2_init_31 : decode cX2_init 31 = .ok (.newarray .int, 2) := by decide +kernel
theorem dX2_init_33 : decode cX2_init 33 = .ok (.putfield 21, 3) := by decide +kernel
theorem dX2_init_36 : decode cX2_init 36 = .ok (.aload_n 0, 1) := by decide +kernel
theorem dX2_init_37 : decode cX2_init 37 = .ok (.iconst 4, 1) := by decide +kernel
theorem dX2_init_38 : decode cX2_init 38 = .ok (.newarray .int, 2) := by decide +kernel
theorem dX2_init_40 : decode cX2_init 40 = .ok (.putfield 24, 3) := by decide +kernel
theorem dX2_init_43 : decode cX2_init 43 = .ok (.aload_n 0, 1) := by decide +kernel
theorem dX2_init_44 : decode cX2_init 44 = .ok (.iload_n 1, 1) := by decide +kernel
theorem dX2_init_45 : decode cX2_init 45 = .ok (.putfield 27, 3) := by decide +kernel
theorem dX2_init_48 : decode cX2_init 48 = .ok (.aload_n 0, 1) := by decide +kernel
theorem dX2_init_49 : decode cX2_init 49 = .ok (.iload_n 2, 1) := by decide +kernel
theorem dX2_init_50 : decode cX2_init 50 = .ok (.putfield 31, 3) := by decide +kernel
theorem dX2_init_53 : decode cX2_init 53 = .ok (.aload_n 0, 1) := by decide +kernel
theorem dX2_init_54 : decode cX2_init 54 = .ok (.iload_n 3, 1) := by decide +kernel
theorem dX2_init_55 : decode cX2_init 55 = .ok (.putfield 34, 3) := by decide +kernel
theorem dX2_init_58 : decode cX2_init 58 = .ok (.return_, 1) := by decide +kernel
theorem dX2_canHold_0 : decode cX2_canHold 0 = .ok (.iconst 0, 1) := by decide +kernel
theorem dX2_canHold_1 : decode cX2_canHold 1 = .ok (.istore_n 2, 1) := by decide +kernel
theorem dX2_canHold_2 : decode cX2_canHold 2 = .ok (.iload_n 2, 1) := by decide +kernel
theorem dX2_canHold_3 : decode cX2_canHold 3 = .ok (.aload_n 0, 1) := by decide +kernel
theorem dX2_canHold_4 : decode cX2_canHold 4 = .ok (.getfield 37, 3) := by decide +kernel
theorem dX2_canHold_7 : decode cX2_canHold 7 = .ok (.if_icmp .ge 21, 3) := by decide +kernel
theorem dX2_canHold_10 : decode cX2_canHold 10 = .ok (.aload_n 0, 1) := by decide +kernel
theorem dX2_canHold_11 : decode cX2_canHold 11 = .ok (.getfield 9, 3) := by decide +kernel
theorem dX2_canHold_14 : decode cX2_canHold 14 = .ok (.iload_n 2, 1) := by decide +kernel
theorem dX2_canHold_15 : decode cX2_canHold 15 = .ok (.iaload, 1) := by decide +kernel
theorem dX2_canHold_16 : decode cX2_canHold 16 = .ok (.iload_n 1, 1) := by decide +kernel
theorem dX2_canHold_17 : decode cX2_canHold 17 = .ok (.if_icmp .ne 5, 3) := by decide +kernel
theorem dX2_canHold_20 : decode cX2_canHold 20 = .ok (.iconst 0, 1) := by decide +kernel
theorem dX2_canHold_21 : decode cX2_canHold 21 = .ok (.ireturn, 1) := by decide +kernel
theorem dX2_canHold_22 : decode cX2_canHold 22 = .ok (.iinc 2 1, 3) := by decide +kernel
theorem dX2_canHold_25 : decode cX2_canHold 25 = .ok (.goto (-23), 3) := by decide +kernel
theorem dX2_canHold_28 : decode cX2_canHold 28 = .ok (.aload_n 0, 1) := by decide +kernel
theorem dX2_canHold_29 : decode cX2_canHold 29 = .ok (.getfield 37, 3) := by decide +kernel
theorem dX2_canHold_32 : decode cX2_canHold 32 = .ok (.bipush 8, 2) := by decide +kernel
theorem dX2_canHold_34 : decode cX2_canHold 34 = .ok (.if_icmp .ge 7, 3) := by decide +kernel
theorem dX2_canHold_37 : decode cX2_canHold 37 = .ok (.iconst 1, 1) := by decide +kernel
theorem dX2_canHold_38 : decode cX2_canHold 38 = .ok (.goto 4, 3) := by decide +kernel
theorem dX2_canHold_41 : decode cX2_canHold 41 = .ok (.iconst 0, 1) := by decide +kernel
theorem dX2_canHold_42 : decode cX2_canHold 42 = .ok (.ireturn, 1) := by decide +kernel
theorem dX2_add_0 : decode cX2_add 0 = .ok (.aload_n 0, 1) := by decide +kernel
theorem dX2_add_1 : decode cX2_add 1 = .ok (.getfield 37, 3) := by decide +kernel
theorem dX2_add_4 : decode cX2_add 4 = .ok (.bipush 8, 2) := by decide +kernel
theorem dX2_add_6 : decode cX2_add 6 = .ok (.if_icmp .ge 54, 3) := by decide +kernel
theorem dX2_add_9 : decode cX2_add 9 = .ok (.aload_n 0, 1) := by decide +kernel
theorem dX2_add_10 : decode cX2_add 10 = .ok (.getfield 9, 3) := by decide +kernel
theorem dX2_add_13 : decode cX2_add 13 = .ok (.aload_n 0, 1) := by decide +kernel
theorem dX2_add_14 : decode cX2_add 14 = .ok (.getfield 37, 3) := by decide +kernel
theorem dX2_add_17 : decode cX2_add 17 = .ok (.iload_n 1, 1) := by decide +kernel
theorem dX2_add_18 : decode cX2_add 18 = .ok (.iastore, 1) := by decide +kernel
theorem dX2_add_19 : decode cX2_add 19 = .ok (.aload_n 0, 1) := by decide +kernel
theorem dX2_add_20 : decode cX2_add 20 = .ok (.getfield 15, 3) := by decide +kernel
theorem dX2_add_23 : decode cX2_add 23 = .ok (.aload_n 0, 1) := by decide +kernel
theorem dX2_add_24 : decode cX2_add 24 = .ok (.getfield 37, 3) := by decide +kernel
theorem dX2_add_27 : decode cX2_add 27 = .ok (.iload_n 2, 1) := by decide +kernel
theorem dX2_add_28 : decode cX2_add 28 = .ok (.iastore, 1) := by decide +kernel
