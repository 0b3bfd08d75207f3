theorem dX2_add_29 : decode cX2_add 29 = .ok (.aload_n 0, 1) := by decide +kernel
theorem dX2_add_30 : decode cX2_add 30 = .ok (.getfield 18, 3) := by decide +kernel
theorem dX2_add_33 : decode cX2_add 33 = .ok (.aload_n 0, 1) := by decide +kernel
theorem dX2_add_34 : decode cX2_add 34 = .ok (.getfield 37, 3) := by decide +kernel
theorem dX2_add_37 : decode cX2_add 37 = .ok (.iload_n 3, 1) := by decide +kernel
theorem dX2_add_38 : decode cX2_add 38 = .ok (.iastore, 1) := by decide +kernel
theorem dX2_add_39 : decode cX2_add 39 = .ok (.aload_n 0, 1) := by decide +kernel
theorem dX2_add_40 : decode cX2_add 40 = .ok (.getfield 21, 3) := by decide +kernel
theorem dX2_add_43 : decode cX2_add 43 = .ok (.aload_n 0, 1) := by decide +kernel
theorem dX2_add_44 : decode cX2_add 44 = .ok (.getfield 37, 3) := by decide +kernel
theorem dX2_add_47 : decode cX2_add 47 = .ok (.iload 4, 2) := by decide +kernel
theorem dX2_add_49 : decode cX2_add 49 = .ok (.iastore, 1) := by decide +kernel
theorem dX2_add_50 : decode cX2_add 50 = .ok (.aload_n 0, 1) := by decide +kernel
theorem dX2_add_51 : decode cX2_add 51 = .ok (.dup, 1) := by decide +kernel
theorem dX2_add_52 : decode cX2_add 52 = .ok (.getfield 37, 3) := by decide +kernel
theorem dX2_add_55 : decode cX2_add 55 = .ok (.iconst 1, 1) := by decide +kernel
theorem dX2_add_56 : decode cX2_add 56 = .ok (.iadd, 1) := by decide +kernel
theorem dX2_add_57 : decode cX2_add 57 = .ok (.putfield 37, 3) := by decide +kernel
theorem dX2_add_60 : decode cX2_add 60 = .ok (.return_, 1) := by decide +kernel
set_option maxRecDepth 20000 in
theorem ggX2_look_X2_frame : GoodIn wsX2_look wsX2_frame := goodIn_r _ [10, 11, 2, 1, 12, 13, 14, 15, 16, 17, 18, 19, 20, 21, 26, 27, 28, 29, 30, 31, 32, 33, 34, 35, 36] (by decide +kernel) (by decide +kernel)
set_option maxRecDepth 20000 in
theorem gX2_look_X2_frame : GoodIn wsX2_look (wsV RX2 43 RX2 yX2_frame wsX2_frame) := goodIn_app (goodIn_of _ (by decide +kernel)) ggX2_look_X2_frame
set_option maxRecDepth 20000 in
theorem ggX2_look_X2_anotherTouchesCut : GoodIn wsX2_look wsX2_anotherTouchesCut := goodIn_r _ [25, 2, 1, 12, 13, 11, 18, 26, 27, 28, 29, 30, 31, 32, 33, 34, 35, 36] (by decide +kernel) (by decide +kernel)
set_option maxRecDepth 20000 in
theorem gX2_look_X2_anotherTouchesCut : GoodIn wsX2_look (wsV RX2 46 RX2 yX2_anotherTouchesCut wsX2_anotherTouchesCut) := goodIn_app (goodIn_of _ (by decide +kernel)) ggX2_look_X2_anotherTouchesCut
theorem dX2_look_0 : decode cX2_look 0 = .ok (.aload_n 0, 1) := by decide +kernel
theorem dX2_look_1 : decode cX2_look 1 = .ok (.iconst 0, 1) := by decide +kernel
theorem dX2_look_2 : decode cX2_look 2 = .ok (.putfield 40, 3) := by decide +kernel
theorem dX2_look_5 : decode cX2_look 5 = .ok (.iconst 0, 1) := by decide +kernel
theorem dX2_look_6 : decode cX2_look 6 = .ok (.istore_n 2, 1) := by decide +kernel
theorem dX2_look_7 : decode cX2_look 7 = .ok (.iconst 0, 1) := by decide +kernel
theorem dX2_look_8 : decode cX2_look 8 = .ok (.istore_n 3, 1) := by decide +kernel
theorem dX2_look_9 : decode cX2_look 9 = .ok (.iload_n 3, 1) := by decide +kernel
theorem dX2_look_10 : decode cX2_look 10 = .ok (.aload_n 0, 1) := by decide +kernel
theorem dX2_look_11 : decode cX2_look 11 = .ok (.getfield 37, 3) := by decide +kernel
theorem dX2_look_14 : decode cX2_look 14 = .ok (.if_icmp .ge 62, 3) := by decide +kernel
theorem dX2_look_17 : decode cX2_look 17 = .ok (.aload_n 0, 1) := by decide +kernel
theorem dX2_look_18 : decode cX2_look 18 = .ok (.getfield 9, 3) := by decide +kernel
theorem dX2_look_21 : decode cX2_look 21 = .ok (.iload_n 3, 1) := by decide +kernel
theorem dX2_look_22 : decode cX2_look 22 = .ok (.iaload, 1) := by decide +kernel
theorem dX2_look_23 : decode cX2_look 23 = .ok (.istore 4, 2) := by decide +kernel
theorem dX2_look_25 : decode cX2_look 25 = .ok (.iload 4, 2) := by decide +kernel
theorem dX2_look_27 : decode cX2_look 27 = .ok (.ifCond .lt 43, 3) := by decide +kernel
theorem dX2_look_30 : decode cX2_look 30 = .ok (.iload 4, 2) := by decide +kernel
theorem dX2_look_32 : decode cX2_look 32 = .ok (.aload_n 1, 1) := by decide +kernel
theorem dX2_look_33 : decode cX2_look 33 = .ok (.arraylength, 1) := by decide +kernel
theorem dX2_look_34 : decode cX2_look 34 = .ok (.if_icmp .ge 36, 3) := by decide +kernel
theorem dX2_look_37 : decode cX2_look 37 = .ok (.aload_n 1, 1) := by decide +kernel
theorem dX2_look_38 : decode cX2_look 38 = .ok (.iload 4, 2) := by decide +kernel
theorem dX2_look_40 : decode cX2_look 40 = .ok (.iaload, 1) := by decide +kernel
theorem dX2_look_41 : decode cX2_look 41 = .ok (.aload_n 0, 1) := by decide +kernel
theorem dX2_look_42 : decode cX2_look 42 = .ok (.getfield 27, 3) := by decide +kernel
theorem dX2_look_45 : decode cX2_look 45 = .ok (.ishr, 1) := by decide +kernel
theorem dX2_look_46 : decode cX2_look 46 = .ok (.iconst 1, 1) := by decide +kernel
theorem dX2_look_47 : decode cX2_look 47 = .ok (.iand, 1) := by decide +kernel
theorem dX2_look_48 : decode cX2_look 48 = .ok (.ifCond .eq 22, 3) := by decide +kernel
theorem dX2_look_51 : decode cX2_look 51 = .ok (.aload_n 0, 1) := by decide +kernel
theorem dX2_look_52 : decode cX2_look 52 = .ok (.dup, 1) := by decide +kernel
theorem dX2_look_53 : decode cX2_look 53 = .ok (.getfield 40, 3) := by decide +kernel
theorem dX2_look_56 : decode cX2_look 56 = .ok (.iconst 1, 1) := by decide +kernel
theorem dX2_look_57 : decode cX2_look 57 = .ok (.iload_n 3, 1) := by decide +kernel
theorem dX2_look_58 : decode cX2_look 58 = .ok (.ishl, 1) := by decide +kernel
theorem dX2_look_59 : decode cX2_look 59 = .ok (.ior, 1) := by decide +kernel
theorem dX2_look_60 : decode cX2_look 60 = .ok (.putfield 40, 3) := by decide +kernel
theorem dX2_look_63 : decode cX2_look 63 = .ok (.iload_n 2, 1) := by decide +kernel
theorem dX2_look_64 : decode cX2_look 64 = .ok (.iconst 1, 1) := by decide +kernel
theorem dX2_look_65 : decode cX2_look 65 = .ok (.iload 4, 2) := by decide +kernel
theorem dX2_look_67 : decode cX2_look 67 = .ok (.ishl, 1) := by decide +kernel
theorem dX2_look_68 : decode cX2_look 68 = .ok (.ior, 1) := by decide +kernel
theorem dX2_look_69 : decode cX2_look 69 = .ok (.istore_n 2, 1) := by decide +kernel
theorem dX2_look_70 : decode cX2_look 70 = .ok (.iinc 3 1, 3) := by decide +kernel
theorem dX2_look_73 : decode cX2_look 73 = .ok (.goto (-64), 3) := by decide +kernel
theorem dX2_look_76 : decode cX2_look 76 = .ok (.aload_n 0, 1) := by decide +kernel
theorem dX2_look_77 : decode cX2_look 77 = .ok (.invokevirtual 43, 3) := by decide +kernel
theorem dX2_look_80 : decode cX2_look 80 = .ok (.aload_n 0, 1) := by decide +kernel
theorem dX2_look_81 : decode cX2_look 81 = .ok (.aload_n 0, 1) := by decide +kernel
theorem dX2_look_82 : decode cX2_look 82 = .ok (.invokevirtual 46, 3) := by decide +kernel
theorem dX2_look_85 : decode cX2_look 85 = .ok (.ifCond .eq 7, 3) := by decide +kernel
theorem dX2_look_88 : decode cX2_look 88 = .ok (.iconst 0, 1) := by decide +kernel
theorem dX2_look_89 : decode cX2_look 89 = .ok (.goto 4, 3) := by decide +kernel
theorem dX2_look_92 : decode cX2_look 92 = .ok (.iload_n 2, 1) := by decide +kernel
theorem dX2_look_93 : decode cX2_look 93 = .ok (.putfield 50, 3) := by decide +kernel
theorem dX2_look_96 : decode cX2_look 96 = .ok (.return_, 1) := by decide +kernel
theorem dX2_frame_0 : decode cX2_frame 0 = .ok (.aload_n 0, 1) := by decide +kernel
theorem dX2_frame_1 : decode cX2_frame 1 = .ok (.getfield 24, 3) := by decide +kernel
theorem dX2_frame_4 : decode cX2_frame 4 = .ok (.iconst 0, 1) := by decide +kernel
theorem dX2_frame_5 : decode cX2_frame 5 = .ok (.sipush 1000, 3) := by decide +kernel
theorem dX2_frame_8 : decode cX2_frame 8 = .ok (.iastore, 1) := by decide +kernel
theorem dX2_frame_9 : decode cX2_frame 9 = .ok (.aload_n 0, 1) := by decide +kernel
theorem dX2_frame_10 : decode cX2_frame 10 = .ok (.getfield 24, 3) := by decide +kernel
theorem dX2_frame_13 : decode cX2_frame 13 = .ok (.iconst 1, 1) := by decide +kernel
theorem dX2_frame_14 : decode cX2_frame 14 = .ok (.sipush 1000, 3) := by decide +kernel
theorem dX2_frame_17 : decode cX2_frame 17 = .ok (.iastore, 1) := by decide +kernel
theorem dX2_frame_18 : decode cX2_frame 18 = .ok (.aload_n 0, 1) := by decide +kernel
theorem dX2_frame_19 : decode cX2_frame 19 = .ok (.getfield 24, 3) := by decide +kernel
theorem dX2_frame_22 : decode cX2_frame 22 = .ok (.iconst 2, 1) := by decide +kernel
theorem dX2_frame_23 : decode cX2_frame 23 = .ok (.sipush (-1000), 3) := by decide +kernel
theorem dX2_frame_26 : decode cX2_frame 26 = .ok (.iastore, 1) := by decide +kernel
theorem dX2_frame_27 : decode cX2_frame 27 = .ok (.aload_n 0, 1) := by decide +kernel
theorem dX2_frame_28 : decode cX2_frame 28 = .ok (.getfield 24, 3) := by decide +kernel
theorem dX2_frame_31 : decode cX2_frame 31 = .ok (.iconst 3, 1) := by decide +kernel
theorem dX2_frame_32 : decode cX2_frame 32 = .ok (.sipush (-1000), 3) := by decide +kernel
theorem dX2_frame_35 : decode cX2_frame 35 = .ok (.iastore, 1) := by decide +kernel
theorem dX2_frame_36 : decode cX2_frame 36 = .ok (.iconst 0, 1) := by decide +kernel
theorem dX2_frame_37 : decode cX2_frame 37 = .ok (.istore_n 1, 1) := by decide +kernel
theorem dX2_frame_38 : decode cX2_frame 38 = .ok (.iload_n 1, 1) := by decide +kernel
theorem dX2_frame_39 : decode cX2_frame 39 = .ok (.aload_n 0, 1) := by decide +kernel
theorem dX2_frame_40 : decode cX2_frame 40 = .ok (.getfield 37, 3) := by decide +kernel
theorem dX2_frame_43 : decode cX2_frame 43 = .ok (.if_icmp .ge 132, 3) := by decide +kernel
theorem dX2_frame_46 : decode cX2_frame 46 = .ok (.aload_n 0, 1) := by decide +kernel
theorem dX2_frame_47 : decode cX2_frame 47 = .ok (.getfield 40, 3) := by decide +kernel
theorem dX2_frame_50 : decode cX2_frame 50 = .ok (.iload_n 1, 1) := by decide +kernel
theorem dX2_frame_51 : decode cX2_frame 51 = .ok (.ishr, 1) := by decide +kernel
theorem dX2_frame_52 : decode cX2_frame 52 = .ok (.iconst 1, 1) := by decide +kernel
theorem dX2_frame_53 : decode cX2_frame 53 = .ok (.iand, 1) := by decide +kernel
theorem dX2_frame_54 : decode cX2_frame 54 = .ok (.ifCond .eq 115, 3) := by decide +kernel
theorem dX2_frame_57 : decode cX2_frame 57 = .ok (.aload_n 0, 1) := by decide +kernel
theorem dX2_frame_58 : decode cX2_frame 58 = .ok (.getfield 24, 3) := by decide +kernel
theorem dX2_frame_61 : decode cX2_frame 61 = .ok (.iconst 0, 1) := by decide +kernel
theorem dX2_frame_62 : decode cX2_frame 62 = .ok (.aload_n 0, 1) := by decide +kernel
theorem dX2_frame_63 : decode cX2_frame 63 = .ok (.getfield 24, 3) := by decide +kernel
theorem dX2_frame_66 : decode cX2_frame 66 = .ok (.iconst 0, 1) := by decide +kernel
theorem dX2_frame_67 : decode cX2_frame 67 = .ok (.iaload, 1) := by decide +kernel
theorem dX2_frame_68 : decode cX2_frame 68 = .ok (.aload_n 0, 1) := by decide +kernel
theorem dX2_frame_69 : decode cX2_frame 69 = .ok (.getfield 15, 3) := by decide +kernel
theorem dX2_frame_72 : decode cX2_frame 72 = .ok (.iload_n 1, 1) := by decide +kernel
theorem dX2_frame_73 : decode cX2_frame 73 = .ok (.iaload, 1) := by decide +kernel
theorem dX2_frame_74 : decode cX2_frame 74 = .ok (.aload_n 0, 1) := by decide +kernel
theorem dX2_frame_75 : decode cX2_frame 75 = .ok (.getfield 21, 3) := by decide +kernel
theorem dX2_frame_78 : decode cX2_frame 78 = .ok (.iload_n 1, 1) := by decide +kernel
theorem dX2_frame_79 : decode cX2_frame 79 = .ok (.iaload, 1) := by decide +kernel
theorem dX2_frame_80 : decode cX2_frame 80 = .ok (.isub, 1) := by decide +kernel
theorem dX2_frame_81 : decode cX2_frame 81 = .ok (.invokestatic 53, 3) := by decide +kernel
theorem dX2_frame_84 : decode cX2_frame 84 = .ok (.iastore, 1) := by decide +kernel
theorem dX2_frame_85 : decode cX2_frame 85 = .ok (.aload_n 0, 1) := by decide +kernel
theorem dX2_frame_86 : decode cX2_frame 86 = .ok (.getfield 24, 3) := by decide +kernel
theorem dX2_frame_89 : decode cX2_frame 89 = .ok (.iconst 1, 1) := by decide +kernel
theorem dX2_frame_90 : decode cX2_frame 90 = .ok (.aload_n 0, 1) := by decide +kernel
theorem dX2_frame_91 : decode cX2_frame 91 = .ok (.getfield 24, 3) := by decide +kernel
theorem dX2_frame_94 : decode cX2_frame 94 = .ok (.iconst 1, 1) := by decide +kernel
theorem dX2_frame_95 : decode cX2_frame 95 = .ok (.iaload, 1) := by decide +kernel
theorem dX2_frame_96 : decode cX2_frame 96 = .ok (.aload_n 0, 1) := by decide +kernel
theorem dX2_frame_97 : decode cX2_frame 97 = .ok (.getfield 18, 3) := by decide +kernel
theorem dX2_frame_100 : decode cX2_frame 100 = .ok (.iload_n 1, 1) := by decide +kernel
theorem dX2_frame_101 : decode cX2_frame 101 = .ok (.iaload, 1) := by decide +kernel
theorem dX2_frame_102 : decode cX2_frame 102 = .ok (.aload_n 0, 1) := by decide +kernel
theorem dX2_frame_103 : decode cX2_frame 103 = .ok (.getfield 21, 3) := by decide +kernel
theorem dX2_frame_106 : decode cX2_frame 106 = .ok (.iload_n 1, 1) := by decide +kernel
theorem dX2_frame_107 : decode cX2_frame 107 = .ok (.iaload, 1) := by decide +kernel
theorem dX2_frame_108 : decode cX2_frame 108 = .ok (.isub, 1) := by decide +kernel
theorem dX2_frame_109 : decode cX2_frame 109 = .ok (.invokestatic 53, 3) := by decide +kernel
theorem dX2_frame_112 : decode cX2_frame 112 = .ok (.iastore, 1) := by decide +kernel
theorem dX2_frame_113 : decode cX2_frame 113 = .ok (.aload_n 0, 1) := by decide +kernel
theorem dX2_frame_114 : decode cX2_frame 114 = .ok (.getfield 24, 3) := by decide +kernel
theorem dX2_frame_117 : decode cX2_frame 117 = .ok (.iconst 2, 1) := by decide +kernel
theorem dX2_frame_118 : decode cX2_frame 118 = .ok (.aload_n 0, 1) := by decide +kernel
theorem dX2_frame_119 : decode cX2_frame 119 = .ok (.getfield 24, 3) := by decide +kernel
theorem dX2_frame_122 : decode cX2_frame 122 = .ok (.iconst 2, 1) := by decide +kernel
theorem dX2_frame_123 : decode cX2_frame 123 = .ok (.iaload, 1) := by decide +kernel
theorem dX2_frame_124 : decode cX2_frame 124 = .ok (.aload_n 0, 1) := by decide +kernel
theorem dX2_frame_125 : decode cX2_frame 125 = .ok (.getfield 15, 3) := by decide +kernel
theorem dX2_frame_128 : decode cX2_frame 128 = .ok (.iload_n 1, 1) := by decide +kernel
theorem dX2_frame_129 : decode cX2_frame 129 = .ok (.iaload, 1) := by decide +kernel
theorem dX2_frame_130 : decode cX2_frame 130 = .ok (.aload_n 0, 1) := by decide +kernel
theorem dX2_frame_131 : decode cX2_frame 131 = .ok (.getfield 21, 3) := by decide +kernel
theorem dX2_frame_134 : decode cX2_frame 134 = .ok (.iload_n 1, 1) := by decide +kernel
theorem dX2_frame_135 : decode cX2_frame 135 = .ok (.iaload, 1) := by decide +kernel
theorem dX2_frame_136 : decode cX2_frame 136 = .ok (.iadd, 1) := by decide +kernel
theorem dX2_frame_137 : decode cX2_frame 137 = .ok (.invokestatic 59, 3) := by decide +kernel
theorem dX2_frame_140 : decode cX2_frame 140 = .ok (.iastore, 1) := by decide +kernel
theorem dX2_frame_141 : decode cX2_frame 141 = .ok (.aload_n 0, 1) := by decide +kernel
theorem dX2_frame_142 : decode cX2_frame 142 = .ok (.getfield 24, 3) := by decide +kernel
theorem dX2_frame_145 : decode cX2_frame 145 = .ok (.iconst 3, 1) := by decide +kernel
theorem dX2_frame_146 : decode cX2_frame 146 = .ok (.aload_n 0, 1) := by decide +kernel
theorem dX2_frame_147 : decode cX2_frame 147 = .ok (.getfield 24, 3) := by decide +kernel
theorem dX2_frame_150 : decode cX2_frame 150 = .ok (.iconst 3, 1) := by decide +kernel
theorem dX2_frame_151 : decode cX2_frame 151 = .ok (.iaload, 1) := by decide +kernel
theorem dX2_frame_152 : decode cX2_frame 152 = .ok (.aload_n 0, 1) := by decide +kernel
theorem dX2_frame_153 : decode cX2_frame 153 = .ok (.getfield 18, 3) := by decide +kernel
theorem dX2_frame_156 : decode cX2_frame 156 = .ok (.iload_n 1, 1) := by decide +kernel
theorem dX2_frame_157 : decode cX2_frame 157 = .ok (.iaload, 1) := by decide +kernel
theorem dX2_frame_158 : decode cX2_frame 158 = .ok (.aload_n 0, 1) := by decide +kernel
theorem dX2_frame_159 : decode cX2_frame 159 = .ok (.getfield 21, 3) := by decide +kernel
theorem dX2_frame_162 : decode cX2_frame 162 = .ok (.iload_n 1, 1) := by decide +kernel
theorem dX2_frame_163 : decode cX2_frame 163 = .ok (.iaload, 1) := by decide +kernel
theorem dX2_frame_164 : decode cX2_frame 164 = .ok (.iadd, 1) := by decide +kernel
theorem dX2_frame_165 : decode cX2_frame 165 = .ok (.invokestatic 59, 3) := by decide +kernel
theorem dX2_frame_168 : decode cX2_frame 168 = .ok (.iastore, 1) := by decide +kernel
theorem dX2_frame_169 : decode cX2_frame 169 = .ok (.iinc 1 1, 3) := by decide +kernel
theorem dX2_frame_172 : decode cX2_frame 172 = .ok (.goto (-134), 3) := by decide +kernel
theorem dX2_frame_175 : decode cX2_frame 175 = .ok (.return_, 1) := by decide +kernel
theorem dX2_anotherTouchesCut_0 : decode cX2_anotherTouchesCut 0 = .ok (.iconst 0, 1) := by decide +kernel
theorem dX2_anotherTouchesCut_1 : decode cX2_anotherTouchesCut 1 = .ok (.istore_n 1, 1) := by decide +kernel
theorem dX2_anotherTouchesCut_2 : decode cX2_anotherTouchesCut 2 = .ok (.iload_n 1, 1) := by decide +kernel
theorem dX2_anotherTouchesCut_3 : decode cX2_anotherTouchesCut 3 = .ok (.aload_n 0, 1) := by decide +kernel
theorem dX2_anotherTouchesCut_4 : decode cX2_anotherTouchesCut 4 = .ok (.getfield 37, 3) := by decide +kernel
theorem dX2_anotherTouchesCut_7 : decode cX2_anotherTouchesCut 7 = .ok (.if_icmp .ge 110, 3) := by decide +kernel
theorem dX2_anotherTouchesCut_10 : decode cX2_anotherTouchesCut 10 = .ok (.aload_n 0, 1) := by decide +kernel
theorem dX2_anotherTouchesCut_11 : decode cX2_anotherTouchesCut 11 = .ok (.getfield 40, 3) := by decide +kernel
theorem dX2_anotherTouchesCut_14 : decode cX2_anotherTouchesCut 14 = .ok (.iload_n 1, 1) := by decide +kernel
theorem dX2_anotherTouchesCut_15 : decode cX2_anotherTouchesCut 15 = .ok (.ishr, 1) := by decide +kernel
theorem dX2_anotherTouchesCut_16 : decode cX2_anotherTouchesCut 16 = .ok (.iconst 1, 1) := by decide +kernel
theorem dX2_anotherTouchesCut_17 : decode cX2_anotherTouchesCut 17 = .ok (.iand, 1) := by decide +kernel
theorem dX2_anotherTouchesCut_18 : decode cX2_anotherTouchesCut 18 = .ok (.ifCond .ne 93, 3) := by decide +kernel
theorem dX2_anotherTouchesCut_21 : decode cX2_anotherTouchesCut 21 = .ok (.aload_n 0, 1) := by decide +kernel
theorem dX2_anotherTouchesCut_22 : decode cX2_anotherTouchesCut 22 = .ok (.getfield 15, 3) := by decide +kernel
theorem dX2_anotherTouchesCut_25 : decode cX2_anotherTouchesCut 25 = .ok (.iload_n 1, 1) := by decide +kernel
theorem dX2_anotherTouchesCut_26 : decode cX2_anotherTouchesCut 26 = .ok (.iaload, 1) := by decide +kernel
theorem dX2_anotherTouchesCut_27 : decode cX2_anotherTouchesCut 27 = .ok (.aload_n 0, 1) := by decide +kernel
theorem dX2_anotherTouchesCut_28 : decode cX2_anotherTouchesCut 28 = .ok (.getfield 21, 3) := by decide +kernel
theorem dX2_anotherTouchesCut_31 : decode cX2_anotherTouchesCut 31 = .ok (.iload_n 1, 1) := by decide +kernel
theorem dX2_anotherTouchesCut_32 : decode cX2_anotherTouchesCut 32 = .ok (.iaload, 1) := by decide +kernel
theorem dX2_anotherTouchesCut_33 : decode cX2_anotherTouchesCut 33 = .ok (.isub, 1) := by decide +kernel
theorem dX2_anotherTouchesCut_34 : decode cX2_anotherTouchesCut 34 = .ok (.aload_n 0, 1) := by decide +kernel
theorem dX2_anotherTouchesCut_35 : decode cX2_anotherTouchesCut 35 = .ok (.getfield 24, 3) := by decide +kernel
theorem dX2_anotherTouchesCut_38 : decode cX2_anotherTouchesCut 38 = .ok (.iconst 2, 1) := by decide +kernel
theorem dX2_anotherTouchesCut_39 : decode cX2_anotherTouchesCut 39 = .ok (.iaload, 1) := by decide +kernel
theorem dX2_anotherTouchesCut_40 : decode cX2_anotherTouchesCut 40 = .ok (.if_icmp .gt 71, 3) := by decide +kernel
theorem dX2_anotherTouchesCut_43 : decode cX2_anotherTouchesCut 43 = .ok (.aload_n 0, 1) := by decide +kernel
theorem dX2_anotherTouchesCut_44 : decode cX2_anotherTouchesCut 44 = .ok (.getfield 15, 3) := by decide +kernel
theorem dX2_anotherTouchesCut_47 : decode cX2_anotherTouchesCut 47 = .ok (.iload_n 1, 1) := by decide +kernel
theorem dX2_anotherTouchesCut_48 : decode cX2_anotherTouchesCut 48 = .ok (.iaload, 1) := by decide +kernel
theorem dX2_anotherTouchesCut_49 : decode cX2_anotherTouchesCut 49 = .ok (.aload_n 0, 1) := by decide +kernel
theorem dX2_anotherTouchesCut_50 : decode cX2_anotherTouchesCut 50 = .ok (.getfield 21, 3) := by decide +kernel
theorem dX2_anotherTouchesCut_53 : decode cX2_anotherTouchesCut 53 = .ok (.iload_n 1, 1) := by decide +kernel
theorem dX2_anotherTouchesCut_54 : decode cX2_anotherTouchesCut 54 = .ok (.iaload, 1) := by decide +kernel
theorem dX2_anotherTouchesCut_55 : decode cX2_anotherTouchesCut 55 = .ok (.iadd, 1) := by decide +kernel
theorem dX2_anotherTouchesCut_56 : decode cX2_anotherTouchesCut 56 = .ok (.aload_n 0, 1) := by decide +kernel
theorem dX2_anotherTouchesCut_57 : decode cX2_anotherTouchesCut 57 = .ok (.getfield 24, 3) := by decide +kernel
theorem dX2_anotherTouchesCut_60 : decode cX2_anotherTouchesCut 60 = .ok (.iconst 0, 1) := by decide +kernel
theorem dX2_anotherTouchesCut_61 : decode cX2_anotherTouchesCut 61 = .ok (.iaload, 1) := by decide +kernel
theorem dX2_anotherTouchesCut_62 : decode cX2_anotherTouchesCut 62 = .ok (.if_icmp .lt 49, 3) := by decide +kernel
theorem dX2_anotherTouchesCut_65 : decode cX2_anotherTouchesCut 65 = .ok (.aload_n 0, 1) := by decide +kernel
theorem dX2_anotherTouchesCut_66 : decode cX2_anotherTouchesCut 66 = .ok (.getfield 18, 3) := by decide +kernel
theorem dX2_anotherTouchesCut_69 : decode cX2_anotherTouchesCut 69 = .ok (.iload_n 1, 1) := by decide +kernel
theorem dX2_anotherTouchesCut_70 : decode cX2_anotherTouchesCut 70 = .ok (.iaload, 1) := by decide +kernel
theorem dX2_anotherTouchesCut_71 : decode cX2_anotherTouchesCut 71 = .ok (.aload_n 0, 1) := by decide +kernel
theorem dX2_anotherTouchesCut_72 : decode cX2_anotherTouchesCut 72 = .ok (.getfield 21, 3) := by decide +kernel
theorem dX2_anotherTouchesCut_75 : decode cX2_anotherTouchesCut 75 = .ok (.iload_n 1, 1) := by decide +kernel
theorem dX2_anotherTouchesCut_76 : decode cX2_anotherTouchesCut 76 = .ok (.iaload, 1) := by decide +kernel
theorem dX2_anotherTouchesCut_77 : decode cX2_anotherTouchesCut 77 = .ok (.isub, 1) := by decide +kernel
theorem dX2_anotherTouchesCut_78 : decode cX2_anotherTouchesCut 78 = .ok (.aload_n 0, 1) := by decide +kernel
theorem dX2_anotherTouchesCut_79 : decode cX2_anotherTouchesCut 79 = .ok (.getfield 24, 3) := by decide +kernel
theorem dX2_anotherTouchesCut_82 : decode cX2_anotherTouchesCut 82 = .ok (.iconst 3, 1) := by decide +kernel
theorem dX2_anotherTouchesCut_83 : decode cX2_anotherTouchesCut 83 = .ok (.iaload, 1) := by decide +kernel
theorem dX2_anotherTouchesCut_84 : decode cX2_anotherTouchesCut 84 = .ok (.if_icmp .gt 27, 3) := by decide +kernel
theorem dX2_anotherTouchesCut_87 : decode cX2_anotherTouchesCut 87 = .ok (.aload_n 0, 1) := by decide +kernel
theorem dX2_anotherTouchesCut_88 : decode cX2_anotherTouchesCut 88 = .ok (.getfield 18, 3) := by decide +kernel
theorem dX2_anotherTouchesCut_91 : decode cX2_anotherTouchesCut 91 = .ok (.iload_n 1, 1) := by decide +kernel
theorem dX2_anotherTouchesCut_92 : decode cX2_anotherTouchesCut 92 = .ok (.iaload, 1) := by decide +kernel
theorem dX2_anotherTouchesCut_93 : decode cX2_anotherTouchesCut 93 = .ok (.aload_n 0, 1) := by decide +kernel
theorem dX2_anotherTouchesCut_94 : decode cX2_anotherTouchesCut 94 = .ok (.getfield 21, 3) := by decide +kernel
theorem dX2_anotherTouchesCut_97 : decode cX2_anotherTouchesCut 97 = .ok (.iload_n 1, 1) := by decide +kernel
theorem dX2_anotherTouchesCut_98 : decode cX2_anotherTouchesCut 98 = .ok (.iaload, 1) := by decide +kernel
theorem dX2_anotherTouchesCut_99 : decode cX2_anotherTouchesCut 99 = .ok (.iadd, 1) := by decide +kernel
theorem dX2_anotherTouchesCut_100 : decode cX2_anotherTouchesCut 100 = .ok (.aload_n 0, 1) := by decide +kernel
theorem dX2_anotherTouchesCut_101 : decode cX2_anotherTouchesCut 101 = .ok (.getfield 24, 3) := by decide +kernel
theorem dX2_anotherTouchesCut_104 : decode cX2_anotherTouchesCut 104 = .ok (.iconst 1, 1) := by decide +kernel
theorem dX2_anotherTouchesCut_105 : decode cX2_anotherTouchesCut 105 = .ok (.iaload, 1) := by decide +kernel
theorem dX2_anotherTouchesCut_106 : decode cX2_anotherTouchesCut 106 = .ok (.if_icmp .lt 5, 3) := by decide +kernel
theorem dX2_anotherTouchesCut_109 : decode cX2_anotherTouchesCut 109 = .ok (.iconst 1, 1) := by decide +kernel
theorem dX2_anotherTouchesCut_110 : decode cX2_anotherTouchesCut 110 = .ok (.ireturn, 1) := by decide +kernel
theorem dX2_anotherTouchesCut_111 : decode cX2_anotherTouchesCut 111 = .ok (.iinc 1 1, 3) := by decide +kernel
theorem dX2_anotherTouchesCut_114 : decode cX2_anotherTouchesCut 114 = .ok (.goto (-112), 3) := by decide +kernel
theorem dX2_anotherTouchesCut_117 : decode cX2_anotherTouchesCut 117 = .ok (.iconst 0, 1) := by decide +kernel
theorem dX2_anotherTouchesCut_118 : decode cX2_anotherTouchesCut 118 = .ok (.ireturn, 1) := by decide +kernel
theorem dX2_edge_0 : decode cX2_edge 0 = .ok (.aload_n 0, 1) := by decide +kernel
theorem dX2_edge_1 : decode cX2_edge 1 = .ok (.getfield 40, 3) := by decide +kernel
theorem dX2_edge_4 : decode cX2_edge 4 = .ok (.ifCond .eq 16, 3) := by decide +kernel
theorem dX2_edge_7 : decode cX2_edge 7 = .ok (.iload_n 1, 1) := by decide +kernel
theorem dX2_edge_8 : decode cX2_edge 8 = .ok (.ifCond .lt 12, 3) := by decide +kernel
theorem dX2_edge_11 : decode cX2_edge 11 = .ok (.iload_n 1, 1) := by decide +kernel
theorem dX2_edge_12 : decode cX2_edge 12 = .ok (.aload_n 0, 1) := by decide +kernel
theorem dX2_edge_13 : decode cX2_edge 13 = .ok (.getfield 24, 3) := by decide +kernel
theorem dX2_edge_16 : decode cX2_edge 16 = .ok (.arraylength, 1) := by decide +kernel
theorem dX2_edge_17 : decode cX2_edge 17 = .ok (.if_icmp .lt 7, 3) := by decide +kernel
theorem dX2_edge_20 : decode cX2_edge 20 = .ok (.iconst (-1), 1) := by decide +kernel
theorem dX2_edge_21 : decode cX2_edge 21 = .ok (.goto 9, 3) := by decide +kernel
theorem dX2_edge_24 : decode cX2_edge 24 = .ok (.aload_n 0, 1) := by decide +kernel
theorem dX2_edge_25 : decode cX2_edge 25 = .ok (.getfield 24, 3) := by decide +kernel
theorem dX2_edge_28 : decode cX2_edge 28 = .ok (.iload_n 1, 1) := by decide +kernel
theorem dX2_edge_29 : decode cX2_edge 29 = .ok (.iaload, 1) := by decide +kernel
theorem dX2_edge_30 : decode cX2_edge 30 = .ok (.ireturn, 1) := by decide +kernel
set_option maxRecDepth 20000 in
theorem ggX2_nameAt_X2_topRow : GoodIn wsX2_nameAt wsX2_topRow := goodIn_r _ [6, 7, 8, 9, 10, 11, 12, 30, 31, 32, 33, 34, 35, 36, 37, 38, 39, 40] (by decide +kernel) (by decide +kernel)
set_option maxRecDepth 20000 in
theorem gX2_nameAt_X2_topRow : GoodIn wsX2_nameAt (wsV RX2 62 RX2 yX2_topRow wsX2_topRow) := goodIn_app (goodIn_of _ (by decide +kernel)) ggX2_nameAt_X2_topRow
set_option maxRecDepth 20000 in
theorem ggX2_nameAt_J6_bitCount_0f7a4 : GoodIn wsX2_nameAt wsJ6_bitCount_0f7a4 := goodIn_r _ [16, 17, 18, 19] (by decide +kernel) (by decide +kernel)
set_option maxRecDepth 20000 in
theorem gX2_nameAt_J6_bitCount_0f7a4 : GoodIn wsX2_nameAt (va_wsS RX2 65 yJ6_bitCount_0f7a4 wsJ6_bitCount_0f7a4) := goodIn_app (goodIn_of _ (by decide +kernel)) ggX2_nameAt_J6_bitCount_0f7a4
set_option maxRecDepth 20000 in
theorem ggX2_nameAt_X2_childInRow : GoodIn wsX2_nameAt wsX2_childInRow := goodIn_r _ [23, 7, 24, 25, 26, 27, 5, 28, 29, 30, 31, 32, 33, 34, 35, 36, 37, 38, 39, 40] (by decide +kernel) (by decide +kernel)
set_option maxRecDepth 20000 in
theorem gX2_nameAt_X2_childInRow : GoodIn wsX2_nameAt (wsV RX2 71 RX2 yX2_childInRow wsX2_childInRow) := goodIn_app (goodIn_of _ (by decide +kernel)) ggX2_nameAt_X2_childInRow
theorem dX2_nameAt_0 : decode cX2_nameAt 0 = .ok (.aload_n 0, 1) := by decide +kernel
theorem dX2_nameAt_1 : decode cX2_nameAt 1 = .ok (.getfield 40, 3) := by decide +kernel
theorem dX2_nameAt_4 : decode cX2_nameAt 4 = .ok (.istore_n 3, 1) := by decide +kernel
theorem dX2_nameAt_5 : decode cX2_nameAt 5 = .ok (.iload_n 1, 1) := by decide +kernel
theorem dX2_nameAt_6 : decode cX2_nameAt 6 = .ok (.istore 4, 2) := by decide +kernel
theorem dX2_nameAt_8 : decode cX2_nameAt 8 = .ok (.iconst 0, 1) := by decide +kernel
theorem dX2_nameAt_9 : decode cX2_nameAt 9 = .ok (.istore 5, 2) := by decide +kernel
theorem dX2_nameAt_11 : decode cX2_nameAt 11 = .ok (.iload 5, 2) := by decide +kernel
theorem dX2_nameAt_13 : decode cX2_nameAt 13 = .ok (.bipush 8, 2) := by decide +kernel
theorem dX2_nameAt_15 : decode cX2_nameAt 15 = .ok (.if_icmp .ge 58, 3) := by decide +kernel
theorem dX2_nameAt_18 : decode cX2_nameAt 18 = .ok (.iload_n 3, 1) := by decide +kernel
theorem dX2_nameAt_19 : decode cX2_nameAt 19 = .ok (.ifCond .eq 54, 3) := by decide +kernel
theorem dX2_nameAt_22 : decode cX2_nameAt 22 = .ok (.aload_n 0, 1) := by decide +kernel
theorem dX2_nameAt_23 : decode cX2_nameAt 23 = .ok (.iload_n 3, 1) := by decide +kernel
theorem dX2_nameAt_24 : decode cX2_nameAt 24 = .ok (.iload_n 2, 1) := by decide +kernel
theorem dX2_nameAt_25 : decode cX2_nameAt 25 = .ok (.invokevirtual 62, 3) := by decide +kernel
theorem dX2_nameAt_28 : decode cX2_nameAt 28 = .ok (.istore 6, 2) := by decide +kernel
theorem dX2_nameAt_30 : decode cX2_nameAt 30 = .ok (.iload 6, 2) := by decide +kernel
theorem dX2_nameAt_32 : decode cX2_nameAt 32 = .ok (.invokestatic 65, 3) := by decide +kernel
theorem dX2_nameAt_35 : decode cX2_nameAt 35 = .ok (.istore 7, 2) := by decide +kernel
theorem dX2_nameAt_37 : decode cX2_nameAt 37 = .ok (.iload 4, 2) := by decide +kernel
theorem dX2_nameAt_39 : decode cX2_nameAt 39 = .ok (.iload 7, 2) := by decide +kernel
theorem dX2_nameAt_41 : decode cX2_nameAt 41 = .ok (.if_icmp .ge 12, 3) := by decide +kernel
theorem dX2_nameAt_44 : decode cX2_nameAt 44 = .ok (.aload_n 0, 1) := by decide +kernel
theorem dX2_nameAt_45 : decode cX2_nameAt 45 = .ok (.iload 6, 2) := by decide +kernel
theorem dX2_nameAt_47 : decode cX2_nameAt 47 = .ok (.iload 4, 2) := by decide +kernel
theorem dX2_nameAt_49 : decode cX2_nameAt 49 = .ok (.invokevirtual 71, 3) := by decide +kernel
theorem dX2_nameAt_52 : decode cX2_nameAt 52 = .ok (.ireturn, 1) := by decide +kernel
theorem dX2_nameAt_53 : decode cX2_nameAt 53 = .ok (.iload 4, 2) := by decide +kernel
theorem dX2_nameAt_55 : decode cX2_nameAt 55 = .ok (.iload 7, 2) := by decide +kernel
theorem dX2_nameAt_57 : decode cX2_nameAt 57 = .ok (.isub, 1) := by decide +kernel
theorem dX2_nameAt_58 : decode cX2_nameAt 58 = .ok (.istore 4, 2) := by decide +kernel
theorem dX2_nameAt_60 : decode cX2_nameAt 60 = .ok (.iload_n 3, 1) := by decide +kernel
theorem dX2_nameAt_61 : decode cX2_nameAt 61 = .ok (.iload 6, 2) := by decide +kernel
theorem dX2_nameAt_63 : decode cX2_nameAt 63 = .ok (.iconst (-1), 1) := by decide +kernel
theorem dX2_nameAt_64 : decode cX2_nameAt 64 = .ok (.ixor, 1) := by decide +kernel
theorem dX2_nameAt_65 : decode cX2_nameAt 65 = .ok (.iand, 1) := by decide +kernel
theorem dX2_nameAt_66 : decode cX2_nameAt 66 = .ok (.istore_n 3, 1) := by decide +kernel
theorem dX2_nameAt_67 : decode cX2_nameAt 67 = .ok (.iinc 5 1, 3) := by decide +kernel
theorem dX2_nameAt_70 : decode cX2_nameAt 70 = .ok (.goto (-59), 3) := by decide +kernel
theorem dX2_nameAt_73 : decode cX2_nameAt 73 = .ok (.iconst (-1), 1) := by decide +kernel
theorem dX2_nameAt_74 : decode cX2_nameAt 74 = .ok (.ireturn, 1) := by decide +kernel
theorem dX2_topRow_0 : decode cX2_topRow 0 = .ok (.sipush 1000, 3) := by decide +kernel
theorem dX2_topRow_3 : decode cX2_topRow 3 = .ok (.istore_n 3, 1) := by decide +kernel
theorem dX2_topRow_4 : decode cX2_topRow 4 = .ok (.iconst 0, 1) := by decide +kernel
theorem dX2_topRow_5 : decode cX2_topRow 5 = .ok (.istore 4, 2) := by decide +kernel
theorem dX2_topRow_7 : decode cX2_topRow 7 = .ok (.iload 4, 2) := by decide +kernel
theorem dX2_topRow_9 : decode cX2_topRow 9 = .ok (.aload_n 0, 1) := by decide +kernel
theorem dX2_topRow_10 : decode cX2_topRow 10 = .ok (.getfield 37, 3) := by decide +kernel
theorem dX2_topRow_13 : decode cX2_topRow 13 = .ok (.if_icmp .ge 30, 3) := by decide +kernel
theorem dX2_topRow_16 : decode cX2_topRow 16 = .ok (.iload_n 1, 1) := by decide +kernel
theorem dX2_topRow_17 : decode cX2_topRow 17 = .ok (.iload 4, 2) := by decide +kernel
theorem dX2_topRow_19 : decode cX2_topRow 19 = .ok (.ishr, 1) := by decide +kernel
theorem dX2_topRow_20 : decode cX2_topRow 20 = .ok (.iconst 1, 1) := by decide +kernel
theorem dX2_topRow_21 : decode cX2_topRow 21 = .ok (.iand, 1) := by decide +kernel
theorem dX2_topRow_22 : decode cX2_topRow 22 = .ok (.ifCond .eq 15, 3) := by decide +kernel
theorem dX2_topRow_25 : decode cX2_topRow 25 = .ok (.iload_n 3, 1) := by decide +kernel
theorem dX2_topRow_26 : decode cX2_topRow 26 = .ok (.aload_n 0, 1) := by decide +kernel
theorem dX2_topRow_27 : decode cX2_topRow 27 = .ok (.getfield 18, 3) := by decide +kernel
theorem dX2_topRow_30 : decode cX2_topRow 30 = .ok (.iload 4, 2) := by decide +kernel
theorem dX2_topRow_32 : decode cX2_topRow 32 = .ok (.iaload, 1) := by decide +kernel
theorem dX2_topRow_33 : decode cX2_topRow 33 = .ok (.invokestatic 53, 3) := by decide +kernel
theorem dX2_topRow_36 : decode cX2_topRow 36 = .ok (.istore_n 3, 1) := by decide +kernel
theorem dX2_topRow_37 : decode cX2_topRow 37 = .ok (.iinc 4 1, 3) := by decide +kernel
theorem dX2_topRow_40 : decode cX2_topRow 40 = .ok (.goto (-33), 3) := by decide +kernel
theorem dX2_topRow_43 : decode cX2_topRow 43 = .ok (.iconst 0, 1) := by decide +kernel
theorem dX2_topRow_44 : decode cX2_topRow 44 = .ok (.istore 4, 2) := by decide +kernel
theorem dX2_topRow_46 : decode cX2_topRow 46 = .ok (.iconst 0, 1) := by decide +kernel
theorem dX2_topRow_47 : decode cX2_topRow 47 = .ok (.istore 5, 2) := by decide +kernel
theorem dX2_topRow_49 : decode cX2_topRow 49 = .ok (.iload 5, 2) := by decide +kernel
theorem dX2_topRow_51 : decode cX2_topRow 51 = .ok (.aload_n 0, 1) := by decide +kernel
theorem dX2_topRow_52 : decode cX2_topRow 52 = .ok (.getfield 37, 3) := by decide +kernel
theorem dX2_topRow_55 : decode cX2_topRow 55 = .ok (.if_icmp .ge 40, 3) := by decide +kernel
theorem dX2_topRow_58 : decode cX2_topRow 58 = .ok (.iload_n 1, 1) := by decide +kernel
theorem dX2_topRow_59 : decode cX2_topRow 59 = .ok (.iload 5, 2) := by decide +kernel
theorem dX2_topRow_61 : decode cX2_topRow 61 = .ok (.ishr, 1) := by decide +kernel
theorem dX2_topRow_62 : decode cX2_topRow 62 = .ok (.iconst 1, 1) := by decide +kernel
theorem dX2_topRow_63 : decode cX2_topRow 63 = .ok (.iand, 1) := by decide +kernel
theorem dX2_topRow_64 : decode cX2_topRow 64 = .ok (.ifCond .eq 25, 3) := by decide +kernel
theorem dX2_topRow_67 : decode cX2_topRow 67 = .ok (.aload_n 0, 1) := by decide +kernel
theorem dX2_topRow_68 : decode cX2_topRow 68 = .ok (.getfield 18, 3) := by decide +kernel
theorem dX2_topRow_71 : decode cX2_topRow 71 = .ok (.iload 5, 2) := by decide +kernel
theorem dX2_topRow_73 : decode cX2_topRow 73 = .ok (.iaload, 1) := by decide +kernel
theorem dX2_topRow_74 : decode cX2_topRow 74 = .ok (.iload_n 3, 1) := by decide +kernel
theorem dX2_topRow_75 : decode cX2_topRow 75 = .ok (.isub, 1) := by decide +kernel
theorem dX2_topRow_76 : decode cX2_topRow 76 = .ok (.iload_n 2, 1) := by decide +kernel
theorem dX2_topRow_77 : decode cX2_topRow 77 = .ok (.if_icmp .gt 12, 3) := by decide +kernel
theorem dX2_topRow_80 : decode cX2_topRow 80 = .ok (.iload 4, 2) := by decide +kernel
theorem dX2_topRow_82 : decode cX2_topRow 82 = .ok (.iconst 1, 1) := by decide +kernel
theorem dX2_topRow_83 : decode cX2_topRow 83 = .ok (.iload 5, 2) := by decide +kernel
theorem dX2_topRow_85 : decode cX2_topRow 85 = .ok (.ishl, 1) := by decide +kernel
theorem dX2_topRow_86 : decode cX2_topRow 86 = .ok (.ior, 1) := by decide +kernel
theorem dX2_topRow_87 : decode cX2_topRow 87 = .ok (.istore 4, 2) := by decide +kernel
theorem dX2_topRow_89 : decode cX2_topRow 89 = .ok (.iinc 5 1, 3) := by decide +kernel
theorem dX2_topRow_92 : decode cX2_topRow 92 = .ok (.goto (-43), 3) := by decide +kernel
theorem dX2_topRow_95 : decode cX2_topRow 95 = .ok (.iload 4, 2) := by decide +kernel
theorem dX2_topRow_97 : decode cX2_topRow 97 = .ok (.ireturn, 1) := by decide +kernel
set_option maxRecDepth 20000 in
theorem ggX2_childInRow_X2_leftOf : GoodIn wsX2_childInRow wsX2_leftOf := goodIn_r _ [7, 1, 8, 2, 9, 10, 11, 12, 13, 14, 15, 16, 17, 18, 19] (by decide +kernel) (by decide +kernel)
set_option maxRecDepth 20000 in
theorem gX2_childInRow_X2_leftOf : GoodIn wsX2_childInRow (wsV RX2 74 RX2 yX2_leftOf wsX2_leftOf) := goodIn_app (goodIn_of _ (by decide +kernel)) ggX2_childInRow_X2_leftOf
theorem dX2_childInRow_0 : decode cX2_childInRow 0 = .ok (.iconst 0, 1) := by decide +kernel
theorem dX2_childInRow_1 : decode cX2_childInRow 1 = .ok (.istore_n 3, 1) := by decide +kernel
theorem dX2_childInRow_2 : decode cX2_childInRow 2 = .ok (.iload_n 3, 1) := by decide +kernel
theorem dX2_childInRow_3 : decode cX2_childInRow 3 = .ok (.aload_n 0, 1) := by decide +kernel
theorem dX2_childInRow_4 : decode cX2_childInRow 4 = .ok (.getfield 37, 3) := by decide +kernel
theorem dX2_childInRow_7 : decode cX2_childInRow 7 = .ok (.if_icmp .ge 34, 3) := by decide +kernel
theorem dX2_childInRow_10 : decode cX2_childInRow 10 = .ok (.iload_n 1, 1) := by decide +kernel
theorem dX2_childInRow_11 : decode cX2_childInRow 11 = .ok (.iload_n 3, 1) := by decide +kernel
theorem dX2_childInRow_12 : decode cX2_childInRow 12 = .ok (.ishr, 1) := by decide +kernel
theorem dX2_childInRow_13 : decode cX2_childInRow 13 = .ok (.iconst 1, 1) := by decide +kernel
theorem dX2_childInRow_14 : decode cX2_childInRow 14 = .ok (.iand, 1) := by decide +kernel
theorem dX2_childInRow_15 : decode cX2_childInRow 15 = .ok (.ifCond .eq 20, 3) := by decide +kernel
theorem dX2_childInRow_18 : decode cX2_childInRow 18 = .ok (.aload_n 0, 1) := by decide +kernel
theorem dX2_childInRow_19 : decode cX2_childInRow 19 = .ok (.iload_n 3, 1) := by decide +kernel
theorem dX2_childInRow_20 : decode cX2_childInRow 20 = .ok (.iload_n 1, 1) := by decide +kernel
theorem dX2_childInRow_21 : decode cX2_childInRow 21 = .ok (.invokevirtual 74, 3) := by decide +kernel
theorem dX2_childInRow_24 : decode cX2_childInRow 24 = .ok (.iload_n 2, 1) := by decide +kernel
theorem dX2_childInRow_25 : decode cX2_childInRow 25 = .ok (.if_icmp .ne 10, 3) := by decide +kernel
theorem dX2_childInRow_28 : decode cX2_childInRow 28 = .ok (.aload_n 0, 1) := by decide +kernel
theorem dX2_childInRow_29 : decode cX2_childInRow 29 = .ok (.getfield 9, 3) := by decide +kernel
theorem dX2_childInRow_32 : decode cX2_childInRow 32 = .ok (.iload_n 3, 1) := by decide +kernel
theorem dX2_childInRow_33 : decode cX2_childInRow 33 = .ok (.iaload, 1) := by decide +kernel
theorem dX2_childInRow_34 : decode cX2_childInRow 34 = .ok (.ireturn, 1) := by decide +kernel
theorem dX2_childInRow_35 : decode cX2_childInRow 35 = .ok (.iinc 3 1, 3) := by decide +kernel
theorem dX2_childInRow_38 : decode cX2_childInRow 38 = .ok (.goto (-36), 3) := by decide +kernel
theorem dX2_childInRow_41 : decode cX2_childInRow 41 = .ok (.iconst (-1), 1) := by decide +kernel
theorem dX2_childInRow_42 : decode cX2_childInRow 42 = .ok (.ireturn, 1) := by decide +kernel
theorem dX2_leftOf_0 : decode cX2_leftOf 0 = .ok (.iconst 0, 1) := by decide +kernel
theorem dX2_leftOf_1 : decode cX2_leftOf 1 = .ok (.istore_n 3, 1) := by decide +kernel
theorem dX2_leftOf_2 : decode cX2_leftOf 2 = .ok (.iconst 0, 1) := by decide +kernel
theorem dX2_leftOf_3 : decode cX2_leftOf 3 = .ok (.istore 4, 2) := by decide +kernel
theorem dX2_leftOf_5 : decode cX2_leftOf 5 = .ok (.iload 4, 2) := by decide +kernel
theorem dX2_leftOf_7 : decode cX2_leftOf 7 = .ok (.aload_n 0, 1) := by decide +kernel
theorem dX2_leftOf_8 : decode cX2_leftOf 8 = .ok (.getfield 37, 3) := by decide +kernel
theorem dX2_leftOf_11 : decode cX2_leftOf 11 = .ok (.if_icmp .ge 69, 3) := by decide +kernel
theorem dX2_leftOf_14 : decode cX2_leftOf 14 = .ok (.iload_n 2, 1) := by decide +kernel
theorem dX2_leftOf_15 : decode cX2_leftOf 15 = .ok (.iload 4, 2) := by decide +kernel
theorem dX2_leftOf_17 : decode cX2_leftOf 17 = .ok (.ishr, 1) := by decide +kernel
theorem dX2_leftOf_18 : decode cX2_leftOf 18 = .ok (.iconst 1, 1) := by decide +kernel
theorem dX2_leftOf_19 : decode cX2_leftOf 19 = .ok (.iand, 1) := by decide +kernel
theorem dX2_leftOf_20 : decode cX2_leftOf 20 = .ok (.ifCond .eq 54, 3) := by decide +kernel
theorem dX2_leftOf_23 : decode cX2_leftOf 23 = .ok (.aload_n 0, 1) := by decide +kernel
theorem dX2_leftOf_24 : decode cX2_leftOf 24 = .ok (.getfield 15, 3) := by decide +kernel
theorem dX2_leftOf_27 : decode cX2_leftOf 27 = .ok (.iload 4, 2) := by decide +kernel
theorem dX2_leftOf_29 : decode cX2_leftOf 29 = .ok (.iaload, 1) := by decide +kernel
theorem dX2_leftOf_30 : decode cX2_leftOf 30 = .ok (.aload_n 0, 1) := by decide +kernel
theorem dX2_leftOf_31 : decode cX2_leftOf 31 = .ok (.getfield 15, 3) := by decide +kernel
theorem dX2_leftOf_34 : decode cX2_leftOf 34 = .ok (.iload_n 1, 1) := by decide +kernel
theorem dX2_leftOf_35 : decode cX2_leftOf 35 = .ok (.iaload, 1) := by decide +kernel
theorem dX2_leftOf_36 : decode cX2_leftOf 36 = .ok (.if_icmp .lt 35, 3) := by decide +kernel
theorem dX2_leftOf_39 : decode cX2_leftOf 39 = .ok (.aload_n 0, 1) := by decide +kernel
theorem dX2_leftOf_40 : decode cX2_leftOf 40 = .ok (.getfield 15, 3) := by decide +kernel
theorem dX2_leftOf_43 : decode cX2_leftOf 43 = .ok (.iload 4, 2) := by decide +kernel
theorem dX2_leftOf_45 : decode cX2_leftOf 45 = .ok (.iaload, 1) := by decide +kernel
theorem dX2_leftOf_46 : decode cX2_leftOf 46 = .ok (.aload_n 0, 1) := by decide +kernel
theorem dX2_leftOf_47 : decode cX2_leftOf 47 = .ok (.getfield 15, 3) := by decide +kernel
theorem dX2_leftOf_50 : decode cX2_leftOf 50 = .ok (.iload_n 1, 1) := by decide +kernel
theorem dX2_leftOf_51 : decode cX2_leftOf 51 = .ok (.iaload, 1) := by decide +kernel
theorem dX2_leftOf_52 : decode cX2_leftOf 52 = .ok (.if_icmp .ne 22, 3) := by decide +kernel
theorem dX2_leftOf_55 : decode cX2_leftOf 55 = .ok (.aload_n 0, 1) := by decide +kernel
theorem dX2_leftOf_56 : decode cX2_leftOf 56 = .ok (.getfield 9, 3) := by decide +kernel
theorem dX2_leftOf_59 : decode cX2_leftOf 59 = .ok (.iload 4, 2) := by decide +kernel
theorem dX2_leftOf_61 : decode cX2_leftOf 61 = .ok (.iaload, 1) := by decide +kernel
theorem dX2_leftOf_62 : decode cX2_leftOf 62 = .ok (.aload_n 0, 1) := by decide +kernel
theorem dX2_leftOf_63 : decode cX2_leftOf 63 = .ok (.getfield 9, 3) := by decide +kernel
theorem dX2_leftOf_66 : decode cX2_leftOf 66 = .ok (.iload_n 1, 1) := by decide +kernel
theorem dX2_leftOf_67 : decode cX2_leftOf 67 = .ok (.iaload, 1) := by decide +kernel
theorem dX2_leftOf_68 : decode cX2_leftOf 68 = .ok (.if_icmp .ge 6, 3) := by decide +kernel
theorem dX2_leftOf_71 : decode cX2_leftOf 71 = .ok (.iinc 3 1, 3) := by decide +kernel
theorem dX2_leftOf_74 : decode cX2_leftOf 74 = .ok (.iinc 4 1, 3) := by decide +kernel
theorem dX2_leftOf_77 : decode cX2_leftOf 77 = .ok (.goto (-72), 3) := by decide +kernel
theorem dX2_leftOf_80 : decode cX2_leftOf 80 = .ok (.iload_n 3, 1) := by decide +kernel
theorem dX2_leftOf_81 : decode cX2_leftOf 81 = .ok (.ireturn, 1) := by decide +kernel
set_option maxRecDepth 20000 in
theorem ggX3_init_X0_init : GoodIn wsX3_init wsX0_init := goodIn_r _ [19, 20, 2, 3, 4, 21, 22, 23, 24, 25, 26, 27, 28, 44, 45, 46, 47, 48, 49, 50, 51, 52, 53, 54, 55, 56, 57] (by decide +kernel) (by decide +kernel)
set_option maxRecDepth 20000 in
theorem gX3_init_X0_init_n27 : GoodIn wsX3_init (wsX0_init) := ggX3_init_X0_init
set_option maxRecDepth 20000 in
theorem ggX3_init_X1_init : GoodIn wsX3_init wsX1_init := goodIn_r _ [30, 31, 2, 3, 4, 32, 33, 34, 58, 59, 60, 61, 62, 63, 64, 65, 66, 67] (by decide +kernel) (by decide +kernel)
set_option maxRecDepth 20000 in
theorem gX3_init_X1_init_n34 : GoodIn wsX3_init (wsX1_init) := ggX3_init_X1_init
theorem dX3_init_0 : decode cX3_init 0 = .ok (.aload_n 0, 1) := by decide +kernel
theorem dX3_init_1 : decode cX3_init 1 = .ok (.invokespecial 1, 3) := by decide +kernel
theorem dX3_init_4 : decode cX3_init 4 = .ok (.aload_n 0, 1) := by decide +kernel
theorem dX3_init_5 : decode cX3_init 5 = .ok (.bipush 16, 2) := by decide +kernel
theorem dX3_init_7 : decode cX3_init 7 = .ok (.newarray .int, 2) := by decide +kernel
theorem dX3_init_9 : decode cX3_init 9 = .ok (.putfield 9, 3) := by decide +kernel
theorem dX3_init_12 : decode cX3_init 12 = .ok (.aload_n 0, 1) := by decide +kernel
theorem dX3_init_13 : decode cX3_init 13 = .ok (.bipush 16, 2) := by decide +kernel
theorem dX3_init_15 : decode cX3_init 15 = .ok (.newarray .int, 2) := by decide +kernel
theorem dX3_init_17 : decode cX3_init 17 = .ok (.putfield 13, 3) := by decide +kernel
theorem dX3_init_20 : decode cX3_init 20 = .ok (.aload_n 0, 1) := by decide +kernel
theorem dX3_init_21 : decode cX3_init 21 = .ok (.bipush 14, 2) := by decide +kernel
theorem dX3_init_23 : decode cX3_init 23 = .ok (.anewarray 16, 3) := by decide +kernel
theorem dX3_init_26 : decode cX3_init 26 = .ok (.putfield 18, 3) := by decide +kernel
theorem dX3_init_29 : decode cX3_init 29 = .ok (.aload_n 0, 1) := by decide +kernel
theorem dX3_init_30 : decode cX3_init 30 = .ok (.iconst 4, 1) := by decide +kernel
theorem dX3_init_31 : decode cX3_init 31 = .ok (.newarray .int, 2) := by decide +kernel
theorem dX3_init_33 : decode cX3_init 33 = .ok (.dup, 1) := by decide +kernel
theorem dX3_init_34 : decode cX3_init 34 = .ok (.iconst 0, 1) := by decide +kernel
theorem dX3_init_35 : decode cX3_init 35 = .ok (.bipush 10, 2) := by decide +kernel
theorem dX3_init_37 : decode cX3_init 37 = .ok (.iastore, 1) := by decide +kernel
theorem dX3_init_38 : decode cX3_init 38 = .ok (.dup, 1) := by decide +kernel
theorem dX3_init_39 : decode cX3_init 39 = .ok (.iconst 1, 1) := by decide +kernel
theorem dX3_init_40 : decode cX3_init 40 = .ok (.iconst 0, 1) := by decide +kernel
theorem dX3_init_41 : decode cX3_init 41 = .ok (.iastore, 1) := by decide +kernel
theorem dX3_init_42 : decode cX3_init 42 = .ok (.dup, 1) := by decide +kernel
theorem dX3_init_43 : decode cX3_init 43 = .ok (.iconst 2, 1) := by decide +kernel
theorem dX3_init_44 : decode cX3_init 44 = .ok (.bipush 14, 2) := by decide +kernel
theorem dX3_init_46 : decode cX3_init 46 = .ok (.iastore, 1) := by decide +kernel
theorem dX3_init_47 : decode cX3_init 47 = .ok (.dup, 1) := by decide +kernel
theorem dX3_init_48 : decode cX3_init 48 = .ok (.iconst 3, 1) := by decide +kernel
theorem dX3_init_49 : decode cX3_init 49 = .ok (.bipush 14, 2) := by decide +kernel
theorem dX3_init_51 : decode cX3_init 51 = .ok (.iastore, 1) := by decide +kernel
theorem dX3_init_52 : decode cX3_init 52 = .ok (.putfield 22, 3) := by decide +kernel
theorem dX3_init_55 : decode cX3_init 55 = .ok (.aload_n 0, 1) := by decide +kernel
theorem dX3_init_56 : decode cX3_init 56 = .ok (.new 25, 3) := by decide +kernel
theorem dX3_init_59 : decode cX3_init 59 = .ok (.dup, 1) := by decide +kernel
theorem dX3_init_60 : decode cX3_init 60 = .ok (.invokespecial 27, 3) := by decide +kernel
theorem dX3_init_63 : decode cX3_init 63 = .ok (.putfield 28, 3) := by decide +kernel
theorem dX3_init_66 : decode cX3_init 66 = .ok (.aload_n 0, 1) := by decide +kernel
theorem dX3_init_67 : decode cX3_init 67 = .ok (.new 32, 3) := by decide +kernel
theorem dX3_init_70 : decode cX3_init 70 = .ok (.dup, 1) := by decide +kernel
theorem dX3_init_71 : decode cX3_init 71 = .ok (.invokespecial 34, 3) := by decide +kernel
theorem dX3_init_74 : decode cX3_init 74 = .ok (.putfield 35, 3) := by decide +kernel
theorem dX3_init_77 : decode cX3_init 77 = .ok (.return_, 1) := by decide +kernel
set_option maxRecDepth 20000 in
theorem ggX3_child_X3_within : GoodIn wsX3_child wsX3_within := goodIn_r _ [7] (by decide +kernel) (by decide +kernel)
set_option maxRecDepth 20000 in
theorem gX3_child_X3_within : GoodIn wsX3_child (va_wsS RX3 39 yX3_within wsX3_within) := goodIn_app (goodIn_of _ (by decide +kernel)) ggX3_child_X3_within
theorem dX3_child_0 : decode cX3_child 0 = .ok (.iload_n 1, 1) := by decide +kernel
theorem dX3_child_1 : decode cX3_child 1 = .ok (.iconst 0, 1) := by decide +kernel
theorem dX3_child_2 : decode cX3_child 2 = .ok (.bipush 9, 2) := by decide +kernel
theorem dX3_child_4 : decode cX3_child 4 = .ok (.invokestatic 39, 3) := by decide +kernel
theorem dX3_child_7 : decode cX3_child 7 = .ok (.ifCond .eq 12, 3) := by decide +kernel
theorem dX3_child_10 : decode cX3_child 10 = .ok (.aload_n 0, 1) := by decide +kernel
theorem dX3_child_11 : decode cX3_child 11 = .ok (.getfield 43, 3) := by decide +kernel
theorem dX3_child_14 : decode cX3_child 14 = .ok (.bipush 16, 2) := by decide +kernel
theorem dX3_child_16 : decode cX3_child 16 = .ok (.if_icmp .lt 5, 3) := by decide +kernel
theorem dX3_child_19 : decode cX3_child 19 = .ok (.iconst (-1), 1) := by decide +kernel
theorem dX3_child_20 : decode cX3_child 20 = .ok (.ireturn, 1) := by decide +kernel
theorem dX3_child_21 : decode cX3_child 21 = .ok (.aload_n 0, 1) := by decide +kernel
theorem dX3_child_22 : decode cX3_child 22 = .ok (.getfield 9, 3) := by decide +kernel
theorem dX3_child_25 : decode cX3_child 25 = .ok (.aload_n 0, 1) := by decide +kernel
theorem dX3_child_26 : decode cX3_child 26 = .ok (.getfield 43, 3) := by decide +kernel
theorem dX3_child_29 : decode cX3_child 29 = .ok (.iload_n 1, 1) := by decide +kernel
theorem dX3_child_30 : decode cX3_child 30 = .ok (.iastore, 1) := by decide +kernel
theorem dX3_child_31 : decode cX3_child 31 = .ok (.aload_n 0, 1) := by decide +kernel
theorem dX3_child_32 : decode cX3_child 32 = .ok (.getfield 13, 3) := by decide +kernel
theorem dX3_child_35 : decode cX3_child 35 = .ok (.aload_n 0, 1) := by decide +kernel
theorem dX3_child_36 : decode cX3_child 36 = .ok (.getfield 43, 3) := by decide +kernel
theorem dX3_child_39 : decode cX3_child 39 = .ok (.bipush 7, 2) := by decide +kernel
theorem dX3_child_41 : decode cX3_child 41 = .ok (.iastore, 1) := by decide +kernel
theorem dX3_child_42 : decode cX3_child 42 = .ok (.aload_n 0, 1) := by decide +kernel
theorem dX3_child_43 : decode cX3_child 43 = .ok (.dup, 1) := by decide +kernel
theorem dX3_child_44 : decode cX3_child 44 = .ok (.getfield 43, 3) := by decide +kernel
theorem dX3_child_47 : decode cX3_child 47 = .ok (.dup_x1, 1) := by decide +kernel
theorem dX3_child_48 : decode cX3_child 48 = .ok (.iconst 1, 1) := by decide +kernel
theorem dX3_child_49 : decode cX3_child 49 = .ok (.iadd, 1) := by decide +kernel
theorem dX3_child_50 : decode cX3_child 50 = .ok (.putfield 43, 3) := by decide +kernel
theorem dX3_child_53 : decode cX3_child 53 = .ok (.ireturn, 1) := by decide +kernel
set_option maxRecDepth 20000 in
theorem ggX3_consent_X3_isChild : GoodIn wsX3_consent wsX3_isChild := goodIn_r _ [7, 8, 46, 47, 48, 49, 50, 51, 52, 53, 54] (by decide +kernel) (by decide +kernel)
set_option maxRecDepth 20000 in
theorem gX3_consent_X3_isChild : GoodIn wsX3_consent (wsV RX3 47 RX3 yX3_isChild wsX3_isChild) := goodIn_app (goodIn_of _ (by decide +kernel)) ggX3_consent_X3_isChild
set_option maxRecDepth 20000 in
theorem ggX3_consent_X3_within : GoodIn wsX3_consent wsX3_within := goodIn_r _ [11] (by decide +kernel) (by decide +kernel)
set_option maxRecDepth 20000 in
theorem gX3_consent_X3_within : GoodIn wsX3_consent (va_wsS RX3 39 yX3_within wsX3_within) := goodIn_app (goodIn_of _ (by decide +kernel)) ggX3_consent_X3_within
set_option maxRecDepth 20000 in
theorem ggX3_consent_X3_pictureAt : GoodIn wsX3_consent wsX3_pictureAt := goodIn_r _ [15, 2, 16, 46, 47, 48, 49, 50, 51, 52, 53, 54] (by decide +kernel) (by decide +kernel)
set_option maxRecDepth 20000 in
theorem gX3_consent_X3_pictureAt : GoodIn wsX3_consent (wsV RX3 54 RX3 yX3_pictureAt wsX3_pictureAt) := goodIn_app (goodIn_of _ (by decide +kernel)) ggX3_consent_X3_pictureAt
set_option maxRecDepth 20000 in
theorem ggX3_consent_X2_look : GoodIn wsX3_consent wsX2_look := goodIn_r _ [21, 22, 23, 24, 25, 26, 27, 28, 29, 20, 30, 31, 32, 33, 34, 35, 36, 37, 38, 39, 40, 41, 42, 43, 44, 45, 55, 56, 57, 58, 59, 60, 61, 62, 63, 64, 65] (by decide +kernel) (by decide +kernel)
set_option maxRecDepth 20000 in
theorem gX3_consent_X2_look : GoodIn wsX3_consent (wsV RX3 58 RX2 yX2_look wsX2_look) := goodIn_app (goodIn_of _ (by decide +kernel)) ggX3_consent_X2_look
theorem dX3_consent_0 : decode cX3_consent 0 = .ok (.aload_n 0, 1) := by decide +kernel
theorem dX3_consent_1 : decode cX3_consent 1 = .ok (.iload_n 1, 1) := by decide +kernel
theorem dX3_consent_2 : decode cX3_consent 2 = .ok (.invokevirtual 47, 3) := by decide +kernel
theorem dX3_consent_5 : decode cX3_consent 5 = .ok (.ifCond .eq 13, 3) := by decide +kernel
theorem dX3_consent_8 : decode cX3_consent 8 = .ok (.iload_n 2, 1) := by decide +kernel
theorem dX3_consent_9 : decode cX3_consent 9 = .ok (.iconst 0, 1) := by decide +kernel
theorem dX3_consent_10 : decode cX3_consent 10 = .ok (.bipush 7, 2) := by decide +kernel
theorem dX3_consent_12 : decode cX3_consent 12 = .ok (.invokestatic 39, 3) := by decide +kernel
theorem dX3_consent_15 : decode cX3_consent 15 = .ok (.ifCond .ne 5, 3) := by decide +kernel
theorem dX3_consent_18 : decode cX3_consent 18 = .ok (.iconst (-1), 1) := by decide +kernel
theorem dX3_consent_19 : decode cX3_consent 19 = .ok (.ireturn, 1) := by decide +kernel
theorem dX3_consent_20 : decode cX3_consent 20 = .ok (.aload_n 0, 1) := by decide +kernel
theorem dX3_consent_21 : decode cX3_consent 21 = .ok (.getfield 13, 3) := by decide +kernel
theorem dX3_consent_24 : decode cX3_consent 24 = .ok (.iload_n 1, 1) := by decide +kernel
theorem dX3_consent_25 : decode cX3_consent 25 = .ok (.iaload, 1) := by decide +kernel
theorem dX3_consent_26 : decode cX3_consent 26 = .ok (.istore_n 3, 1) := by decide +kernel
theorem dX3_consent_27 : decode cX3_consent 27 = .ok (.aload_n 0, 1) := by decide +kernel
theorem dX3_consent_28 : decode cX3_consent 28 = .ok (.getfield 13, 3) := by decide +kernel
theorem dX3_consent_31 : decode cX3_consent 31 = .ok (.iload_n 1, 1) := by decide +kernel
theorem dX3_consent_32 : decode cX3_consent 32 = .ok (.iload_n 2, 1) := by decide +kernel
theorem dX3_consent_33 : decode cX3_consent 33 = .ok (.iastore, 1) := by decide +kernel
theorem dX3_consent_34 : decode cX3_consent 34 = .ok (.iconst 0, 1) := by decide +kernel
theorem dX3_consent_35 : decode cX3_consent 35 = .ok (.istore 4, 2) := by decide +kernel
theorem dX3_consent_37 : decode cX3_consent 37 = .ok (.iload 4, 2) := by decide +kernel
theorem dX3_consent_39 : decode cX3_consent 39 = .ok (.aload_n 0, 1) := by decide +kernel
theorem dX3_consent_40 : decode cX3_consent 40 = .ok (.getfield 51, 3) := by decide +kernel
theorem dX3_consent_43 : decode cX3_consent 43 = .ok (.if_icmp .ge 31, 3) := by decide +kernel
theorem dX3_consent_46 : decode cX3_consent 46 = .ok (.aload_n 0, 1) := by decide +kernel
theorem dX3_consent_47 : decode cX3_consent 47 = .ok (.iload 4, 2) := by decide +kernel
theorem dX3_consent_49 : decode cX3_consent 49 = .ok (.invokevirtual 54, 3) := by decide +kernel
theorem dX3_consent_52 : decode cX3_consent 52 = .ok (.astore 5, 2) := by decide +kernel
theorem dX3_consent_54 : decode cX3_consent 54 = .ok (.aload 5, 2) := by decide +kernel
theorem dX3_consent_56 : decode cX3_consent 56 = .ok (.ifnull 12, 3) := by decide +kernel
theorem dX3_consent_59 : decode cX3_consent 59 = .ok (.aload 5, 2) := by decide +kernel
theorem dX3_consent_61 : decode cX3_consent 61 = .ok (.aload_n 0, 1) := by decide +kernel
theorem dX3_consent_62 : decode cX3_consent 62 = .ok (.getfield 13, 3) := by decide +kernel
theorem dX3_consent_65 : decode cX3_consent 65 = .ok (.invokevirtual 58, 3) := by decide +kernel
theorem dX3_consent_68 : decode cX3_consent 68 = .ok (.iinc 4 1, 3) := by decide +kernel
theorem dX3_consent_71 : decode cX3_consent 71 = .ok (.goto (-34), 3) := by decide +kernel
theorem dX3_consent_74 : decode cX3_consent 74 = .ok (.iload_n 3, 1) := by decide +kernel
theorem dX3_consent_75 : decode cX3_consent 75 = .ok (.ireturn, 1) := by decide +kernel
set_option maxRecDepth 20000 in
theorem ggX3_picture_X3_within : GoodIn wsX3_picture wsX3_within := goodIn_r _ [10] (by decide +kernel) (by decide +kernel)
set_option maxRecDepth 20000 in
theorem gX3_picture_X3_within : GoodIn wsX3_picture (va_wsS RX3 39 yX3_within wsX3_within) := goodIn_app (goodIn_of _ (by decide +kernel)) ggX3_picture_X3_within
set_option maxRecDepth 20000 in
theorem ggX3_picture_X2_init : GoodIn wsX3_picture wsX2_init := goodIn_r _ [13, 14, 15, 16, 17, 18, 19, 20, 21, 22, 23, 24, 25, 42, 43, 44, 45, 46, 47, 48, 49, 50, 51, 52] (by decide +kernel) (by decide +kernel)
set_option maxRecDepth 20000 in
theorem gX3_picture_X2_init : GoodIn wsX3_picture (wsX2_init) := ggX3_picture_X2_init
set_option maxRecDepth 20000 in
theorem ggX3_picture_X1_hearOf : GoodIn wsX3_picture wsX1_hearOf := goodIn_r _ [30, 31, 32, 53, 54, 55, 56, 57, 58, 59, 60, 61, 62] (by decide +kernel) (by decide +kernel)
set_option maxRecDepth 20000 in
theorem gX3_picture_X1_hearOf : GoodIn wsX3_picture (wsV RX3 65 RX1 yX1_hearOf wsX1_hearOf) := goodIn_app (goodIn_of _ (by decide +kernel)) ggX3_picture_X1_hearOf
theorem dX3_picture_0 : decode cX3_picture 0 = .ok (.iload_n 1, 1) := by decide +kernel
theorem dX3_picture_1 : decode cX3_picture 1 = .ok (.iconst 0, 1) := by decide +kernel
theorem dX3_picture_2 : decode cX3_picture 2 = .ok (.iconst 2, 1) := by decide +kernel
theorem dX3_picture_3 : decode cX3_picture 3 = .ok (.invokestatic 39, 3) := by decide +kernel
theorem dX3_picture_6 : decode cX3_picture 6 = .ok (.ifCond .eq 32, 3) := by decide +kernel
theorem dX3_picture_9 : decode cX3_picture 9 = .ok (.iload_n 2, 1) := by decide +kernel
theorem dX3_picture_10 : decode cX3_picture 10 = .ok (.iconst 0, 1) := by decide +kernel
theorem dX3_picture_11 : decode cX3_picture 11 = .ok (.bipush 100, 2) := by decide +kernel
theorem dX3_picture_13 : decode cX3_picture 13 = .ok (.invokestatic 39, 3) := by decide +kernel
theorem dX3_picture_16 : decode cX3_picture 16 = .ok (.ifCond .eq 22, 3) := by decide +kernel
theorem dX3_picture_19 : decode cX3_picture 19 = .ok (.iload_n 3, 1) := by decide +kernel
theorem dX3_picture_20 : decode cX3_picture 20 = .ok (.iconst 1, 1) := by decide +kernel
theorem dX3_picture_21 : decode cX3_picture 21 = .ok (.bipush 12, 2) := by decide +kernel
theorem dX3_picture_23 : decode cX3_picture 23 = .ok (.invokestatic 39, 3) := by decide +kernel
theorem dX3_picture_26 : decode cX3_picture 26 = .ok (.ifCond .eq 12, 3) := by decide +kernel
theorem dX3_picture_29 : decode cX3_picture 29 = .ok (.aload_n 0, 1) := by decide +kernel
theorem dX3_picture_30 : decode cX3_picture 30 = .ok (.getfield 51, 3) := by decide +kernel
theorem dX3_picture_33 : decode cX3_picture 33 = .ok (.bipush 14, 2) := by decide +kernel
theorem dX3_picture_35 : decode cX3_picture 35 = .ok (.if_icmp .lt 5, 3) := by decide +kernel
theorem dX3_picture_38 : decode cX3_picture 38 = .ok (.iconst (-1), 1) := by decide +kernel
theorem dX3_picture_39 : decode cX3_picture 39 = .ok (.ireturn, 1) := by decide +kernel
theorem dX3_picture_40 : decode cX3_picture 40 = .ok (.aload_n 0, 1) := by decide +kernel
theorem dX3_picture_41 : decode cX3_picture 41 = .ok (.getfield 18, 3) := by decide +kernel
theorem dX3_picture_44 : decode cX3_picture 44 = .ok (.aload_n 0, 1) := by decide +kernel
theorem dX3_picture_45 : decode cX3_picture 45 = .ok (.getfield 51, 3) := by decide +kernel
theorem dX3_picture_48 : decode cX3_picture 48 = .ok (.new 16, 3) := by decide +kernel
theorem dX3_picture_51 : decode cX3_picture 51 = .ok (.dup, 1) := by decide +kernel
theorem dX3_picture_52 : decode cX3_picture 52 = .ok (.iload_n 1, 1) := by decide +kernel
theorem dX3_picture_53 : decode cX3_picture 53 = .ok (.iload_n 2, 1) := by decide +kernel
theorem dX3_picture_54 : decode cX3_picture 54 = .ok (.iload_n 3, 1) := by decide +kernel
theorem dX3_picture_55 : decode cX3_picture 55 = .ok (.invokespecial 62, 3) := by decide +kernel
theorem dX3_picture_58 : decode cX3_picture 58 = .ok (.aastore, 1) := by decide +kernel
theorem dX3_picture_59 : decode cX3_picture 59 = .ok (.aload_n 0, 1) := by decide +kernel
theorem dX3_picture_60 : decode cX3_picture 60 = .ok (.getfield 35, 3) := by decide +kernel
theorem dX3_picture_63 : decode cX3_picture 63 = .ok (.iload_n 3, 1) := by decide +kernel
theorem dX3_picture_64 : decode cX3_picture 64 = .ok (.invokevirtual 65, 3) := by decide +kernel
theorem dX3_picture_67 : decode cX3_picture 67 = .ok (.aload_n 0, 1) := by decide +kernel
theorem dX3_picture_68 : decode cX3_picture 68 = .ok (.dup, 1) := by decide +kernel
theorem dX3_picture_69 : decode cX3_picture 69 = .ok (.getfield 51, 3) := by decide +kernel
theorem dX3_picture_72 : decode cX3_picture 72 = .ok (.dup_x1, 1) := by decide +kernel
theorem dX3_picture_73 : decode cX3_picture 73 = .ok (.iconst 1, 1) := by decide +kernel
theorem dX3_picture_74 : decode cX3_picture 74 = .ok (.iadd, 1) := by decide +kernel
theorem dX3_picture_75 : decode cX3_picture 75 = .ok (.putfield 51, 3) := by decide +kernel
theorem dX3_picture_78 : decode cX3_picture 78 = .ok (.ireturn, 1) := by decide +kernel
set_option maxRecDepth 20000 in
theorem ggX3_face_X3_pictureAt : GoodIn wsX3_face wsX3_pictureAt := goodIn_r _ [6, 7, 8, 54, 55, 56, 57, 58, 59, 60, 61, 62] (by decide +kernel) (by decide +kernel)
set_option maxRecDepth 20000 in
theorem gX3_face_X3_pictureAt : GoodIn wsX3_face (wsV RX3 54 RX3 yX3_pictureAt wsX3_pictureAt) := goodIn_app (goodIn_of _ (by decide +kernel)) ggX3_face_X3_pictureAt
set_option maxRecDepth 20000 in
theorem ggX3_face_X3_isChild : GoodIn wsX3_face wsX3_isChild := goodIn_r _ [12, 13, 54, 55, 56, 57, 58, 59, 60, 61, 62] (by decide +kernel) (by decide +kernel)
set_option maxRecDepth 20000 in
theorem gX3_face_X3_isChild : GoodIn wsX3_face (wsV RX3 47 RX3 yX3_isChild wsX3_isChild) := goodIn_app (goodIn_of _ (by decide +kernel)) ggX3_face_X3_isChild
set_option maxRecDepth 20000 in
theorem ggX3_face_X3_within : GoodIn wsX3_face wsX3_within := goodIn_r _ [16] (by decide +kernel) (by decide +kernel)
set_option maxRecDepth 20000 in
theorem gX3_face_X3_within : GoodIn wsX3_face (va_wsS RX3 39 yX3_within wsX3_within) := goodIn_app (goodIn_of _ (by decide +kernel)) ggX3_face_X3_within
set_option maxRecDepth 20000 in
theorem ggX3_face_X2_canHold : GoodIn wsX3_face wsX2_canHold := goodIn_r _ [21, 22, 23, 63, 64, 65, 66, 67, 68, 69, 70, 71, 72, 73] (by decide +kernel) (by decide +kernel)
set_option maxRecDepth 20000 in
theorem gX3_face_X2_canHold : GoodIn wsX3_face (wsV RX3 69 RX2 yX2_canHold wsX2_canHold) := goodIn_app (goodIn_of _ (by decide +kernel)) ggX3_face_X2_canHold
set_option maxRecDepth 20000 in
theorem ggX3_face_X2_add : GoodIn wsX3_face wsX2_add := goodIn_r _ [27, 22, 23, 28, 29, 30, 63, 64, 65, 66, 67, 68, 69, 70, 71, 72, 73] (by decide +kernel) (by decide +kernel)
set_option maxRecDepth 20000 in
theorem gX3_face_X2_add : GoodIn wsX3_face (wsV RX3 72 RX2 yX2_add wsX2_add) := goodIn_app (goodIn_of _ (by decide +kernel)) ggX3_face_X2_add
set_option maxRecDepth 20000 in
theorem ggX3_face_X2_look : GoodIn wsX3_face wsX2_look := goodIn_r _ [34, 35, 22, 23, 36, 37, 38, 39, 40, 20, 41, 42, 28, 30, 43, 44, 45, 46, 29, 47, 48, 49, 50, 51, 52, 53, 63, 64, 65, 66, 67, 68, 69, 70, 71, 72, 73] (by decide +kernel) (by decide +kernel)
set_option maxRecDepth 20000 in
theorem gX3_face_X2_look : GoodIn wsX3_face (wsV RX3 58 RX2 yX2_look wsX2_look) := goodIn_app (goodIn_of _ (by decide +kernel)) ggX3_face_X2_look
theorem dX3_face_0 : decode cX3_face 0 = .ok (.aload_n 0, 1) := by decide +kernel
theorem dX3_face_1 : decode cX3_face 1 = .ok (.iload_n 1, 1) := by decide +kernel
theorem dX3_face_2 : decode cX3_face 2 = .ok (.invokevirtual 54, 3) := by decide +kernel
theorem dX3_face_5 : decode cX3_face 5 = .ok (.astore 6, 2) := by decide +kernel
theorem dX3_face_7 : decode cX3_face 7 = .ok (.aload 6, 2) := by decide +kernel
theorem dX3_face_9 : decode cX3_face 9 = .ok (.ifnull 52, 3) := by decide +kernel
theorem dX3_face_12 : decode cX3_face 12 = .ok (.aload_n 0, 1) := by decide +kernel
theorem dX3_face_13 : decode cX3_face 13 = .ok (.iload_n 2, 1) := by decide +kernel
theorem dX3_face_14 : decode cX3_face 14 = .ok (.invokevirtual 47, 3) := by decide +kernel
theorem dX3_face_17 : decode cX3_face 17 = .ok (.ifCond .eq 44, 3) := by decide +kernel
theorem dX3_face_20 : decode cX3_face 20 = .ok (.iload_n 3, 1) := by decide +kernel
theorem dX3_face_21 : decode cX3_face 21 = .ok (.iconst 0, 1) := by decide +kernel
theorem dX3_face_22 : decode cX3_face 22 = .ok (.bipush 99, 2) := by decide +kernel
theorem dX3_face_24 : decode cX3_face 24 = .ok (.invokestatic 39, 3) := by decide +kernel
theorem dX3_face_27 : decode cX3_face 27 = .ok (.ifCond .eq 34, 3) := by decide +kernel
theorem dX3_face_30 : decode cX3_face 30 = .ok (.iload 4, 2) := by decide +kernel
theorem dX3_face_32 : decode cX3_face 32 = .ok (.iconst 0, 1) := by decide +kernel
theorem dX3_face_33 : decode cX3_face 33 = .ok (.bipush 99, 2) := by decide +kernel
theorem dX3_face_35 : decode cX3_face 35 = .ok (.invokestatic 39, 3) := by decide +kernel
theorem dX3_face_38 : decode cX3_face 38 = .ok (.ifCond .eq 23, 3) := by decide +kernel
theorem dX3_face_41 : decode cX3_face 41 = .ok (.iload 5, 2) := by decide +kernel
theorem dX3_face_43 : decode cX3_face 43 = .ok (.iconst 0, 1) := by decide +kernel
theorem dX3_face_44 : decode cX3_face 44 = .ok (.bipush 20, 2) := by decide +kernel
theorem dX3_face_46 : decode cX3_face 46 = .ok (.invokestatic 39, 3) := by decide +kernel
theorem dX3_face_49 : decode cX3_face 49 = .ok (.ifCond .eq 12, 3) := by decide +kernel
theorem dX3_face_52 : decode cX3_face 52 = .ok (.aload 6, 2) := by decide +kernel
theorem dX3_face_54 : decode cX3_face 54 = .ok (.iload_n 2, 1) := by decide +kernel
theorem dX3_face_55 : decode cX3_face 55 = .ok (.invokevirtual 69, 3) := by decide +kernel
theorem dX3_face_58 : decode cX3_face 58 = .ok (.ifCond .ne 5, 3) := by decide +kernel
theorem dX3_face_61 : decode cX3_face 61 = .ok (.iconst (-1), 1) := by decide +kernel
theorem dX3_face_62 : decode cX3_face 62 = .ok (.ireturn, 1) := by decide +kernel
theorem dX3_face_63 : decode cX3_face 63 = .ok (.aload 6, 2) := by decide +kernel
theorem dX3_face_65 : decode cX3_face 65 = .ok (.iload_n 2, 1) := by decide +kernel
theorem dX3_face_66 : decode cX3_face 66 = .ok (.iload_n 3, 1) := by decide +kernel
theorem dX3_face_67 : decode cX3_face 67 = .ok (.iload 4, 2) := by decide +kernel
theorem dX3_face_69 : decode cX3_face 69 = .ok (.iload 5, 2) := by decide +kernel
theorem dX3_face_71 : decode cX3_face 71 = .ok (.invokevirtual 72, 3) := by decide +kernel
theorem dX3_face_74 : decode cX3_face 74 = .ok (.aload 6, 2) := by decide +kernel
theorem dX3_face_76 : decode cX3_face 76 = .ok (.aload_n 0, 1) := by decide +kernel
theorem dX3_face_77 : decode cX3_face 77 = .ok (.getfield 13, 3) := by decide +kernel
theorem dX3_face_80 : decode cX3_face 80 = .ok (.invokevirtual 58, 3) := by decide +kernel
theorem dX3_face_83 : decode cX3_face 83 = .ok (.aload 6, 2) := by decide +kernel
theorem dX3_face_85 : decode cX3_face 85 = .ok (.getfield 76, 3) := by decide +kernel
theorem dX3_face_88 : decode cX3_face 88 = .ok (.ireturn, 1) := by decide +kernel
set_option maxRecDepth 20000 in
theorem ggX3_set_X3_within : GoodIn wsX3_set wsX3_within := goodIn_r _ [7] (by decide +kernel) (by decide +kernel)
set_option maxRecDepth 20000 in
theorem gX3_set_X3_within : GoodIn wsX3_set (va_wsS RX3 39 yX3_within wsX3_within) := goodIn_app (goodIn_of _ (by decide +kernel)) ggX3_set_X3_within
theorem dX3_set_0 : decode cX3_set 0 = .ok (.iload_n 1, 1) := by decide +kernel
theorem dX3_set_1 : decode cX3_set 1 = .ok (.iconst 0, 1) := by decide +kernel
theorem dX3_set_2 : decode cX3_set 2 = .ok (.iconst 3, 1) := by decide +kernel
theorem dX3_set_3 : decode cX3_set 3 = .ok (.invokestatic 39, 3) := by decide +kernel
theorem dX3_set_6 : decode cX3_set 6 = .ok (.ifCond .eq 20, 3) := by decide +kernel
theorem dX3_set_9 : decode cX3_set 9 = .ok (.iload_n 2, 1) := by decide +kernel
theorem dX3_set_10 : decode cX3_set 10 = .ok (.getstatic 79, 3) := by decide +kernel
theorem dX3_set_13 : decode cX3_set 13 = .ok (.iload_n 1, 1) := by decide +kernel
theorem dX3_set_14 : decode cX3_set 14 = .ok (.iaload, 1) := by decide +kernel
theorem dX3_set_15 : decode cX3_set 15 = .ok (.getstatic 82, 3) := by decide +kernel
theorem dX3_set_18 : decode cX3_set 18 = .ok (.iload_n 1, 1) := by decide +kernel
theorem dX3_set_19 : decode cX3_set 19 = .ok (.iaload, 1) := by decide +kernel
theorem dX3_set_20 : decode cX3_set 20 = .ok (.invokestatic 39, 3) := by decide +kernel
theorem dX3_set_23 : decode cX3_set 23 = .ok (.ifCond .ne 5, 3) := by decide +kernel
theorem dX3_set_26 : decode cX3_set 26 = .ok (.iconst (-1), 1) := by decide +kernel
theorem dX3_set_27 : decode cX3_set 27 = .ok (.ireturn, 1) := by decide +kernel
theorem dX3_set_28 : decode cX3_set 28 = .ok (.aload_n 0, 1) := by decide +kernel
theorem dX3_set_29 : decode cX3_set 29 = .ok (.getfield 22, 3) := by decide +kernel
theorem dX3_set_32 : decode cX3_set 32 = .ok (.iload_n 1, 1) := by decide +kernel
theorem dX3_set_33 : decode cX3_set 33 = .ok (.iaload, 1) := by decide +kernel
theorem dX3_set_34 : decode cX3_set 34 = .ok (.istore_n 3, 1) := by decide +kernel
theorem dX3_set_35 : decode cX3_set 35 = .ok (.aload_n 0, 1) := by decide +kernel
theorem dX3_set_36 : decode cX3_set 36 = .ok (.getfield 22, 3) := by decide +kernel
theorem dX3_set_39 : decode cX3_set 39 = .ok (.iload_n 1, 1) := by decide +kernel
theorem dX3_set_40 : decode cX3_set 40 = .ok (.iload_n 2, 1) := by decide +kernel
theorem dX3_set_41 : decode cX3_set 41 = .ok (.iastore, 1) := by decide +kernel
theorem dX3_set_42 : decode cX3_set 42 = .ok (.iload_n 3, 1) := by decide +kernel
theorem dX3_set_43 : decode cX3_set 43 = .ok (.ireturn, 1) := by decide +kernel
set_option maxRecDepth 20000 in
theorem ggX3_count_X3_worthOfChoice : GoodIn wsX3_count wsX3_worthOfChoice := goodIn_r _ [9, 2, 10, 11, 12, 8, 13, 3, 14, 15, 16, 17, 18, 19, 20, 21, 22, 35, 36, 37, 38, 39, 40, 41, 42, 43, 54, 55, 56, 57, 58, 59, 60, 61, 62, 63, 64] (by decide +kernel) (by decide +kernel)
set_option maxRecDepth 20000 in
theorem gX3_count_X3_worthOfChoice : GoodIn wsX3_count (wsV RX3 88 RX3 yX3_worthOfChoice wsX3_worthOfChoice) := goodIn_app (goodIn_of _ (by decide +kernel)) ggX3_count_X3_worthOfChoice
set_option maxRecDepth 20000 in
theorem ggX3_count_X3_goodPictures : GoodIn wsX3_count wsX3_goodPictures := goodIn_r _ [26, 2, 27, 28, 29, 8, 30, 18, 19, 20, 21, 22, 35, 36, 37, 38, 39, 40, 41, 42, 43, 54, 55, 56, 57, 58, 59, 60, 61, 62, 63, 64] (by decide +kernel) (by decide +kernel)
set_option maxRecDepth 20000 in
theorem gX3_count_X3_goodPictures : GoodIn wsX3_count (wsV RX3 95 RX3 yX3_goodPictures wsX3_goodPictures) := goodIn_app (goodIn_of _ (by decide +kernel)) ggX3_count_X3_goodPictures
set_option maxRecDepth 20000 in
theorem ggX3_count_X3_childrenInGood : GoodIn wsX3_count wsX3_childrenInGood := goodIn_r _ [34, 2, 27, 28, 29, 8, 30, 18, 19, 20, 21, 22, 35, 36, 37, 38, 39, 40, 41, 42, 43, 54, 55, 56, 57, 58, 59, 60, 61, 62, 63, 64] (by decide +kernel) (by decide +kernel)
set_option maxRecDepth 20000 in
theorem gX3_count_X3_childrenInGood : GoodIn wsX3_count (wsV RX3 98 RX3 yX3_childrenInGood wsX3_childrenInGood) := goodIn_app (goodIn_of _ (by decide +kernel)) ggX3_count_X3_childrenInGood
theorem dX3_count_0 : decode cX3_count 0 = .ok (.iload_n 1, 1) := by decide +kernel
theorem dX3_count_1 : decode cX3_count 1 = .ok (.tableswitch 81 0 6 #[43, 48, 53, 58, 63, 71, 76], 43) := by decide +kernel
theorem dX3_count_44 : decode cX3_count 44 = .ok (.aload_n 0, 1) := by decide +kernel
theorem dX3_count_45 : decode cX3_count 45 = .ok (.getfield 43, 3) := by decide +kernel
theorem dX3_count_48 : decode cX3_count 48 = .ok (.ireturn, 1) := by decide +kernel
theorem dX3_count_49 : decode cX3_count 49 = .ok (.aload_n 0, 1) := by decide +kernel
theorem dX3_count_50 : decode cX3_count 50 = .ok (.getfield 51, 3) := by decide +kernel
theorem dX3_count_53 : decode cX3_count 53 = .ok (.ireturn, 1) := by decide +kernel
theorem dX3_count_54 : decode cX3_count 54 = .ok (.aload_n 0, 1) := by decide +kernel
theorem dX3_count_55 : decode cX3_count 55 = .ok (.getfield 85, 3) := by decide +kernel
theorem dX3_count_58 : decode cX3_count 58 = .ok (.ireturn, 1) := by decide +kernel
theorem dX3_count_59 : decode cX3_count 59 = .ok (.aload_n 0, 1) := by decide +kernel
theorem dX3_count_60 : decode cX3_count 60 = .ok (.invokevirtual 88, 3) := by decide +kernel
theorem dX3_count_63 : decode cX3_count 63 = .ok (.ireturn, 1) := by decide +kernel
theorem dX3_count_64 : decode cX3_count 64 = .ok (.aload_n 0, 1) := by decide +kernel
theorem dX3_count_65 : decode cX3_count 65 = .ok (.getfield 35, 3) := by decide +kernel
theorem dX3_count_68 : decode cX3_count 68 = .ok (.getfield 92, 3) := by decide +kernel
theorem dX3_count_71 : decode cX3_count 71 = .ok (.ireturn, 1) := by decide +kernel
theorem dX3_count_72 : decode cX3_count 72 = .ok (.aload_n 0, 1) := by decide +kernel
theorem dX3_count_73 : decode cX3_count 73 = .ok (.invokevirtual 95, 3) := by decide +kernel
theorem dX3_count_76 : decode cX3_count 76 = .ok (.ireturn, 1) := by decide +kernel
theorem dX3_count_77 : decode cX3_count 77 = .ok (.aload_n 0, 1) := by decide +kernel
theorem dX3_count_78 : decode cX3_count 78 = .ok (.invokevirtual 98, 3) := by decide +kernel
theorem dX3_count_81 : decode cX3_count 81 = .ok (.ireturn, 1) := by decide +kernel
theorem dX3_count_82 : decode cX3_count 82 = .ok (.iconst (-1), 1) := by decide +kernel
theorem dX3_count_83 : decode cX3_count 83 = .ok (.ireturn, 1) := by decide +kernel
set_option maxRecDepth 20000 in
theorem ggX3_told_X3_pictureAt : GoodIn wsX3_told wsX3_pictureAt := goodIn_r _ [8, 9, 10, 39, 40, 41, 42, 43, 44, 45, 46, 47] (by decide +kernel) (by decide +kernel)
set_option maxRecDepth 20000 in
theorem gX3_told_X3_pictureAt : GoodIn wsX3_told (wsV RX3 54 RX3 yX3_pictureAt wsX3_pictureAt) := goodIn_app (goodIn_of _ (by decide +kernel)) ggX3_told_X3_pictureAt
set_option maxRecDepth 20000 in
theorem ggX3_told_X3_within : GoodIn wsX3_told wsX3_within := goodIn_r _ [13] (by decide +kernel) (by decide +kernel)
set_option maxRecDepth 20000 in
theorem gX3_told_X3_within : GoodIn wsX3_told (va_wsS RX3 39 yX3_within wsX3_within) := goodIn_app (goodIn_of _ (by decide +kernel)) ggX3_told_X3_within
set_option maxRecDepth 20000 in
theorem ggX3_told_X1_pageOf : GoodIn wsX3_told wsX1_pageOf := goodIn_r _ [18, 19, 20, 48, 49, 50, 51, 52, 53, 54, 55, 56, 57] (by decide +kernel) (by decide +kernel)
set_option maxRecDepth 20000 in
theorem gX3_told_X1_pageOf : GoodIn wsX3_told (wsV RX3 120 RX1 yX1_pageOf wsX1_pageOf) := goodIn_app (goodIn_of _ (by decide +kernel)) ggX3_told_X1_pageOf
set_option maxRecDepth 20000 in
theorem ggX3_told_X2_edge : GoodIn wsX3_told wsX2_edge := goodIn_r _ [25, 26, 27, 28, 29, 30, 31, 32, 33, 34, 35, 36, 37, 38] (by decide +kernel) (by decide +kernel)
set_option maxRecDepth 20000 in
theorem gX3_told_X2_edge : GoodIn wsX3_told (wsV RX3 124 RX2 yX2_edge wsX2_edge) := goodIn_app (goodIn_of _ (by decide +kernel)) ggX3_told_X2_edge
theorem dX3_told_0 : decode cX3_told 0 = .ok (.aload_n 0, 1) := by decide +kernel
theorem dX3_told_1 : decode cX3_told 1 = .ok (.iload_n 1, 1) := by decide +kernel
theorem dX3_told_2 : decode cX3_told 2 = .ok (.invokevirtual 54, 3) := by decide +kernel
theorem dX3_told_5 : decode cX3_told 5 = .ok (.astore_n 3, 1) := by decide +kernel
theorem dX3_told_6 : decode cX3_told 6 = .ok (.aload_n 3, 1) := by decide +kernel
theorem dX3_told_7 : decode cX3_told 7 = .ok (.ifnull 13, 3) := by decide +kernel
theorem dX3_told_10 : decode cX3_told 10 = .ok (.iload_n 2, 1) := by decide +kernel
theorem dX3_told_11 : decode cX3_told 11 = .ok (.iconst 0, 1) := by decide +kernel
theorem dX3_told_12 : decode cX3_told 12 = .ok (.bipush 10, 2) := by decide +kernel
theorem dX3_told_14 : decode cX3_told 14 = .ok (.invokestatic 39, 3) := by decide +kernel
theorem dX3_told_17 : decode cX3_told 17 = .ok (.ifCond .ne 13, 3) := by decide +kernel
theorem dX3_told_20 : decode cX3_told 20 = .ok (.new 101, 3) := by decide +kernel
theorem dX3_told_23 : decode cX3_told 23 = .ok (.dup, 1) := by decide +kernel
theorem dX3_told_24 : decode cX3_told 24 = .ok (.ldc 103, 2) := by decide +kernel
theorem dX3_told_26 : decode cX3_told 26 = .ok (.invokespecial 105, 3) := by decide +kernel
theorem dX3_told_29 : decode cX3_told 29 = .ok (.athrow, 1) := by decide +kernel
theorem dX3_told_30 : decode cX3_told 30 = .ok (.iload_n 2, 1) := by decide +kernel
theorem dX3_told_31 : decode cX3_told 31 = .ok (.tableswitch 104 0 10 #[57, 62, 67, 72, 77, 90, 104, 104, 104, 104, 95], 57) := by decide +kernel
theorem dX3_told_88 : decode cX3_told 88 = .ok (.aload_n 3, 1) := by decide +kernel
theorem dX3_told_89 : decode cX3_told 89 = .ok (.getfield 108, 3) := by decide +kernel
theorem dX3_told_92 : decode cX3_told 92 = .ok (.ireturn, 1) := by decide +kernel
theorem dX3_told_93 : decode cX3_told 93 = .ok (.aload_n 3, 1) := by decide +kernel
theorem dX3_told_94 : decode cX3_told 94 = .ok (.getfield 111, 3) := by decide +kernel
theorem dX3_told_97 : decode cX3_told 97 = .ok (.ireturn, 1) := by decide +kernel
theorem dX3_told_98 : decode cX3_told 98 = .ok (.aload_n 3, 1) := by decide +kernel
theorem dX3_told_99 : decode cX3_told 99 = .ok (.getfield 114, 3) := by decide +kernel
theorem dX3_told_102 : decode cX3_told 102 = .ok (.ireturn, 1) := by decide +kernel
theorem dX3_told_103 : decode cX3_told 103 = .ok (.aload_n 3, 1) := by decide +kernel
theorem dX3_told_104 : decode cX3_told 104 = .ok (.getfield 76, 3) := by decide +kernel
theorem dX3_told_107 : decode cX3_told 107 = .ok (.ireturn, 1) := by decide +kernel
theorem dX3_told_108 : decode cX3_told 108 = .ok (.aload_n 3, 1) := by decide +kernel
theorem dX3_told_109 : decode cX3_told 109 = .ok (.getfield 117, 3) := by decide +kernel
theorem dX3_told_112 : decode cX3_told 112 = .ok (.ifCond .eq 7, 3) := by decide +kernel
theorem dX3_told_115 : decode cX3_told 115 = .ok (.iconst 1, 1) := by decide +kernel
theorem dX3_told_116 : decode cX3_told 116 = .ok (.goto 4, 3) := by decide +kernel
theorem dX3_told_119 : decode cX3_told 119 = .ok (.iconst 0, 1) := by decide +kernel
theorem dX3_told_120 : decode cX3_told 120 = .ok (.ireturn, 1) := by decide +kernel
theorem dX3_told_121 : decode cX3_told 121 = .ok (.aload_n 3, 1) := by decide +kernel
theorem dX3_told_122 : decode cX3_told 122 = .ok (.getfield 117, 3) := by decide +kernel
theorem dX3_told_125 : decode cX3_told 125 = .ok (.ireturn, 1) := by decide +kernel
theorem dX3_told_126 : decode cX3_told 126 = .ok (.aload_n 0, 1) := by decide +kernel
theorem dX3_told_127 : decode cX3_told 127 = .ok (.getfield 35, 3) := by decide +kernel
theorem dX3_told_130 : decode cX3_told 130 = .ok (.iload_n 1, 1) := by decide +kernel
theorem dX3_told_131 : decode cX3_told 131 = .ok (.invokevirtual 120, 3) := by decide +kernel
theorem dX3_told_134 : decode cX3_told 134 = .ok (.ireturn, 1) := by decide +kernel
theorem dX3_told_135 : decode cX3_told 135 = .ok (.aload_n 3, 1) := by decide +kernel
theorem dX3_told_136 : decode cX3_told 136 = .ok (.iload_n 2, 1) := by decide +kernel
theorem dX3_told_137 : decode cX3_told 137 = .ok (.bipush 6, 2) := by decide +kernel
theorem dX3_told_139 : decode cX3_told 139 = .ok (.isub, 1) := by decide +kernel
theorem dX3_told_140 : decode cX3_told 140 = .ok (.invokevirtual 124, 3) := by decide +kernel
theorem dX3_told_143 : decode cX3_told 143 = .ok (.ireturn, 1) := by decide +kernel
set_option maxRecDepth 20000 in
theorem ggX3_name_X3_pictureAt : GoodIn wsX3_name wsX3_pictureAt := goodIn_r _ [6, 7, 8, 53, 54, 55, 56, 57, 58, 59, 60, 61] (by decide +kernel) (by decide +kernel)
set_option maxRecDepth 20000 in
theorem gX3_name_X3_pictureAt : GoodIn wsX3_name (wsV RX3 54 RX3 yX3_pictureAt wsX3_pictureAt) := goodIn_app (goodIn_of _ (by decide +kernel)) ggX3_name_X3_pictureAt
set_option maxRecDepth 20000 in
theorem ggX3_name_X2_nameAt : GoodIn wsX3_name wsX2_nameAt := goodIn_r _ [13, 14, 15, 16, 17, 12, 18, 19, 20, 21, 22, 23, 24, 25, 26, 27, 28, 29, 30, 31, 32, 33, 34, 35, 36, 37, 38, 39, 40, 41, 42, 43, 44, 45, 46, 47, 48, 49, 50, 51, 52] (by decide +kernel) (by decide +kernel)
set_option maxRecDepth 20000 in
theorem gX3_name_X2_nameAt : GoodIn wsX3_name (wsV RX3 127 RX2 yX2_nameAt wsX2_nameAt) := goodIn_app (goodIn_of _ (by decide +kernel)) ggX3_name_X2_nameAt
theorem dX3_name_0 : decode cX3_name 0 = .ok (.aload_n 0, 1) := by decide +kernel
theorem dX3_name_1 : decode cX3_name 1 = .ok (.iload_n 1, 1) := by decide +kernel
theorem dX3_name_2 : decode cX3_name 2 = .ok (.invokevirtual 54, 3) := by decide +kernel
theorem dX3_name_5 : decode cX3_name 5 = .ok (.astore_n 3, 1) := by decide +kernel
theorem dX3_name_6 : decode cX3_name 6 = .ok (.aload_n 3, 1) := by decide +kernel
theorem dX3_name_7 : decode cX3_name 7 = .ok (.ifnull 14, 3) := by decide +kernel
theorem dX3_name_10 : decode cX3_name 10 = .ok (.aload_n 3, 1) := by decide +kernel
theorem dX3_name_11 : decode cX3_name 11 = .ok (.getfield 117, 3) := by decide +kernel
theorem dX3_name_14 : decode cX3_name 14 = .ok (.ifCond .eq 7, 3) := by decide +kernel
theorem dX3_name_17 : decode cX3_name 17 = .ok (.iload_n 2, 1) := by decide +kernel
theorem dX3_name_18 : decode cX3_name 18 = .ok (.ifCond .ge 7, 3) := by decide +kernel
theorem dX3_name_21 : decode cX3_name 21 = .ok (.iconst (-1), 1) := by decide +kernel
theorem dX3_name_22 : decode cX3_name 22 = .ok (.goto 14, 3) := by decide +kernel
theorem dX3_name_25 : decode cX3_name 25 = .ok (.aload_n 3, 1) := by decide +kernel
theorem dX3_name_26 : decode cX3_name 26 = .ok (.iload_n 2, 1) := by decide +kernel
theorem dX3_name_27 : decode cX3_name 27 = .ok (.aload_n 0, 1) := by decide +kernel
theorem dX3_name_28 : decode cX3_name 28 = .ok (.getfield 22, 3) := by decide +kernel
theorem dX3_name_31 : decode cX3_name 31 = .ok (.iconst 0, 1) := by decide +kernel
theorem dX3_name_32 : decode cX3_name 32 = .ok (.iaload, 1) := by decide +kernel
theorem dX3_name_33 : decode cX3_name 33 = .ok (.invokevirtual 127, 3) := by decide +kernel
theorem dX3_name_36 : decode cX3_name 36 = .ok (.ireturn, 1) := by decide +kernel
set_option maxRecDepth 20000 in
theorem ggX3_seen_X3_isChild : GoodIn wsX3_seen wsX3_isChild := goodIn_r _ [5, 6, 26, 27, 28, 29, 30, 31, 32, 33, 34] (by decide +kernel) (by decide +kernel)
set_option maxRecDepth 20000 in
theorem gX3_seen_X3_isChild : GoodIn wsX3_seen (wsV RX3 47 RX3 yX3_isChild wsX3_isChild) := goodIn_app (goodIn_of _ (by decide +kernel)) ggX3_seen_X3_isChild
set_option maxRecDepth 20000 in
theorem ggX3_seen_X3_chosenShowing : GoodIn wsX3_seen wsX3_chosenShowing := goodIn_r _ [10, 11, 12, 13, 14, 4, 15, 16, 17, 18, 19, 20, 21, 22, 23, 24, 25, 26, 27, 28, 29, 30, 31, 32, 33, 34, 35, 36, 37, 38, 39, 40, 41, 42, 43, 44, 45] (by decide +kernel) (by decide +kernel)
set_option maxRecDepth 20000 in
theorem gX3_seen_X3_chosenShowing : GoodIn wsX3_seen (wsV RX3 131 RX3 yX3_chosenShowing wsX3_chosenShowing) := goodIn_app (goodIn_of _ (by decide +kernel)) ggX3_seen_X3_chosenShowing
theorem dX3_seen_0 : decode cX3_seen 0 = .ok (.aload_n 0, 1) := by decide +kernel
theorem dX3_seen_1 : decode cX3_seen 1 = .ok (.iload_n 1, 1) := by decide +kernel
theorem dX3_seen_2 : decode cX3_seen 2 = .ok (.invokevirtual 47, 3) := by decide +kernel
theorem dX3_seen_5 : decode cX3_seen 5 = .ok (.ifCond .eq 13, 3) := by decide +kernel
theorem dX3_seen_8 : decode cX3_seen 8 = .ok (.aload_n 0, 1) := by decide +kernel
theorem dX3_seen_9 : decode cX3_seen 9 = .ok (.iconst 1, 1) := by decide +kernel
theorem dX3_seen_10 : decode cX3_seen 10 = .ok (.iload_n 1, 1) := by decide +kernel
theorem dX3_seen_11 : decode cX3_seen 11 = .ok (.ishl, 1) := by decide +kernel
theorem dX3_seen_12 : decode cX3_seen 12 = .ok (.invokevirtual 131, 3) := by decide +kernel
theorem dX3_seen_15 : decode cX3_seen 15 = .ok (.goto 4, 3) := by decide +kernel
theorem dX3_seen_18 : decode cX3_seen 18 = .ok (.iconst (-1), 1) := by decide +kernel
theorem dX3_seen_19 : decode cX3_seen 19 = .ok (.ireturn, 1) := by decide +kernel
set_option maxRecDepth 20000 in
theorem ggX3_proof_X3_isChild : GoodIn wsX3_proof wsX3_isChild := goodIn_r _ [6, 7, 22, 23, 24, 25, 26, 27, 28, 29, 30] (by decide +kernel) (by decide +kernel)
set_option maxRecDepth 20000 in
theorem gX3_proof_X3_isChild : GoodIn wsX3_proof (wsV RX3 47 RX3 yX3_isChild wsX3_isChild) := goodIn_app (goodIn_of _ (by decide +kernel)) ggX3_proof_X3_isChild
set_option maxRecDepth 20000 in
theorem ggX3_proof_X3_isChosen : GoodIn wsX3_proof wsX3_isChosen := goodIn_r _ [11, 12, 22, 23, 24, 25, 26, 27, 28, 29, 30] (by decide +kernel) (by decide +kernel)
set_option maxRecDepth 20000 in
theorem gX3_proof_X3_isChosen : GoodIn wsX3_proof (wsV RX3 134 RX3 yX3_isChosen wsX3_isChosen) := goodIn_app (goodIn_of _ (by decide +kernel)) ggX3_proof_X3_isChosen
set_option maxRecDepth 20000 in
theorem ggX3_proof_X3_shownIn : GoodIn wsX3_proof wsX3_shownIn := goodIn_r _ [16, 17, 18, 19, 5, 20, 1, 21, 31, 32, 33, 34, 35, 36, 37, 38, 39, 40, 41, 22, 23, 24, 25, 26, 27, 28, 29, 30] (by decide +kernel) (by decide +kernel)
set_option maxRecDepth 20000 in
theorem gX3_proof_X3_shownIn : GoodIn wsX3_proof (wsV RX3 137 RX3 yX3_shownIn wsX3_shownIn) := goodIn_app (goodIn_of _ (by decide +kernel)) ggX3_proof_X3_shownIn
theorem dX3_proof_0 : decode cX3_proof 0 = .ok (.aload_n 0, 1) := by decide +kernel
theorem dX3_proof_1 : decode cX3_proof 1 = .ok (.iload_n 1, 1) := by decide +kernel
theorem dX3_proof_2 : decode cX3_proof 2 = .ok (.invokevirtual 47, 3) := by decide +kernel
theorem dX3_proof_5 : decode cX3_proof 5 = .ok (.ifCond .eq 7, 3) := by decide +kernel
theorem dX3_proof_8 : decode cX3_proof 8 = .ok (.iload_n 2, 1) := by decide +kernel
theorem dX3_proof_9 : decode cX3_proof 9 = .ok (.ifCond .ge 5, 3) := by decide +kernel
theorem dX3_proof_12 : decode cX3_proof 12 = .ok (.iconst (-1), 1) := by decide +kernel
theorem dX3_proof_13 : decode cX3_proof 13 = .ok (.ireturn, 1) := by decide +kernel
theorem dX3_proof_14 : decode cX3_proof 14 = .ok (.iconst 0, 1) := by decide +kernel
theorem dX3_proof_15 : decode cX3_proof 15 = .ok (.istore_n 3, 1) := by decide +kernel
theorem dX3_proof_16 : decode cX3_proof 16 = .ok (.iconst 0, 1) := by decide +kernel
theorem dX3_proof_17 : decode cX3_proof 17 = .ok (.istore 4, 2) := by decide +kernel
theorem dX3_proof_19 : decode cX3_proof 19 = .ok (.iload 4, 2) := by decide +kernel
theorem dX3_proof_21 : decode cX3_proof 21 = .ok (.aload_n 0, 1) := by decide +kernel
theorem dX3_proof_22 : decode cX3_proof 22 = .ok (.getfield 51, 3) := by decide +kernel
theorem dX3_proof_25 : decode cX3_proof 25 = .ok (.if_icmp .ge 42, 3) := by decide +kernel
theorem dX3_proof_28 : decode cX3_proof 28 = .ok (.aload_n 0, 1) := by decide +kernel
theorem dX3_proof_29 : decode cX3_proof 29 = .ok (.iload 4, 2) := by decide +kernel
theorem dX3_proof_31 : decode cX3_proof 31 = .ok (.invokevirtual 134, 3) := by decide +kernel
theorem dX3_proof_34 : decode cX3_proof 34 = .ok (.ifCond .eq 27, 3) := by decide +kernel
theorem dX3_proof_37 : decode cX3_proof 37 = .ok (.aload_n 0, 1) := by decide +kernel
theorem dX3_proof_38 : decode cX3_proof 38 = .ok (.iload 4, 2) := by decide +kernel
theorem dX3_proof_40 : decode cX3_proof 40 = .ok (.invokevirtual 137, 3) := by decide +kernel
theorem dX3_proof_43 : decode cX3_proof 43 = .ok (.iload_n 1, 1) := by decide +kernel
theorem dX3_proof_44 : decode cX3_proof 44 = .ok (.ishr, 1) := by decide +kernel
theorem dX3_proof_45 : decode cX3_proof 45 = .ok (.iconst 1, 1) := by decide +kernel
theorem dX3_proof_46 : decode cX3_proof 46 = .ok (.iand, 1) := by decide +kernel
theorem dX3_proof_47 : decode cX3_proof 47 = .ok (.ifCond .eq 14, 3) := by decide +kernel
theorem dX3_proof_50 : decode cX3_proof 50 = .ok (.iload_n 3, 1) := by decide +kernel
theorem dX3_proof_51 : decode cX3_proof 51 = .ok (.iload_n 2, 1) := by decide +kernel
theorem dX3_proof_52 : decode cX3_proof 52 = .ok (.if_icmp .ne 6, 3) := by decide +kernel
theorem dX3_proof_55 : decode cX3_proof 55 = .ok (.iload 4, 2) := by decide +kernel
theorem dX3_proof_57 : decode cX3_proof 57 = .ok (.ireturn, 1) := by decide +kernel
theorem dX3_proof_58 : decode cX3_proof 58 = .ok (.iinc 3 1, 3) := by decide +kernel
theorem dX3_proof_61 : decode cX3_proof 61 = .ok (.iinc 4 1, 3) := by decide +kernel
theorem dX3_proof_64 : decode cX3_proof 64 = .ok (.goto (-45), 3) := by decide +kernel
theorem dX3_proof_67 : decode cX3_proof 67 = .ok (.iconst (-1), 1) := by decide +kernel
theorem dX3_proof_68 : decode cX3_proof 68 = .ok (.ireturn, 1) := by decide +kernel
set_option maxRecDepth 20000 in
theorem ggX3_shows_X3_within : GoodIn wsX3_shows wsX3_within := goodIn_r _ [6] (by decide +kernel) (by decide +kernel)
set_option maxRecDepth 20000 in
theorem gX3_shows_X3_within : GoodIn wsX3_shows (va_wsS RX3 39 yX3_within wsX3_within) := goodIn_app (goodIn_of _ (by decide +kernel)) ggX3_shows_X3_within
set_option maxRecDepth 20000 in
theorem ggX3_shows_X3_chosenShowing : GoodIn wsX3_shows wsX3_chosenShowing := goodIn_r _ [10, 11, 12, 13, 14, 5, 15, 16, 17, 18, 19, 20, 21, 22, 23, 24, 25, 26, 27, 28, 29, 30, 31, 32, 33, 34, 35, 36, 37, 38, 39, 40, 41, 42, 43, 44, 45] (by decide +kernel) (by decide +kernel)
set_option maxRecDepth 20000 in
theorem gX3_shows_X3_chosenShowing : GoodIn wsX3_shows (wsV RX3 131 RX3 yX3_chosenShowing wsX3_chosenShowing) := goodIn_app (goodIn_of _ (by decide +kernel)) ggX3_shows_X3_chosenShowing
theorem dX3_shows_0 : decode cX3_shows 0 = .ok (.iload_n 1, 1) := by decide +kernel
theorem dX3_shows_1 : decode cX3_shows 1 = .ok (.iconst 0, 1) := by decide +kernel
theorem dX3_shows_2 : decode cX3_shows 2 = .ok (.bipush 9, 2) := by decide +kernel
theorem dX3_shows_4 : decode cX3_shows 4 = .ok (.invokestatic 39, 3) := by decide +kernel
theorem dX3_shows_7 : decode cX3_shows 7 = .ok (.ifCond .ne 5, 3) := by decide +kernel
theorem dX3_shows_10 : decode cX3_shows 10 = .ok (.iconst (-1), 1) := by decide +kernel
theorem dX3_shows_11 : decode cX3_shows 11 = .ok (.ireturn, 1) := by decide +kernel
theorem dX3_shows_12 : decode cX3_shows 12 = .ok (.iconst 0, 1) := by decide +kernel
theorem dX3_shows_13 : decode cX3_shows 13 = .ok (.istore_n 2, 1) := by decide +kernel
theorem dX3_shows_14 : decode cX3_shows 14 = .ok (.iconst 0, 1) := by decide +kernel
theorem dX3_shows_15 : decode cX3_shows 15 = .ok (.istore_n 3, 1) := by decide +kernel
theorem dX3_shows_16 : decode cX3_shows 16 = .ok (.iload_n 3, 1) := by decide +kernel
theorem dX3_shows_17 : decode cX3_shows 17 = .ok (.aload_n 0, 1) := by decide +kernel
theorem dX3_shows_18 : decode cX3_shows 18 = .ok (.getfield 43, 3) := by decide +kernel
theorem dX3_shows_21 : decode cX3_shows 21 = .ok (.if_icmp .ge 25, 3) := by decide +kernel
theorem dX3_shows_24 : decode cX3_shows 24 = .ok (.aload_n 0, 1) := by decide +kernel
theorem dX3_shows_25 : decode cX3_shows 25 = .ok (.getfield 9, 3) := by decide +kernel
theorem dX3_shows_28 : decode cX3_shows 28 = .ok (.iload_n 3, 1) := by decide +kernel
theorem dX3_shows_29 : decode cX3_shows 29 = .ok (.iaload, 1) := by decide +kernel
theorem dX3_shows_30 : decode cX3_shows 30 = .ok (.iload_n 1, 1) := by decide +kernel
theorem dX3_shows_31 : decode cX3_shows 31 = .ok (.if_icmp .ne 9, 3) := by decide +kernel
theorem dX3_shows_34 : decode cX3_shows 34 = .ok (.iload_n 2, 1) := by decide +kernel
theorem dX3_shows_35 : decode cX3_shows 35 = .ok (.iconst 1, 1) := by decide +kernel
theorem dX3_shows_36 : decode cX3_shows 36 = .ok (.iload_n 3, 1) := by decide +kernel
theorem dX3_shows_37 : decode cX3_shows 37 = .ok (.ishl, 1) := by decide +kernel
theorem dX3_shows_38 : decode cX3_shows 38 = .ok (.ior, 1) := by decide +kernel
theorem dX3_shows_39 : decode cX3_shows 39 = .ok (.istore_n 2, 1) := by decide +kernel
theorem dX3_shows_40 : decode cX3_shows 40 = .ok (.iinc 3 1, 3) := by decide +kernel
theorem dX3_shows_43 : decode cX3_shows 43 = .ok (.goto (-27), 3) := by decide +kernel
theorem dX3_shows_46 : decode cX3_shows 46 = .ok (.aload_n 0, 1) := by decide +kernel
theorem dX3_shows_47 : decode cX3_shows 47 = .ok (.iload_n 2, 1) := by decide +kernel
theorem dX3_shows_48 : decode cX3_shows 48 = .ok (.invokevirtual 131, 3) := by decide +kernel
theorem dX3_shows_51 : decode cX3_shows 51 = .ok (.ireturn, 1) := by decide +kernel
set_option maxRecDepth 20000 in
theorem ggX3_choose_X3_decide : GoodIn wsX3_choose wsX3_decide := goodIn_r _ [6, 7, 8, 9, 10, 11, 12, 13, 14, 15, 16, 17, 18, 19, 20, 21, 22, 23, 24, 25, 26, 27, 28, 29, 30, 31, 32, 33] (by decide +kernel) (by decide +kernel)
set_option maxRecDepth 20000 in
theorem gX3_choose_X3_decide : GoodIn wsX3_choose (wsV RX3 140 RX3 yX3_decide wsX3_decide) := goodIn_app (goodIn_of _ (by decide +kernel)) ggX3_choose_X3_decide
theorem dX3_choose_0 : decode cX3_choose 0 = .ok (.iload_n 1, 1) := by decide +kernel
theorem dX3_choose_1 : decode cX3_choose 1 = .ok (.ifCond .lt 12, 3) := by decide +kernel
theorem dX3_choose_4 : decode cX3_choose 4 = .ok (.iload_n 1, 1) := by decide +kernel
theorem dX3_choose_5 : decode cX3_choose 5 = .ok (.aload_n 0, 1) := by decide +kernel
theorem dX3_choose_6 : decode cX3_choose 6 = .ok (.getfield 51, 3) := by decide +kernel
theorem dX3_choose_9 : decode cX3_choose 9 = .ok (.ishr, 1) := by decide +kernel
theorem dX3_choose_10 : decode cX3_choose 10 = .ok (.ifCond .eq 5, 3) := by decide +kernel
theorem dX3_choose_13 : decode cX3_choose 13 = .ok (.iconst 0, 1) := by decide +kernel
theorem dX3_choose_14 : decode cX3_choose 14 = .ok (.ireturn, 1) := by decide +kernel
theorem dX3_choose_15 : decode cX3_choose 15 = .ok (.aload_n 0, 1) := by decide +kernel
theorem dX3_choose_16 : decode cX3_choose 16 = .ok (.iload_n 1, 1) := by decide +kernel
theorem dX3_choose_17 : decode cX3_choose 17 = .ok (.invokevirtual 140, 3) := by decide +kernel
theorem dX3_choose_20 : decode cX3_choose 20 = .ok (.iconst 1, 1) := by decide +kernel
theorem dX3_choose_21 : decode cX3_choose 21 = .ok (.ireturn, 1) := by decide +kernel
set_option maxRecDepth 20000 in
theorem ggX3_wrong_X3_goodPictures : GoodIn wsX3_wrong wsX3_goodPictures := goodIn_r _ [8, 9, 10, 11, 12, 7, 13, 14, 15, 16, 17, 18, 31, 32, 33, 34, 35, 36, 37, 38, 39, 40, 41, 42, 43, 44, 45, 46, 47, 48, 49, 50] (by decide +kernel) (by decide +kernel)
set_option maxRecDepth 20000 in
theorem gX3_wrong_X3_goodPictures : GoodIn wsX3_wrong (wsV RX3 95 RX3 yX3_goodPictures wsX3_goodPictures) := goodIn_app (goodIn_of _ (by decide +kernel)) ggX3_wrong_X3_goodPictures
set_option maxRecDepth 20000 in
theorem ggX3_wrong_X3_childrenInGood : GoodIn wsX3_wrong wsX3_childrenInGood := goodIn_r _ [22, 9, 10, 11, 12, 7, 13, 14, 15, 16, 17, 18, 31, 32, 33, 34, 35, 36, 37, 38, 39, 40, 41, 42, 43, 44, 45, 46, 47, 48, 49, 50] (by decide +kernel) (by decide +kernel)
set_option maxRecDepth 20000 in
theorem gX3_wrong_X3_childrenInGood : GoodIn wsX3_wrong (wsV RX3 98 RX3 yX3_childrenInGood wsX3_childrenInGood) := goodIn_app (goodIn_of _ (by decide +kernel)) ggX3_wrong_X3_childrenInGood
set_option maxRecDepth 20000 in
theorem ggX3_wrong_X3_chosenShowing : GoodIn wsX3_wrong wsX3_chosenShowing := goodIn_r _ [26, 9, 27, 28, 29, 7, 30, 1, 10, 11, 12, 13, 14, 15, 16, 17, 18, 31, 32, 33, 34, 35, 36, 37, 38, 39, 40, 41, 42, 43, 44, 45, 46, 47, 48, 49, 50] (by decide +kernel) (by decide +kernel)
set_option maxRecDepth 20000 in
theorem gX3_wrong_X3_chosenShowing : GoodIn wsX3_wrong (wsV RX3 131 RX3 yX3_chosenShowing wsX3_chosenShowing) := goodIn_app (goodIn_of _ (by decide +kernel)) ggX3_wrong_X3_chosenShowing
theorem dX3_wrong_0 : decode cX3_wrong 0 = .ok (.aload_n 0, 1) := by decide +kernel
theorem dX3_wrong_1 : decode cX3_wrong 1 = .ok (.getfield 85, 3) := by decide +kernel
theorem dX3_wrong_4 : decode cX3_wrong 4 = .ok (.aload_n 0, 1) := by decide +kernel
theorem dX3_wrong_5 : decode cX3_wrong 5 = .ok (.invokevirtual 95, 3) := by decide +kernel
theorem dX3_wrong_8 : decode cX3_wrong 8 = .ok (.iconst (-1), 1) := by decide +kernel
theorem dX3_wrong_9 : decode cX3_wrong 9 = .ok (.ixor, 1) := by decide +kernel
theorem dX3_wrong_10 : decode cX3_wrong 10 = .ok (.iand, 1) := by decide +kernel
theorem dX3_wrong_11 : decode cX3_wrong 11 = .ok (.ifCond .eq 5, 3) := by decide +kernel
theorem dX3_wrong_14 : decode cX3_wrong 14 = .ok (.iconst 1, 1) := by decide +kernel
theorem dX3_wrong_15 : decode cX3_wrong 15 = .ok (.ireturn, 1) := by decide +kernel
theorem dX3_wrong_16 : decode cX3_wrong 16 = .ok (.aload_n 0, 1) := by decide +kernel
theorem dX3_wrong_17 : decode cX3_wrong 17 = .ok (.invokevirtual 98, 3) := by decide +kernel
theorem dX3_wrong_20 : decode cX3_wrong 20 = .ok (.istore_n 1, 1) := by decide +kernel
theorem dX3_wrong_21 : decode cX3_wrong 21 = .ok (.iconst 0, 1) := by decide +kernel
theorem dX3_wrong_22 : decode cX3_wrong 22 = .ok (.istore_n 2, 1) := by decide +kernel
theorem dX3_wrong_23 : decode cX3_wrong 23 = .ok (.iconst 0, 1) := by decide +kernel
theorem dX3_wrong_24 : decode cX3_wrong 24 = .ok (.istore_n 3, 1) := by decide +kernel
theorem dX3_wrong_25 : decode cX3_wrong 25 = .ok (.iload_n 3, 1) := by decide +kernel
theorem dX3_wrong_26 : decode cX3_wrong 26 = .ok (.aload_n 0, 1) := by decide +kernel
theorem dX3_wrong_27 : decode cX3_wrong 27 = .ok (.getfield 43, 3) := by decide +kernel
theorem dX3_wrong_30 : decode cX3_wrong 30 = .ok (.if_icmp .ge 58, 3) := by decide +kernel
theorem dX3_wrong_33 : decode cX3_wrong 33 = .ok (.iload_n 1, 1) := by decide +kernel
theorem dX3_wrong_34 : decode cX3_wrong 34 = .ok (.iload_n 3, 1) := by decide +kernel
theorem dX3_wrong_35 : decode cX3_wrong 35 = .ok (.ishr, 1) := by decide +kernel
theorem dX3_wrong_36 : decode cX3_wrong 36 = .ok (.iconst 1, 1) := by decide +kernel
theorem dX3_wrong_37 : decode cX3_wrong 37 = .ok (.iand, 1) := by decide +kernel
theorem dX3_wrong_38 : decode cX3_wrong 38 = .ok (.ifCond .eq 44, 3) := by decide +kernel
theorem dX3_wrong_41 : decode cX3_wrong 41 = .ok (.aload_n 0, 1) := by decide +kernel
theorem dX3_wrong_42 : decode cX3_wrong 42 = .ok (.iconst 1, 1) := by decide +kernel
theorem dX3_wrong_43 : decode cX3_wrong 43 = .ok (.iload_n 3, 1) := by decide +kernel
theorem dX3_wrong_44 : decode cX3_wrong 44 = .ok (.ishl, 1) := by decide +kernel
theorem dX3_wrong_45 : decode cX3_wrong 45 = .ok (.invokevirtual 131, 3) := by decide +kernel
theorem dX3_wrong_48 : decode cX3_wrong 48 = .ok (.istore 4, 2) := by decide +kernel
theorem dX3_wrong_50 : decode cX3_wrong 50 = .ok (.iload 4, 2) := by decide +kernel
theorem dX3_wrong_52 : decode cX3_wrong 52 = .ok (.aload_n 0, 1) := by decide +kernel
theorem dX3_wrong_53 : decode cX3_wrong 53 = .ok (.getfield 22, 3) := by decide +kernel
theorem dX3_wrong_56 : decode cX3_wrong 56 = .ok (.iconst 1, 1) := by decide +kernel
theorem dX3_wrong_57 : decode cX3_wrong 57 = .ok (.iaload, 1) := by decide +kernel
theorem dX3_wrong_58 : decode cX3_wrong 58 = .ok (.if_icmp .ge 5, 3) := by decide +kernel
theorem dX3_wrong_61 : decode cX3_wrong 61 = .ok (.iconst 2, 1) := by decide +kernel
theorem dX3_wrong_62 : decode cX3_wrong 62 = .ok (.ireturn, 1) := by decide +kernel
theorem dX3_wrong_63 : decode cX3_wrong 63 = .ok (.iload_n 2, 1) := by decide +kernel
theorem dX3_wrong_64 : decode cX3_wrong 64 = .ok (.iload 4, 2) := by decide +kernel
theorem dX3_wrong_66 : decode cX3_wrong 66 = .ok (.aload_n 0, 1) := by decide +kernel
theorem dX3_wrong_67 : decode cX3_wrong 67 = .ok (.getfield 22, 3) := by decide +kernel
theorem dX3_wrong_70 : decode cX3_wrong 70 = .ok (.iconst 2, 1) := by decide +kernel
theorem dX3_wrong_71 : decode cX3_wrong 71 = .ok (.iaload, 1) := by decide +kernel
theorem dX3_wrong_72 : decode cX3_wrong 72 = .ok (.if_icmp .le 7, 3) := by decide +kernel
theorem dX3_wrong_75 : decode cX3_wrong 75 = .ok (.iconst 1, 1) := by decide +kernel
theorem dX3_wrong_76 : decode cX3_wrong 76 = .ok (.goto 4, 3) := by decide +kernel
theorem dX3_wrong_79 : decode cX3_wrong 79 = .ok (.iconst 0, 1) := by decide +kernel
theorem dX3_wrong_80 : decode cX3_wrong 80 = .ok (.ior, 1) := by decide +kernel
theorem dX3_wrong_81 : decode cX3_wrong 81 = .ok (.istore_n 2, 1) := by decide +kernel
theorem dX3_wrong_82 : decode cX3_wrong 82 = .ok (.iinc 3 1, 3) := by decide +kernel
theorem dX3_wrong_85 : decode cX3_wrong 85 = .ok (.goto (-60), 3) := by decide +kernel
theorem dX3_wrong_88 : decode cX3_wrong 88 = .ok (.iload_n 2, 1) := by decide +kernel
theorem dX3_wrong_89 : decode cX3_wrong 89 = .ok (.ifCond .eq 7, 3) := by decide +kernel
theorem dX3_wrong_92 : decode cX3_wrong 92 = .ok (.iconst 3, 1) := by decide +kernel
theorem dX3_wrong_93 : decode cX3_wrong 93 = .ok (.goto 4, 3) := by decide +kernel
theorem dX3_wrong_96 : decode cX3_wrong 96 = .ok (.iconst 0, 1) := by decide +kernel
theorem dX3_wrong_97 : decode cX3_wrong 97 = .ok (.ireturn, 1) := by decide +kernel
set_option maxRecDepth 20000 in
theorem ggX3_best_X3_offerPictures : GoodIn wsX3_best wsX3_offerPictures := goodIn_r _ [6, 1, 7, 8, 9, 10, 11, 12, 13, 14, 15, 16, 17, 18, 19, 20, 21, 22, 23, 5, 24, 25, 26, 27, 28, 29, 30, 31, 32, 33, 34, 35, 36, 37, 38, 39, 40, 41, 42, 43, 44, 45, 46, 47, 48, 49, 50, 51, 52, 53, 54, 55, 56, 57, 99, 100, 101, 102, 103, 104, 105, 106, 107, 108, 109, 110, 111, 112, 113, 114, 115, 116, 117, 118, 119, 120, 121, 122, 123, 124, 125, 126, 127, 128, 129, 130, 131, 132] (by decide +kernel) (by decide +kernel)
set_option maxRecDepth 20000 in
theorem gX3_best_X3_offerPictures : GoodIn wsX3_best (wsV RX3 143 RX3 yX3_offerPictures wsX3_offerPictures) := goodIn_app (goodIn_of _ (by decide +kernel)) ggX3_best_X3_offerPictures
set_option maxRecDepth 20000 in
theorem ggX3_best_X0_findBest : GoodIn wsX3_best wsX0_findBest := goodIn_r _ [61, 62, 63, 64, 65, 14, 66, 18, 57, 67, 55, 56, 68, 45, 43, 44, 69, 70, 71, 72, 54, 73, 74, 75, 76, 17, 77, 78, 79, 80, 81, 82, 83, 20, 16, 108, 109, 110, 111, 112, 113, 114, 115, 116, 117, 118, 119, 120, 121] (by decide +kernel) (by decide +kernel)
set_option maxRecDepth 20000 in
theorem gX3_best_X0_findBest : GoodIn wsX3_best (wsV RX3 147 RX0 yX0_findBest wsX0_findBest) := goodIn_app (goodIn_of _ (by decide +kernel)) ggX3_best_X0_findBest
set_option maxRecDepth 20000 in
theorem ggX3_best_X3_decide : GoodIn wsX3_best wsX3_decide := goodIn_r _ [87, 38, 88, 89, 90, 91, 92, 93, 94, 99, 100, 101, 102, 103, 104, 105, 106, 107, 133, 134, 135, 136, 137, 138, 139, 140, 141, 142] (by decide +kernel) (by decide +kernel)
set_option maxRecDepth 20000 in
theorem gX3_best_X3_decide : GoodIn wsX3_best (wsV RX3 140 RX3 yX3_decide wsX3_decide) := goodIn_app (goodIn_of _ (by decide +kernel)) ggX3_best_X3_decide
set_option maxRecDepth 20000 in
theorem ggX3_best_X3_worthOfChoice : GoodIn wsX3_best wsX3_worthOfChoice := goodIn_r _ [98, 8, 34, 35, 36, 5, 37, 38, 30, 31, 32, 33, 25, 26, 27, 28, 29, 99, 100, 101, 102, 103, 104, 105, 106, 107, 122, 123, 124, 125, 126, 127, 128, 129, 130, 131, 132] (by decide +kernel) (by decide +kernel)
set_option maxRecDepth 20000 in
theorem gX3_best_X3_worthOfChoice : GoodIn wsX3_best (wsV RX3 88 RX3 yX3_worthOfChoice wsX3_worthOfChoice) := goodIn_app (goodIn_of _ (by decide +kernel)) ggX3_best_X3_worthOfChoice
theorem dX3_best_0 : decode cX3_best 0 = .ok (.aload_n 0, 1) := by decide +kernel
theorem dX3_best_1 : decode cX3_best 1 = .ok (.lconst 0, 1) := by decide +kernel
theorem dX3_best_2 : decode cX3_best 2 = .ok (.invokevirtual 143, 3) := by decide +kernel
theorem dX3_best_5 : decode cX3_best 5 = .ok (.aload_n 0, 1) := by decide +kernel
theorem dX3_best_6 : decode cX3_best 6 = .ok (.getfield 28, 3) := by decide +kernel
theorem dX3_best_9 : decode cX3_best 9 = .ok (.invokevirtual 147, 3) := by decide +kernel
theorem dX3_best_12 : decode cX3_best 12 = .ok (.ifCond .ne 5, 3) := by decide +kernel
theorem dX3_best_15 : decode cX3_best 15 = .ok (.iconst (-1), 1) := by decide +kernel
theorem dX3_best_16 : decode cX3_best 16 = .ok (.ireturn, 1) := by decide +kernel
theorem dX3_best_17 : decode cX3_best 17 = .ok (.aload_n 0, 1) := by decide +kernel
theorem dX3_best_18 : decode cX3_best 18 = .ok (.aload_n 0, 1) := by decide +kernel
theorem dX3_best_19 : decode cX3_best 19 = .ok (.getfield 28, 3) := by decide +kernel
theorem dX3_best_22 : decode cX3_best 22 = .ok (.getfield 151, 3) := by decide +kernel
theorem dX3_best_25 : decode cX3_best 25 = .ok (.invokevirtual 140, 3) := by decide +kernel
theorem dX3_best_28 : decode cX3_best 28 = .ok (.aload_n 0, 1) := by decide +kernel
theorem dX3_best_29 : decode cX3_best 29 = .ok (.invokevirtual 88, 3) := by decide +kernel
theorem dX3_best_32 : decode cX3_best 32 = .ok (.ireturn, 1) := by decide +kernel
set_option maxRecDepth 20000 in
theorem ggX3_mend_X3_offerPictures : GoodIn wsX3_mend wsX3_offerPictures := goodIn_r _ [8, 2, 9, 10, 11, 12, 13, 14, 15, 16, 17, 18, 19, 20, 21, 22, 23, 24, 25, 7, 26, 27, 28, 29, 30, 31, 32, 33, 34, 35, 36, 37, 38, 39, 3, 40, 41, 42, 43, 44, 45, 46, 47, 48, 49, 50, 51, 52, 53, 54, 55, 56, 57, 58, 103, 104, 105, 106, 107, 108, 109, 110, 111, 112, 113, 114, 115, 116, 117, 118, 119, 120, 121, 122, 123, 124, 125, 126, 127, 128, 129, 130, 131, 132, 133, 134, 135, 136] (by decide +kernel) (by decide +kernel)
set_option maxRecDepth 20000 in
theorem gX3_mend_X3_offerPictures : GoodIn wsX3_mend (wsV RX3 143 RX3 yX3_offerPictures wsX3_offerPictures) := goodIn_app (goodIn_of _ (by decide +kernel)) ggX3_mend_X3_offerPictures
set_option maxRecDepth 20000 in
theorem ggX3_mend_X0_findBest : GoodIn wsX3_mend wsX0_findBest := goodIn_r _ [62, 63, 64, 65, 66, 16, 67, 20, 58, 68, 56, 57, 69, 46, 44, 45, 70, 71, 72, 73, 55, 74, 75, 76, 77, 19, 78, 79, 80, 81, 82, 83, 84, 22, 18, 112, 113, 114, 115, 116, 117, 118, 119, 120, 121, 122, 123, 124, 125] (by decide +kernel) (by decide +kernel)
set_option maxRecDepth 20000 in
theorem gX3_mend_X0_findBest : GoodIn wsX3_mend (wsV RX3 147 RX0 yX0_findBest wsX0_findBest) := goodIn_app (goodIn_of _ (by decide +kernel)) ggX3_mend_X0_findBest
set_option maxRecDepth 20000 in
theorem ggX3_mend_X3_decide : GoodIn wsX3_mend wsX3_decide := goodIn_r _ [88, 3, 89, 90, 91, 92, 93, 94, 95, 103, 104, 105, 106, 107, 108, 109, 110, 111, 137, 138, 139, 140, 141, 142, 143, 144, 145, 146] (by decide +kernel) (by decide +kernel)
set_option maxRecDepth 20000 in
theorem gX3_mend_X3_decide : GoodIn wsX3_mend (wsV RX3 140 RX3 yX3_decide wsX3_decide) := goodIn_app (goodIn_of _ (by decide +kernel)) ggX3_mend_X3_decide
set_option maxRecDepth 20000 in
theorem ggX3_mend_J6_bitCount_0f7a4 : GoodIn wsX3_mend wsJ6_bitCount_0f7a4 := goodIn_r _ [99, 100, 101, 102] (by decide +kernel) (by decide +kernel)
set_option maxRecDepth 20000 in
theorem gX3_mend_J6_bitCount_0f7a4 : GoodIn wsX3_mend (va_wsS RX3 156 yJ6_bitCount_0f7a4 wsJ6_bitCount_0f7a4) := goodIn_app (goodIn_of _ (by decide +kernel)) ggX3_mend_J6_bitCount_0f7a4
theorem dX3_mend_0 : decode cX3_mend 0 = .ok (.aload_n 0, 1) := by decide +kernel
theorem dX3_mend_1 : decode cX3_mend 1 = .ok (.ldc2_w 154, 3) := by decide +kernel
theorem dX3_mend_4 : decode cX3_mend 4 = .ok (.invokevirtual 143, 3) := by decide +kernel
theorem dX3_mend_7 : decode cX3_mend 7 = .ok (.aload_n 0, 1) := by decide +kernel
theorem dX3_mend_8 : decode cX3_mend 8 = .ok (.getfield 28, 3) := by decide +kernel
theorem dX3_mend_11 : decode cX3_mend 11 = .ok (.invokevirtual 147, 3) := by decide +kernel
theorem dX3_mend_14 : decode cX3_mend 14 = .ok (.ifCond .ne 5, 3) := by decide +kernel
theorem dX3_mend_17 : decode cX3_mend 17 = .ok (.iconst (-1), 1) := by decide +kernel
theorem dX3_mend_18 : decode cX3_mend 18 = .ok (.ireturn, 1) := by decide +kernel
theorem dX3_mend_19 : decode cX3_mend 19 = .ok (.aload_n 0, 1) := by decide +kernel
theorem dX3_mend_20 : decode cX3_mend 20 = .ok (.getfield 85, 3) := by decide +kernel
theorem dX3_mend_23 : decode cX3_mend 23 = .ok (.istore_n 1, 1) := by decide +kernel
theorem dX3_mend_24 : decode cX3_mend 24 = .ok (.aload_n 0, 1) := by decide +kernel
theorem dX3_mend_25 : decode cX3_mend 25 = .ok (.aload_n 0, 1) := by decide +kernel
theorem dX3_mend_26 : decode cX3_mend 26 = .ok (.getfield 28, 3) := by decide +kernel
theorem dX3_mend_29 : decode cX3_mend 29 = .ok (.getfield 151, 3) := by decide +kernel
theorem dX3_mend_32 : decode cX3_mend 32 = .ok (.invokevirtual 140, 3) := by decide +kernel
theorem dX3_mend_35 : decode cX3_mend 35 = .ok (.iload_n 1, 1) := by decide +kernel
theorem dX3_mend_36 : decode cX3_mend 36 = .ok (.aload_n 0, 1) := by decide +kernel
theorem dX3_mend_37 : decode cX3_mend 37 = .ok (.getfield 85, 3) := by decide +kernel
theorem dX3_mend_40 : decode cX3_mend 40 = .ok (.ixor, 1) := by decide +kernel
theorem dX3_mend_41 : decode cX3_mend 41 = .ok (.invokestatic 156, 3) := by decide +kernel
theorem dX3_mend_44 : decode cX3_mend 44 = .ok (.ireturn, 1) := by decide +kernel
set_option maxRecDepth 20000 in
theorem ggX3_choices_X3_offerPictures : GoodIn wsX3_choices wsX3_offerPictures := goodIn_r _ [6, 1, 7, 8, 9, 10, 11, 12, 13, 14, 15, 16, 17, 18, 19, 20, 21, 22, 23, 5, 24, 25, 26, 27, 28, 29, 30, 31, 32, 33, 34, 35, 36, 37, 38, 39, 40, 41, 42, 43, 44, 45, 46, 47, 48, 49, 50, 51, 52, 53, 54, 55, 56, 57, 81, 82, 83, 84, 85, 86, 87, 88, 89, 90, 91, 92, 93, 94, 95, 96, 97, 98, 99, 100, 101, 102, 103, 104, 105, 106, 107, 108, 109, 110, 111, 112, 113, 114] (by decide +kernel) (by decide +kernel)
set_option maxRecDepth 20000 in
theorem gX3_choices_X3_offerPictures : GoodIn wsX3_choices (wsV RX3 143 RX3 yX3_offerPictures wsX3_offerPictures) := goodIn_app (goodIn_of _ (by decide +kernel)) ggX3_choices_X3_offerPictures
set_option maxRecDepth 20000 in
theorem ggX3_choices_X0_countFitting : GoodIn wsX3_choices wsX0_countFitting := goodIn_r _ [61, 62, 63, 64, 14, 65, 18, 54, 44, 66, 67, 68, 69, 70, 71, 72, 73, 17, 74, 75, 76, 77, 78, 79, 80, 20, 16, 90, 91, 92, 93, 94, 95, 96, 97, 98, 99, 100, 101, 102, 103] (by decide +kernel) (by decide +kernel)
set_option maxRecDepth 20000 in
theorem gX3_choices_X0_countFitting : GoodIn wsX3_choices (wsV RX3 161 RX0 yX0_countFitting wsX0_countFitting) := goodIn_app (goodIn_of _ (by decide +kernel)) ggX3_choices_X0_countFitting
theorem dX3_choices_0 : decode cX3_choices 0 = .ok (.aload_n 0, 1) := by decide +kernel
theorem dX3_choices_1 : decode cX3_choices 1 = .ok (.lconst 0, 1) := by decide +kernel
theorem dX3_choices_2 : decode cX3_choices 2 = .ok (.invokevirtual 143, 3) := by decide +kernel
theorem dX3_choices_5 : decode cX3_choices 5 = .ok (.aload_n 0, 1) := by decide +kernel
theorem dX3_choices_6 : decode cX3_choices 6 = .ok (.getfield 28, 3) := by decide +kernel
theorem dX3_choices_9 : decode cX3_choices 9 = .ok (.invokevirtual 161, 3) := by decide +kernel
theorem dX3_choices_12 : decode cX3_choices 12 = .ok (.ireturn, 1) := by decide +kernel
set_option maxRecDepth 20000 in
theorem ggX3_lacking_X3_shownIn : GoodIn wsX3_lacking wsX3_shownIn := goodIn_r _ [8, 9, 10, 11, 7, 12, 2, 13, 23, 24, 25, 26, 27, 28, 29, 30, 31, 32, 33, 14, 15, 16, 17, 18, 19, 20, 21, 22] (by decide +kernel) (by decide +kernel)
set_option maxRecDepth 20000 in
theorem gX3_lacking_X3_shownIn : GoodIn wsX3_lacking (wsV RX3 137 RX3 yX3_shownIn wsX3_shownIn) := goodIn_app (goodIn_of _ (by decide +kernel)) ggX3_lacking_X3_shownIn
theorem dX3_lacking_0 : decode cX3_lacking 0 = .ok (.iconst 0, 1) := by decide +kernel
theorem dX3_lacking_1 : decode cX3_lacking 1 = .ok (.istore_n 1, 1) := by decide +kernel
theorem dX3_lacking_2 : decode cX3_lacking 2 = .ok (.iload_n 1, 1) := by decide +kernel
theorem dX3_lacking_3 : decode cX3_lacking 3 = .ok (.aload_n 0, 1) := by decide +kernel
theorem dX3_lacking_4 : decode cX3_lacking 4 = .ok (.getfield 43, 3) := by decide +kernel
theorem dX3_lacking_7 : decode cX3_lacking 7 = .ok (.if_icmp .ge 51, 3) := by decide +kernel
theorem dX3_lacking_10 : decode cX3_lacking 10 = .ok (.iconst 0, 1) := by decide +kernel
theorem dX3_lacking_11 : decode cX3_lacking 11 = .ok (.istore_n 2, 1) := by decide +kernel
theorem dX3_lacking_12 : decode cX3_lacking 12 = .ok (.iconst 0, 1) := by decide +kernel
theorem dX3_lacking_13 : decode cX3_lacking 13 = .ok (.istore_n 3, 1) := by decide +kernel
theorem dX3_lacking_14 : decode cX3_lacking 14 = .ok (.iload_n 3, 1) := by decide +kernel
theorem dX3_lacking_15 : decode cX3_lacking 15 = .ok (.aload_n 0, 1) := by decide +kernel
theorem dX3_lacking_16 : decode cX3_lacking 16 = .ok (.getfield 51, 3) := by decide +kernel
theorem dX3_lacking_19 : decode cX3_lacking 19 = .ok (.if_icmp .ge 21, 3) := by decide +kernel
theorem dX3_lacking_22 : decode cX3_lacking 22 = .ok (.iload_n 2, 1) := by decide +kernel
theorem dX3_lacking_23 : decode cX3_lacking 23 = .ok (.aload_n 0, 1) := by decide +kernel
theorem dX3_lacking_24 : decode cX3_lacking 24 = .ok (.iload_n 3, 1) := by decide +kernel
theorem dX3_lacking_25 : decode cX3_lacking 25 = .ok (.invokevirtual 137, 3) := by decide +kernel
theorem dX3_lacking_28 : decode cX3_lacking 28 = .ok (.iload_n 1, 1) := by decide +kernel
theorem dX3_lacking_29 : decode cX3_lacking 29 = .ok (.ishr, 1) := by decide +kernel
theorem dX3_lacking_30 : decode cX3_lacking 30 = .ok (.iconst 1, 1) := by decide +kernel
theorem dX3_lacking_31 : decode cX3_lacking 31 = .ok (.iand, 1) := by decide +kernel
theorem dX3_lacking_32 : decode cX3_lacking 32 = .ok (.iadd, 1) := by decide +kernel
theorem dX3_lacking_33 : decode cX3_lacking 33 = .ok (.istore_n 2, 1) := by decide +kernel
theorem dX3_lacking_34 : decode cX3_lacking 34 = .ok (.iinc 3 1, 3) := by decide +kernel
theorem dX3_lacking_37 : decode cX3_lacking 37 = .ok (.goto (-23), 3) := by decide +kernel
theorem dX3_lacking_40 : decode cX3_lacking 40 = .ok (.iload_n 2, 1) := by decide +kernel
theorem dX3_lacking_41 : decode cX3_lacking 41 = .ok (.aload_n 0, 1) := by decide +kernel
theorem dX3_lacking_42 : decode cX3_lacking 42 = .ok (.getfield 22, 3) := by decide +kernel
theorem dX3_lacking_45 : decode cX3_lacking 45 = .ok (.iconst 1, 1) := by decide +kernel
theorem dX3_lacking_46 : decode cX3_lacking 46 = .ok (.iaload, 1) := by decide +kernel
theorem dX3_lacking_47 : decode cX3_lacking 47 = .ok (.if_icmp .ge 5, 3) := by decide +kernel
theorem dX3_lacking_50 : decode cX3_lacking 50 = .ok (.iload_n 1, 1) := by decide +kernel
theorem dX3_lacking_51 : decode cX3_lacking 51 = .ok (.ireturn, 1) := by decide +kernel
theorem dX3_lacking_52 : decode cX3_lacking 52 = .ok (.iinc 1 1, 3) := by decide +kernel
theorem dX3_lacking_55 : decode cX3_lacking 55 = .ok (.goto (-53), 3) := by decide +kernel
theorem dX3_lacking_58 : decode cX3_lacking 58 = .ok (.iconst (-1), 1) := by decide +kernel
theorem dX3_lacking_59 : decode cX3_lacking 59 = .ok (.ireturn, 1) := by decide +kernel
set_option maxRecDepth 20000 in
theorem ggX3_fewest_X1_pagesFor : GoodIn wsX3_fewest wsX1_pagesFor := goodIn_r _ [7, 8, 9, 10, 11, 12, 13, 6, 14, 15, 16, 17, 18, 19, 20, 21, 22, 23, 24, 25, 26, 27, 28, 29, 30, 31, 32, 33, 34, 35, 36, 37, 38, 48, 49, 50, 51, 52, 53, 54, 55, 56, 57] (by decide +kernel) (by decide +kernel)
set_option maxRecDepth 20000 in
theorem gX3_fewest_X1_pagesFor : GoodIn wsX3_fewest (wsV RX3 164 RX1 yX1_pagesFor wsX1_pagesFor) := goodIn_app (goodIn_of _ (by decide +kernel)) ggX3_fewest_X1_pagesFor
theorem dX3_fewest_0 : decode cX3_fewest 0 = .ok (.aload_n 0, 1) := by decide +kernel
theorem dX3_fewest_1 : decode cX3_fewest 1 = .ok (.getfield 35, 3) := by decide +kernel
theorem dX3_fewest_4 : decode cX3_fewest 4 = .ok (.aload_n 0, 1) := by decide +kernel
theorem dX3_fewest_5 : decode cX3_fewest 5 = .ok (.getfield 85, 3) := by decide +kernel
theorem dX3_fewest_8 : decode cX3_fewest 8 = .ok (.invokevirtual 164, 3) := by decide +kernel
theorem dX3_fewest_11 : decode cX3_fewest 11 = .ok (.ireturn, 1) := by decide +kernel
set_option maxRecDepth 20000 in
theorem ggX3_lay_X1_layOut : GoodIn wsX3_lay wsX1_layOut := goodIn_r _ [8, 9, 10, 11, 12, 7, 13, 14, 15, 16, 17, 18, 19, 20, 21, 22, 23, 24, 25, 26, 27, 28, 29, 30, 31, 32, 33, 34, 35, 36, 37, 38, 39, 40, 41, 42, 43, 44, 45, 46, 47, 48, 49, 50, 51, 52, 53, 54, 55, 56, 57, 58, 59, 60, 61, 71, 72, 73, 74, 75, 76, 77, 78, 79, 80] (by decide +kernel) (by decide +kernel)
set_option maxRecDepth 20000 in
theorem gX3_lay_X1_layOut : GoodIn wsX3_lay (wsV RX3 167 RX1 yX1_layOut wsX1_layOut) := goodIn_app (goodIn_of _ (by decide +kernel)) ggX3_lay_X1_layOut
theorem dX3_lay_0 : decode cX3_lay 0 = .ok (.aload_n 0, 1) := by decide +kernel
theorem dX3_lay_1 : decode cX3_lay 1 = .ok (.getfield 35, 3) := by decide +kernel
theorem dX3_lay_4 : decode cX3_lay 4 = .ok (.aload_n 0, 1) := by decide +kernel
theorem dX3_lay_5 : decode cX3_lay 5 = .ok (.getfield 85, 3) := by decide +kernel
theorem dX3_lay_8 : decode cX3_lay 8 = .ok (.aload_n 0, 1) := by decide +kernel
theorem dX3_lay_9 : decode cX3_lay 9 = .ok (.getfield 22, 3) := by decide +kernel
theorem dX3_lay_12 : decode cX3_lay 12 = .ok (.iconst 3, 1) := by decide +kernel
theorem dX3_lay_13 : decode cX3_lay 13 = .ok (.iaload, 1) := by decide +kernel
theorem dX3_lay_14 : decode cX3_lay 14 = .ok (.invokevirtual 167, 3) := by decide +kernel
theorem dX3_lay_17 : decode cX3_lay 17 = .ok (.ireturn, 1) := by decide +kernel
set_option maxRecDepth 20000 in
theorem ggX3_page_X1_has : GoodIn wsX3_page wsX1_has := goodIn_r _ [6, 7, 17, 18, 19, 20, 21, 22, 23, 24, 25, 26] (by decide +kernel) (by decide +kernel)
set_option maxRecDepth 20000 in
theorem gX3_page_X1_has : GoodIn wsX3_page (wsV RX3 170 RX1 yX1_has wsX1_has) := goodIn_app (goodIn_of _ (by decide +kernel)) ggX3_page_X1_has
theorem dX3_page_0 : decode cX3_page 0 = .ok (.aload_n 0, 1) := by decide +kernel
theorem dX3_page_1 : decode cX3_page 1 = .ok (.getfield 35, 3) := by decide +kernel
theorem dX3_page_4 : decode cX3_page 4 = .ok (.iload_n 1, 1) := by decide +kernel
theorem dX3_page_5 : decode cX3_page 5 = .ok (.invokevirtual 170, 3) := by decide +kernel
theorem dX3_page_8 : decode cX3_page 8 = .ok (.ifCond .eq 15, 3) := by decide +kernel
theorem dX3_page_11 : decode cX3_page 11 = .ok (.aload_n 0, 1) := by decide +kernel
theorem dX3_page_12 : decode cX3_page 12 = .ok (.getfield 35, 3) := by decide +kernel
theorem dX3_page_15 : decode cX3_page 15 = .ok (.getfield 173, 3) := by decide +kernel
theorem dX3_page_18 : decode cX3_page 18 = .ok (.iload_n 1, 1) := by decide +kernel
theorem dX3_page_19 : decode cX3_page 19 = .ok (.iaload, 1) := by decide +kernel
theorem dX3_page_20 : decode cX3_page 20 = .ok (.goto 4, 3) := by decide +kernel
theorem dX3_page_23 : decode cX3_page 23 = .ok (.iconst (-1), 1) := by decide +kernel
theorem dX3_page_24 : decode cX3_page 24 = .ok (.ireturn, 1) := by decide +kernel
set_option maxRecDepth 20000 in
theorem ggX3_left_X1_has : GoodIn wsX3_left wsX1_has := goodIn_r _ [6, 7, 23, 24, 25, 26, 27, 28, 29, 30, 31, 32] (by decide +kernel) (by decide +kernel)
set_option maxRecDepth 20000 in
theorem gX3_left_X1_has : GoodIn wsX3_left (wsV RX3 170 RX1 yX1_has wsX1_has) := goodIn_app (goodIn_of _ (by decide +kernel)) ggX3_left_X1_has
set_option maxRecDepth 20000 in
theorem ggX3_left_X1_pointsOf : GoodIn wsX3_left wsX1_pointsOf := goodIn_r _ [11, 12, 13, 23, 24, 25, 26, 27, 28, 29, 30, 31, 32] (by decide +kernel) (by decide +kernel)
set_option maxRecDepth 20000 in
theorem gX3_left_X1_pointsOf : GoodIn wsX3_left (wsV RX3 176 RX1 yX1_pointsOf wsX1_pointsOf) := goodIn_app (goodIn_of _ (by decide +kernel)) ggX3_left_X1_pointsOf
theorem dX3_left_0 : decode cX3_left 0 = .ok (.aload_n 0, 1) := by decide +kernel
theorem dX3_left_1 : decode cX3_left 1 = .ok (.getfield 35, 3) := by decide +kernel
theorem dX3_left_4 : decode cX3_left 4 = .ok (.iload_n 1, 1) := by decide +kernel
theorem dX3_left_5 : decode cX3_left 5 = .ok (.invokevirtual 170, 3) := by decide +kernel
theorem dX3_left_8 : decode cX3_left 8 = .ok (.ifCond .eq 25, 3) := by decide +kernel
theorem dX3_left_11 : decode cX3_left 11 = .ok (.bipush 12, 2) := by decide +kernel
theorem dX3_left_13 : decode cX3_left 13 = .ok (.aload_n 0, 1) := by decide +kernel
theorem dX3_left_14 : decode cX3_left 14 = .ok (.getfield 35, 3) := by decide +kernel
theorem dX3_left_17 : decode cX3_left 17 = .ok (.aload_n 0, 1) := by decide +kernel
theorem dX3_left_18 : decode cX3_left 18 = .ok (.getfield 35, 3) := by decide +kernel
theorem dX3_left_21 : decode cX3_left 21 = .ok (.getfield 173, 3) := by decide +kernel
theorem dX3_left_24 : decode cX3_left 24 = .ok (.iload_n 1, 1) := by decide +kernel
theorem dX3_left_25 : decode cX3_left 25 = .ok (.iaload, 1) := by decide +kernel
theorem dX3_left_26 : decode cX3_left 26 = .ok (.invokevirtual 176, 3) := by decide +kernel
