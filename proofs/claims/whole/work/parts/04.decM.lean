theorem dX11_init_0 : decode cX11_init 0 = .ok (.aload_n 0, 1) := by decide +kernel
theorem dX11_init_1 : decode cX11_init 1 = .ok (.invokespecial 1, 3) := by decide +kernel
theorem dX11_init_4 : decode cX11_init 4 = .ok (.aload_n 0, 1) := by decide +kernel
theorem dX11_init_5 : decode cX11_init 5 = .ok (.sipush 1280, 3) := by decide +kernel
theorem dX11_init_8 : decode cX11_init 8 = .ok (.newarray .int, 2) := by decide +kernel
theorem dX11_init_10 : decode cX11_init 10 = .ok (.putfield 7, 3) := by decide +kernel
theorem dX11_init_13 : decode cX11_init 13 = .ok (.aload_n 0, 1) := by decide +kernel
theorem dX11_init_14 : decode cX11_init 14 = .ok (.iconst 3, 1) := by decide +kernel
theorem dX11_init_15 : decode cX11_init 15 = .ok (.newarray .boolean, 2) := by decide +kernel
theorem dX11_init_17 : decode cX11_init 17 = .ok (.putfield 13, 3) := by decide +kernel
theorem dX11_init_20 : decode cX11_init 20 = .ok (.aload_n 0, 1) := by decide +kernel
theorem dX11_init_21 : decode cX11_init 21 = .ok (.bipush 9, 2) := by decide +kernel
theorem dX11_init_23 : decode cX11_init 23 = .ok (.newarray .int, 2) := by decide +kernel
theorem dX11_init_25 : decode cX11_init 25 = .ok (.putfield 17, 3) := by decide +kernel
theorem dX11_init_28 : decode cX11_init 28 = .ok (.aload_n 0, 1) := by decide +kernel
theorem dX11_init_29 : decode cX11_init 29 = .ok (.bipush 9, 2) := by decide +kernel
theorem dX11_init_31 : decode cX11_init 31 = .ok (.newarray .int, 2) := by decide +kernel
theorem dX11_init_33 : decode cX11_init 33 = .ok (.putfield 20, 3) := by decide +kernel
theorem dX11_init_36 : decode cX11_init 36 = .ok (.aload_n 0, 1) := by decide +kernel
theorem dX11_init_37 : decode cX11_init 37 = .ok (.bipush 9, 2) := by decide +kernel
theorem dX11_init_39 : decode cX11_init 39 = .ok (.newarray .int, 2) := by decide +kernel
theorem dX11_init_41 : decode cX11_init 41 = .ok (.putfield 23, 3) := by decide +kernel
theorem dX11_init_44 : decode cX11_init 44 = .ok (.aload_n 0, 1) := by decide +kernel
theorem dX11_init_45 : decode cX11_init 45 = .ok (.bipush 32, 2) := by decide +kernel
theorem dX11_init_47 : decode cX11_init 47 = .ok (.newarray .int, 2) := by decide +kernel
theorem dX11_init_49 : decode cX11_init 49 = .ok (.putfield 26, 3) := by decide +kernel
theorem dX11_init_52 : decode cX11_init 52 = .ok (.aload_n 0, 1) := by decide +kernel
theorem dX11_init_53 : decode cX11_init 53 = .ok (.sipush 625, 3) := by decide +kernel
theorem dX11_init_56 : decode cX11_init 56 = .ok (.newarray .int, 2) := by decide +kernel
theorem dX11_init_58 : decode cX11_init 58 = .ok (.putfield 29, 3) := by decide +kernel
theorem dX11_init_61 : decode cX11_init 61 = .ok (.aload_n 0, 1) := by decide +kernel
theorem dX11_init_62 : decode cX11_init 62 = .ok (.sipush 625, 3) := by decide +kernel
theorem dX11_init_65 : decode cX11_init 65 = .ok (.newarray .int, 2) := by decide +kernel
theorem dX11_init_67 : decode cX11_init 67 = .ok (.putfield 32, 3) := by decide +kernel
theorem dX11_init_70 : decode cX11_init 70 = .ok (.aload_n 0, 1) := by decide +kernel
theorem dX11_init_71 : decode cX11_init 71 = .ok (.sipush 625, 3) := by decide +kernel
theorem dX11_init_74 : decode cX11_init 74 = .ok (.newarray .int, 2) := by decide +kernel
theorem dX11_init_76 : decode cX11_init 76 = .ok (.putfield 35, 3) := by decide +kernel
theorem dX11_init_79 : decode cX11_init 79 = .ok (.aload_n 0, 1) := by decide +kernel
theorem dX11_init_80 : decode cX11_init 80 = .ok (.getfield 7, 3) := by decide +kernel
theorem dX11_init_83 : decode cX11_init 83 = .ok (.iconst 5, 1) := by decide +kernel
theorem dX11_init_84 : decode cX11_init 84 = .ok (.bipush 10, 2) := by decide +kernel
theorem dX11_init_86 : decode cX11_init 86 = .ok (.iastore, 1) := by decide +kernel
theorem dX11_init_87 : decode cX11_init 87 = .ok (.aload_n 0, 1) := by decide +kernel
theorem dX11_init_88 : decode cX11_init 88 = .ok (.getfield 7, 3) := by decide +kernel
theorem dX11_init_91 : decode cX11_init 91 = .ok (.bipush 6, 2) := by decide +kernel
theorem dX11_init_93 : decode cX11_init 93 = .ok (.bipush 50, 2) := by decide +kernel
theorem dX11_init_95 : decode cX11_init 95 = .ok (.iastore, 1) := by decide +kernel
theorem dX11_init_96 : decode cX11_init 96 = .ok (.aload_n 0, 1) := by decide +kernel
theorem dX11_init_97 : decode cX11_init 97 = .ok (.getfield 7, 3) := by decide +kernel
theorem dX11_init_100 : decode cX11_init 100 = .ok (.bipush 7, 2) := by decide +kernel
theorem dX11_init_102 : decode cX11_init 102 = .ok (.sipush 200, 3) := by decide +kernel
theorem dX11_init_105 : decode cX11_init 105 = .ok (.iastore, 1) := by decide +kernel
theorem dX11_init_106 : decode cX11_init 106 = .ok (.aload_n 0, 1) := by decide +kernel
theorem dX11_init_107 : decode cX11_init 107 = .ok (.getfield 7, 3) := by decide +kernel
theorem dX11_init_110 : decode cX11_init 110 = .ok (.bipush 8, 2) := by decide +kernel
theorem dX11_init_112 : decode cX11_init 112 = .ok (.iconst 1, 1) := by decide +kernel
theorem dX11_init_113 : decode cX11_init 113 = .ok (.iastore, 1) := by decide +kernel
theorem dX11_init_114 : decode cX11_init 114 = .ok (.iconst 0, 1) := by decide +kernel
theorem dX11_init_115 : decode cX11_init 115 = .ok (.istore_n 1, 1) := by decide +kernel
theorem dX11_init_116 : decode cX11_init 116 = .ok (.iload_n 1, 1) := by decide +kernel
theorem dX11_init_117 : decode cX11_init 117 = .ok (.bipush 8, 2) := by decide +kernel
theorem dX11_init_119 : decode cX11_init 119 = .ok (.if_icmp .ge 38, 3) := by decide +kernel
theorem dX11_init_122 : decode cX11_init 122 = .ok (.iconst 0, 1) := by decide +kernel
theorem dX11_init_123 : decode cX11_init 123 = .ok (.istore_n 2, 1) := by decide +kernel
theorem dX11_init_124 : decode cX11_init 124 = .ok (.iload_n 2, 1) := by decide +kernel
theorem dX11_init_125 : decode cX11_init 125 = .ok (.iconst 4, 1) := by decide +kernel
theorem dX11_init_126 : decode cX11_init 126 = .ok (.if_icmp .ge 25, 3) := by decide +kernel
theorem dX11_init_129 : decode cX11_init 129 = .ok (.aload_n 0, 1) := by decide +kernel
theorem dX11_init_130 : decode cX11_init 130 = .ok (.getfield 7, 3) := by decide +kernel
theorem dX11_init_133 : decode cX11_init 133 = .ok (.sipush 250, 3) := by decide +kernel
theorem dX11_init_136 : decode cX11_init 136 = .ok (.bipush 6, 2) := by decide +kernel
theorem dX11_init_138 : decode cX11_init 138 = .ok (.iload_n 1, 1) := by decide +kernel
theorem dX11_init_139 : decode cX11_init 139 = .ok (.imul, 1) := by decide +kernel
theorem dX11_init_140 : decode cX11_init 140 = .ok (.iadd, 1) := by decide +kernel
theorem dX11_init_141 : decode cX11_init 141 = .ok (.iload_n 2, 1) := by decide +kernel
theorem dX11_init_142 : decode cX11_init 142 = .ok (.iadd, 1) := by decide +kernel
theorem dX11_init_143 : decode cX11_init 143 = .ok (.iload_n 1, 1) := by decide +kernel
theorem dX11_init_144 : decode cX11_init 144 = .ok (.iastore, 1) := by decide +kernel
theorem dX11_init_145 : decode cX11_init 145 = .ok (.iinc 2 1, 3) := by decide +kernel
theorem dX11_init_148 : decode cX11_init 148 = .ok (.goto (-24), 3) := by decide +kernel
theorem dX11_init_151 : decode cX11_init 151 = .ok (.iinc 1 1, 3) := by decide +kernel
theorem dX11_init_154 : decode cX11_init 154 = .ok (.goto (-38), 3) := by decide +kernel
theorem dX11_init_157 : decode cX11_init 157 = .ok (.return_, 1) := by decide +kernel
theorem dX11_isIn_0 : decode cX11_isIn 0 = .ok (.iload_n 0, 1) := by decide +kernel
theorem dX11_isIn_1 : decode cX11_isIn 1 = .ok (.iload_n 1, 1) := by decide +kernel
theorem dX11_isIn_2 : decode cX11_isIn 2 = .ok (.if_icmp .lt 12, 3) := by decide +kernel
theorem dX11_isIn_5 : decode cX11_isIn 5 = .ok (.iload_n 0, 1) := by decide +kernel
theorem dX11_isIn_6 : decode cX11_isIn 6 = .ok (.iload_n 2, 1) := by decide +kernel
theorem dX11_isIn_7 : decode cX11_isIn 7 = .ok (.if_icmp .gt 7, 3) := by decide +kernel
theorem dX11_isIn_10 : decode cX11_isIn 10 = .ok (.iconst 1, 1) := by decide +kernel
theorem dX11_isIn_11 : decode cX11_isIn 11 = .ok (.goto 4, 3) := by decide +kernel
theorem dX11_isIn_14 : decode cX11_isIn 14 = .ok (.iconst 0, 1) := by decide +kernel
theorem dX11_isIn_15 : decode cX11_isIn 15 = .ok (.ireturn, 1) := by decide +kernel
theorem dX11_isOf_0 : decode cX11_isOf 0 = .ok (.iload_n 1, 1) := by decide +kernel
theorem dX11_isOf_1 : decode cX11_isOf 1 = .ok (.iconst 0, 1) := by decide +kernel
theorem dX11_isOf_2 : decode cX11_isOf 2 = .ok (.aload_n 0, 1) := by decide +kernel
theorem dX11_isOf_3 : decode cX11_isOf 3 = .ok (.getfield 7, 3) := by decide +kernel
theorem dX11_isOf_6 : decode cX11_isOf 6 = .ok (.iload_n 2, 1) := by decide +kernel
theorem dX11_isOf_7 : decode cX11_isOf 7 = .ok (.iaload, 1) := by decide +kernel
theorem dX11_isOf_8 : decode cX11_isOf 8 = .ok (.iconst 1, 1) := by decide +kernel
theorem dX11_isOf_9 : decode cX11_isOf 9 = .ok (.isub, 1) := by decide +kernel
theorem dX11_isOf_10 : decode cX11_isOf 10 = .ok (.invokestatic 38, 3) := by decide +kernel
theorem dX11_isOf_13 : decode cX11_isOf 13 = .ok (.ireturn, 1) := by decide +kernel
theorem dX11_bin_0 : decode cX11_bin 0 = .ok (.aload_n 0, 1) := by decide +kernel
theorem dX11_bin_1 : decode cX11_bin 1 = .ok (.getfield 7, 3) := by decide +kernel
theorem dX11_bin_4 : decode cX11_bin 4 = .ok (.iconst 0, 1) := by decide +kernel
theorem dX11_bin_5 : decode cX11_bin 5 = .ok (.iaload, 1) := by decide +kernel
theorem dX11_bin_6 : decode cX11_bin 6 = .ok (.bipush 6, 2) := by decide +kernel
theorem dX11_bin_8 : decode cX11_bin 8 = .ok (.if_icmp .eq 13, 3) := by decide +kernel
theorem dX11_bin_11 : decode cX11_bin 11 = .ok (.iload_n 1, 1) := by decide +kernel
theorem dX11_bin_12 : decode cX11_bin 12 = .ok (.iconst 0, 1) := by decide +kernel
theorem dX11_bin_13 : decode cX11_bin 13 = .ok (.bipush 20, 2) := by decide +kernel
theorem dX11_bin_15 : decode cX11_bin 15 = .ok (.invokestatic 38, 3) := by decide +kernel
theorem dX11_bin_18 : decode cX11_bin 18 = .ok (.ifCond .ne 5, 3) := by decide +kernel
theorem dX11_bin_21 : decode cX11_bin 21 = .ok (.iconst (-1), 1) := by decide +kernel
theorem dX11_bin_22 : decode cX11_bin 22 = .ok (.ireturn, 1) := by decide +kernel
theorem dX11_bin_23 : decode cX11_bin 23 = .ok (.bipush 10, 2) := by decide +kernel
theorem dX11_bin_25 : decode cX11_bin 25 = .ok (.iconst 3, 1) := by decide +kernel
theorem dX11_bin_26 : decode cX11_bin 26 = .ok (.aload_n 0, 1) := by decide +kernel
theorem dX11_bin_27 : decode cX11_bin 27 = .ok (.getfield 7, 3) := by decide +kernel
theorem dX11_bin_30 : decode cX11_bin 30 = .ok (.iconst 0, 1) := by decide +kernel
theorem dX11_bin_31 : decode cX11_bin 31 = .ok (.iaload, 1) := by decide +kernel
theorem dX11_bin_32 : decode cX11_bin 32 = .ok (.imul, 1) := by decide +kernel
theorem dX11_bin_33 : decode cX11_bin 33 = .ok (.iadd, 1) := by decide +kernel
theorem dX11_bin_34 : decode cX11_bin 34 = .ok (.istore_n 3, 1) := by decide +kernel
theorem dX11_bin_35 : decode cX11_bin 35 = .ok (.aload_n 0, 1) := by decide +kernel
theorem dX11_bin_36 : decode cX11_bin 36 = .ok (.getfield 7, 3) := by decide +kernel
theorem dX11_bin_39 : decode cX11_bin 39 = .ok (.iload_n 3, 1) := by decide +kernel
theorem dX11_bin_40 : decode cX11_bin 40 = .ok (.iconst 0, 1) := by decide +kernel
theorem dX11_bin_41 : decode cX11_bin 41 = .ok (.iastore, 1) := by decide +kernel
theorem dX11_bin_42 : decode cX11_bin 42 = .ok (.aload_n 0, 1) := by decide +kernel
theorem dX11_bin_43 : decode cX11_bin 43 = .ok (.getfield 7, 3) := by decide +kernel
theorem dX11_bin_46 : decode cX11_bin 46 = .ok (.iload_n 3, 1) := by decide +kernel
theorem dX11_bin_47 : decode cX11_bin 47 = .ok (.iconst 1, 1) := by decide +kernel
theorem dX11_bin_48 : decode cX11_bin 48 = .ok (.iadd, 1) := by decide +kernel
theorem dX11_bin_49 : decode cX11_bin 49 = .ok (.iload_n 1, 1) := by decide +kernel
theorem dX11_bin_50 : decode cX11_bin 50 = .ok (.iastore, 1) := by decide +kernel
theorem dX11_bin_51 : decode cX11_bin 51 = .ok (.aload_n 0, 1) := by decide +kernel
theorem dX11_bin_52 : decode cX11_bin 52 = .ok (.getfield 7, 3) := by decide +kernel
theorem dX11_bin_55 : decode cX11_bin 55 = .ok (.iload_n 3, 1) := by decide +kernel
theorem dX11_bin_56 : decode cX11_bin 56 = .ok (.iconst 2, 1) := by decide +kernel
theorem dX11_bin_57 : decode cX11_bin 57 = .ok (.iadd, 1) := by decide +kernel
theorem dX11_bin_58 : decode cX11_bin 58 = .ok (.iload_n 2, 1) := by decide +kernel
theorem dX11_bin_59 : decode cX11_bin 59 = .ok (.ifCond .eq 7, 3) := by decide +kernel
theorem dX11_bin_62 : decode cX11_bin 62 = .ok (.iconst 1, 1) := by decide +kernel
theorem dX11_bin_63 : decode cX11_bin 63 = .ok (.goto 4, 3) := by decide +kernel
theorem dX11_bin_66 : decode cX11_bin 66 = .ok (.iconst 0, 1) := by decide +kernel
theorem dX11_bin_67 : decode cX11_bin 67 = .ok (.iastore, 1) := by decide +kernel
theorem dX11_bin_68 : decode cX11_bin 68 = .ok (.aload_n 0, 1) := by decide +kernel
theorem dX11_bin_69 : decode cX11_bin 69 = .ok (.getfield 7, 3) := by decide +kernel
theorem dX11_bin_72 : decode cX11_bin 72 = .ok (.iconst 0, 1) := by decide +kernel
theorem dX11_bin_73 : decode cX11_bin 73 = .ok (.dup2, 1) := by decide +kernel
theorem dX11_bin_74 : decode cX11_bin 74 = .ok (.iaload, 1) := by decide +kernel
theorem dX11_bin_75 : decode cX11_bin 75 = .ok (.iconst 1, 1) := by decide +kernel
theorem dX11_bin_76 : decode cX11_bin 76 = .ok (.iadd, 1) := by decide +kernel
theorem dX11_bin_77 : decode cX11_bin 77 = .ok (.iastore, 1) := by decide +kernel
theorem dX11_bin_78 : decode cX11_bin 78 = .ok (.aload_n 0, 1) := by decide +kernel
theorem dX11_bin_79 : decode cX11_bin 79 = .ok (.getfield 7, 3) := by decide +kernel
theorem dX11_bin_82 : decode cX11_bin 82 = .ok (.iconst 0, 1) := by decide +kernel
theorem dX11_bin_83 : decode cX11_bin 83 = .ok (.iaload, 1) := by decide +kernel
theorem dX11_bin_84 : decode cX11_bin 84 = .ok (.iconst 1, 1) := by decide +kernel
theorem dX11_bin_85 : decode cX11_bin 85 = .ok (.isub, 1) := by decide +kernel
theorem dX11_bin_86 : decode cX11_bin 86 = .ok (.ireturn, 1) := by decide +kernel
theorem dX11_fill_0 : decode cX11_fill 0 = .ok (.aload_n 0, 1) := by decide +kernel
theorem dX11_fill_1 : decode cX11_fill 1 = .ok (.iload_n 1, 1) := by decide +kernel
theorem dX11_fill_2 : decode cX11_fill 2 = .ok (.iconst 0, 1) := by decide +kernel
theorem dX11_fill_3 : decode cX11_fill 3 = .ok (.invokevirtual 42, 3) := by decide +kernel
theorem dX11_fill_6 : decode cX11_fill 6 = .ok (.ifCond .eq 25, 3) := by decide +kernel
theorem dX11_fill_9 : decode cX11_fill 9 = .ok (.iload_n 2, 1) := by decide +kernel
theorem dX11_fill_10 : decode cX11_fill 10 = .ok (.iconst 1, 1) := by decide +kernel
theorem dX11_fill_11 : decode cX11_fill 11 = .ok (.ldc 46, 2) := by decide +kernel
theorem dX11_fill_13 : decode cX11_fill 13 = .ok (.aload_n 0, 1) := by decide +kernel
theorem dX11_fill_14 : decode cX11_fill 14 = .ok (.getfield 7, 3) := by decide +kernel
theorem dX11_fill_17 : decode cX11_fill 17 = .ok (.bipush 10, 2) := by decide +kernel
theorem dX11_fill_19 : decode cX11_fill 19 = .ok (.iconst 3, 1) := by decide +kernel
theorem dX11_fill_20 : decode cX11_fill 20 = .ok (.iload_n 1, 1) := by decide +kernel
theorem dX11_fill_21 : decode cX11_fill 21 = .ok (.imul, 1) := by decide +kernel
theorem dX11_fill_22 : decode cX11_fill 22 = .ok (.iadd, 1) := by decide +kernel
theorem dX11_fill_23 : decode cX11_fill 23 = .ok (.iaload, 1) := by decide +kernel
theorem dX11_fill_24 : decode cX11_fill 24 = .ok (.isub, 1) := by decide +kernel
theorem dX11_fill_25 : decode cX11_fill 25 = .ok (.invokestatic 38, 3) := by decide +kernel
theorem dX11_fill_28 : decode cX11_fill 28 = .ok (.ifCond .ne 5, 3) := by decide +kernel
theorem dX11_fill_31 : decode cX11_fill 31 = .ok (.iconst (-1), 1) := by decide +kernel
theorem dX11_fill_32 : decode cX11_fill 32 = .ok (.ireturn, 1) := by decide +kernel
theorem dX11_fill_33 : decode cX11_fill 33 = .ok (.aload_n 0, 1) := by decide +kernel
theorem dX11_fill_34 : decode cX11_fill 34 = .ok (.getfield 7, 3) := by decide +kernel
theorem dX11_fill_37 : decode cX11_fill 37 = .ok (.bipush 10, 2) := by decide +kernel
theorem dX11_fill_39 : decode cX11_fill 39 = .ok (.iconst 3, 1) := by decide +kernel
theorem dX11_fill_40 : decode cX11_fill 40 = .ok (.iload_n 1, 1) := by decide +kernel
theorem dX11_fill_41 : decode cX11_fill 41 = .ok (.imul, 1) := by decide +kernel
theorem dX11_fill_42 : decode cX11_fill 42 = .ok (.iadd, 1) := by decide +kernel
theorem dX11_fill_43 : decode cX11_fill 43 = .ok (.dup2, 1) := by decide +kernel
theorem dX11_fill_44 : decode cX11_fill 44 = .ok (.iaload, 1) := by decide +kernel
theorem dX11_fill_45 : decode cX11_fill 45 = .ok (.iload_n 2, 1) := by decide +kernel
theorem dX11_fill_46 : decode cX11_fill 46 = .ok (.iadd, 1) := by decide +kernel
theorem dX11_fill_47 : decode cX11_fill 47 = .ok (.iastore, 1) := by decide +kernel
theorem dX11_fill_48 : decode cX11_fill 48 = .ok (.aload_n 0, 1) := by decide +kernel
theorem dX11_fill_49 : decode cX11_fill 49 = .ok (.getfield 7, 3) := by decide +kernel
theorem dX11_fill_52 : decode cX11_fill 52 = .ok (.bipush 10, 2) := by decide +kernel
theorem dX11_fill_54 : decode cX11_fill 54 = .ok (.iconst 3, 1) := by decide +kernel
theorem dX11_fill_55 : decode cX11_fill 55 = .ok (.iload_n 1, 1) := by decide +kernel
theorem dX11_fill_56 : decode cX11_fill 56 = .ok (.imul, 1) := by decide +kernel
theorem dX11_fill_57 : decode cX11_fill 57 = .ok (.iadd, 1) := by decide +kernel
theorem dX11_fill_58 : decode cX11_fill 58 = .ok (.iaload, 1) := by decide +kernel
theorem dX11_fill_59 : decode cX11_fill 59 = .ok (.ireturn, 1) := by decide +kernel
theorem dX11_lot_0 : decode cX11_lot 0 = .ok (.aload_n 0, 1) := by decide +kernel
theorem dX11_lot_1 : decode cX11_lot 1 = .ok (.getfield 7, 3) := by decide +kernel
theorem dX11_lot_4 : decode cX11_lot 4 = .ok (.iconst 1, 1) := by decide +kernel
theorem dX11_lot_5 : decode cX11_lot 5 = .ok (.iaload, 1) := by decide +kernel
theorem dX11_lot_6 : decode cX11_lot 6 = .ok (.bipush 8, 2) := by decide +kernel
theorem dX11_lot_8 : decode cX11_lot 8 = .ok (.if_icmp .eq 13, 3) := by decide +kernel
theorem dX11_lot_11 : decode cX11_lot 11 = .ok (.iload_n 1, 1) := by decide +kernel
theorem dX11_lot_12 : decode cX11_lot 12 = .ok (.iconst 1, 1) := by decide +kernel
theorem dX11_lot_13 : decode cX11_lot 13 = .ok (.ldc 47, 2) := by decide +kernel
theorem dX11_lot_15 : decode cX11_lot 15 = .ok (.invokestatic 38, 3) := by decide +kernel
theorem dX11_lot_18 : decode cX11_lot 18 = .ok (.ifCond .ne 5, 3) := by decide +kernel
theorem dX11_lot_21 : decode cX11_lot 21 = .ok (.iconst (-1), 1) := by decide +kernel
theorem dX11_lot_22 : decode cX11_lot 22 = .ok (.ireturn, 1) := by decide +kernel
theorem dX11_lot_23 : decode cX11_lot 23 = .ok (.aload_n 0, 1) := by decide +kernel
theorem dX11_lot_24 : decode cX11_lot 24 = .ok (.getfield 7, 3) := by decide +kernel
theorem dX11_lot_27 : decode cX11_lot 27 = .ok (.bipush 30, 2) := by decide +kernel
theorem dX11_lot_29 : decode cX11_lot 29 = .ok (.aload_n 0, 1) := by decide +kernel
theorem dX11_lot_30 : decode cX11_lot 30 = .ok (.getfield 7, 3) := by decide +kernel
theorem dX11_lot_33 : decode cX11_lot 33 = .ok (.iconst 1, 1) := by decide +kernel
theorem dX11_lot_34 : decode cX11_lot 34 = .ok (.iaload, 1) := by decide +kernel
theorem dX11_lot_35 : decode cX11_lot 35 = .ok (.iadd, 1) := by decide +kernel
theorem dX11_lot_36 : decode cX11_lot 36 = .ok (.iload_n 1, 1) := by decide +kernel
theorem dX11_lot_37 : decode cX11_lot 37 = .ok (.iastore, 1) := by decide +kernel
theorem dX11_lot_38 : decode cX11_lot 38 = .ok (.aload_n 0, 1) := by decide +kernel
theorem dX11_lot_39 : decode cX11_lot 39 = .ok (.getfield 7, 3) := by decide +kernel
theorem dX11_lot_42 : decode cX11_lot 42 = .ok (.iconst 1, 1) := by decide +kernel
theorem dX11_lot_43 : decode cX11_lot 43 = .ok (.dup2, 1) := by decide +kernel
theorem dX11_lot_44 : decode cX11_lot 44 = .ok (.iaload, 1) := by decide +kernel
theorem dX11_lot_45 : decode cX11_lot 45 = .ok (.iconst 1, 1) := by decide +kernel
theorem dX11_lot_46 : decode cX11_lot 46 = .ok (.iadd, 1) := by decide +kernel
theorem dX11_lot_47 : decode cX11_lot 47 = .ok (.iastore, 1) := by decide +kernel
theorem dX11_lot_48 : decode cX11_lot 48 = .ok (.aload_n 0, 1) := by decide +kernel
theorem dX11_lot_49 : decode cX11_lot 49 = .ok (.getfield 7, 3) := by decide +kernel
theorem dX11_lot_52 : decode cX11_lot 52 = .ok (.iconst 1, 1) := by decide +kernel
theorem dX11_lot_53 : decode cX11_lot 53 = .ok (.iaload, 1) := by decide +kernel
theorem dX11_lot_54 : decode cX11_lot 54 = .ok (.iconst 1, 1) := by decide +kernel
theorem dX11_lot_55 : decode cX11_lot 55 = .ok (.isub, 1) := by decide +kernel
theorem dX11_lot_56 : decode cX11_lot 56 = .ok (.ireturn, 1) := by decide +kernel
theorem dX11_leastOf_0 : decode cX11_leastOf 0 = .ok (.iload_n 0, 1) := by decide +kernel
theorem dX11_leastOf_1 : decode cX11_leastOf 1 = .ok (.ifCond .eq 8, 3) := by decide +kernel
theorem dX11_leastOf_4 : decode cX11_leastOf 4 = .ok (.iload_n 0, 1) := by decide +kernel
theorem dX11_leastOf_5 : decode cX11_leastOf 5 = .ok (.iconst 2, 1) := by decide +kernel
theorem dX11_leastOf_6 : decode cX11_leastOf 6 = .ok (.if_icmp .ne 7, 3) := by decide +kernel
theorem dX11_leastOf_9 : decode cX11_leastOf 9 = .ok (.iconst 1, 1) := by decide +kernel
theorem dX11_leastOf_10 : decode cX11_leastOf 10 = .ok (.goto 4, 3) := by decide +kernel
theorem dX11_leastOf_13 : decode cX11_leastOf 13 = .ok (.iconst 0, 1) := by decide +kernel
theorem dX11_leastOf_14 : decode cX11_leastOf 14 = .ok (.ireturn, 1) := by decide +kernel
theorem dX11_mostOf_0 : decode cX11_mostOf 0 = .ok (.iload_n 0, 1) := by decide +kernel
theorem dX11_mostOf_1 : decode cX11_mostOf 1 = .ok (.ifCond .ne 8, 3) := by decide +kernel
theorem dX11_mostOf_4 : decode cX11_mostOf 4 = .ok (.bipush 30, 2) := by decide +kernel
theorem dX11_mostOf_6 : decode cX11_mostOf 6 = .ok (.goto 25, 3) := by decide +kernel
theorem dX11_mostOf_9 : decode cX11_mostOf 9 = .ok (.iload_n 0, 1) := by decide +kernel
theorem dX11_mostOf_10 : decode cX11_mostOf 10 = .ok (.iconst 1, 1) := by decide +kernel
theorem dX11_mostOf_11 : decode cX11_mostOf 11 = .ok (.if_icmp .ne 8, 3) := by decide +kernel
theorem dX11_mostOf_14 : decode cX11_mostOf 14 = .ok (.bipush 100, 2) := by decide +kernel
theorem dX11_mostOf_16 : decode cX11_mostOf 16 = .ok (.goto 15, 3) := by decide +kernel
theorem dX11_mostOf_19 : decode cX11_mostOf 19 = .ok (.iload_n 0, 1) := by decide +kernel
theorem dX11_mostOf_20 : decode cX11_mostOf 20 = .ok (.iconst 2, 1) := by decide +kernel
theorem dX11_mostOf_21 : decode cX11_mostOf 21 = .ok (.if_icmp .ne 9, 3) := by decide +kernel
theorem dX11_mostOf_24 : decode cX11_mostOf 24 = .ok (.sipush 5000, 3) := by decide +kernel
theorem dX11_mostOf_27 : decode cX11_mostOf 27 = .ok (.goto 4, 3) := by decide +kernel
theorem dX11_mostOf_30 : decode cX11_mostOf 30 = .ok (.iconst 3, 1) := by decide +kernel
theorem dX11_mostOf_31 : decode cX11_mostOf 31 = .ok (.ireturn, 1) := by decide +kernel
theorem dX11_rule_0 : decode cX11_rule 0 = .ok (.iload_n 1, 1) := by decide +kernel
theorem dX11_rule_1 : decode cX11_rule 1 = .ok (.iconst 0, 1) := by decide +kernel
theorem dX11_rule_2 : decode cX11_rule 2 = .ok (.iconst 3, 1) := by decide +kernel
theorem dX11_rule_3 : decode cX11_rule 3 = .ok (.invokestatic 38, 3) := by decide +kernel
theorem dX11_rule_6 : decode cX11_rule 6 = .ok (.ifCond .eq 18, 3) := by decide +kernel
theorem dX11_rule_9 : decode cX11_rule 9 = .ok (.iload_n 2, 1) := by decide +kernel
theorem dX11_rule_10 : decode cX11_rule 10 = .ok (.iload_n 1, 1) := by decide +kernel
theorem dX11_rule_11 : decode cX11_rule 11 = .ok (.invokestatic 48, 3) := by decide +kernel
theorem dX11_rule_14 : decode cX11_rule 14 = .ok (.iload_n 1, 1) := by decide +kernel
theorem dX11_rule_15 : decode cX11_rule 15 = .ok (.invokestatic 52, 3) := by decide +kernel
theorem dX11_rule_18 : decode cX11_rule 18 = .ok (.invokestatic 38, 3) := by decide +kernel
theorem dX11_rule_21 : decode cX11_rule 21 = .ok (.ifCond .ne 5, 3) := by decide +kernel
theorem dX11_rule_24 : decode cX11_rule 24 = .ok (.iconst 0, 1) := by decide +kernel
theorem dX11_rule_25 : decode cX11_rule 25 = .ok (.ireturn, 1) := by decide +kernel
theorem dX11_rule_26 : decode cX11_rule 26 = .ok (.aload_n 0, 1) := by decide +kernel
theorem dX11_rule_27 : decode cX11_rule 27 = .ok (.getfield 7, 3) := by decide +kernel
theorem dX11_rule_30 : decode cX11_rule 30 = .ok (.iconst 5, 1) := by decide +kernel
theorem dX11_rule_31 : decode cX11_rule 31 = .ok (.iload_n 1, 1) := by decide +kernel
theorem dX11_rule_32 : decode cX11_rule 32 = .ok (.iadd, 1) := by decide +kernel
theorem dX11_rule_33 : decode cX11_rule 33 = .ok (.iload_n 2, 1) := by decide +kernel
theorem dX11_rule_34 : decode cX11_rule 34 = .ok (.iastore, 1) := by decide +kernel
theorem dX11_rule_35 : decode cX11_rule 35 = .ok (.iconst 1, 1) := by decide +kernel
theorem dX11_rule_36 : decode cX11_rule 36 = .ok (.ireturn, 1) := by decide +kernel
theorem dX11_glueLeft_0 : decode cX11_glueLeft 0 = .ok (.iconst 0, 1) := by decide +kernel
theorem dX11_glueLeft_1 : decode cX11_glueLeft 1 = .ok (.istore_n 1, 1) := by decide +kernel
theorem dX11_glueLeft_2 : decode cX11_glueLeft 2 = .ok (.iconst 0, 1) := by decide +kernel
theorem dX11_glueLeft_3 : decode cX11_glueLeft 3 = .ok (.istore_n 2, 1) := by decide +kernel
theorem dX11_glueLeft_4 : decode cX11_glueLeft 4 = .ok (.iload_n 2, 1) := by decide +kernel
theorem dX11_glueLeft_5 : decode cX11_glueLeft 5 = .ok (.aload_n 0, 1) := by decide +kernel
theorem dX11_glueLeft_6 : decode cX11_glueLeft 6 = .ok (.getfield 7, 3) := by decide +kernel
theorem dX11_glueLeft_9 : decode cX11_glueLeft 9 = .ok (.iconst 1, 1) := by decide +kernel
theorem dX11_glueLeft_10 : decode cX11_glueLeft 10 = .ok (.iaload, 1) := by decide +kernel
theorem dX11_glueLeft_11 : decode cX11_glueLeft 11 = .ok (.if_icmp .ge 21, 3) := by decide +kernel
theorem dX11_glueLeft_14 : decode cX11_glueLeft 14 = .ok (.iload_n 1, 1) := by decide +kernel
theorem dX11_glueLeft_15 : decode cX11_glueLeft 15 = .ok (.aload_n 0, 1) := by decide +kernel
theorem dX11_glueLeft_16 : decode cX11_glueLeft 16 = .ok (.getfield 7, 3) := by decide +kernel
theorem dX11_glueLeft_19 : decode cX11_glueLeft 19 = .ok (.bipush 30, 2) := by decide +kernel
theorem dX11_glueLeft_21 : decode cX11_glueLeft 21 = .ok (.iload_n 2, 1) := by decide +kernel
theorem dX11_glueLeft_22 : decode cX11_glueLeft 22 = .ok (.iadd, 1) := by decide +kernel
theorem dX11_glueLeft_23 : decode cX11_glueLeft 23 = .ok (.iaload, 1) := by decide +kernel
theorem dX11_glueLeft_24 : decode cX11_glueLeft 24 = .ok (.iadd, 1) := by decide +kernel
theorem dX11_glueLeft_25 : decode cX11_glueLeft 25 = .ok (.istore_n 1, 1) := by decide +kernel
theorem dX11_glueLeft_26 : decode cX11_glueLeft 26 = .ok (.iinc 2 1, 3) := by decide +kernel
theorem dX11_glueLeft_29 : decode cX11_glueLeft 29 = .ok (.goto (-25), 3) := by decide +kernel
theorem dX11_glueLeft_32 : decode cX11_glueLeft 32 = .ok (.iload_n 1, 1) := by decide +kernel
theorem dX11_glueLeft_33 : decode cX11_glueLeft 33 = .ok (.ireturn, 1) := by decide +kernel
theorem dX11_takes_0 : decode cX11_takes 0 = .ok (.iconst 0, 1) := by decide +kernel
theorem dX11_takes_1 : decode cX11_takes 1 = .ok (.istore_n 2, 1) := by decide +kernel
theorem dX11_takes_2 : decode cX11_takes 2 = .ok (.iload_n 1, 1) := by decide +kernel
theorem dX11_takes_3 : decode cX11_takes 3 = .ok (.istore_n 3, 1) := by decide +kernel
theorem dX11_takes_4 : decode cX11_takes 4 = .ok (.iconst 0, 1) := by decide +kernel
theorem dX11_takes_5 : decode cX11_takes 5 = .ok (.istore 4, 2) := by decide +kernel
theorem dX11_takes_7 : decode cX11_takes 7 = .ok (.iload 4, 2) := by decide +kernel
theorem dX11_takes_9 : decode cX11_takes 9 = .ok (.aload_n 0, 1) := by decide +kernel
theorem dX11_takes_10 : decode cX11_takes 10 = .ok (.getfield 7, 3) := by decide +kernel
theorem dX11_takes_13 : decode cX11_takes 13 = .ok (.iconst 1, 1) := by decide +kernel
theorem dX11_takes_14 : decode cX11_takes 14 = .ok (.iaload, 1) := by decide +kernel
theorem dX11_takes_15 : decode cX11_takes 15 = .ok (.if_icmp .ge 71, 3) := by decide +kernel
theorem dX11_takes_18 : decode cX11_takes 18 = .ok (.iload_n 3, 1) := by decide +kernel
theorem dX11_takes_19 : decode cX11_takes 19 = .ok (.aload_n 0, 1) := by decide +kernel
theorem dX11_takes_20 : decode cX11_takes 20 = .ok (.getfield 7, 3) := by decide +kernel
theorem dX11_takes_23 : decode cX11_takes 23 = .ok (.bipush 30, 2) := by decide +kernel
theorem dX11_takes_25 : decode cX11_takes 25 = .ok (.iload 4, 2) := by decide +kernel
theorem dX11_takes_27 : decode cX11_takes 27 = .ok (.iadd, 1) := by decide +kernel
theorem dX11_takes_28 : decode cX11_takes 28 = .ok (.iaload, 1) := by decide +kernel
theorem dX11_takes_29 : decode cX11_takes 29 = .ok (.if_icmp .ge 7, 3) := by decide +kernel
theorem dX11_takes_32 : decode cX11_takes 32 = .ok (.iload_n 3, 1) := by decide +kernel
theorem dX11_takes_33 : decode cX11_takes 33 = .ok (.goto 13, 3) := by decide +kernel
theorem dX11_takes_36 : decode cX11_takes 36 = .ok (.aload_n 0, 1) := by decide +kernel
theorem dX11_takes_37 : decode cX11_takes 37 = .ok (.getfield 7, 3) := by decide +kernel
theorem dX11_takes_40 : decode cX11_takes 40 = .ok (.bipush 30, 2) := by decide +kernel
theorem dX11_takes_42 : decode cX11_takes 42 = .ok (.iload 4, 2) := by decide +kernel
theorem dX11_takes_44 : decode cX11_takes 44 = .ok (.iadd, 1) := by decide +kernel
theorem dX11_takes_45 : decode cX11_takes 45 = .ok (.iaload, 1) := by decide +kernel
theorem dX11_takes_46 : decode cX11_takes 46 = .ok (.istore 5, 2) := by decide +kernel
theorem dX11_takes_48 : decode cX11_takes 48 = .ok (.aload_n 0, 1) := by decide +kernel
theorem dX11_takes_49 : decode cX11_takes 49 = .ok (.getfield 7, 3) := by decide +kernel
theorem dX11_takes_52 : decode cX11_takes 52 = .ok (.bipush 30, 2) := by decide +kernel
theorem dX11_takes_54 : decode cX11_takes 54 = .ok (.iload 4, 2) := by decide +kernel
theorem dX11_takes_56 : decode cX11_takes 56 = .ok (.iadd, 1) := by decide +kernel
theorem dX11_takes_57 : decode cX11_takes 57 = .ok (.dup2, 1) := by decide +kernel
theorem dX11_takes_58 : decode cX11_takes 58 = .ok (.iaload, 1) := by decide +kernel
theorem dX11_takes_59 : decode cX11_takes 59 = .ok (.iload 5, 2) := by decide +kernel
theorem dX11_takes_61 : decode cX11_takes 61 = .ok (.isub, 1) := by decide +kernel
theorem dX11_takes_62 : decode cX11_takes 62 = .ok (.iastore, 1) := by decide +kernel
theorem dX11_takes_63 : decode cX11_takes 63 = .ok (.iload_n 3, 1) := by decide +kernel
theorem dX11_takes_64 : decode cX11_takes 64 = .ok (.iload 5, 2) := by decide +kernel
theorem dX11_takes_66 : decode cX11_takes 66 = .ok (.isub, 1) := by decide +kernel
theorem dX11_takes_67 : decode cX11_takes 67 = .ok (.istore_n 3, 1) := by decide +kernel
theorem dX11_takes_68 : decode cX11_takes 68 = .ok (.iload 5, 2) := by decide +kernel
theorem dX11_takes_70 : decode cX11_takes 70 = .ok (.ifCond .le 10, 3) := by decide +kernel
theorem dX11_takes_73 : decode cX11_takes 73 = .ok (.iload_n 2, 1) := by decide +kernel
theorem dX11_takes_74 : decode cX11_takes 74 = .ok (.iconst 1, 1) := by decide +kernel
theorem dX11_takes_75 : decode cX11_takes 75 = .ok (.iload 4, 2) := by decide +kernel
theorem dX11_takes_77 : decode cX11_takes 77 = .ok (.ishl, 1) := by decide +kernel
theorem dX11_takes_78 : decode cX11_takes 78 = .ok (.ior, 1) := by decide +kernel
theorem dX11_takes_79 : decode cX11_takes 79 = .ok (.istore_n 2, 1) := by decide +kernel
theorem dX11_takes_80 : decode cX11_takes 80 = .ok (.iinc 4 1, 3) := by decide +kernel
theorem dX11_takes_83 : decode cX11_takes 83 = .ok (.goto (-76), 3) := by decide +kernel
theorem dX11_takes_86 : decode cX11_takes 86 = .ok (.iload_n 2, 1) := by decide +kernel
theorem dX11_takes_87 : decode cX11_takes 87 = .ok (.ireturn, 1) := by decide +kernel
theorem dX11_lay_0 : decode cX11_lay 0 = .ok (.aload_n 0, 1) := by decide +kernel
theorem dX11_lay_1 : decode cX11_lay 1 = .ok (.getfield 7, 3) := by decide +kernel
theorem dX11_lay_4 : decode cX11_lay 4 = .ok (.iconst 2, 1) := by decide +kernel
theorem dX11_lay_5 : decode cX11_lay 5 = .ok (.iaload, 1) := by decide +kernel
theorem dX11_lay_6 : decode cX11_lay 6 = .ok (.bipush 24, 2) := by decide +kernel
theorem dX11_lay_8 : decode cX11_lay 8 = .ok (.if_icmp .eq 33, 3) := by decide +kernel
theorem dX11_lay_11 : decode cX11_lay 11 = .ok (.aload_n 0, 1) := by decide +kernel
theorem dX11_lay_12 : decode cX11_lay 12 = .ok (.iload_n 1, 1) := by decide +kernel
theorem dX11_lay_13 : decode cX11_lay 13 = .ok (.iconst 0, 1) := by decide +kernel
theorem dX11_lay_14 : decode cX11_lay 14 = .ok (.invokevirtual 42, 3) := by decide +kernel
theorem dX11_lay_17 : decode cX11_lay 17 = .ok (.ifCond .eq 24, 3) := by decide +kernel
theorem dX11_lay_20 : decode cX11_lay 20 = .ok (.aload_n 0, 1) := by decide +kernel
theorem dX11_lay_21 : decode cX11_lay 21 = .ok (.iload_n 2, 1) := by decide +kernel
theorem dX11_lay_22 : decode cX11_lay 22 = .ok (.iconst 0, 1) := by decide +kernel
theorem dX11_lay_23 : decode cX11_lay 23 = .ok (.invokevirtual 42, 3) := by decide +kernel
theorem dX11_lay_26 : decode cX11_lay 26 = .ok (.ifCond .eq 15, 3) := by decide +kernel
theorem dX11_lay_29 : decode cX11_lay 29 = .ok (.iload_n 3, 1) := by decide +kernel
theorem dX11_lay_30 : decode cX11_lay 30 = .ok (.bipush 10, 2) := by decide +kernel
theorem dX11_lay_32 : decode cX11_lay 32 = .ok (.sipush 10000, 3) := by decide +kernel
theorem dX11_lay_35 : decode cX11_lay 35 = .ok (.invokestatic 38, 3) := by decide +kernel
theorem dX11_lay_38 : decode cX11_lay 38 = .ok (.ifCond .ne 5, 3) := by decide +kernel
theorem dX11_lay_41 : decode cX11_lay 41 = .ok (.iconst (-1), 1) := by decide +kernel
theorem dX11_lay_42 : decode cX11_lay 42 = .ok (.ireturn, 1) := by decide +kernel
theorem dX11_lay_43 : decode cX11_lay 43 = .ok (.bipush 10, 2) := by decide +kernel
theorem dX11_lay_45 : decode cX11_lay 45 = .ok (.iconst 3, 1) := by decide +kernel
theorem dX11_lay_46 : decode cX11_lay 46 = .ok (.iload_n 1, 1) := by decide +kernel
theorem dX11_lay_47 : decode cX11_lay 47 = .ok (.imul, 1) := by decide +kernel
theorem dX11_lay_48 : decode cX11_lay 48 = .ok (.iadd, 1) := by decide +kernel
theorem dX11_lay_49 : decode cX11_lay 49 = .ok (.istore 4, 2) := by decide +kernel
theorem dX11_lay_51 : decode cX11_lay 51 = .ok (.bipush 10, 2) := by decide +kernel
theorem dX11_lay_53 : decode cX11_lay 53 = .ok (.iconst 3, 1) := by decide +kernel
theorem dX11_lay_54 : decode cX11_lay 54 = .ok (.iload_n 2, 1) := by decide +kernel
theorem dX11_lay_55 : decode cX11_lay 55 = .ok (.imul, 1) := by decide +kernel
theorem dX11_lay_56 : decode cX11_lay 56 = .ok (.iadd, 1) := by decide +kernel
theorem dX11_lay_57 : decode cX11_lay 57 = .ok (.istore 5, 2) := by decide +kernel
theorem dX11_lay_59 : decode cX11_lay 59 = .ok (.iconst 4, 1) := by decide +kernel
theorem dX11_lay_60 : decode cX11_lay 60 = .ok (.iload_n 3, 1) := by decide +kernel
theorem dX11_lay_61 : decode cX11_lay 61 = .ok (.imul, 1) := by decide +kernel
theorem dX11_lay_62 : decode cX11_lay 62 = .ok (.bipush 10, 2) := by decide +kernel
theorem dX11_lay_64 : decode cX11_lay 64 = .ok (.idiv, 1) := by decide +kernel
theorem dX11_lay_65 : decode cX11_lay 65 = .ok (.istore 6, 2) := by decide +kernel
theorem dX11_lay_67 : decode cX11_lay 67 = .ok (.iload_n 3, 1) := by decide +kernel
theorem dX11_lay_68 : decode cX11_lay 68 = .ok (.iload 6, 2) := by decide +kernel
theorem dX11_lay_70 : decode cX11_lay 70 = .ok (.isub, 1) := by decide +kernel
theorem dX11_lay_71 : decode cX11_lay 71 = .ok (.istore 7, 2) := by decide +kernel
theorem dX11_lay_73 : decode cX11_lay 73 = .ok (.iload_n 3, 1) := by decide +kernel
theorem dX11_lay_74 : decode cX11_lay 74 = .ok (.aload_n 0, 1) := by decide +kernel
theorem dX11_lay_75 : decode cX11_lay 75 = .ok (.getfield 7, 3) := by decide +kernel
theorem dX11_lay_78 : decode cX11_lay 78 = .ok (.iconst 5, 1) := by decide +kernel
theorem dX11_lay_79 : decode cX11_lay 79 = .ok (.iaload, 1) := by decide +kernel
theorem dX11_lay_80 : decode cX11_lay 80 = .ok (.imul, 1) := by decide +kernel
theorem dX11_lay_81 : decode cX11_lay 81 = .ok (.bipush 100, 2) := by decide +kernel
theorem dX11_lay_83 : decode cX11_lay 83 = .ok (.idiv, 1) := by decide +kernel
theorem dX11_lay_84 : decode cX11_lay 84 = .ok (.istore 8, 2) := by decide +kernel
theorem dX11_lay_86 : decode cX11_lay 86 = .ok (.iload 6, 2) := by decide +kernel
theorem dX11_lay_88 : decode cX11_lay 88 = .ok (.aload_n 0, 1) := by decide +kernel
theorem dX11_lay_89 : decode cX11_lay 89 = .ok (.getfield 7, 3) := by decide +kernel
theorem dX11_lay_92 : decode cX11_lay 92 = .ok (.iload 4, 2) := by decide +kernel
theorem dX11_lay_94 : decode cX11_lay 94 = .ok (.iconst 2, 1) := by decide +kernel
theorem dX11_lay_95 : decode cX11_lay 95 = .ok (.iadd, 1) := by decide +kernel
theorem dX11_lay_96 : decode cX11_lay 96 = .ok (.iaload, 1) := by decide +kernel
theorem dX11_lay_97 : decode cX11_lay 97 = .ok (.imul, 1) := by decide +kernel
theorem dX11_lay_98 : decode cX11_lay 98 = .ok (.iload 7, 2) := by decide +kernel
theorem dX11_lay_100 : decode cX11_lay 100 = .ok (.aload_n 0, 1) := by decide +kernel
theorem dX11_lay_101 : decode cX11_lay 101 = .ok (.getfield 7, 3) := by decide +kernel
theorem dX11_lay_104 : decode cX11_lay 104 = .ok (.iload 5, 2) := by decide +kernel
theorem dX11_lay_106 : decode cX11_lay 106 = .ok (.iconst 2, 1) := by decide +kernel
theorem dX11_lay_107 : decode cX11_lay 107 = .ok (.iadd, 1) := by decide +kernel
theorem dX11_lay_108 : decode cX11_lay 108 = .ok (.iaload, 1) := by decide +kernel
theorem dX11_lay_109 : decode cX11_lay 109 = .ok (.imul, 1) := by decide +kernel
theorem dX11_lay_110 : decode cX11_lay 110 = .ok (.iadd, 1) := by decide +kernel
theorem dX11_lay_111 : decode cX11_lay 111 = .ok (.istore 9, 2) := by decide +kernel
theorem dX11_lay_113 : decode cX11_lay 113 = .ok (.iload_n 1, 1) := by decide +kernel
theorem dX11_lay_114 : decode cX11_lay 114 = .ok (.iload_n 2, 1) := by decide +kernel
theorem dX11_lay_115 : decode cX11_lay 115 = .ok (.if_icmp .ne 22, 3) := by decide +kernel
theorem dX11_lay_118 : decode cX11_lay 118 = .ok (.aload_n 0, 1) := by decide +kernel
theorem dX11_lay_119 : decode cX11_lay 119 = .ok (.getfield 7, 3) := by decide +kernel
theorem dX11_lay_122 : decode cX11_lay 122 = .ok (.iload 4, 2) := by decide +kernel
theorem dX11_lay_124 : decode cX11_lay 124 = .ok (.iaload, 1) := by decide +kernel
theorem dX11_lay_125 : decode cX11_lay 125 = .ok (.iload_n 3, 1) := by decide +kernel
theorem dX11_lay_126 : decode cX11_lay 126 = .ok (.if_icmp .ge 7, 3) := by decide +kernel
theorem dX11_lay_129 : decode cX11_lay 129 = .ok (.iconst 1, 1) := by decide +kernel
theorem dX11_lay_130 : decode cX11_lay 130 = .ok (.goto 36, 3) := by decide +kernel
theorem dX11_lay_133 : decode cX11_lay 133 = .ok (.iconst 0, 1) := by decide +kernel
theorem dX11_lay_134 : decode cX11_lay 134 = .ok (.goto 32, 3) := by decide +kernel
theorem dX11_lay_137 : decode cX11_lay 137 = .ok (.aload_n 0, 1) := by decide +kernel
theorem dX11_lay_138 : decode cX11_lay 138 = .ok (.getfield 7, 3) := by decide +kernel
theorem dX11_lay_141 : decode cX11_lay 141 = .ok (.iload 4, 2) := by decide +kernel
theorem dX11_lay_143 : decode cX11_lay 143 = .ok (.iaload, 1) := by decide +kernel
theorem dX11_lay_144 : decode cX11_lay 144 = .ok (.iload 6, 2) := by decide +kernel
theorem dX11_lay_146 : decode cX11_lay 146 = .ok (.if_icmp .lt 15, 3) := by decide +kernel
theorem dX11_lay_149 : decode cX11_lay 149 = .ok (.aload_n 0, 1) := by decide +kernel
theorem dX11_lay_150 : decode cX11_lay 150 = .ok (.getfield 7, 3) := by decide +kernel
theorem dX11_lay_153 : decode cX11_lay 153 = .ok (.iload 5, 2) := by decide +kernel
theorem dX11_lay_155 : decode cX11_lay 155 = .ok (.iaload, 1) := by decide +kernel
theorem dX11_lay_156 : decode cX11_lay 156 = .ok (.iload 7, 2) := by decide +kernel
theorem dX11_lay_158 : decode cX11_lay 158 = .ok (.if_icmp .ge 7, 3) := by decide +kernel
theorem dX11_lay_161 : decode cX11_lay 161 = .ok (.iconst 1, 1) := by decide +kernel
theorem dX11_lay_162 : decode cX11_lay 162 = .ok (.goto 4, 3) := by decide +kernel
theorem dX11_lay_165 : decode cX11_lay 165 = .ok (.iconst 0, 1) := by decide +kernel
theorem dX11_lay_166 : decode cX11_lay 166 = .ok (.istore 10, 2) := by decide +kernel
theorem dX11_lay_168 : decode cX11_lay 168 = .ok (.iload 10, 2) := by decide +kernel
theorem dX11_lay_170 : decode cX11_lay 170 = .ok (.ifCond .ne 29, 3) := by decide +kernel
theorem dX11_lay_173 : decode cX11_lay 173 = .ok (.aload_n 0, 1) := by decide +kernel
theorem dX11_lay_174 : decode cX11_lay 174 = .ok (.invokevirtual 55, 3) := by decide +kernel
theorem dX11_lay_177 : decode cX11_lay 177 = .ok (.iload 8, 2) := by decide +kernel
theorem dX11_lay_179 : decode cX11_lay 179 = .ok (.if_icmp .lt 20, 3) := by decide +kernel
theorem dX11_lay_182 : decode cX11_lay 182 = .ok (.bipush 100, 2) := by decide +kernel
theorem dX11_lay_184 : decode cX11_lay 184 = .ok (.iload 9, 2) := by decide +kernel
theorem dX11_lay_186 : decode cX11_lay 186 = .ok (.imul, 1) := by decide +kernel
theorem dX11_lay_187 : decode cX11_lay 187 = .ok (.aload_n 0, 1) := by decide +kernel
theorem dX11_lay_188 : decode cX11_lay 188 = .ok (.getfield 7, 3) := by decide +kernel
theorem dX11_lay_191 : decode cX11_lay 191 = .ok (.bipush 6, 2) := by decide +kernel
theorem dX11_lay_193 : decode cX11_lay 193 = .ok (.iaload, 1) := by decide +kernel
theorem dX11_lay_194 : decode cX11_lay 194 = .ok (.iload_n 3, 1) := by decide +kernel
theorem dX11_lay_195 : decode cX11_lay 195 = .ok (.imul, 1) := by decide +kernel
theorem dX11_lay_196 : decode cX11_lay 196 = .ok (.if_icmp .le 5, 3) := by decide +kernel
theorem dX11_lay_199 : decode cX11_lay 199 = .ok (.iconst (-1), 1) := by decide +kernel
theorem dX11_lay_200 : decode cX11_lay 200 = .ok (.ireturn, 1) := by decide +kernel
theorem dX11_lay_201 : decode cX11_lay 201 = .ok (.bipush 50, 2) := by decide +kernel
theorem dX11_lay_203 : decode cX11_lay 203 = .ok (.bipush 8, 2) := by decide +kernel
theorem dX11_lay_205 : decode cX11_lay 205 = .ok (.aload_n 0, 1) := by decide +kernel
theorem dX11_lay_206 : decode cX11_lay 206 = .ok (.getfield 7, 3) := by decide +kernel
theorem dX11_lay_209 : decode cX11_lay 209 = .ok (.iconst 2, 1) := by decide +kernel
theorem dX11_lay_210 : decode cX11_lay 210 = .ok (.iaload, 1) := by decide +kernel
theorem dX11_lay_211 : decode cX11_lay 211 = .ok (.imul, 1) := by decide +kernel
theorem dX11_lay_212 : decode cX11_lay 212 = .ok (.iadd, 1) := by decide +kernel
theorem dX11_lay_213 : decode cX11_lay 213 = .ok (.istore 11, 2) := by decide +kernel
theorem dX11_lay_215 : decode cX11_lay 215 = .ok (.aload_n 0, 1) := by decide +kernel
theorem dX11_lay_216 : decode cX11_lay 216 = .ok (.getfield 7, 3) := by decide +kernel
theorem dX11_lay_219 : decode cX11_lay 219 = .ok (.iload 11, 2) := by decide +kernel
theorem dX11_lay_221 : decode cX11_lay 221 = .ok (.iload_n 3, 1) := by decide +kernel
theorem dX11_lay_222 : decode cX11_lay 222 = .ok (.iastore, 1) := by decide +kernel
theorem dX11_lay_223 : decode cX11_lay 223 = .ok (.aload_n 0, 1) := by decide +kernel
theorem dX11_lay_224 : decode cX11_lay 224 = .ok (.getfield 7, 3) := by decide +kernel
theorem dX11_lay_227 : decode cX11_lay 227 = .ok (.iload 11, 2) := by decide +kernel
theorem dX11_lay_229 : decode cX11_lay 229 = .ok (.iconst 1, 1) := by decide +kernel
theorem dX11_lay_230 : decode cX11_lay 230 = .ok (.iadd, 1) := by decide +kernel
theorem dX11_lay_231 : decode cX11_lay 231 = .ok (.iload 8, 2) := by decide +kernel
theorem dX11_lay_233 : decode cX11_lay 233 = .ok (.iastore, 1) := by decide +kernel
theorem dX11_lay_234 : decode cX11_lay 234 = .ok (.aload_n 0, 1) := by decide +kernel
theorem dX11_lay_235 : decode cX11_lay 235 = .ok (.getfield 7, 3) := by decide +kernel
theorem dX11_lay_238 : decode cX11_lay 238 = .ok (.iload 11, 2) := by decide +kernel
theorem dX11_lay_240 : decode cX11_lay 240 = .ok (.iconst 2, 1) := by decide +kernel
theorem dX11_lay_241 : decode cX11_lay 241 = .ok (.iadd, 1) := by decide +kernel
theorem dX11_lay_242 : decode cX11_lay 242 = .ok (.iload 6, 2) := by decide +kernel
theorem dX11_lay_244 : decode cX11_lay 244 = .ok (.aload_n 0, 1) := by decide +kernel
theorem dX11_lay_245 : decode cX11_lay 245 = .ok (.getfield 7, 3) := by decide +kernel
theorem dX11_lay_248 : decode cX11_lay 248 = .ok (.iload 4, 2) := by decide +kernel
theorem dX11_lay_250 : decode cX11_lay 250 = .ok (.iconst 1, 1) := by decide +kernel
theorem dX11_lay_251 : decode cX11_lay 251 = .ok (.iadd, 1) := by decide +kernel
theorem dX11_lay_252 : decode cX11_lay 252 = .ok (.iaload, 1) := by decide +kernel
theorem dX11_lay_253 : decode cX11_lay 253 = .ok (.imul, 1) := by decide +kernel
theorem dX11_lay_254 : decode cX11_lay 254 = .ok (.iload 7, 2) := by decide +kernel
theorem dX11_lay_256 : decode cX11_lay 256 = .ok (.aload_n 0, 1) := by decide +kernel
theorem dX11_lay_257 : decode cX11_lay 257 = .ok (.getfield 7, 3) := by decide +kernel
theorem dX11_lay_260 : decode cX11_lay 260 = .ok (.iload 5, 2) := by decide +kernel
theorem dX11_lay_262 : decode cX11_lay 262 = .ok (.iconst 1, 1) := by decide +kernel
theorem dX11_lay_263 : decode cX11_lay 263 = .ok (.iadd, 1) := by decide +kernel
theorem dX11_lay_264 : decode cX11_lay 264 = .ok (.iaload, 1) := by decide +kernel
theorem dX11_lay_265 : decode cX11_lay 265 = .ok (.imul, 1) := by decide +kernel
theorem dX11_lay_266 : decode cX11_lay 266 = .ok (.iadd, 1) := by decide +kernel
theorem dX11_lay_267 : decode cX11_lay 267 = .ok (.iload_n 3, 1) := by decide +kernel
theorem dX11_lay_268 : decode cX11_lay 268 = .ok (.idiv, 1) := by decide +kernel
theorem dX11_lay_269 : decode cX11_lay 269 = .ok (.iastore, 1) := by decide +kernel
theorem dX11_lay_270 : decode cX11_lay 270 = .ok (.aload_n 0, 1) := by decide +kernel
theorem dX11_lay_271 : decode cX11_lay 271 = .ok (.getfield 7, 3) := by decide +kernel
theorem dX11_lay_274 : decode cX11_lay 274 = .ok (.iload 11, 2) := by decide +kernel
theorem dX11_lay_276 : decode cX11_lay 276 = .ok (.iconst 3, 1) := by decide +kernel
theorem dX11_lay_277 : decode cX11_lay 277 = .ok (.iadd, 1) := by decide +kernel
theorem dX11_lay_278 : decode cX11_lay 278 = .ok (.iload 9, 2) := by decide +kernel
theorem dX11_lay_280 : decode cX11_lay 280 = .ok (.iastore, 1) := by decide +kernel
theorem dX11_lay_281 : decode cX11_lay 281 = .ok (.aload_n 0, 1) := by decide +kernel
theorem dX11_lay_282 : decode cX11_lay 282 = .ok (.getfield 7, 3) := by decide +kernel
theorem dX11_lay_285 : decode cX11_lay 285 = .ok (.iload 11, 2) := by decide +kernel
theorem dX11_lay_287 : decode cX11_lay 287 = .ok (.iconst 4, 1) := by decide +kernel
theorem dX11_lay_288 : decode cX11_lay 288 = .ok (.iadd, 1) := by decide +kernel
theorem dX11_lay_289 : decode cX11_lay 289 = .ok (.iload_n 1, 1) := by decide +kernel
theorem dX11_lay_290 : decode cX11_lay 290 = .ok (.iastore, 1) := by decide +kernel
theorem dX11_lay_291 : decode cX11_lay 291 = .ok (.aload_n 0, 1) := by decide +kernel
theorem dX11_lay_292 : decode cX11_lay 292 = .ok (.getfield 7, 3) := by decide +kernel
theorem dX11_lay_295 : decode cX11_lay 295 = .ok (.iload 11, 2) := by decide +kernel
theorem dX11_lay_297 : decode cX11_lay 297 = .ok (.iconst 5, 1) := by decide +kernel
theorem dX11_lay_298 : decode cX11_lay 298 = .ok (.iadd, 1) := by decide +kernel
theorem dX11_lay_299 : decode cX11_lay 299 = .ok (.iload_n 2, 1) := by decide +kernel
theorem dX11_lay_300 : decode cX11_lay 300 = .ok (.iastore, 1) := by decide +kernel
theorem dX11_lay_301 : decode cX11_lay 301 = .ok (.aload_n 0, 1) := by decide +kernel
theorem dX11_lay_302 : decode cX11_lay 302 = .ok (.getfield 7, 3) := by decide +kernel
theorem dX11_lay_305 : decode cX11_lay 305 = .ok (.iload 11, 2) := by decide +kernel
theorem dX11_lay_307 : decode cX11_lay 307 = .ok (.bipush 6, 2) := by decide +kernel
theorem dX11_lay_309 : decode cX11_lay 309 = .ok (.iadd, 1) := by decide +kernel
theorem dX11_lay_310 : decode cX11_lay 310 = .ok (.aload_n 0, 1) := by decide +kernel
theorem dX11_lay_311 : decode cX11_lay 311 = .ok (.iload 8, 2) := by decide +kernel
theorem dX11_lay_313 : decode cX11_lay 313 = .ok (.invokevirtual 59, 3) := by decide +kernel
theorem dX11_lay_316 : decode cX11_lay 316 = .ok (.iastore, 1) := by decide +kernel
theorem dX11_lay_317 : decode cX11_lay 317 = .ok (.aload_n 0, 1) := by decide +kernel
theorem dX11_lay_318 : decode cX11_lay 318 = .ok (.getfield 7, 3) := by decide +kernel
theorem dX11_lay_321 : decode cX11_lay 321 = .ok (.iload 11, 2) := by decide +kernel
theorem dX11_lay_323 : decode cX11_lay 323 = .ok (.bipush 7, 2) := by decide +kernel
theorem dX11_lay_325 : decode cX11_lay 325 = .ok (.iadd, 1) := by decide +kernel
theorem dX11_lay_326 : decode cX11_lay 326 = .ok (.iconst (-1), 1) := by decide +kernel
theorem dX11_lay_327 : decode cX11_lay 327 = .ok (.iastore, 1) := by decide +kernel
theorem dX11_lay_328 : decode cX11_lay 328 = .ok (.aload_n 0, 1) := by decide +kernel
theorem dX11_lay_329 : decode cX11_lay 329 = .ok (.getfield 7, 3) := by decide +kernel
theorem dX11_lay_332 : decode cX11_lay 332 = .ok (.iload 4, 2) := by decide +kernel
theorem dX11_lay_334 : decode cX11_lay 334 = .ok (.dup2, 1) := by decide +kernel
theorem dX11_lay_335 : decode cX11_lay 335 = .ok (.iaload, 1) := by decide +kernel
theorem dX11_lay_336 : decode cX11_lay 336 = .ok (.iload 6, 2) := by decide +kernel
theorem dX11_lay_338 : decode cX11_lay 338 = .ok (.isub, 1) := by decide +kernel
theorem dX11_lay_339 : decode cX11_lay 339 = .ok (.iastore, 1) := by decide +kernel
theorem dX11_lay_340 : decode cX11_lay 340 = .ok (.aload_n 0, 1) := by decide +kernel
theorem dX11_lay_341 : decode cX11_lay 341 = .ok (.getfield 7, 3) := by decide +kernel
theorem dX11_lay_344 : decode cX11_lay 344 = .ok (.iload 5, 2) := by decide +kernel
theorem dX11_lay_346 : decode cX11_lay 346 = .ok (.dup2, 1) := by decide +kernel
theorem dX11_lay_347 : decode cX11_lay 347 = .ok (.iaload, 1) := by decide +kernel
theorem dX11_lay_348 : decode cX11_lay 348 = .ok (.iload 7, 2) := by decide +kernel
theorem dX11_lay_350 : decode cX11_lay 350 = .ok (.isub, 1) := by decide +kernel
theorem dX11_lay_351 : decode cX11_lay 351 = .ok (.iastore, 1) := by decide +kernel
theorem dX11_lay_352 : decode cX11_lay 352 = .ok (.aload_n 0, 1) := by decide +kernel
theorem dX11_lay_353 : decode cX11_lay 353 = .ok (.getfield 7, 3) := by decide +kernel
theorem dX11_lay_356 : decode cX11_lay 356 = .ok (.iconst 2, 1) := by decide +kernel
theorem dX11_lay_357 : decode cX11_lay 357 = .ok (.dup2, 1) := by decide +kernel
theorem dX11_lay_358 : decode cX11_lay 358 = .ok (.iaload, 1) := by decide +kernel
theorem dX11_lay_359 : decode cX11_lay 359 = .ok (.iconst 1, 1) := by decide +kernel
theorem dX11_lay_360 : decode cX11_lay 360 = .ok (.iadd, 1) := by decide +kernel
theorem dX11_lay_361 : decode cX11_lay 361 = .ok (.iastore, 1) := by decide +kernel
theorem dX11_lay_362 : decode cX11_lay 362 = .ok (.aload_n 0, 1) := by decide +kernel
theorem dX11_lay_363 : decode cX11_lay 363 = .ok (.getfield 7, 3) := by decide +kernel
theorem dX11_lay_366 : decode cX11_lay 366 = .ok (.iconst 2, 1) := by decide +kernel
theorem dX11_lay_367 : decode cX11_lay 367 = .ok (.iaload, 1) := by decide +kernel
theorem dX11_lay_368 : decode cX11_lay 368 = .ok (.iconst 1, 1) := by decide +kernel
theorem dX11_lay_369 : decode cX11_lay 369 = .ok (.isub, 1) := by decide +kernel
theorem dX11_lay_370 : decode cX11_lay 370 = .ok (.ireturn, 1) := by decide +kernel
theorem dX11_mat_0 : decode cX11_mat 0 = .ok (.aload_n 0, 1) := by decide +kernel
theorem dX11_mat_1 : decode cX11_mat 1 = .ok (.iload_n 1, 1) := by decide +kernel
theorem dX11_mat_2 : decode cX11_mat 2 = .ok (.iconst 2, 1) := by decide +kernel
theorem dX11_mat_3 : decode cX11_mat 3 = .ok (.invokevirtual 42, 3) := by decide +kernel
theorem dX11_mat_6 : decode cX11_mat 6 = .ok (.ifCond .eq 30, 3) := by decide +kernel
theorem dX11_mat_9 : decode cX11_mat 9 = .ok (.iload_n 2, 1) := by decide +kernel
theorem dX11_mat_10 : decode cX11_mat 10 = .ok (.iconst 0, 1) := by decide +kernel
theorem dX11_mat_11 : decode cX11_mat 11 = .ok (.bipush 7, 2) := by decide +kernel
theorem dX11_mat_13 : decode cX11_mat 13 = .ok (.invokestatic 38, 3) := by decide +kernel
theorem dX11_mat_16 : decode cX11_mat 16 = .ok (.ifCond .eq 20, 3) := by decide +kernel
theorem dX11_mat_19 : decode cX11_mat 19 = .ok (.aload_n 0, 1) := by decide +kernel
theorem dX11_mat_20 : decode cX11_mat 20 = .ok (.getfield 7, 3) := by decide +kernel
theorem dX11_mat_23 : decode cX11_mat 23 = .ok (.bipush 50, 2) := by decide +kernel
theorem dX11_mat_25 : decode cX11_mat 25 = .ok (.bipush 8, 2) := by decide +kernel
theorem dX11_mat_27 : decode cX11_mat 27 = .ok (.iload_n 1, 1) := by decide +kernel
theorem dX11_mat_28 : decode cX11_mat 28 = .ok (.imul, 1) := by decide +kernel
theorem dX11_mat_29 : decode cX11_mat 29 = .ok (.iadd, 1) := by decide +kernel
theorem dX11_mat_30 : decode cX11_mat 30 = .ok (.iload_n 2, 1) := by decide +kernel
theorem dX11_mat_31 : decode cX11_mat 31 = .ok (.iadd, 1) := by decide +kernel
theorem dX11_mat_32 : decode cX11_mat 32 = .ok (.iaload, 1) := by decide +kernel
theorem dX11_mat_33 : decode cX11_mat 33 = .ok (.goto 4, 3) := by decide +kernel
theorem dX11_mat_36 : decode cX11_mat 36 = .ok (.iconst (-1), 1) := by decide +kernel
theorem dX11_mat_37 : decode cX11_mat 37 = .ok (.ireturn, 1) := by decide +kernel
theorem dX11_recall_0 : decode cX11_recall 0 = .ok (.aload_n 0, 1) := by decide +kernel
theorem dX11_recall_1 : decode cX11_recall 1 = .ok (.iload_n 1, 1) := by decide +kernel
theorem dX11_recall_2 : decode cX11_recall 2 = .ok (.iconst 1, 1) := by decide +kernel
theorem dX11_recall_3 : decode cX11_recall 3 = .ok (.invokevirtual 42, 3) := by decide +kernel
theorem dX11_recall_6 : decode cX11_recall 6 = .ok (.ifCond .ne 5, 3) := by decide +kernel
theorem dX11_recall_9 : decode cX11_recall 9 = .ok (.iconst (-1), 1) := by decide +kernel
theorem dX11_recall_10 : decode cX11_recall 10 = .ok (.ireturn, 1) := by decide +kernel
theorem dX11_recall_11 : decode cX11_recall 11 = .ok (.iconst 0, 1) := by decide +kernel
theorem dX11_recall_12 : decode cX11_recall 12 = .ok (.istore_n 2, 1) := by decide +kernel
theorem dX11_recall_13 : decode cX11_recall 13 = .ok (.iconst 0, 1) := by decide +kernel
theorem dX11_recall_14 : decode cX11_recall 14 = .ok (.istore_n 3, 1) := by decide +kernel
theorem dX11_recall_15 : decode cX11_recall 15 = .ok (.iload_n 3, 1) := by decide +kernel
theorem dX11_recall_16 : decode cX11_recall 16 = .ok (.aload_n 0, 1) := by decide +kernel
theorem dX11_recall_17 : decode cX11_recall 17 = .ok (.getfield 7, 3) := by decide +kernel
theorem dX11_recall_20 : decode cX11_recall 20 = .ok (.iconst 2, 1) := by decide +kernel
theorem dX11_recall_21 : decode cX11_recall 21 = .ok (.iaload, 1) := by decide +kernel
theorem dX11_recall_22 : decode cX11_recall 22 = .ok (.if_icmp .ge 33, 3) := by decide +kernel
theorem dX11_recall_25 : decode cX11_recall 25 = .ok (.iload_n 2, 1) := by decide +kernel
theorem dX11_recall_26 : decode cX11_recall 26 = .ok (.aload_n 0, 1) := by decide +kernel
theorem dX11_recall_27 : decode cX11_recall 27 = .ok (.getfield 7, 3) := by decide +kernel
theorem dX11_recall_30 : decode cX11_recall 30 = .ok (.bipush 50, 2) := by decide +kernel
theorem dX11_recall_32 : decode cX11_recall 32 = .ok (.bipush 8, 2) := by decide +kernel
theorem dX11_recall_34 : decode cX11_recall 34 = .ok (.iload_n 3, 1) := by decide +kernel
theorem dX11_recall_35 : decode cX11_recall 35 = .ok (.imul, 1) := by decide +kernel
theorem dX11_recall_36 : decode cX11_recall 36 = .ok (.iadd, 1) := by decide +kernel
theorem dX11_recall_37 : decode cX11_recall 37 = .ok (.bipush 6, 2) := by decide +kernel
theorem dX11_recall_39 : decode cX11_recall 39 = .ok (.iadd, 1) := by decide +kernel
theorem dX11_recall_40 : decode cX11_recall 40 = .ok (.iaload, 1) := by decide +kernel
theorem dX11_recall_41 : decode cX11_recall 41 = .ok (.iload_n 1, 1) := by decide +kernel
theorem dX11_recall_42 : decode cX11_recall 42 = .ok (.ishr, 1) := by decide +kernel
theorem dX11_recall_43 : decode cX11_recall 43 = .ok (.iconst 1, 1) := by decide +kernel
theorem dX11_recall_44 : decode cX11_recall 44 = .ok (.iand, 1) := by decide +kernel
theorem dX11_recall_45 : decode cX11_recall 45 = .ok (.iload_n 3, 1) := by decide +kernel
theorem dX11_recall_46 : decode cX11_recall 46 = .ok (.ishl, 1) := by decide +kernel
theorem dX11_recall_47 : decode cX11_recall 47 = .ok (.ior, 1) := by decide +kernel
theorem dX11_recall_48 : decode cX11_recall 48 = .ok (.istore_n 2, 1) := by decide +kernel
theorem dX11_recall_49 : decode cX11_recall 49 = .ok (.iinc 3 1, 3) := by decide +kernel
theorem dX11_recall_52 : decode cX11_recall 52 = .ok (.goto (-37), 3) := by decide +kernel
theorem dX11_recall_55 : decode cX11_recall 55 = .ok (.iload_n 2, 1) := by decide +kernel
theorem dX11_recall_56 : decode cX11_recall 56 = .ok (.ireturn, 1) := by decide +kernel
theorem dX11_plate_0 : decode cX11_plate 0 = .ok (.aload_n 0, 1) := by decide +kernel
theorem dX11_plate_1 : decode cX11_plate 1 = .ok (.getfield 7, 3) := by decide +kernel
theorem dX11_plate_4 : decode cX11_plate 4 = .ok (.iconst 3, 1) := by decide +kernel
theorem dX11_plate_5 : decode cX11_plate 5 = .ok (.iaload, 1) := by decide +kernel
theorem dX11_plate_6 : decode cX11_plate 6 = .ok (.iconst 4, 1) := by decide +kernel
theorem dX11_plate_7 : decode cX11_plate 7 = .ok (.if_icmp .eq 15, 3) := by decide +kernel
theorem dX11_plate_10 : decode cX11_plate 10 = .ok (.iload_n 1, 1) := by decide +kernel
theorem dX11_plate_11 : decode cX11_plate 11 = .ok (.bipush 100, 2) := by decide +kernel
theorem dX11_plate_13 : decode cX11_plate 13 = .ok (.sipush 250, 3) := by decide +kernel
theorem dX11_plate_16 : decode cX11_plate 16 = .ok (.invokestatic 38, 3) := by decide +kernel
theorem dX11_plate_19 : decode cX11_plate 19 = .ok (.ifCond .ne 5, 3) := by decide +kernel
theorem dX11_plate_22 : decode cX11_plate 22 = .ok (.iconst (-1), 1) := by decide +kernel
theorem dX11_plate_23 : decode cX11_plate 23 = .ok (.ireturn, 1) := by decide +kernel
theorem dX11_plate_24 : decode cX11_plate 24 = .ok (.aload_n 0, 1) := by decide +kernel
theorem dX11_plate_25 : decode cX11_plate 25 = .ok (.getfield 7, 3) := by decide +kernel
theorem dX11_plate_28 : decode cX11_plate 28 = .ok (.bipush 40, 2) := by decide +kernel
theorem dX11_plate_30 : decode cX11_plate 30 = .ok (.aload_n 0, 1) := by decide +kernel
theorem dX11_plate_31 : decode cX11_plate 31 = .ok (.getfield 7, 3) := by decide +kernel
theorem dX11_plate_34 : decode cX11_plate 34 = .ok (.iconst 3, 1) := by decide +kernel
theorem dX11_plate_35 : decode cX11_plate 35 = .ok (.iaload, 1) := by decide +kernel
theorem dX11_plate_36 : decode cX11_plate 36 = .ok (.iadd, 1) := by decide +kernel
theorem dX11_plate_37 : decode cX11_plate 37 = .ok (.iload_n 1, 1) := by decide +kernel
theorem dX11_plate_38 : decode cX11_plate 38 = .ok (.iastore, 1) := by decide +kernel
theorem dX11_plate_39 : decode cX11_plate 39 = .ok (.aload_n 0, 1) := by decide +kernel
theorem dX11_plate_40 : decode cX11_plate 40 = .ok (.getfield 7, 3) := by decide +kernel
theorem dX11_plate_43 : decode cX11_plate 43 = .ok (.iconst 3, 1) := by decide +kernel
theorem dX11_plate_44 : decode cX11_plate 44 = .ok (.dup2, 1) := by decide +kernel
theorem dX11_plate_45 : decode cX11_plate 45 = .ok (.iaload, 1) := by decide +kernel
theorem dX11_plate_46 : decode cX11_plate 46 = .ok (.iconst 1, 1) := by decide +kernel
theorem dX11_plate_47 : decode cX11_plate 47 = .ok (.iadd, 1) := by decide +kernel
theorem dX11_plate_48 : decode cX11_plate 48 = .ok (.iastore, 1) := by decide +kernel
theorem dX11_plate_49 : decode cX11_plate 49 = .ok (.aload_n 0, 1) := by decide +kernel
theorem dX11_plate_50 : decode cX11_plate 50 = .ok (.getfield 7, 3) := by decide +kernel
theorem dX11_plate_53 : decode cX11_plate 53 = .ok (.iconst 3, 1) := by decide +kernel
theorem dX11_plate_54 : decode cX11_plate 54 = .ok (.iaload, 1) := by decide +kernel
theorem dX11_plate_55 : decode cX11_plate 55 = .ok (.iconst 1, 1) := by decide +kernel
theorem dX11_plate_56 : decode cX11_plate 56 = .ok (.isub, 1) := by decide +kernel
theorem dX11_plate_57 : decode cX11_plate 57 = .ok (.ireturn, 1) := by decide +kernel
theorem dX11_cold_0 : decode cX11_cold 0 = .ok (.iconst 0, 1) := by decide +kernel
theorem dX11_cold_1 : decode cX11_cold 1 = .ok (.istore_n 1, 1) := by decide +kernel
theorem dX11_cold_2 : decode cX11_cold 2 = .ok (.iload_n 1, 1) := by decide +kernel
theorem dX11_cold_3 : decode cX11_cold 3 = .ok (.bipush 9, 2) := by decide +kernel
theorem dX11_cold_5 : decode cX11_cold 5 = .ok (.if_icmp .ge 25, 3) := by decide +kernel
theorem dX11_cold_8 : decode cX11_cold 8 = .ok (.aload_n 0, 1) := by decide +kernel
theorem dX11_cold_9 : decode cX11_cold 9 = .ok (.getfield 17, 3) := by decide +kernel
theorem dX11_cold_12 : decode cX11_cold 12 = .ok (.iload_n 1, 1) := by decide +kernel
theorem dX11_cold_13 : decode cX11_cold 13 = .ok (.sipush 2000, 3) := by decide +kernel
theorem dX11_cold_16 : decode cX11_cold 16 = .ok (.iastore, 1) := by decide +kernel
theorem dX11_cold_17 : decode cX11_cold 17 = .ok (.aload_n 0, 1) := by decide +kernel
theorem dX11_cold_18 : decode cX11_cold 18 = .ok (.getfield 23, 3) := by decide +kernel
theorem dX11_cold_21 : decode cX11_cold 21 = .ok (.iload_n 1, 1) := by decide +kernel
theorem dX11_cold_22 : decode cX11_cold 22 = .ok (.iconst 0, 1) := by decide +kernel
theorem dX11_cold_23 : decode cX11_cold 23 = .ok (.iastore, 1) := by decide +kernel
theorem dX11_cold_24 : decode cX11_cold 24 = .ok (.iinc 1 1, 3) := by decide +kernel
theorem dX11_cold_27 : decode cX11_cold 27 = .ok (.goto (-25), 3) := by decide +kernel
theorem dX11_cold_30 : decode cX11_cold 30 = .ok (.return_, 1) := by decide +kernel
theorem dX11_tick_0 : decode cX11_tick 0 = .ok (.bipush 100, 2) := by decide +kernel
theorem dX11_tick_2 : decode cX11_tick 2 = .ok (.aload_n 0, 1) := by decide +kernel
theorem dX11_tick_3 : decode cX11_tick 3 = .ok (.getfield 7, 3) := by decide +kernel
theorem dX11_tick_6 : decode cX11_tick 6 = .ok (.bipush 40, 2) := by decide +kernel
theorem dX11_tick_8 : decode cX11_tick 8 = .ok (.iload_n 1, 1) := by decide +kernel
theorem dX11_tick_9 : decode cX11_tick 9 = .ok (.iadd, 1) := by decide +kernel
theorem dX11_tick_10 : decode cX11_tick 10 = .ok (.iaload, 1) := by decide +kernel
theorem dX11_tick_11 : decode cX11_tick 11 = .ok (.imul, 1) := by decide +kernel
theorem dX11_tick_12 : decode cX11_tick 12 = .ok (.istore_n 2, 1) := by decide +kernel
theorem dX11_tick_13 : decode cX11_tick 13 = .ok (.iconst 0, 1) := by decide +kernel
theorem dX11_tick_14 : decode cX11_tick 14 = .ok (.istore_n 3, 1) := by decide +kernel
theorem dX11_tick_15 : decode cX11_tick 15 = .ok (.iload_n 3, 1) := by decide +kernel
theorem dX11_tick_16 : decode cX11_tick 16 = .ok (.bipush 9, 2) := by decide +kernel
theorem dX11_tick_18 : decode cX11_tick 18 = .ok (.if_icmp .ge 21, 3) := by decide +kernel
theorem dX11_tick_21 : decode cX11_tick 21 = .ok (.aload_n 0, 1) := by decide +kernel
theorem dX11_tick_22 : decode cX11_tick 22 = .ok (.getfield 20, 3) := by decide +kernel
theorem dX11_tick_25 : decode cX11_tick 25 = .ok (.iload_n 3, 1) := by decide +kernel
theorem dX11_tick_26 : decode cX11_tick 26 = .ok (.aload_n 0, 1) := by decide +kernel
theorem dX11_tick_27 : decode cX11_tick 27 = .ok (.getfield 17, 3) := by decide +kernel
theorem dX11_tick_30 : decode cX11_tick 30 = .ok (.iload_n 3, 1) := by decide +kernel
theorem dX11_tick_31 : decode cX11_tick 31 = .ok (.iaload, 1) := by decide +kernel
theorem dX11_tick_32 : decode cX11_tick 32 = .ok (.iastore, 1) := by decide +kernel
theorem dX11_tick_33 : decode cX11_tick 33 = .ok (.iinc 3 1, 3) := by decide +kernel
theorem dX11_tick_36 : decode cX11_tick 36 = .ok (.goto (-21), 3) := by decide +kernel
theorem dX11_tick_39 : decode cX11_tick 39 = .ok (.iconst 0, 1) := by decide +kernel
theorem dX11_tick_40 : decode cX11_tick 40 = .ok (.istore_n 3, 1) := by decide +kernel
theorem dX11_tick_41 : decode cX11_tick 41 = .ok (.iload_n 3, 1) := by decide +kernel
theorem dX11_tick_42 : decode cX11_tick 42 = .ok (.bipush 9, 2) := by decide +kernel
theorem dX11_tick_44 : decode cX11_tick 44 = .ok (.if_icmp .ge 107, 3) := by decide +kernel
theorem dX11_tick_47 : decode cX11_tick 47 = .ok (.iload_n 3, 1) := by decide +kernel
theorem dX11_tick_48 : decode cX11_tick 48 = .ok (.ifCond .ne 7, 3) := by decide +kernel
theorem dX11_tick_51 : decode cX11_tick 51 = .ok (.iload_n 2, 1) := by decide +kernel
theorem dX11_tick_52 : decode cX11_tick 52 = .ok (.goto 11, 3) := by decide +kernel
theorem dX11_tick_55 : decode cX11_tick 55 = .ok (.aload_n 0, 1) := by decide +kernel
theorem dX11_tick_56 : decode cX11_tick 56 = .ok (.getfield 20, 3) := by decide +kernel
theorem dX11_tick_59 : decode cX11_tick 59 = .ok (.iload_n 3, 1) := by decide +kernel
theorem dX11_tick_60 : decode cX11_tick 60 = .ok (.iconst 1, 1) := by decide +kernel
theorem dX11_tick_61 : decode cX11_tick 61 = .ok (.isub, 1) := by decide +kernel
theorem dX11_tick_62 : decode cX11_tick 62 = .ok (.iaload, 1) := by decide +kernel
theorem dX11_tick_63 : decode cX11_tick 63 = .ok (.istore 4, 2) := by decide +kernel
theorem dX11_tick_65 : decode cX11_tick 65 = .ok (.iload_n 3, 1) := by decide +kernel
theorem dX11_tick_66 : decode cX11_tick 66 = .ok (.bipush 8, 2) := by decide +kernel
theorem dX11_tick_68 : decode cX11_tick 68 = .ok (.if_icmp .ne 7, 3) := by decide +kernel
theorem dX11_tick_71 : decode cX11_tick 71 = .ok (.iload_n 2, 1) := by decide +kernel
theorem dX11_tick_72 : decode cX11_tick 72 = .ok (.goto 11, 3) := by decide +kernel
theorem dX11_tick_75 : decode cX11_tick 75 = .ok (.aload_n 0, 1) := by decide +kernel
theorem dX11_tick_76 : decode cX11_tick 76 = .ok (.getfield 20, 3) := by decide +kernel
theorem dX11_tick_79 : decode cX11_tick 79 = .ok (.iload_n 3, 1) := by decide +kernel
theorem dX11_tick_80 : decode cX11_tick 80 = .ok (.iconst 1, 1) := by decide +kernel
theorem dX11_tick_81 : decode cX11_tick 81 = .ok (.iadd, 1) := by decide +kernel
theorem dX11_tick_82 : decode cX11_tick 82 = .ok (.iaload, 1) := by decide +kernel
theorem dX11_tick_83 : decode cX11_tick 83 = .ok (.istore 5, 2) := by decide +kernel
theorem dX11_tick_85 : decode cX11_tick 85 = .ok (.aload_n 0, 1) := by decide +kernel
theorem dX11_tick_86 : decode cX11_tick 86 = .ok (.getfield 17, 3) := by decide +kernel
theorem dX11_tick_89 : decode cX11_tick 89 = .ok (.iload_n 3, 1) := by decide +kernel
theorem dX11_tick_90 : decode cX11_tick 90 = .ok (.dup2, 1) := by decide +kernel
theorem dX11_tick_91 : decode cX11_tick 91 = .ok (.iaload, 1) := by decide +kernel
theorem dX11_tick_92 : decode cX11_tick 92 = .ok (.iload 4, 2) := by decide +kernel
theorem dX11_tick_94 : decode cX11_tick 94 = .ok (.iload 5, 2) := by decide +kernel
theorem dX11_tick_96 : decode cX11_tick 96 = .ok (.iadd, 1) := by decide +kernel
theorem dX11_tick_97 : decode cX11_tick 97 = .ok (.iconst 2, 1) := by decide +kernel
theorem dX11_tick_98 : decode cX11_tick 98 = .ok (.aload_n 0, 1) := by decide +kernel
theorem dX11_tick_99 : decode cX11_tick 99 = .ok (.getfield 20, 3) := by decide +kernel
theorem dX11_tick_102 : decode cX11_tick 102 = .ok (.iload_n 3, 1) := by decide +kernel
theorem dX11_tick_103 : decode cX11_tick 103 = .ok (.iaload, 1) := by decide +kernel
theorem dX11_tick_104 : decode cX11_tick 104 = .ok (.imul, 1) := by decide +kernel
theorem dX11_tick_105 : decode cX11_tick 105 = .ok (.isub, 1) := by decide +kernel
theorem dX11_tick_106 : decode cX11_tick 106 = .ok (.bipush 8, 2) := by decide +kernel
theorem dX11_tick_108 : decode cX11_tick 108 = .ok (.idiv, 1) := by decide +kernel
theorem dX11_tick_109 : decode cX11_tick 109 = .ok (.iadd, 1) := by decide +kernel
theorem dX11_tick_110 : decode cX11_tick 110 = .ok (.iastore, 1) := by decide +kernel
theorem dX11_tick_111 : decode cX11_tick 111 = .ok (.aload_n 0, 1) := by decide +kernel
theorem dX11_tick_112 : decode cX11_tick 112 = .ok (.getfield 17, 3) := by decide +kernel
theorem dX11_tick_115 : decode cX11_tick 115 = .ok (.iload_n 3, 1) := by decide +kernel
theorem dX11_tick_116 : decode cX11_tick 116 = .ok (.iaload, 1) := by decide +kernel
theorem dX11_tick_117 : decode cX11_tick 117 = .ok (.sipush 8000, 3) := by decide +kernel
theorem dX11_tick_120 : decode cX11_tick 120 = .ok (.if_icmp .le 25, 3) := by decide +kernel
theorem dX11_tick_123 : decode cX11_tick 123 = .ok (.aload_n 0, 1) := by decide +kernel
theorem dX11_tick_124 : decode cX11_tick 124 = .ok (.getfield 23, 3) := by decide +kernel
theorem dX11_tick_127 : decode cX11_tick 127 = .ok (.iload_n 3, 1) := by decide +kernel
theorem dX11_tick_128 : decode cX11_tick 128 = .ok (.dup2, 1) := by decide +kernel
theorem dX11_tick_129 : decode cX11_tick 129 = .ok (.iaload, 1) := by decide +kernel
theorem dX11_tick_130 : decode cX11_tick 130 = .ok (.aload_n 0, 1) := by decide +kernel
theorem dX11_tick_131 : decode cX11_tick 131 = .ok (.getfield 17, 3) := by decide +kernel
theorem dX11_tick_134 : decode cX11_tick 134 = .ok (.iload_n 3, 1) := by decide +kernel
theorem dX11_tick_135 : decode cX11_tick 135 = .ok (.iaload, 1) := by decide +kernel
theorem dX11_tick_136 : decode cX11_tick 136 = .ok (.sipush 8000, 3) := by decide +kernel
theorem dX11_tick_139 : decode cX11_tick 139 = .ok (.isub, 1) := by decide +kernel
theorem dX11_tick_140 : decode cX11_tick 140 = .ok (.bipush 100, 2) := by decide +kernel
theorem dX11_tick_142 : decode cX11_tick 142 = .ok (.idiv, 1) := by decide +kernel
theorem dX11_tick_143 : decode cX11_tick 143 = .ok (.iadd, 1) := by decide +kernel
theorem dX11_tick_144 : decode cX11_tick 144 = .ok (.iastore, 1) := by decide +kernel
theorem dX11_tick_145 : decode cX11_tick 145 = .ok (.iinc 3 1, 3) := by decide +kernel
theorem dX11_tick_148 : decode cX11_tick 148 = .ok (.goto (-107), 3) := by decide +kernel
theorem dX11_tick_151 : decode cX11_tick 151 = .ok (.return_, 1) := by decide +kernel
theorem dX11_steam_0 : decode cX11_steam 0 = .ok (.aload_n 0, 1) := by decide +kernel
theorem dX11_steam_1 : decode cX11_steam 1 = .ok (.getfield 17, 3) := by decide +kernel
theorem dX11_steam_4 : decode cX11_steam 4 = .ok (.iload_n 2, 1) := by decide +kernel
theorem dX11_steam_5 : decode cX11_steam 5 = .ok (.iaload, 1) := by decide +kernel
theorem dX11_steam_6 : decode cX11_steam 6 = .ok (.sipush 10000, 3) := by decide +kernel
theorem dX11_steam_9 : decode cX11_steam 9 = .ok (.if_icmp .le 34, 3) := by decide +kernel
theorem dX11_steam_12 : decode cX11_steam 12 = .ok (.aload_n 0, 1) := by decide +kernel
theorem dX11_steam_13 : decode cX11_steam 13 = .ok (.getfield 17, 3) := by decide +kernel
theorem dX11_steam_16 : decode cX11_steam 16 = .ok (.iload_n 2, 1) := by decide +kernel
theorem dX11_steam_17 : decode cX11_steam 17 = .ok (.iaload, 1) := by decide +kernel
theorem dX11_steam_18 : decode cX11_steam 18 = .ok (.sipush 10000, 3) := by decide +kernel
theorem dX11_steam_21 : decode cX11_steam 21 = .ok (.isub, 1) := by decide +kernel
theorem dX11_steam_22 : decode cX11_steam 22 = .ok (.aload_n 0, 1) := by decide +kernel
theorem dX11_steam_23 : decode cX11_steam 23 = .ok (.getfield 7, 3) := by decide +kernel
theorem dX11_steam_26 : decode cX11_steam 26 = .ok (.bipush 50, 2) := by decide +kernel
theorem dX11_steam_28 : decode cX11_steam 28 = .ok (.bipush 8, 2) := by decide +kernel
theorem dX11_steam_30 : decode cX11_steam 30 = .ok (.iload_n 1, 1) := by decide +kernel
theorem dX11_steam_31 : decode cX11_steam 31 = .ok (.imul, 1) := by decide +kernel
theorem dX11_steam_32 : decode cX11_steam 32 = .ok (.iadd, 1) := by decide +kernel
theorem dX11_steam_33 : decode cX11_steam 33 = .ok (.iconst 2, 1) := by decide +kernel
theorem dX11_steam_34 : decode cX11_steam 34 = .ok (.iadd, 1) := by decide +kernel
theorem dX11_steam_35 : decode cX11_steam 35 = .ok (.iaload, 1) := by decide +kernel
theorem dX11_steam_36 : decode cX11_steam 36 = .ok (.imul, 1) := by decide +kernel
theorem dX11_steam_37 : decode cX11_steam 37 = .ok (.bipush 100, 2) := by decide +kernel
theorem dX11_steam_39 : decode cX11_steam 39 = .ok (.idiv, 1) := by decide +kernel
theorem dX11_steam_40 : decode cX11_steam 40 = .ok (.goto 4, 3) := by decide +kernel
theorem dX11_steam_43 : decode cX11_steam 43 = .ok (.iconst 0, 1) := by decide +kernel
theorem dX11_steam_44 : decode cX11_steam 44 = .ok (.ireturn, 1) := by decide +kernel
theorem dX11_mayOpen_0 : decode cX11_mayOpen 0 = .ok (.iconst 1, 1) := by decide +kernel
theorem dX11_mayOpen_1 : decode cX11_mayOpen 1 = .ok (.istore_n 2, 1) := by decide +kernel
theorem dX11_mayOpen_2 : decode cX11_mayOpen 2 = .ok (.iconst 0, 1) := by decide +kernel
theorem dX11_mayOpen_3 : decode cX11_mayOpen 3 = .ok (.istore_n 3, 1) := by decide +kernel
theorem dX11_mayOpen_4 : decode cX11_mayOpen 4 = .ok (.iload_n 3, 1) := by decide +kernel
theorem dX11_mayOpen_5 : decode cX11_mayOpen 5 = .ok (.bipush 9, 2) := by decide +kernel
theorem dX11_mayOpen_7 : decode cX11_mayOpen 7 = .ok (.if_icmp .ge 50, 3) := by decide +kernel
theorem dX11_mayOpen_10 : decode cX11_mayOpen 10 = .ok (.iload_n 2, 1) := by decide +kernel
theorem dX11_mayOpen_11 : decode cX11_mayOpen 11 = .ok (.ifCond .eq 38, 3) := by decide +kernel
theorem dX11_mayOpen_14 : decode cX11_mayOpen 14 = .ok (.aload_n 0, 1) := by decide +kernel
theorem dX11_mayOpen_15 : decode cX11_mayOpen 15 = .ok (.getfield 23, 3) := by decide +kernel
theorem dX11_mayOpen_18 : decode cX11_mayOpen 18 = .ok (.iload_n 3, 1) := by decide +kernel
theorem dX11_mayOpen_19 : decode cX11_mayOpen 19 = .ok (.iaload, 1) := by decide +kernel
theorem dX11_mayOpen_20 : decode cX11_mayOpen 20 = .ok (.aload_n 0, 1) := by decide +kernel
theorem dX11_mayOpen_21 : decode cX11_mayOpen 21 = .ok (.getfield 7, 3) := by decide +kernel
theorem dX11_mayOpen_24 : decode cX11_mayOpen 24 = .ok (.bipush 7, 2) := by decide +kernel
theorem dX11_mayOpen_26 : decode cX11_mayOpen 26 = .ok (.iaload, 1) := by decide +kernel
theorem dX11_mayOpen_27 : decode cX11_mayOpen 27 = .ok (.if_icmp .lt 22, 3) := by decide +kernel
theorem dX11_mayOpen_30 : decode cX11_mayOpen 30 = .ok (.aload_n 0, 1) := by decide +kernel
theorem dX11_mayOpen_31 : decode cX11_mayOpen 31 = .ok (.iload_n 1, 1) := by decide +kernel
theorem dX11_mayOpen_32 : decode cX11_mayOpen 32 = .ok (.iload_n 3, 1) := by decide +kernel
theorem dX11_mayOpen_33 : decode cX11_mayOpen 33 = .ok (.invokevirtual 62, 3) := by decide +kernel
theorem dX11_mayOpen_36 : decode cX11_mayOpen 36 = .ok (.aload_n 0, 1) := by decide +kernel
theorem dX11_mayOpen_37 : decode cX11_mayOpen 37 = .ok (.getfield 23, 3) := by decide +kernel
theorem dX11_mayOpen_40 : decode cX11_mayOpen 40 = .ok (.iload_n 3, 1) := by decide +kernel
theorem dX11_mayOpen_41 : decode cX11_mayOpen 41 = .ok (.iaload, 1) := by decide +kernel
theorem dX11_mayOpen_42 : decode cX11_mayOpen 42 = .ok (.if_icmp .gt 7, 3) := by decide +kernel
theorem dX11_mayOpen_45 : decode cX11_mayOpen 45 = .ok (.iconst 1, 1) := by decide +kernel
theorem dX11_mayOpen_46 : decode cX11_mayOpen 46 = .ok (.goto 4, 3) := by decide +kernel
theorem dX11_mayOpen_49 : decode cX11_mayOpen 49 = .ok (.iconst 0, 1) := by decide +kernel
theorem dX11_mayOpen_50 : decode cX11_mayOpen 50 = .ok (.istore_n 2, 1) := by decide +kernel
theorem dX11_mayOpen_51 : decode cX11_mayOpen 51 = .ok (.iinc 3 1, 3) := by decide +kernel
theorem dX11_mayOpen_54 : decode cX11_mayOpen 54 = .ok (.goto (-50), 3) := by decide +kernel
theorem dX11_mayOpen_57 : decode cX11_mayOpen 57 = .ok (.iload_n 2, 1) := by decide +kernel
theorem dX11_mayOpen_58 : decode cX11_mayOpen 58 = .ok (.ireturn, 1) := by decide +kernel
theorem dX11_time_0 : decode cX11_time 0 = .ok (.aload_n 0, 1) := by decide +kernel
theorem dX11_time_1 : decode cX11_time 1 = .ok (.iload_n 1, 1) := by decide +kernel
theorem dX11_time_2 : decode cX11_time 2 = .ok (.iconst 2, 1) := by decide +kernel
theorem dX11_time_3 : decode cX11_time 3 = .ok (.invokevirtual 42, 3) := by decide +kernel
theorem dX11_time_6 : decode cX11_time 6 = .ok (.ifCond .eq 12, 3) := by decide +kernel
theorem dX11_time_9 : decode cX11_time 9 = .ok (.aload_n 0, 1) := by decide +kernel
theorem dX11_time_10 : decode cX11_time 10 = .ok (.iload_n 2, 1) := by decide +kernel
theorem dX11_time_11 : decode cX11_time 11 = .ok (.iconst 3, 1) := by decide +kernel
theorem dX11_time_12 : decode cX11_time 12 = .ok (.invokevirtual 42, 3) := by decide +kernel
theorem dX11_time_15 : decode cX11_time 15 = .ok (.ifCond .ne 5, 3) := by decide +kernel
theorem dX11_time_18 : decode cX11_time 18 = .ok (.iconst (-1), 1) := by decide +kernel
theorem dX11_time_19 : decode cX11_time 19 = .ok (.ireturn, 1) := by decide +kernel
theorem dX11_time_20 : decode cX11_time 20 = .ok (.aload_n 0, 1) := by decide +kernel
theorem dX11_time_21 : decode cX11_time 21 = .ok (.invokevirtual 66, 3) := by decide +kernel
theorem dX11_time_24 : decode cX11_time 24 = .ok (.iconst 1, 1) := by decide +kernel
theorem dX11_time_25 : decode cX11_time 25 = .ok (.istore_n 3, 1) := by decide +kernel
theorem dX11_time_26 : decode cX11_time 26 = .ok (.iload_n 3, 1) := by decide +kernel
theorem dX11_time_27 : decode cX11_time 27 = .ok (.sipush 400, 3) := by decide +kernel
theorem dX11_time_30 : decode cX11_time 30 = .ok (.if_icmp .gt 24, 3) := by decide +kernel
theorem dX11_time_33 : decode cX11_time 33 = .ok (.aload_n 0, 1) := by decide +kernel
theorem dX11_time_34 : decode cX11_time 34 = .ok (.iload_n 2, 1) := by decide +kernel
theorem dX11_time_35 : decode cX11_time 35 = .ok (.invokevirtual 69, 3) := by decide +kernel
theorem dX11_time_38 : decode cX11_time 38 = .ok (.aload_n 0, 1) := by decide +kernel
theorem dX11_time_39 : decode cX11_time 39 = .ok (.iload_n 1, 1) := by decide +kernel
theorem dX11_time_40 : decode cX11_time 40 = .ok (.invokevirtual 73, 3) := by decide +kernel
theorem dX11_time_43 : decode cX11_time 43 = .ok (.ifCond .eq 5, 3) := by decide +kernel
theorem dX11_time_46 : decode cX11_time 46 = .ok (.iload_n 3, 1) := by decide +kernel
theorem dX11_time_47 : decode cX11_time 47 = .ok (.ireturn, 1) := by decide +kernel
theorem dX11_time_48 : decode cX11_time 48 = .ok (.iinc 3 1, 3) := by decide +kernel
theorem dX11_time_51 : decode cX11_time 51 = .ok (.goto (-25), 3) := by decide +kernel
theorem dX11_time_54 : decode cX11_time 54 = .ok (.iconst (-1), 1) := by decide +kernel
theorem dX11_time_55 : decode cX11_time 55 = .ok (.ireturn, 1) := by decide +kernel
theorem dX11_fastest_0 : decode cX11_fastest 0 = .ok (.iconst (-1), 1) := by decide +kernel
theorem dX11_fastest_1 : decode cX11_fastest 1 = .ok (.istore_n 2, 1) := by decide +kernel
theorem dX11_fastest_2 : decode cX11_fastest 2 = .ok (.sipush 401, 3) := by decide +kernel
theorem dX11_fastest_5 : decode cX11_fastest 5 = .ok (.istore_n 3, 1) := by decide +kernel
theorem dX11_fastest_6 : decode cX11_fastest 6 = .ok (.iconst 0, 1) := by decide +kernel
theorem dX11_fastest_7 : decode cX11_fastest 7 = .ok (.istore 4, 2) := by decide +kernel
theorem dX11_fastest_9 : decode cX11_fastest 9 = .ok (.iload 4, 2) := by decide +kernel
theorem dX11_fastest_11 : decode cX11_fastest 11 = .ok (.aload_n 0, 1) := by decide +kernel
theorem dX11_fastest_12 : decode cX11_fastest 12 = .ok (.getfield 7, 3) := by decide +kernel
theorem dX11_fastest_15 : decode cX11_fastest 15 = .ok (.iconst 3, 1) := by decide +kernel
theorem dX11_fastest_16 : decode cX11_fastest 16 = .ok (.iaload, 1) := by decide +kernel
theorem dX11_fastest_17 : decode cX11_fastest 17 = .ok (.if_icmp .ge 38, 3) := by decide +kernel
theorem dX11_fastest_20 : decode cX11_fastest 20 = .ok (.aload_n 0, 1) := by decide +kernel
theorem dX11_fastest_21 : decode cX11_fastest 21 = .ok (.iload_n 1, 1) := by decide +kernel
theorem dX11_fastest_22 : decode cX11_fastest 22 = .ok (.iload 4, 2) := by decide +kernel
theorem dX11_fastest_24 : decode cX11_fastest 24 = .ok (.invokevirtual 77, 3) := by decide +kernel
theorem dX11_fastest_27 : decode cX11_fastest 27 = .ok (.istore 5, 2) := by decide +kernel
theorem dX11_fastest_29 : decode cX11_fastest 29 = .ok (.iload 5, 2) := by decide +kernel
theorem dX11_fastest_31 : decode cX11_fastest 31 = .ok (.ifCond .lt 18, 3) := by decide +kernel
theorem dX11_fastest_34 : decode cX11_fastest 34 = .ok (.iload 5, 2) := by decide +kernel
theorem dX11_fastest_36 : decode cX11_fastest 36 = .ok (.iload_n 3, 1) := by decide +kernel
theorem dX11_fastest_37 : decode cX11_fastest 37 = .ok (.if_icmp .lt 6, 3) := by decide +kernel
theorem dX11_fastest_40 : decode cX11_fastest 40 = .ok (.goto 9, 3) := by decide +kernel
theorem dX11_fastest_43 : decode cX11_fastest 43 = .ok (.iload 5, 2) := by decide +kernel
theorem dX11_fastest_45 : decode cX11_fastest 45 = .ok (.istore_n 3, 1) := by decide +kernel
theorem dX11_fastest_46 : decode cX11_fastest 46 = .ok (.iload 4, 2) := by decide +kernel
theorem dX11_fastest_48 : decode cX11_fastest 48 = .ok (.istore_n 2, 1) := by decide +kernel
theorem dX11_fastest_49 : decode cX11_fastest 49 = .ok (.iinc 4 1, 3) := by decide +kernel
theorem dX11_fastest_52 : decode cX11_fastest 52 = .ok (.goto (-43), 3) := by decide +kernel
theorem dX11_fastest_55 : decode cX11_fastest 55 = .ok (.iload_n 2, 1) := by decide +kernel
theorem dX11_fastest_56 : decode cX11_fastest 56 = .ok (.ireturn, 1) := by decide +kernel
theorem dX11_press_0 : decode cX11_press 0 = .ok (.aload_n 0, 1) := by decide +kernel
theorem dX11_press_1 : decode cX11_press 1 = .ok (.iload_n 1, 1) := by decide +kernel
theorem dX11_press_2 : decode cX11_press 2 = .ok (.iload_n 2, 1) := by decide +kernel
theorem dX11_press_3 : decode cX11_press 3 = .ok (.invokevirtual 77, 3) := by decide +kernel
theorem dX11_press_6 : decode cX11_press 6 = .ok (.istore_n 3, 1) := by decide +kernel
theorem dX11_press_7 : decode cX11_press 7 = .ok (.iload_n 3, 1) := by decide +kernel
theorem dX11_press_8 : decode cX11_press 8 = .ok (.ifCond .lt 21, 3) := by decide +kernel
theorem dX11_press_11 : decode cX11_press 11 = .ok (.aload_n 0, 1) := by decide +kernel
theorem dX11_press_12 : decode cX11_press 12 = .ok (.getfield 7, 3) := by decide +kernel
theorem dX11_press_15 : decode cX11_press 15 = .ok (.bipush 50, 2) := by decide +kernel
theorem dX11_press_17 : decode cX11_press 17 = .ok (.bipush 8, 2) := by decide +kernel
theorem dX11_press_19 : decode cX11_press 19 = .ok (.iload_n 1, 1) := by decide +kernel
theorem dX11_press_20 : decode cX11_press 20 = .ok (.imul, 1) := by decide +kernel
theorem dX11_press_21 : decode cX11_press 21 = .ok (.iadd, 1) := by decide +kernel
theorem dX11_press_22 : decode cX11_press 22 = .ok (.bipush 7, 2) := by decide +kernel
theorem dX11_press_24 : decode cX11_press 24 = .ok (.iadd, 1) := by decide +kernel
theorem dX11_press_25 : decode cX11_press 25 = .ok (.iaload, 1) := by decide +kernel
theorem dX11_press_26 : decode cX11_press 26 = .ok (.ifCond .lt 5, 3) := by decide +kernel
theorem dX11_press_29 : decode cX11_press 29 = .ok (.iconst 0, 1) := by decide +kernel
theorem dX11_press_30 : decode cX11_press 30 = .ok (.ireturn, 1) := by decide +kernel
theorem dX11_press_31 : decode cX11_press 31 = .ok (.aload_n 0, 1) := by decide +kernel
theorem dX11_press_32 : decode cX11_press 32 = .ok (.getfield 7, 3) := by decide +kernel
theorem dX11_press_35 : decode cX11_press 35 = .ok (.bipush 50, 2) := by decide +kernel
theorem dX11_press_37 : decode cX11_press 37 = .ok (.bipush 8, 2) := by decide +kernel
theorem dX11_press_39 : decode cX11_press 39 = .ok (.iload_n 1, 1) := by decide +kernel
theorem dX11_press_40 : decode cX11_press 40 = .ok (.imul, 1) := by decide +kernel
theorem dX11_press_41 : decode cX11_press 41 = .ok (.iadd, 1) := by decide +kernel
theorem dX11_press_42 : decode cX11_press 42 = .ok (.bipush 7, 2) := by decide +kernel
theorem dX11_press_44 : decode cX11_press 44 = .ok (.iadd, 1) := by decide +kernel
theorem dX11_press_45 : decode cX11_press 45 = .ok (.iload_n 3, 1) := by decide +kernel
theorem dX11_press_46 : decode cX11_press 46 = .ok (.iastore, 1) := by decide +kernel
theorem dX11_press_47 : decode cX11_press 47 = .ok (.iconst 1, 1) := by decide +kernel
theorem dX11_press_48 : decode cX11_press 48 = .ok (.ireturn, 1) := by decide +kernel
theorem dX11_shell_0 : decode cX11_shell 0 = .ok (.aload_n 0, 1) := by decide +kernel
theorem dX11_shell_1 : decode cX11_shell 1 = .ok (.iload_n 1, 1) := by decide +kernel
theorem dX11_shell_2 : decode cX11_shell 2 = .ok (.iconst 2, 1) := by decide +kernel
theorem dX11_shell_3 : decode cX11_shell 3 = .ok (.invokevirtual 42, 3) := by decide +kernel
theorem dX11_shell_6 : decode cX11_shell 6 = .ok (.ifCond .eq 44, 3) := by decide +kernel
theorem dX11_shell_9 : decode cX11_shell 9 = .ok (.aload_n 0, 1) := by decide +kernel
theorem dX11_shell_10 : decode cX11_shell 10 = .ok (.iload_n 2, 1) := by decide +kernel
theorem dX11_shell_11 : decode cX11_shell 11 = .ok (.iconst 3, 1) := by decide +kernel
theorem dX11_shell_12 : decode cX11_shell 12 = .ok (.invokevirtual 42, 3) := by decide +kernel
theorem dX11_shell_15 : decode cX11_shell 15 = .ok (.ifCond .eq 35, 3) := by decide +kernel
theorem dX11_shell_18 : decode cX11_shell 18 = .ok (.iload_n 3, 1) := by decide +kernel
theorem dX11_shell_19 : decode cX11_shell 19 = .ok (.iconst 0, 1) := by decide +kernel
theorem dX11_shell_20 : decode cX11_shell 20 = .ok (.sipush 400, 3) := by decide +kernel
theorem dX11_shell_23 : decode cX11_shell 23 = .ok (.invokestatic 38, 3) := by decide +kernel
theorem dX11_shell_26 : decode cX11_shell 26 = .ok (.ifCond .eq 24, 3) := by decide +kernel
theorem dX11_shell_29 : decode cX11_shell 29 = .ok (.iload 4, 2) := by decide +kernel
theorem dX11_shell_31 : decode cX11_shell 31 = .ok (.iconst 0, 1) := by decide +kernel
theorem dX11_shell_32 : decode cX11_shell 32 = .ok (.bipush 8, 2) := by decide +kernel
theorem dX11_shell_34 : decode cX11_shell 34 = .ok (.invokestatic 38, 3) := by decide +kernel
theorem dX11_shell_37 : decode cX11_shell 37 = .ok (.ifCond .eq 13, 3) := by decide +kernel
theorem dX11_shell_40 : decode cX11_shell 40 = .ok (.iload 5, 2) := by decide +kernel
theorem dX11_shell_42 : decode cX11_shell 42 = .ok (.iconst 0, 1) := by decide +kernel
theorem dX11_shell_43 : decode cX11_shell 43 = .ok (.iconst 2, 1) := by decide +kernel
theorem dX11_shell_44 : decode cX11_shell 44 = .ok (.invokestatic 38, 3) := by decide +kernel
theorem dX11_shell_47 : decode cX11_shell 47 = .ok (.ifCond .ne 5, 3) := by decide +kernel
theorem dX11_shell_50 : decode cX11_shell 50 = .ok (.iconst (-1), 1) := by decide +kernel
theorem dX11_shell_51 : decode cX11_shell 51 = .ok (.ireturn, 1) := by decide +kernel
theorem dX11_shell_52 : decode cX11_shell 52 = .ok (.aload_n 0, 1) := by decide +kernel
theorem dX11_shell_53 : decode cX11_shell 53 = .ok (.invokevirtual 66, 3) := by decide +kernel
theorem dX11_shell_56 : decode cX11_shell 56 = .ok (.iconst 0, 1) := by decide +kernel
theorem dX11_shell_57 : decode cX11_shell 57 = .ok (.istore 6, 2) := by decide +kernel
theorem dX11_shell_59 : decode cX11_shell 59 = .ok (.iload 6, 2) := by decide +kernel
theorem dX11_shell_61 : decode cX11_shell 61 = .ok (.iload_n 3, 1) := by decide +kernel
theorem dX11_shell_62 : decode cX11_shell 62 = .ok (.if_icmp .ge 14, 3) := by decide +kernel
theorem dX11_shell_65 : decode cX11_shell 65 = .ok (.aload_n 0, 1) := by decide +kernel
theorem dX11_shell_66 : decode cX11_shell 66 = .ok (.iload_n 2, 1) := by decide +kernel
theorem dX11_shell_67 : decode cX11_shell 67 = .ok (.invokevirtual 69, 3) := by decide +kernel
theorem dX11_shell_70 : decode cX11_shell 70 = .ok (.iinc 6 1, 3) := by decide +kernel
theorem dX11_shell_73 : decode cX11_shell 73 = .ok (.goto (-14), 3) := by decide +kernel
theorem dX11_shell_76 : decode cX11_shell 76 = .ok (.iload 5, 2) := by decide +kernel
theorem dX11_shell_78 : decode cX11_shell 78 = .ok (.ifCond .ne 13, 3) := by decide +kernel
theorem dX11_shell_81 : decode cX11_shell 81 = .ok (.aload_n 0, 1) := by decide +kernel
theorem dX11_shell_82 : decode cX11_shell 82 = .ok (.getfield 17, 3) := by decide +kernel
theorem dX11_shell_85 : decode cX11_shell 85 = .ok (.iload 4, 2) := by decide +kernel
theorem dX11_shell_87 : decode cX11_shell 87 = .ok (.iaload, 1) := by decide +kernel
theorem dX11_shell_88 : decode cX11_shell 88 = .ok (.goto 26, 3) := by decide +kernel
theorem dX11_shell_91 : decode cX11_shell 91 = .ok (.iload 5, 2) := by decide +kernel
theorem dX11_shell_93 : decode cX11_shell 93 = .ok (.iconst 1, 1) := by decide +kernel
theorem dX11_shell_94 : decode cX11_shell 94 = .ok (.if_icmp .ne 13, 3) := by decide +kernel
theorem dX11_shell_97 : decode cX11_shell 97 = .ok (.aload_n 0, 1) := by decide +kernel
theorem dX11_shell_98 : decode cX11_shell 98 = .ok (.getfield 23, 3) := by decide +kernel
theorem dX11_shell_101 : decode cX11_shell 101 = .ok (.iload 4, 2) := by decide +kernel
theorem dX11_shell_103 : decode cX11_shell 103 = .ok (.iaload, 1) := by decide +kernel
theorem dX11_shell_104 : decode cX11_shell 104 = .ok (.goto 10, 3) := by decide +kernel
theorem dX11_shell_107 : decode cX11_shell 107 = .ok (.aload_n 0, 1) := by decide +kernel
theorem dX11_shell_108 : decode cX11_shell 108 = .ok (.iload_n 1, 1) := by decide +kernel
theorem dX11_shell_109 : decode cX11_shell 109 = .ok (.iload 4, 2) := by decide +kernel
theorem dX11_shell_111 : decode cX11_shell 111 = .ok (.invokevirtual 62, 3) := by decide +kernel
theorem dX11_shell_114 : decode cX11_shell 114 = .ok (.ireturn, 1) := by decide +kernel
theorem dX11_link_0 : decode cX11_link 0 = .ok (.iload_n 1, 1) := by decide +kernel
theorem dX11_link_1 : decode cX11_link 1 = .ok (.iconst 0, 1) := by decide +kernel
theorem dX11_link_2 : decode cX11_link 2 = .ok (.bipush 7, 2) := by decide +kernel
theorem dX11_link_4 : decode cX11_link 4 = .ok (.invokestatic 38, 3) := by decide +kernel
theorem dX11_link_7 : decode cX11_link 7 = .ok (.ifCond .eq 22, 3) := by decide +kernel
theorem dX11_link_10 : decode cX11_link 10 = .ok (.iload_n 2, 1) := by decide +kernel
theorem dX11_link_11 : decode cX11_link 11 = .ok (.iconst 0, 1) := by decide +kernel
theorem dX11_link_12 : decode cX11_link 12 = .ok (.iconst 3, 1) := by decide +kernel
theorem dX11_link_13 : decode cX11_link 13 = .ok (.invokestatic 38, 3) := by decide +kernel
theorem dX11_link_16 : decode cX11_link 16 = .ok (.ifCond .eq 13, 3) := by decide +kernel
theorem dX11_link_19 : decode cX11_link 19 = .ok (.iload_n 3, 1) := by decide +kernel
theorem dX11_link_20 : decode cX11_link 20 = .ok (.iconst 0, 1) := by decide +kernel
theorem dX11_link_21 : decode cX11_link 21 = .ok (.bipush 7, 2) := by decide +kernel
theorem dX11_link_23 : decode cX11_link 23 = .ok (.invokestatic 38, 3) := by decide +kernel
theorem dX11_link_26 : decode cX11_link 26 = .ok (.ifCond .ne 5, 3) := by decide +kernel
theorem dX11_link_29 : decode cX11_link 29 = .ok (.iconst 0, 1) := by decide +kernel
theorem dX11_link_30 : decode cX11_link 30 = .ok (.ireturn, 1) := by decide +kernel
theorem dX11_link_31 : decode cX11_link 31 = .ok (.aload_n 0, 1) := by decide +kernel
theorem dX11_link_32 : decode cX11_link 32 = .ok (.getfield 7, 3) := by decide +kernel
theorem dX11_link_35 : decode cX11_link 35 = .ok (.sipush 250, 3) := by decide +kernel
theorem dX11_link_38 : decode cX11_link 38 = .ok (.bipush 6, 2) := by decide +kernel
theorem dX11_link_40 : decode cX11_link 40 = .ok (.iload_n 1, 1) := by decide +kernel
theorem dX11_link_41 : decode cX11_link 41 = .ok (.imul, 1) := by decide +kernel
theorem dX11_link_42 : decode cX11_link 42 = .ok (.iadd, 1) := by decide +kernel
theorem dX11_link_43 : decode cX11_link 43 = .ok (.iload_n 2, 1) := by decide +kernel
theorem dX11_link_44 : decode cX11_link 44 = .ok (.iadd, 1) := by decide +kernel
theorem dX11_link_45 : decode cX11_link 45 = .ok (.iload_n 3, 1) := by decide +kernel
theorem dX11_link_46 : decode cX11_link 46 = .ok (.iastore, 1) := by decide +kernel
theorem dX11_link_47 : decode cX11_link 47 = .ok (.iconst 1, 1) := by decide +kernel
theorem dX11_link_48 : decode cX11_link 48 = .ok (.ireturn, 1) := by decide +kernel
theorem dX11_state_0 : decode cX11_state 0 = .ok (.iload_n 1, 1) := by decide +kernel
theorem dX11_state_1 : decode cX11_state 1 = .ok (.iconst 0, 1) := by decide +kernel
theorem dX11_state_2 : decode cX11_state 2 = .ok (.bipush 7, 2) := by decide +kernel
theorem dX11_state_4 : decode cX11_state 4 = .ok (.invokestatic 38, 3) := by decide +kernel
theorem dX11_state_7 : decode cX11_state 7 = .ok (.ifCond .ne 5, 3) := by decide +kernel
theorem dX11_state_10 : decode cX11_state 10 = .ok (.iconst 0, 1) := by decide +kernel
theorem dX11_state_11 : decode cX11_state 11 = .ok (.ireturn, 1) := by decide +kernel
theorem dX11_state_12 : decode cX11_state 12 = .ok (.aload_n 0, 1) := by decide +kernel
theorem dX11_state_13 : decode cX11_state 13 = .ok (.getfield 7, 3) := by decide +kernel
theorem dX11_state_16 : decode cX11_state 16 = .ok (.sipush 250, 3) := by decide +kernel
theorem dX11_state_19 : decode cX11_state 19 = .ok (.bipush 6, 2) := by decide +kernel
theorem dX11_state_21 : decode cX11_state 21 = .ok (.iload_n 1, 1) := by decide +kernel
theorem dX11_state_22 : decode cX11_state 22 = .ok (.imul, 1) := by decide +kernel
theorem dX11_state_23 : decode cX11_state 23 = .ok (.iadd, 1) := by decide +kernel
theorem dX11_state_24 : decode cX11_state 24 = .ok (.iconst 4, 1) := by decide +kernel
theorem dX11_state_25 : decode cX11_state 25 = .ok (.iadd, 1) := by decide +kernel
theorem dX11_state_26 : decode cX11_state 26 = .ok (.iload_n 2, 1) := by decide +kernel
theorem dX11_state_27 : decode cX11_state 27 = .ok (.ifCond .eq 7, 3) := by decide +kernel
theorem dX11_state_30 : decode cX11_state 30 = .ok (.iconst 1, 1) := by decide +kernel
theorem dX11_state_31 : decode cX11_state 31 = .ok (.goto 4, 3) := by decide +kernel
theorem dX11_state_34 : decode cX11_state 34 = .ok (.iconst 0, 1) := by decide +kernel
theorem dX11_state_35 : decode cX11_state 35 = .ok (.iastore, 1) := by decide +kernel
theorem dX11_state_36 : decode cX11_state 36 = .ok (.aload_n 0, 1) := by decide +kernel
theorem dX11_state_37 : decode cX11_state 37 = .ok (.getfield 7, 3) := by decide +kernel
theorem dX11_state_40 : decode cX11_state 40 = .ok (.sipush 250, 3) := by decide +kernel
theorem dX11_state_43 : decode cX11_state 43 = .ok (.bipush 6, 2) := by decide +kernel
theorem dX11_state_45 : decode cX11_state 45 = .ok (.iload_n 1, 1) := by decide +kernel
theorem dX11_state_46 : decode cX11_state 46 = .ok (.imul, 1) := by decide +kernel
theorem dX11_state_47 : decode cX11_state 47 = .ok (.iadd, 1) := by decide +kernel
theorem dX11_state_48 : decode cX11_state 48 = .ok (.iconst 5, 1) := by decide +kernel
theorem dX11_state_49 : decode cX11_state 49 = .ok (.iadd, 1) := by decide +kernel
theorem dX11_state_50 : decode cX11_state 50 = .ok (.iload_n 3, 1) := by decide +kernel
theorem dX11_state_51 : decode cX11_state 51 = .ok (.ifCond .eq 7, 3) := by decide +kernel
theorem dX11_state_54 : decode cX11_state 54 = .ok (.iconst 1, 1) := by decide +kernel
theorem dX11_state_55 : decode cX11_state 55 = .ok (.goto 4, 3) := by decide +kernel
theorem dX11_state_58 : decode cX11_state 58 = .ok (.iconst 0, 1) := by decide +kernel
theorem dX11_state_59 : decode cX11_state 59 = .ok (.iastore, 1) := by decide +kernel
theorem dX11_state_60 : decode cX11_state 60 = .ok (.iconst 1, 1) := by decide +kernel
theorem dX11_state_61 : decode cX11_state 61 = .ok (.ireturn, 1) := by decide +kernel
theorem dX11_next_0 : decode cX11_next 0 = .ok (.aload_n 0, 1) := by decide +kernel
theorem dX11_next_1 : decode cX11_next 1 = .ok (.getfield 7, 3) := by decide +kernel
theorem dX11_next_4 : decode cX11_next 4 = .ok (.sipush 250, 3) := by decide +kernel
theorem dX11_next_7 : decode cX11_next 7 = .ok (.bipush 6, 2) := by decide +kernel
theorem dX11_next_9 : decode cX11_next 9 = .ok (.iload_n 1, 1) := by decide +kernel
theorem dX11_next_10 : decode cX11_next 10 = .ok (.iconst 4, 1) := by decide +kernel
theorem dX11_next_11 : decode cX11_next 11 = .ok (.idiv, 1) := by decide +kernel
theorem dX11_next_12 : decode cX11_next 12 = .ok (.imul, 1) := by decide +kernel
theorem dX11_next_13 : decode cX11_next 13 = .ok (.iadd, 1) := by decide +kernel
theorem dX11_next_14 : decode cX11_next 14 = .ok (.iload_n 2, 1) := by decide +kernel
theorem dX11_next_15 : decode cX11_next 15 = .ok (.iadd, 1) := by decide +kernel
theorem dX11_next_16 : decode cX11_next 16 = .ok (.iaload, 1) := by decide +kernel
theorem dX11_next_17 : decode cX11_next 17 = .ok (.istore_n 3, 1) := by decide +kernel
theorem dX11_next_18 : decode cX11_next 18 = .ok (.aload_n 0, 1) := by decide +kernel
theorem dX11_next_19 : decode cX11_next 19 = .ok (.getfield 7, 3) := by decide +kernel
theorem dX11_next_22 : decode cX11_next 22 = .ok (.sipush 250, 3) := by decide +kernel
theorem dX11_next_25 : decode cX11_next 25 = .ok (.bipush 6, 2) := by decide +kernel
theorem dX11_next_27 : decode cX11_next 27 = .ok (.iload_n 3, 1) := by decide +kernel
theorem dX11_next_28 : decode cX11_next 28 = .ok (.imul, 1) := by decide +kernel
theorem dX11_next_29 : decode cX11_next 29 = .ok (.iadd, 1) := by decide +kernel
theorem dX11_next_30 : decode cX11_next 30 = .ok (.iconst 5, 1) := by decide +kernel
theorem dX11_next_31 : decode cX11_next 31 = .ok (.iadd, 1) := by decide +kernel
theorem dX11_next_32 : decode cX11_next 32 = .ok (.iaload, 1) := by decide +kernel
theorem dX11_next_33 : decode cX11_next 33 = .ok (.iconst 1, 1) := by decide +kernel
theorem dX11_next_34 : decode cX11_next 34 = .ok (.if_icmp .ne 7, 3) := by decide +kernel
theorem dX11_next_37 : decode cX11_next 37 = .ok (.iconst 2, 1) := by decide +kernel
theorem dX11_next_38 : decode cX11_next 38 = .ok (.goto 4, 3) := by decide +kernel
theorem dX11_next_41 : decode cX11_next 41 = .ok (.iconst 1, 1) := by decide +kernel
theorem dX11_next_42 : decode cX11_next 42 = .ok (.istore 4, 2) := by decide +kernel
theorem dX11_next_44 : decode cX11_next 44 = .ok (.iload_n 2, 1) := by decide +kernel
theorem dX11_next_45 : decode cX11_next 45 = .ok (.iconst 1, 1) := by decide +kernel
theorem dX11_next_46 : decode cX11_next 46 = .ok (.if_icmp .ne 7, 3) := by decide +kernel
theorem dX11_next_49 : decode cX11_next 49 = .ok (.iconst 3, 1) := by decide +kernel
theorem dX11_next_50 : decode cX11_next 50 = .ok (.goto 21, 3) := by decide +kernel
theorem dX11_next_53 : decode cX11_next 53 = .ok (.iload_n 1, 1) := by decide +kernel
theorem dX11_next_54 : decode cX11_next 54 = .ok (.iconst 4, 1) := by decide +kernel
theorem dX11_next_55 : decode cX11_next 55 = .ok (.irem, 1) := by decide +kernel
theorem dX11_next_56 : decode cX11_next 56 = .ok (.iload 4, 2) := by decide +kernel
theorem dX11_next_58 : decode cX11_next 58 = .ok (.if_icmp .le 12, 3) := by decide +kernel
theorem dX11_next_61 : decode cX11_next 61 = .ok (.iload_n 1, 1) := by decide +kernel
theorem dX11_next_62 : decode cX11_next 62 = .ok (.iconst 4, 1) := by decide +kernel
theorem dX11_next_63 : decode cX11_next 63 = .ok (.irem, 1) := by decide +kernel
theorem dX11_next_64 : decode cX11_next 64 = .ok (.iload 4, 2) := by decide +kernel
theorem dX11_next_66 : decode cX11_next 66 = .ok (.isub, 1) := by decide +kernel
theorem dX11_next_67 : decode cX11_next 67 = .ok (.goto 4, 3) := by decide +kernel
theorem dX11_next_70 : decode cX11_next 70 = .ok (.iconst 0, 1) := by decide +kernel
theorem dX11_next_71 : decode cX11_next 71 = .ok (.istore 5, 2) := by decide +kernel
theorem dX11_next_73 : decode cX11_next 73 = .ok (.iconst 4, 1) := by decide +kernel
theorem dX11_next_74 : decode cX11_next 74 = .ok (.iload_n 3, 1) := by decide +kernel
theorem dX11_next_75 : decode cX11_next 75 = .ok (.imul, 1) := by decide +kernel
theorem dX11_next_76 : decode cX11_next 76 = .ok (.iload 5, 2) := by decide +kernel
theorem dX11_next_78 : decode cX11_next 78 = .ok (.iadd, 1) := by decide +kernel
theorem dX11_next_79 : decode cX11_next 79 = .ok (.ireturn, 1) := by decide +kernel
theorem dX11_isBad_0 : decode cX11_isBad 0 = .ok (.aload_n 0, 1) := by decide +kernel
theorem dX11_isBad_1 : decode cX11_isBad 1 = .ok (.getfield 7, 3) := by decide +kernel
theorem dX11_isBad_4 : decode cX11_isBad 4 = .ok (.sipush 250, 3) := by decide +kernel
theorem dX11_isBad_7 : decode cX11_isBad 7 = .ok (.bipush 6, 2) := by decide +kernel
theorem dX11_isBad_9 : decode cX11_isBad 9 = .ok (.iload_n 1, 1) := by decide +kernel
theorem dX11_isBad_10 : decode cX11_isBad 10 = .ok (.iconst 4, 1) := by decide +kernel
theorem dX11_isBad_11 : decode cX11_isBad 11 = .ok (.idiv, 1) := by decide +kernel
theorem dX11_isBad_12 : decode cX11_isBad 12 = .ok (.imul, 1) := by decide +kernel
theorem dX11_isBad_13 : decode cX11_isBad 13 = .ok (.iadd, 1) := by decide +kernel
theorem dX11_isBad_14 : decode cX11_isBad 14 = .ok (.iconst 4, 1) := by decide +kernel
theorem dX11_isBad_15 : decode cX11_isBad 15 = .ok (.iadd, 1) := by decide +kernel
theorem dX11_isBad_16 : decode cX11_isBad 16 = .ok (.iaload, 1) := by decide +kernel
theorem dX11_isBad_17 : decode cX11_isBad 17 = .ok (.iconst 1, 1) := by decide +kernel
theorem dX11_isBad_18 : decode cX11_isBad 18 = .ok (.if_icmp .ne 14, 3) := by decide +kernel
theorem dX11_isBad_21 : decode cX11_isBad 21 = .ok (.iload_n 1, 1) := by decide +kernel
theorem dX11_isBad_22 : decode cX11_isBad 22 = .ok (.iconst 4, 1) := by decide +kernel
theorem dX11_isBad_23 : decode cX11_isBad 23 = .ok (.irem, 1) := by decide +kernel
theorem dX11_isBad_24 : decode cX11_isBad 24 = .ok (.iconst 2, 1) := by decide +kernel
theorem dX11_isBad_25 : decode cX11_isBad 25 = .ok (.if_icmp .lt 7, 3) := by decide +kernel
theorem dX11_isBad_28 : decode cX11_isBad 28 = .ok (.iconst 1, 1) := by decide +kernel
theorem dX11_isBad_29 : decode cX11_isBad 29 = .ok (.goto 4, 3) := by decide +kernel
theorem dX11_isBad_32 : decode cX11_isBad 32 = .ok (.iconst 0, 1) := by decide +kernel
theorem dX11_isBad_33 : decode cX11_isBad 33 = .ok (.ireturn, 1) := by decide +kernel
theorem dX11_onward_0 : decode cX11_onward 0 = .ok (.aload_n 0, 1) := by decide +kernel
theorem dX11_onward_1 : decode cX11_onward 1 = .ok (.iload_n 1, 1) := by decide +kernel
theorem dX11_onward_2 : decode cX11_onward 2 = .ok (.iload_n 2, 1) := by decide +kernel
theorem dX11_onward_3 : decode cX11_onward 3 = .ok (.invokevirtual 80, 3) := by decide +kernel
theorem dX11_onward_6 : decode cX11_onward 6 = .ok (.istore_n 3, 1) := by decide +kernel
theorem dX11_onward_7 : decode cX11_onward 7 = .ok (.aload_n 0, 1) := by decide +kernel
theorem dX11_onward_8 : decode cX11_onward 8 = .ok (.iload_n 3, 1) := by decide +kernel
theorem dX11_onward_9 : decode cX11_onward 9 = .ok (.invokevirtual 83, 3) := by decide +kernel
theorem dX11_onward_12 : decode cX11_onward 12 = .ok (.ifCond .eq 7, 3) := by decide +kernel
theorem dX11_onward_15 : decode cX11_onward 15 = .ok (.iconst 1, 1) := by decide +kernel
theorem dX11_onward_16 : decode cX11_onward 16 = .ok (.goto 24, 3) := by decide +kernel
theorem dX11_onward_19 : decode cX11_onward 19 = .ok (.aload_n 0, 1) := by decide +kernel
theorem dX11_onward_20 : decode cX11_onward 20 = .ok (.getfield 26, 3) := by decide +kernel
theorem dX11_onward_23 : decode cX11_onward 23 = .ok (.iload_n 3, 1) := by decide +kernel
theorem dX11_onward_24 : decode cX11_onward 24 = .ok (.iaload, 1) := by decide +kernel
theorem dX11_onward_25 : decode cX11_onward 25 = .ok (.ifCond .ge 7, 3) := by decide +kernel
theorem dX11_onward_28 : decode cX11_onward 28 = .ok (.iconst (-1), 1) := by decide +kernel
theorem dX11_onward_29 : decode cX11_onward 29 = .ok (.goto 11, 3) := by decide +kernel
theorem dX11_onward_32 : decode cX11_onward 32 = .ok (.aload_n 0, 1) := by decide +kernel
theorem dX11_onward_33 : decode cX11_onward 33 = .ok (.getfield 26, 3) := by decide +kernel
theorem dX11_onward_36 : decode cX11_onward 36 = .ok (.iload_n 3, 1) := by decide +kernel
theorem dX11_onward_37 : decode cX11_onward 37 = .ok (.iaload, 1) := by decide +kernel
theorem dX11_onward_38 : decode cX11_onward 38 = .ok (.iconst 1, 1) := by decide +kernel
theorem dX11_onward_39 : decode cX11_onward 39 = .ok (.iadd, 1) := by decide +kernel
theorem dX11_onward_40 : decode cX11_onward 40 = .ok (.ireturn, 1) := by decide +kernel
theorem dX11_distances_0 : decode cX11_distances 0 = .ok (.iconst 0, 1) := by decide +kernel
theorem dX11_distances_1 : decode cX11_distances 1 = .ok (.istore_n 1, 1) := by decide +kernel
theorem dX11_distances_2 : decode cX11_distances 2 = .ok (.iload_n 1, 1) := by decide +kernel
theorem dX11_distances_3 : decode cX11_distances 3 = .ok (.bipush 32, 2) := by decide +kernel
theorem dX11_distances_5 : decode cX11_distances 5 = .ok (.if_icmp .ge 16, 3) := by decide +kernel
theorem dX11_distances_8 : decode cX11_distances 8 = .ok (.aload_n 0, 1) := by decide +kernel
theorem dX11_distances_9 : decode cX11_distances 9 = .ok (.getfield 26, 3) := by decide +kernel
theorem dX11_distances_12 : decode cX11_distances 12 = .ok (.iload_n 1, 1) := by decide +kernel
theorem dX11_distances_13 : decode cX11_distances 13 = .ok (.iconst (-1), 1) := by decide +kernel
theorem dX11_distances_14 : decode cX11_distances 14 = .ok (.iastore, 1) := by decide +kernel
theorem dX11_distances_15 : decode cX11_distances 15 = .ok (.iinc 1 1, 3) := by decide +kernel
theorem dX11_distances_18 : decode cX11_distances 18 = .ok (.goto (-16), 3) := by decide +kernel
theorem dX11_distances_21 : decode cX11_distances 21 = .ok (.iconst 1, 1) := by decide +kernel
theorem dX11_distances_22 : decode cX11_distances 22 = .ok (.istore_n 1, 1) := by decide +kernel
theorem dX11_distances_23 : decode cX11_distances 23 = .ok (.iload_n 1, 1) := by decide +kernel
theorem dX11_distances_24 : decode cX11_distances 24 = .ok (.ifCond .eq 81, 3) := by decide +kernel
theorem dX11_distances_27 : decode cX11_distances 27 = .ok (.iconst 0, 1) := by decide +kernel
theorem dX11_distances_28 : decode cX11_distances 28 = .ok (.istore_n 1, 1) := by decide +kernel
theorem dX11_distances_29 : decode cX11_distances 29 = .ok (.iconst 0, 1) := by decide +kernel
theorem dX11_distances_30 : decode cX11_distances 30 = .ok (.istore_n 2, 1) := by decide +kernel
theorem dX11_distances_31 : decode cX11_distances 31 = .ok (.iload_n 2, 1) := by decide +kernel
theorem dX11_distances_32 : decode cX11_distances 32 = .ok (.bipush 32, 2) := by decide +kernel
theorem dX11_distances_34 : decode cX11_distances 34 = .ok (.if_icmp .ge 68, 3) := by decide +kernel
theorem dX11_distances_37 : decode cX11_distances 37 = .ok (.iconst 0, 1) := by decide +kernel
theorem dX11_distances_38 : decode cX11_distances 38 = .ok (.istore_n 3, 1) := by decide +kernel
theorem dX11_distances_39 : decode cX11_distances 39 = .ok (.iload_n 3, 1) := by decide +kernel
theorem dX11_distances_40 : decode cX11_distances 40 = .ok (.iconst 4, 1) := by decide +kernel
theorem dX11_distances_41 : decode cX11_distances 41 = .ok (.if_icmp .ge 55, 3) := by decide +kernel
theorem dX11_distances_44 : decode cX11_distances 44 = .ok (.aload_n 0, 1) := by decide +kernel
theorem dX11_distances_45 : decode cX11_distances 45 = .ok (.iload_n 2, 1) := by decide +kernel
theorem dX11_distances_46 : decode cX11_distances 46 = .ok (.iload_n 3, 1) := by decide +kernel
theorem dX11_distances_47 : decode cX11_distances 47 = .ok (.invokevirtual 86, 3) := by decide +kernel
theorem dX11_distances_50 : decode cX11_distances 50 = .ok (.istore 4, 2) := by decide +kernel
theorem dX11_distances_52 : decode cX11_distances 52 = .ok (.iload 4, 2) := by decide +kernel
theorem dX11_distances_54 : decode cX11_distances 54 = .ok (.ifCond .lt 36, 3) := by decide +kernel
theorem dX11_distances_57 : decode cX11_distances 57 = .ok (.aload_n 0, 1) := by decide +kernel
theorem dX11_distances_58 : decode cX11_distances 58 = .ok (.getfield 26, 3) := by decide +kernel
theorem dX11_distances_61 : decode cX11_distances 61 = .ok (.iload_n 2, 1) := by decide +kernel
theorem dX11_distances_62 : decode cX11_distances 62 = .ok (.iaload, 1) := by decide +kernel
theorem dX11_distances_63 : decode cX11_distances 63 = .ok (.ifCond .lt 17, 3) := by decide +kernel
theorem dX11_distances_66 : decode cX11_distances 66 = .ok (.aload_n 0, 1) := by decide +kernel
theorem dX11_distances_67 : decode cX11_distances 67 = .ok (.getfield 26, 3) := by decide +kernel
theorem dX11_distances_70 : decode cX11_distances 70 = .ok (.iload_n 2, 1) := by decide +kernel
theorem dX11_distances_71 : decode cX11_distances 71 = .ok (.iaload, 1) := by decide +kernel
theorem dX11_distances_72 : decode cX11_distances 72 = .ok (.iload 4, 2) := by decide +kernel
theorem dX11_distances_74 : decode cX11_distances 74 = .ok (.if_icmp .gt 6, 3) := by decide +kernel
theorem dX11_distances_77 : decode cX11_distances 77 = .ok (.goto 13, 3) := by decide +kernel
theorem dX11_distances_80 : decode cX11_distances 80 = .ok (.aload_n 0, 1) := by decide +kernel
theorem dX11_distances_81 : decode cX11_distances 81 = .ok (.getfield 26, 3) := by decide +kernel
theorem dX11_distances_84 : decode cX11_distances 84 = .ok (.iload_n 2, 1) := by decide +kernel
theorem dX11_distances_85 : decode cX11_distances 85 = .ok (.iload 4, 2) := by decide +kernel
theorem dX11_distances_87 : decode cX11_distances 87 = .ok (.iastore, 1) := by decide +kernel
theorem dX11_distances_88 : decode cX11_distances 88 = .ok (.iconst 1, 1) := by decide +kernel
theorem dX11_distances_89 : decode cX11_distances 89 = .ok (.istore_n 1, 1) := by decide +kernel
theorem dX11_distances_90 : decode cX11_distances 90 = .ok (.iinc 3 1, 3) := by decide +kernel
theorem dX11_distances_93 : decode cX11_distances 93 = .ok (.goto (-54), 3) := by decide +kernel
theorem dX11_distances_96 : decode cX11_distances 96 = .ok (.iinc 2 1, 3) := by decide +kernel
theorem dX11_distances_99 : decode cX11_distances 99 = .ok (.goto (-68), 3) := by decide +kernel
theorem dX11_distances_102 : decode cX11_distances 102 = .ok (.goto (-79), 3) := by decide +kernel
theorem dX11_distances_105 : decode cX11_distances 105 = .ok (.return_, 1) := by decide +kernel
theorem dX11_badRow_0 : decode cX11_badRow 0 = .ok (.aload_n 0, 1) := by decide +kernel
theorem dX11_badRow_1 : decode cX11_badRow 1 = .ok (.invokevirtual 89, 3) := by decide +kernel
theorem dX11_badRow_4 : decode cX11_badRow 4 = .ok (.aload_n 0, 1) := by decide +kernel
theorem dX11_badRow_5 : decode cX11_badRow 5 = .ok (.getfield 26, 3) := by decide +kernel
theorem dX11_badRow_8 : decode cX11_badRow 8 = .ok (.iconst 0, 1) := by decide +kernel
theorem dX11_badRow_9 : decode cX11_badRow 9 = .ok (.iaload, 1) := by decide +kernel
theorem dX11_badRow_10 : decode cX11_badRow 10 = .ok (.ireturn, 1) := by decide +kernel
theorem dX11_bad_0 : decode cX11_bad 0 = .ok (.aload_n 0, 1) := by decide +kernel
theorem dX11_bad_1 : decode cX11_bad 1 = .ok (.invokevirtual 89, 3) := by decide +kernel
theorem dX11_bad_4 : decode cX11_bad 4 = .ok (.iload_n 1, 1) := by decide +kernel
theorem dX11_bad_5 : decode cX11_bad 5 = .ok (.iconst 0, 1) := by decide +kernel
theorem dX11_bad_6 : decode cX11_bad 6 = .ok (.aload_n 0, 1) := by decide +kernel
theorem dX11_bad_7 : decode cX11_bad 7 = .ok (.getfield 26, 3) := by decide +kernel
theorem dX11_bad_10 : decode cX11_bad 10 = .ok (.iconst 0, 1) := by decide +kernel
theorem dX11_bad_11 : decode cX11_bad 11 = .ok (.iaload, 1) := by decide +kernel
theorem dX11_bad_12 : decode cX11_bad 12 = .ok (.iconst 1, 1) := by decide +kernel
theorem dX11_bad_13 : decode cX11_bad 13 = .ok (.isub, 1) := by decide +kernel
theorem dX11_bad_14 : decode cX11_bad 14 = .ok (.invokestatic 38, 3) := by decide +kernel
theorem dX11_bad_17 : decode cX11_bad 17 = .ok (.ifCond .ne 5, 3) := by decide +kernel
theorem dX11_bad_20 : decode cX11_bad 20 = .ok (.iconst (-1), 1) := by decide +kernel
theorem dX11_bad_21 : decode cX11_bad 21 = .ok (.ireturn, 1) := by decide +kernel
theorem dX11_bad_22 : decode cX11_bad 22 = .ok (.iconst 0, 1) := by decide +kernel
theorem dX11_bad_23 : decode cX11_bad 23 = .ok (.istore_n 2, 1) := by decide +kernel
theorem dX11_bad_24 : decode cX11_bad 24 = .ok (.iconst 0, 1) := by decide +kernel
theorem dX11_bad_25 : decode cX11_bad 25 = .ok (.istore_n 3, 1) := by decide +kernel
theorem dX11_bad_26 : decode cX11_bad 26 = .ok (.aload_n 0, 1) := by decide +kernel
theorem dX11_bad_27 : decode cX11_bad 27 = .ok (.getfield 26, 3) := by decide +kernel
theorem dX11_bad_30 : decode cX11_bad 30 = .ok (.iconst 0, 1) := by decide +kernel
theorem dX11_bad_31 : decode cX11_bad 31 = .ok (.iaload, 1) := by decide +kernel
theorem dX11_bad_32 : decode cX11_bad 32 = .ok (.iload_n 3, 1) := by decide +kernel
theorem dX11_bad_33 : decode cX11_bad 33 = .ok (.isub, 1) := by decide +kernel
theorem dX11_bad_34 : decode cX11_bad 34 = .ok (.istore 4, 2) := by decide +kernel
theorem dX11_bad_36 : decode cX11_bad 36 = .ok (.iconst 0, 1) := by decide +kernel
theorem dX11_bad_37 : decode cX11_bad 37 = .ok (.istore 5, 2) := by decide +kernel
theorem dX11_bad_39 : decode cX11_bad 39 = .ok (.aload_n 0, 1) := by decide +kernel
theorem dX11_bad_40 : decode cX11_bad 40 = .ok (.iload_n 2, 1) := by decide +kernel
theorem dX11_bad_41 : decode cX11_bad 41 = .ok (.iload 5, 2) := by decide +kernel
theorem dX11_bad_43 : decode cX11_bad 43 = .ok (.invokevirtual 86, 3) := by decide +kernel
theorem dX11_bad_46 : decode cX11_bad 46 = .ok (.iload 4, 2) := by decide +kernel
theorem dX11_bad_48 : decode cX11_bad 48 = .ok (.if_icmp .eq 9, 3) := by decide +kernel
theorem dX11_bad_51 : decode cX11_bad 51 = .ok (.iinc 5 1, 3) := by decide +kernel
theorem dX11_bad_54 : decode cX11_bad 54 = .ok (.goto (-15), 3) := by decide +kernel
theorem dX11_bad_57 : decode cX11_bad 57 = .ok (.iload_n 3, 1) := by decide +kernel
theorem dX11_bad_58 : decode cX11_bad 58 = .ok (.iload_n 1, 1) := by decide +kernel
theorem dX11_bad_59 : decode cX11_bad 59 = .ok (.if_icmp .ne 6, 3) := by decide +kernel
theorem dX11_bad_62 : decode cX11_bad 62 = .ok (.iload 5, 2) := by decide +kernel
theorem dX11_bad_64 : decode cX11_bad 64 = .ok (.ireturn, 1) := by decide +kernel
theorem dX11_bad_65 : decode cX11_bad 65 = .ok (.aload_n 0, 1) := by decide +kernel
theorem dX11_bad_66 : decode cX11_bad 66 = .ok (.iload_n 2, 1) := by decide +kernel
theorem dX11_bad_67 : decode cX11_bad 67 = .ok (.iload 5, 2) := by decide +kernel
theorem dX11_bad_69 : decode cX11_bad 69 = .ok (.invokevirtual 80, 3) := by decide +kernel
theorem dX11_bad_72 : decode cX11_bad 72 = .ok (.istore_n 2, 1) := by decide +kernel
theorem dX11_bad_73 : decode cX11_bad 73 = .ok (.iinc 3 1, 3) := by decide +kernel
theorem dX11_bad_76 : decode cX11_bad 76 = .ok (.goto (-50), 3) := by decide +kernel
theorem dX11_sheet_0 : decode cX11_sheet 0 = .ok (.aload_n 0, 1) := by decide +kernel
theorem dX11_sheet_1 : decode cX11_sheet 1 = .ok (.getfield 7, 3) := by decide +kernel
theorem dX11_sheet_4 : decode cX11_sheet 4 = .ok (.iconst 4, 1) := by decide +kernel
theorem dX11_sheet_5 : decode cX11_sheet 5 = .ok (.iaload, 1) := by decide +kernel
theorem dX11_sheet_6 : decode cX11_sheet 6 = .ok (.bipush 6, 2) := by decide +kernel
theorem dX11_sheet_8 : decode cX11_sheet 8 = .ok (.if_icmp .eq 34, 3) := by decide +kernel
theorem dX11_sheet_11 : decode cX11_sheet 11 = .ok (.iload_n 1, 1) := by decide +kernel
theorem dX11_sheet_12 : decode cX11_sheet 12 = .ok (.iconst 1, 1) := by decide +kernel
theorem dX11_sheet_13 : decode cX11_sheet 13 = .ok (.bipush 24, 2) := by decide +kernel
theorem dX11_sheet_15 : decode cX11_sheet 15 = .ok (.invokestatic 38, 3) := by decide +kernel
theorem dX11_sheet_18 : decode cX11_sheet 18 = .ok (.ifCond .eq 24, 3) := by decide +kernel
theorem dX11_sheet_21 : decode cX11_sheet 21 = .ok (.iload_n 2, 1) := by decide +kernel
theorem dX11_sheet_22 : decode cX11_sheet 22 = .ok (.iconst 1, 1) := by decide +kernel
theorem dX11_sheet_23 : decode cX11_sheet 23 = .ok (.bipush 24, 2) := by decide +kernel
theorem dX11_sheet_25 : decode cX11_sheet 25 = .ok (.invokestatic 38, 3) := by decide +kernel
theorem dX11_sheet_28 : decode cX11_sheet 28 = .ok (.ifCond .eq 14, 3) := by decide +kernel
theorem dX11_sheet_31 : decode cX11_sheet 31 = .ok (.iload_n 3, 1) := by decide +kernel
theorem dX11_sheet_32 : decode cX11_sheet 32 = .ok (.iconst 1, 1) := by decide +kernel
theorem dX11_sheet_33 : decode cX11_sheet 33 = .ok (.sipush 999, 3) := by decide +kernel
theorem dX11_sheet_36 : decode cX11_sheet 36 = .ok (.invokestatic 38, 3) := by decide +kernel
theorem dX11_sheet_39 : decode cX11_sheet 39 = .ok (.ifCond .ne 5, 3) := by decide +kernel
theorem dX11_sheet_42 : decode cX11_sheet 42 = .ok (.iconst (-1), 1) := by decide +kernel
theorem dX11_sheet_43 : decode cX11_sheet 43 = .ok (.ireturn, 1) := by decide +kernel
theorem dX11_sheet_44 : decode cX11_sheet 44 = .ok (.sipush 300, 3) := by decide +kernel
theorem dX11_sheet_47 : decode cX11_sheet 47 = .ok (.iconst 3, 1) := by decide +kernel
theorem dX11_sheet_48 : decode cX11_sheet 48 = .ok (.aload_n 0, 1) := by decide +kernel
theorem dX11_sheet_49 : decode cX11_sheet 49 = .ok (.getfield 7, 3) := by decide +kernel
theorem dX11_sheet_52 : decode cX11_sheet 52 = .ok (.iconst 4, 1) := by decide +kernel
theorem dX11_sheet_53 : decode cX11_sheet 53 = .ok (.iaload, 1) := by decide +kernel
theorem dX11_sheet_54 : decode cX11_sheet 54 = .ok (.imul, 1) := by decide +kernel
theorem dX11_sheet_55 : decode cX11_sheet 55 = .ok (.iadd, 1) := by decide +kernel
theorem dX11_sheet_56 : decode cX11_sheet 56 = .ok (.istore 4, 2) := by decide +kernel
theorem dX11_sheet_58 : decode cX11_sheet 58 = .ok (.aload_n 0, 1) := by decide +kernel
theorem dX11_sheet_59 : decode cX11_sheet 59 = .ok (.getfield 7, 3) := by decide +kernel
theorem dX11_sheet_62 : decode cX11_sheet 62 = .ok (.iload 4, 2) := by decide +kernel
theorem dX11_sheet_64 : decode cX11_sheet 64 = .ok (.iload_n 1, 1) := by decide +kernel
theorem dX11_sheet_65 : decode cX11_sheet 65 = .ok (.iastore, 1) := by decide +kernel
theorem dX11_sheet_66 : decode cX11_sheet 66 = .ok (.aload_n 0, 1) := by decide +kernel
theorem dX11_sheet_67 : decode cX11_sheet 67 = .ok (.getfield 7, 3) := by decide +kernel
theorem dX11_sheet_70 : decode cX11_sheet 70 = .ok (.iload 4, 2) := by decide +kernel
theorem dX11_sheet_72 : decode cX11_sheet 72 = .ok (.iconst 1, 1) := by decide +kernel
theorem dX11_sheet_73 : decode cX11_sheet 73 = .ok (.iadd, 1) := by decide +kernel
theorem dX11_sheet_74 : decode cX11_sheet 74 = .ok (.iload_n 2, 1) := by decide +kernel
theorem dX11_sheet_75 : decode cX11_sheet 75 = .ok (.iastore, 1) := by decide +kernel
theorem dX11_sheet_76 : decode cX11_sheet 76 = .ok (.aload_n 0, 1) := by decide +kernel
theorem dX11_sheet_77 : decode cX11_sheet 77 = .ok (.getfield 7, 3) := by decide +kernel
theorem dX11_sheet_80 : decode cX11_sheet 80 = .ok (.iload 4, 2) := by decide +kernel
theorem dX11_sheet_82 : decode cX11_sheet 82 = .ok (.iconst 2, 1) := by decide +kernel
theorem dX11_sheet_83 : decode cX11_sheet 83 = .ok (.iadd, 1) := by decide +kernel
theorem dX11_sheet_84 : decode cX11_sheet 84 = .ok (.iload_n 3, 1) := by decide +kernel
theorem dX11_sheet_85 : decode cX11_sheet 85 = .ok (.iastore, 1) := by decide +kernel
theorem dX11_sheet_86 : decode cX11_sheet 86 = .ok (.aload_n 0, 1) := by decide +kernel
theorem dX11_sheet_87 : decode cX11_sheet 87 = .ok (.getfield 7, 3) := by decide +kernel
theorem dX11_sheet_90 : decode cX11_sheet 90 = .ok (.iconst 4, 1) := by decide +kernel
theorem dX11_sheet_91 : decode cX11_sheet 91 = .ok (.dup2, 1) := by decide +kernel
theorem dX11_sheet_92 : decode cX11_sheet 92 = .ok (.iaload, 1) := by decide +kernel
theorem dX11_sheet_93 : decode cX11_sheet 93 = .ok (.iconst 1, 1) := by decide +kernel
theorem dX11_sheet_94 : decode cX11_sheet 94 = .ok (.iadd, 1) := by decide +kernel
theorem dX11_sheet_95 : decode cX11_sheet 95 = .ok (.iastore, 1) := by decide +kernel
theorem dX11_sheet_96 : decode cX11_sheet 96 = .ok (.aload_n 0, 1) := by decide +kernel
theorem dX11_sheet_97 : decode cX11_sheet 97 = .ok (.getfield 7, 3) := by decide +kernel
theorem dX11_sheet_100 : decode cX11_sheet 100 = .ok (.iconst 4, 1) := by decide +kernel
theorem dX11_sheet_101 : decode cX11_sheet 101 = .ok (.iaload, 1) := by decide +kernel
theorem dX11_sheet_102 : decode cX11_sheet 102 = .ok (.iconst 1, 1) := by decide +kernel
theorem dX11_sheet_103 : decode cX11_sheet 103 = .ok (.isub, 1) := by decide +kernel
theorem dX11_sheet_104 : decode cX11_sheet 104 = .ok (.ireturn, 1) := by decide +kernel
theorem dX11_board_0 : decode cX11_board 0 = .ok (.bipush 25, 2) := by decide +kernel
theorem dX11_board_2 : decode cX11_board 2 = .ok (.iload_n 0, 1) := by decide +kernel
theorem dX11_board_3 : decode cX11_board 3 = .ok (.imul, 1) := by decide +kernel
theorem dX11_board_4 : decode cX11_board 4 = .ok (.iload_n 1, 1) := by decide +kernel
theorem dX11_board_5 : decode cX11_board 5 = .ok (.iadd, 1) := by decide +kernel
theorem dX11_board_6 : decode cX11_board 6 = .ok (.ireturn, 1) := by decide +kernel
theorem dX11_tries_0 : decode cX11_tries 0 = .ok (.iload_n 2, 1) := by decide +kernel
theorem dX11_tries_1 : decode cX11_tries 1 = .ok (.aload_n 0, 1) := by decide +kernel
theorem dX11_tries_2 : decode cX11_tries 2 = .ok (.getfield 29, 3) := by decide +kernel
theorem dX11_tries_5 : decode cX11_tries 5 = .ok (.iload_n 1, 1) := by decide +kernel
theorem dX11_tries_6 : decode cX11_tries 6 = .ok (.iaload, 1) := by decide +kernel
theorem dX11_tries_7 : decode cX11_tries 7 = .ok (.if_icmp .gt 4, 3) := by decide +kernel
theorem dX11_tries_10 : decode cX11_tries 10 = .ok (.return_, 1) := by decide +kernel
theorem dX11_tries_11 : decode cX11_tries 11 = .ok (.aload_n 0, 1) := by decide +kernel
theorem dX11_tries_12 : decode cX11_tries 12 = .ok (.getfield 29, 3) := by decide +kernel
theorem dX11_tries_15 : decode cX11_tries 15 = .ok (.iload_n 1, 1) := by decide +kernel
theorem dX11_tries_16 : decode cX11_tries 16 = .ok (.iload_n 2, 1) := by decide +kernel
theorem dX11_tries_17 : decode cX11_tries 17 = .ok (.iastore, 1) := by decide +kernel
theorem dX11_tries_18 : decode cX11_tries 18 = .ok (.aload_n 0, 1) := by decide +kernel
theorem dX11_tries_19 : decode cX11_tries 19 = .ok (.getfield 32, 3) := by decide +kernel
theorem dX11_tries_22 : decode cX11_tries 22 = .ok (.iload_n 1, 1) := by decide +kernel
theorem dX11_tries_23 : decode cX11_tries 23 = .ok (.iload_n 3, 1) := by decide +kernel
theorem dX11_tries_24 : decode cX11_tries 24 = .ok (.iastore, 1) := by decide +kernel
theorem dX11_tries_25 : decode cX11_tries 25 = .ok (.return_, 1) := by decide +kernel
theorem dX11_settles_0 : decode cX11_settles 0 = .ok (.iload_n 1, 1) := by decide +kernel
theorem dX11_settles_1 : decode cX11_settles 1 = .ok (.iload_n 2, 1) := by decide +kernel
theorem dX11_settles_2 : decode cX11_settles 2 = .ok (.invokestatic 92, 3) := by decide +kernel
theorem dX11_settles_5 : decode cX11_settles 5 = .ok (.istore_n 3, 1) := by decide +kernel
theorem dX11_settles_6 : decode cX11_settles 6 = .ok (.aload_n 0, 1) := by decide +kernel
theorem dX11_settles_7 : decode cX11_settles 7 = .ok (.getfield 29, 3) := by decide +kernel
theorem dX11_settles_10 : decode cX11_settles 10 = .ok (.iload_n 3, 1) := by decide +kernel
theorem dX11_settles_11 : decode cX11_settles 11 = .ok (.iconst 0, 1) := by decide +kernel
theorem dX11_settles_12 : decode cX11_settles 12 = .ok (.iastore, 1) := by decide +kernel
theorem dX11_settles_13 : decode cX11_settles 13 = .ok (.aload_n 0, 1) := by decide +kernel
theorem dX11_settles_14 : decode cX11_settles 14 = .ok (.getfield 32, 3) := by decide +kernel
theorem dX11_settles_17 : decode cX11_settles 17 = .ok (.iload_n 3, 1) := by decide +kernel
theorem dX11_settles_18 : decode cX11_settles 18 = .ok (.bipush (-100), 2) := by decide +kernel
theorem dX11_settles_20 : decode cX11_settles 20 = .ok (.iastore, 1) := by decide +kernel
theorem dX11_settles_21 : decode cX11_settles 21 = .ok (.iconst 0, 1) := by decide +kernel
theorem dX11_settles_22 : decode cX11_settles 22 = .ok (.istore 4, 2) := by decide +kernel
theorem dX11_settles_24 : decode cX11_settles 24 = .ok (.iload 4, 2) := by decide +kernel
theorem dX11_settles_26 : decode cX11_settles 26 = .ok (.aload_n 0, 1) := by decide +kernel
theorem dX11_settles_27 : decode cX11_settles 27 = .ok (.getfield 7, 3) := by decide +kernel
theorem dX11_settles_30 : decode cX11_settles 30 = .ok (.iconst 4, 1) := by decide +kernel
theorem dX11_settles_31 : decode cX11_settles 31 = .ok (.iaload, 1) := by decide +kernel
theorem dX11_settles_32 : decode cX11_settles 32 = .ok (.if_icmp .ge 69, 3) := by decide +kernel
theorem dX11_settles_35 : decode cX11_settles 35 = .ok (.aload_n 0, 1) := by decide +kernel
theorem dX11_settles_36 : decode cX11_settles 36 = .ok (.getfield 7, 3) := by decide +kernel
theorem dX11_settles_39 : decode cX11_settles 39 = .ok (.sipush 300, 3) := by decide +kernel
theorem dX11_settles_42 : decode cX11_settles 42 = .ok (.iconst 3, 1) := by decide +kernel
theorem dX11_settles_43 : decode cX11_settles 43 = .ok (.iload 4, 2) := by decide +kernel
theorem dX11_settles_45 : decode cX11_settles 45 = .ok (.imul, 1) := by decide +kernel
theorem dX11_settles_46 : decode cX11_settles 46 = .ok (.iadd, 1) := by decide +kernel
theorem dX11_settles_47 : decode cX11_settles 47 = .ok (.iaload, 1) := by decide +kernel
theorem dX11_settles_48 : decode cX11_settles 48 = .ok (.iload_n 1, 1) := by decide +kernel
theorem dX11_settles_49 : decode cX11_settles 49 = .ok (.if_icmp .gt 46, 3) := by decide +kernel
theorem dX11_settles_52 : decode cX11_settles 52 = .ok (.aload_n 0, 1) := by decide +kernel
theorem dX11_settles_53 : decode cX11_settles 53 = .ok (.getfield 7, 3) := by decide +kernel
theorem dX11_settles_56 : decode cX11_settles 56 = .ok (.sipush 300, 3) := by decide +kernel
theorem dX11_settles_59 : decode cX11_settles 59 = .ok (.iconst 3, 1) := by decide +kernel
theorem dX11_settles_60 : decode cX11_settles 60 = .ok (.iload 4, 2) := by decide +kernel
theorem dX11_settles_62 : decode cX11_settles 62 = .ok (.imul, 1) := by decide +kernel
theorem dX11_settles_63 : decode cX11_settles 63 = .ok (.iadd, 1) := by decide +kernel
theorem dX11_settles_64 : decode cX11_settles 64 = .ok (.iconst 1, 1) := by decide +kernel
theorem dX11_settles_65 : decode cX11_settles 65 = .ok (.iadd, 1) := by decide +kernel
theorem dX11_settles_66 : decode cX11_settles 66 = .ok (.iaload, 1) := by decide +kernel
theorem dX11_settles_67 : decode cX11_settles 67 = .ok (.iload_n 2, 1) := by decide +kernel
theorem dX11_settles_68 : decode cX11_settles 68 = .ok (.if_icmp .gt 27, 3) := by decide +kernel
theorem dX11_settles_71 : decode cX11_settles 71 = .ok (.aload_n 0, 1) := by decide +kernel
theorem dX11_settles_72 : decode cX11_settles 72 = .ok (.iload_n 3, 1) := by decide +kernel
theorem dX11_settles_73 : decode cX11_settles 73 = .ok (.aload_n 0, 1) := by decide +kernel
theorem dX11_settles_74 : decode cX11_settles 74 = .ok (.getfield 7, 3) := by decide +kernel
theorem dX11_settles_77 : decode cX11_settles 77 = .ok (.sipush 300, 3) := by decide +kernel
theorem dX11_settles_80 : decode cX11_settles 80 = .ok (.iconst 3, 1) := by decide +kernel
theorem dX11_settles_81 : decode cX11_settles 81 = .ok (.iload 4, 2) := by decide +kernel
theorem dX11_settles_83 : decode cX11_settles 83 = .ok (.imul, 1) := by decide +kernel
theorem dX11_settles_84 : decode cX11_settles 84 = .ok (.iadd, 1) := by decide +kernel
theorem dX11_settles_85 : decode cX11_settles 85 = .ok (.iconst 2, 1) := by decide +kernel
theorem dX11_settles_86 : decode cX11_settles 86 = .ok (.iadd, 1) := by decide +kernel
theorem dX11_settles_87 : decode cX11_settles 87 = .ok (.iaload, 1) := by decide +kernel
theorem dX11_settles_88 : decode cX11_settles 88 = .ok (.iconst (-1), 1) := by decide +kernel
theorem dX11_settles_89 : decode cX11_settles 89 = .ok (.iload 4, 2) := by decide +kernel
theorem dX11_settles_91 : decode cX11_settles 91 = .ok (.isub, 1) := by decide +kernel
theorem dX11_settles_92 : decode cX11_settles 92 = .ok (.invokevirtual 95, 3) := by decide +kernel
theorem dX11_settles_95 : decode cX11_settles 95 = .ok (.iinc 4 1, 3) := by decide +kernel
theorem dX11_settles_98 : decode cX11_settles 98 = .ok (.goto (-74), 3) := by decide +kernel
theorem dX11_settles_101 : decode cX11_settles 101 = .ok (.iconst 1, 1) := by decide +kernel
theorem dX11_settles_102 : decode cX11_settles 102 = .ok (.istore 4, 2) := by decide +kernel
theorem dX11_settles_104 : decode cX11_settles 104 = .ok (.iload 4, 2) := by decide +kernel
theorem dX11_settles_106 : decode cX11_settles 106 = .ok (.aload_n 0, 1) := by decide +kernel
theorem dX11_settles_107 : decode cX11_settles 107 = .ok (.getfield 7, 3) := by decide +kernel
theorem dX11_settles_110 : decode cX11_settles 110 = .ok (.bipush 8, 2) := by decide +kernel
theorem dX11_settles_112 : decode cX11_settles 112 = .ok (.iaload, 1) := by decide +kernel
theorem dX11_settles_113 : decode cX11_settles 113 = .ok (.iadd, 1) := by decide +kernel
theorem dX11_settles_114 : decode cX11_settles 114 = .ok (.iload_n 1, 1) := by decide +kernel
theorem dX11_settles_115 : decode cX11_settles 115 = .ok (.if_icmp .ge 49, 3) := by decide +kernel
theorem dX11_settles_118 : decode cX11_settles 118 = .ok (.aload_n 0, 1) := by decide +kernel
theorem dX11_settles_119 : decode cX11_settles 119 = .ok (.iload_n 3, 1) := by decide +kernel
theorem dX11_settles_120 : decode cX11_settles 120 = .ok (.aload_n 0, 1) := by decide +kernel
theorem dX11_settles_121 : decode cX11_settles 121 = .ok (.getfield 29, 3) := by decide +kernel
theorem dX11_settles_124 : decode cX11_settles 124 = .ok (.iload 4, 2) := by decide +kernel
theorem dX11_settles_126 : decode cX11_settles 126 = .ok (.iload_n 2, 1) := by decide +kernel
theorem dX11_settles_127 : decode cX11_settles 127 = .ok (.invokestatic 92, 3) := by decide +kernel
theorem dX11_settles_130 : decode cX11_settles 130 = .ok (.iaload, 1) := by decide +kernel
theorem dX11_settles_131 : decode cX11_settles 131 = .ok (.aload_n 0, 1) := by decide +kernel
theorem dX11_settles_132 : decode cX11_settles 132 = .ok (.getfield 29, 3) := by decide +kernel
theorem dX11_settles_135 : decode cX11_settles 135 = .ok (.iload_n 1, 1) := by decide +kernel
theorem dX11_settles_136 : decode cX11_settles 136 = .ok (.iload 4, 2) := by decide +kernel
theorem dX11_settles_138 : decode cX11_settles 138 = .ok (.isub, 1) := by decide +kernel
theorem dX11_settles_139 : decode cX11_settles 139 = .ok (.aload_n 0, 1) := by decide +kernel
theorem dX11_settles_140 : decode cX11_settles 140 = .ok (.getfield 7, 3) := by decide +kernel
theorem dX11_settles_143 : decode cX11_settles 143 = .ok (.bipush 8, 2) := by decide +kernel
theorem dX11_settles_145 : decode cX11_settles 145 = .ok (.iaload, 1) := by decide +kernel
theorem dX11_settles_146 : decode cX11_settles 146 = .ok (.isub, 1) := by decide +kernel
theorem dX11_settles_147 : decode cX11_settles 147 = .ok (.iload_n 2, 1) := by decide +kernel
theorem dX11_settles_148 : decode cX11_settles 148 = .ok (.invokestatic 92, 3) := by decide +kernel
theorem dX11_settles_151 : decode cX11_settles 151 = .ok (.iaload, 1) := by decide +kernel
theorem dX11_settles_152 : decode cX11_settles 152 = .ok (.iadd, 1) := by decide +kernel
theorem dX11_settles_153 : decode cX11_settles 153 = .ok (.iload 4, 2) := by decide +kernel
theorem dX11_settles_155 : decode cX11_settles 155 = .ok (.invokevirtual 95, 3) := by decide +kernel
theorem dX11_settles_158 : decode cX11_settles 158 = .ok (.iinc 4 1, 3) := by decide +kernel
theorem dX11_settles_161 : decode cX11_settles 161 = .ok (.goto (-57), 3) := by decide +kernel
theorem dX11_settles_164 : decode cX11_settles 164 = .ok (.iconst 1, 1) := by decide +kernel
theorem dX11_settles_165 : decode cX11_settles 165 = .ok (.istore 4, 2) := by decide +kernel
theorem dX11_settles_167 : decode cX11_settles 167 = .ok (.iload 4, 2) := by decide +kernel
theorem dX11_settles_169 : decode cX11_settles 169 = .ok (.aload_n 0, 1) := by decide +kernel
theorem dX11_settles_170 : decode cX11_settles 170 = .ok (.getfield 7, 3) := by decide +kernel
theorem dX11_settles_173 : decode cX11_settles 173 = .ok (.bipush 8, 2) := by decide +kernel
theorem dX11_settles_175 : decode cX11_settles 175 = .ok (.iaload, 1) := by decide +kernel
theorem dX11_settles_176 : decode cX11_settles 176 = .ok (.iadd, 1) := by decide +kernel
theorem dX11_settles_177 : decode cX11_settles 177 = .ok (.iload_n 2, 1) := by decide +kernel
theorem dX11_settles_178 : decode cX11_settles 178 = .ok (.if_icmp .ge 52, 3) := by decide +kernel
theorem dX11_settles_181 : decode cX11_settles 181 = .ok (.aload_n 0, 1) := by decide +kernel
theorem dX11_settles_182 : decode cX11_settles 182 = .ok (.iload_n 3, 1) := by decide +kernel
theorem dX11_settles_183 : decode cX11_settles 183 = .ok (.aload_n 0, 1) := by decide +kernel
theorem dX11_settles_184 : decode cX11_settles 184 = .ok (.getfield 29, 3) := by decide +kernel
theorem dX11_settles_187 : decode cX11_settles 187 = .ok (.iload_n 1, 1) := by decide +kernel
theorem dX11_settles_188 : decode cX11_settles 188 = .ok (.iload 4, 2) := by decide +kernel
theorem dX11_settles_190 : decode cX11_settles 190 = .ok (.invokestatic 92, 3) := by decide +kernel
theorem dX11_settles_193 : decode cX11_settles 193 = .ok (.iaload, 1) := by decide +kernel
theorem dX11_settles_194 : decode cX11_settles 194 = .ok (.aload_n 0, 1) := by decide +kernel
theorem dX11_settles_195 : decode cX11_settles 195 = .ok (.getfield 29, 3) := by decide +kernel
theorem dX11_settles_198 : decode cX11_settles 198 = .ok (.iload_n 1, 1) := by decide +kernel
theorem dX11_settles_199 : decode cX11_settles 199 = .ok (.iload_n 2, 1) := by decide +kernel
theorem dX11_settles_200 : decode cX11_settles 200 = .ok (.iload 4, 2) := by decide +kernel
theorem dX11_settles_202 : decode cX11_settles 202 = .ok (.isub, 1) := by decide +kernel
theorem dX11_settles_203 : decode cX11_settles 203 = .ok (.aload_n 0, 1) := by decide +kernel
theorem dX11_settles_204 : decode cX11_settles 204 = .ok (.getfield 7, 3) := by decide +kernel
theorem dX11_settles_207 : decode cX11_settles 207 = .ok (.bipush 8, 2) := by decide +kernel
theorem dX11_settles_209 : decode cX11_settles 209 = .ok (.iaload, 1) := by decide +kernel
theorem dX11_settles_210 : decode cX11_settles 210 = .ok (.isub, 1) := by decide +kernel
theorem dX11_settles_211 : decode cX11_settles 211 = .ok (.invokestatic 92, 3) := by decide +kernel
theorem dX11_settles_214 : decode cX11_settles 214 = .ok (.iaload, 1) := by decide +kernel
theorem dX11_settles_215 : decode cX11_settles 215 = .ok (.iadd, 1) := by decide +kernel
theorem dX11_settles_216 : decode cX11_settles 216 = .ok (.bipush 100, 2) := by decide +kernel
theorem dX11_settles_218 : decode cX11_settles 218 = .ok (.iload 4, 2) := by decide +kernel
theorem dX11_settles_220 : decode cX11_settles 220 = .ok (.iadd, 1) := by decide +kernel
theorem dX11_settles_221 : decode cX11_settles 221 = .ok (.invokevirtual 95, 3) := by decide +kernel
theorem dX11_settles_224 : decode cX11_settles 224 = .ok (.iinc 4 1, 3) := by decide +kernel
theorem dX11_settles_227 : decode cX11_settles 227 = .ok (.goto (-60), 3) := by decide +kernel
theorem dX11_settles_230 : decode cX11_settles 230 = .ok (.return_, 1) := by decide +kernel
theorem dX11_reckons_0 : decode cX11_reckons 0 = .ok (.iconst 1, 1) := by decide +kernel
theorem dX11_reckons_1 : decode cX11_reckons 1 = .ok (.istore_n 3, 1) := by decide +kernel
theorem dX11_reckons_2 : decode cX11_reckons 2 = .ok (.iload_n 3, 1) := by decide +kernel
theorem dX11_reckons_3 : decode cX11_reckons 3 = .ok (.iload_n 1, 1) := by decide +kernel
theorem dX11_reckons_4 : decode cX11_reckons 4 = .ok (.if_icmp .gt 31, 3) := by decide +kernel
theorem dX11_reckons_7 : decode cX11_reckons 7 = .ok (.iconst 1, 1) := by decide +kernel
theorem dX11_reckons_8 : decode cX11_reckons 8 = .ok (.istore 4, 2) := by decide +kernel
theorem dX11_reckons_10 : decode cX11_reckons 10 = .ok (.iload 4, 2) := by decide +kernel
theorem dX11_reckons_12 : decode cX11_reckons 12 = .ok (.iload_n 2, 1) := by decide +kernel
theorem dX11_reckons_13 : decode cX11_reckons 13 = .ok (.if_icmp .gt 16, 3) := by decide +kernel
theorem dX11_reckons_16 : decode cX11_reckons 16 = .ok (.aload_n 0, 1) := by decide +kernel
theorem dX11_reckons_17 : decode cX11_reckons 17 = .ok (.iload_n 3, 1) := by decide +kernel
theorem dX11_reckons_18 : decode cX11_reckons 18 = .ok (.iload 4, 2) := by decide +kernel
theorem dX11_reckons_20 : decode cX11_reckons 20 = .ok (.invokevirtual 99, 3) := by decide +kernel
theorem dX11_reckons_23 : decode cX11_reckons 23 = .ok (.iinc 4 1, 3) := by decide +kernel
theorem dX11_reckons_26 : decode cX11_reckons 26 = .ok (.goto (-16), 3) := by decide +kernel
theorem dX11_reckons_29 : decode cX11_reckons 29 = .ok (.iinc 3 1, 3) := by decide +kernel
theorem dX11_reckons_32 : decode cX11_reckons 32 = .ok (.goto (-30), 3) := by decide +kernel
theorem dX11_reckons_35 : decode cX11_reckons 35 = .ok (.return_, 1) := by decide +kernel
theorem dX11_isBoard_0 : decode cX11_isBoard 0 = .ok (.iload_n 0, 1) := by decide +kernel
theorem dX11_isBoard_1 : decode cX11_isBoard 1 = .ok (.iconst 1, 1) := by decide +kernel
theorem dX11_isBoard_2 : decode cX11_isBoard 2 = .ok (.bipush 24, 2) := by decide +kernel
theorem dX11_isBoard_4 : decode cX11_isBoard 4 = .ok (.invokestatic 38, 3) := by decide +kernel
theorem dX11_isBoard_7 : decode cX11_isBoard 7 = .ok (.ifCond .eq 17, 3) := by decide +kernel
theorem dX11_isBoard_10 : decode cX11_isBoard 10 = .ok (.iload_n 1, 1) := by decide +kernel
theorem dX11_isBoard_11 : decode cX11_isBoard 11 = .ok (.iconst 1, 1) := by decide +kernel
theorem dX11_isBoard_12 : decode cX11_isBoard 12 = .ok (.bipush 24, 2) := by decide +kernel
theorem dX11_isBoard_14 : decode cX11_isBoard 14 = .ok (.invokestatic 38, 3) := by decide +kernel
theorem dX11_isBoard_17 : decode cX11_isBoard 17 = .ok (.ifCond .eq 7, 3) := by decide +kernel
theorem dX11_isBoard_20 : decode cX11_isBoard 20 = .ok (.iconst 1, 1) := by decide +kernel
theorem dX11_isBoard_21 : decode cX11_isBoard 21 = .ok (.goto 4, 3) := by decide +kernel
theorem dX11_isBoard_24 : decode cX11_isBoard 24 = .ok (.iconst 0, 1) := by decide +kernel
theorem dX11_isBoard_25 : decode cX11_isBoard 25 = .ok (.ireturn, 1) := by decide +kernel
theorem dX11_best_0 : decode cX11_best 0 = .ok (.iload_n 1, 1) := by decide +kernel
theorem dX11_best_1 : decode cX11_best 1 = .ok (.iload_n 2, 1) := by decide +kernel
theorem dX11_best_2 : decode cX11_best 2 = .ok (.invokestatic 103, 3) := by decide +kernel
theorem dX11_best_5 : decode cX11_best 5 = .ok (.ifCond .ne 5, 3) := by decide +kernel
theorem dX11_best_8 : decode cX11_best 8 = .ok (.iconst (-1), 1) := by decide +kernel
theorem dX11_best_9 : decode cX11_best 9 = .ok (.ireturn, 1) := by decide +kernel
theorem dX11_best_10 : decode cX11_best 10 = .ok (.aload_n 0, 1) := by decide +kernel
theorem dX11_best_11 : decode cX11_best 11 = .ok (.iload_n 1, 1) := by decide +kernel
theorem dX11_best_12 : decode cX11_best 12 = .ok (.iload_n 2, 1) := by decide +kernel
theorem dX11_best_13 : decode cX11_best 13 = .ok (.invokevirtual 106, 3) := by decide +kernel
theorem dX11_best_16 : decode cX11_best 16 = .ok (.aload_n 0, 1) := by decide +kernel
theorem dX11_best_17 : decode cX11_best 17 = .ok (.getfield 29, 3) := by decide +kernel
theorem dX11_best_20 : decode cX11_best 20 = .ok (.iload_n 1, 1) := by decide +kernel
theorem dX11_best_21 : decode cX11_best 21 = .ok (.iload_n 2, 1) := by decide +kernel
theorem dX11_best_22 : decode cX11_best 22 = .ok (.invokestatic 92, 3) := by decide +kernel
theorem dX11_best_25 : decode cX11_best 25 = .ok (.iaload, 1) := by decide +kernel
theorem dX11_best_26 : decode cX11_best 26 = .ok (.ireturn, 1) := by decide +kernel
theorem dX11_comes_0 : decode cX11_comes 0 = .ok (.aload_n 0, 1) := by decide +kernel
theorem dX11_comes_1 : decode cX11_comes 1 = .ok (.getfield 32, 3) := by decide +kernel
theorem dX11_comes_4 : decode cX11_comes 4 = .ok (.iload_n 1, 1) := by decide +kernel
theorem dX11_comes_5 : decode cX11_comes 5 = .ok (.iload_n 2, 1) := by decide +kernel
theorem dX11_comes_6 : decode cX11_comes 6 = .ok (.invokestatic 92, 3) := by decide +kernel
theorem dX11_comes_9 : decode cX11_comes 9 = .ok (.iaload, 1) := by decide +kernel
theorem dX11_comes_10 : decode cX11_comes 10 = .ok (.istore 4, 2) := by decide +kernel
theorem dX11_comes_12 : decode cX11_comes 12 = .ok (.iload 4, 2) := by decide +kernel
theorem dX11_comes_14 : decode cX11_comes 14 = .ok (.bipush (-100), 2) := by decide +kernel
theorem dX11_comes_16 : decode cX11_comes 16 = .ok (.if_icmp .ne 5, 3) := by decide +kernel
theorem dX11_comes_19 : decode cX11_comes 19 = .ok (.iconst 0, 1) := by decide +kernel
theorem dX11_comes_20 : decode cX11_comes 20 = .ok (.ireturn, 1) := by decide +kernel
theorem dX11_comes_21 : decode cX11_comes 21 = .ok (.iload 4, 2) := by decide +kernel
theorem dX11_comes_23 : decode cX11_comes 23 = .ok (.ifCond .ge 17, 3) := by decide +kernel
theorem dX11_comes_26 : decode cX11_comes 26 = .ok (.iload_n 3, 1) := by decide +kernel
theorem dX11_comes_27 : decode cX11_comes 27 = .ok (.iconst (-1), 1) := by decide +kernel
theorem dX11_comes_28 : decode cX11_comes 28 = .ok (.iload 4, 2) := by decide +kernel
theorem dX11_comes_30 : decode cX11_comes 30 = .ok (.isub, 1) := by decide +kernel
theorem dX11_comes_31 : decode cX11_comes 31 = .ok (.if_icmp .ne 7, 3) := by decide +kernel
theorem dX11_comes_34 : decode cX11_comes 34 = .ok (.iconst 1, 1) := by decide +kernel
theorem dX11_comes_35 : decode cX11_comes 35 = .ok (.goto 4, 3) := by decide +kernel
theorem dX11_comes_38 : decode cX11_comes 38 = .ok (.iconst 0, 1) := by decide +kernel
theorem dX11_comes_39 : decode cX11_comes 39 = .ok (.ireturn, 1) := by decide +kernel
theorem dX11_comes_40 : decode cX11_comes 40 = .ok (.iload_n 3, 1) := by decide +kernel
theorem dX11_comes_41 : decode cX11_comes 41 = .ok (.ifCond .ge 7, 3) := by decide +kernel
theorem dX11_comes_44 : decode cX11_comes 44 = .ok (.iconst 1, 1) := by decide +kernel
theorem dX11_comes_45 : decode cX11_comes 45 = .ok (.goto 4, 3) := by decide +kernel
theorem dX11_comes_48 : decode cX11_comes 48 = .ok (.iconst 0, 1) := by decide +kernel
theorem dX11_comes_49 : decode cX11_comes 49 = .ok (.istore 5, 2) := by decide +kernel
theorem dX11_comes_51 : decode cX11_comes 51 = .ok (.aload_n 0, 1) := by decide +kernel
theorem dX11_comes_52 : decode cX11_comes 52 = .ok (.getfield 7, 3) := by decide +kernel
theorem dX11_comes_55 : decode cX11_comes 55 = .ok (.bipush 8, 2) := by decide +kernel
theorem dX11_comes_57 : decode cX11_comes 57 = .ok (.iaload, 1) := by decide +kernel
theorem dX11_comes_58 : decode cX11_comes 58 = .ok (.istore 6, 2) := by decide +kernel
theorem dX11_comes_60 : decode cX11_comes 60 = .ok (.iload 4, 2) := by decide +kernel
theorem dX11_comes_62 : decode cX11_comes 62 = .ok (.bipush 100, 2) := by decide +kernel
theorem dX11_comes_64 : decode cX11_comes 64 = .ok (.if_icmp .ge 37, 3) := by decide +kernel
theorem dX11_comes_67 : decode cX11_comes 67 = .ok (.iload 5, 2) := by decide +kernel
theorem dX11_comes_69 : decode cX11_comes 69 = .ok (.aload_n 0, 1) := by decide +kernel
theorem dX11_comes_70 : decode cX11_comes 70 = .ok (.getfield 35, 3) := by decide +kernel
theorem dX11_comes_73 : decode cX11_comes 73 = .ok (.iload 4, 2) := by decide +kernel
theorem dX11_comes_75 : decode cX11_comes 75 = .ok (.iload_n 2, 1) := by decide +kernel
theorem dX11_comes_76 : decode cX11_comes 76 = .ok (.invokestatic 92, 3) := by decide +kernel
theorem dX11_comes_79 : decode cX11_comes 79 = .ok (.iaload, 1) := by decide +kernel
theorem dX11_comes_80 : decode cX11_comes 80 = .ok (.iadd, 1) := by decide +kernel
theorem dX11_comes_81 : decode cX11_comes 81 = .ok (.aload_n 0, 1) := by decide +kernel
theorem dX11_comes_82 : decode cX11_comes 82 = .ok (.getfield 35, 3) := by decide +kernel
theorem dX11_comes_85 : decode cX11_comes 85 = .ok (.iload_n 1, 1) := by decide +kernel
theorem dX11_comes_86 : decode cX11_comes 86 = .ok (.iload 4, 2) := by decide +kernel
theorem dX11_comes_88 : decode cX11_comes 88 = .ok (.isub, 1) := by decide +kernel
theorem dX11_comes_89 : decode cX11_comes 89 = .ok (.iload 6, 2) := by decide +kernel
theorem dX11_comes_91 : decode cX11_comes 91 = .ok (.isub, 1) := by decide +kernel
theorem dX11_comes_92 : decode cX11_comes 92 = .ok (.iload_n 2, 1) := by decide +kernel
theorem dX11_comes_93 : decode cX11_comes 93 = .ok (.invokestatic 92, 3) := by decide +kernel
theorem dX11_comes_96 : decode cX11_comes 96 = .ok (.iaload, 1) := by decide +kernel
theorem dX11_comes_97 : decode cX11_comes 97 = .ok (.iadd, 1) := by decide +kernel
theorem dX11_comes_98 : decode cX11_comes 98 = .ok (.goto 40, 3) := by decide +kernel
theorem dX11_comes_101 : decode cX11_comes 101 = .ok (.iload 5, 2) := by decide +kernel
theorem dX11_comes_103 : decode cX11_comes 103 = .ok (.aload_n 0, 1) := by decide +kernel
theorem dX11_comes_104 : decode cX11_comes 104 = .ok (.getfield 35, 3) := by decide +kernel
theorem dX11_comes_107 : decode cX11_comes 107 = .ok (.iload_n 1, 1) := by decide +kernel
theorem dX11_comes_108 : decode cX11_comes 108 = .ok (.iload 4, 2) := by decide +kernel
theorem dX11_comes_110 : decode cX11_comes 110 = .ok (.bipush 100, 2) := by decide +kernel
theorem dX11_comes_112 : decode cX11_comes 112 = .ok (.isub, 1) := by decide +kernel
theorem dX11_comes_113 : decode cX11_comes 113 = .ok (.invokestatic 92, 3) := by decide +kernel
theorem dX11_comes_116 : decode cX11_comes 116 = .ok (.iaload, 1) := by decide +kernel
theorem dX11_comes_117 : decode cX11_comes 117 = .ok (.iadd, 1) := by decide +kernel
theorem dX11_comes_118 : decode cX11_comes 118 = .ok (.aload_n 0, 1) := by decide +kernel
theorem dX11_comes_119 : decode cX11_comes 119 = .ok (.getfield 35, 3) := by decide +kernel
theorem dX11_comes_122 : decode cX11_comes 122 = .ok (.iload_n 1, 1) := by decide +kernel
theorem dX11_comes_123 : decode cX11_comes 123 = .ok (.iload_n 2, 1) := by decide +kernel
theorem dX11_comes_124 : decode cX11_comes 124 = .ok (.iload 4, 2) := by decide +kernel
theorem dX11_comes_126 : decode cX11_comes 126 = .ok (.isub, 1) := by decide +kernel
theorem dX11_comes_127 : decode cX11_comes 127 = .ok (.bipush 100, 2) := by decide +kernel
theorem dX11_comes_129 : decode cX11_comes 129 = .ok (.iadd, 1) := by decide +kernel
theorem dX11_comes_130 : decode cX11_comes 130 = .ok (.iload 6, 2) := by decide +kernel
theorem dX11_comes_132 : decode cX11_comes 132 = .ok (.isub, 1) := by decide +kernel
theorem dX11_comes_133 : decode cX11_comes 133 = .ok (.invokestatic 92, 3) := by decide +kernel
theorem dX11_comes_136 : decode cX11_comes 136 = .ok (.iaload, 1) := by decide +kernel
theorem dX11_comes_137 : decode cX11_comes 137 = .ok (.iadd, 1) := by decide +kernel
theorem dX11_comes_138 : decode cX11_comes 138 = .ok (.ireturn, 1) := by decide +kernel
theorem dX11_cuts_0 : decode cX11_cuts 0 = .ok (.iload_n 1, 1) := by decide +kernel
theorem dX11_cuts_1 : decode cX11_cuts 1 = .ok (.iload_n 2, 1) := by decide +kernel
theorem dX11_cuts_2 : decode cX11_cuts 2 = .ok (.invokestatic 103, 3) := by decide +kernel
theorem dX11_cuts_5 : decode cX11_cuts 5 = .ok (.ifCond .eq 19, 3) := by decide +kernel
theorem dX11_cuts_8 : decode cX11_cuts 8 = .ok (.iload_n 3, 1) := by decide +kernel
theorem dX11_cuts_9 : decode cX11_cuts 9 = .ok (.iconst (-1), 1) := by decide +kernel
theorem dX11_cuts_10 : decode cX11_cuts 10 = .ok (.aload_n 0, 1) := by decide +kernel
theorem dX11_cuts_11 : decode cX11_cuts 11 = .ok (.getfield 7, 3) := by decide +kernel
theorem dX11_cuts_14 : decode cX11_cuts 14 = .ok (.iconst 4, 1) := by decide +kernel
theorem dX11_cuts_15 : decode cX11_cuts 15 = .ok (.iaload, 1) := by decide +kernel
theorem dX11_cuts_16 : decode cX11_cuts 16 = .ok (.iconst 1, 1) := by decide +kernel
theorem dX11_cuts_17 : decode cX11_cuts 17 = .ok (.isub, 1) := by decide +kernel
theorem dX11_cuts_18 : decode cX11_cuts 18 = .ok (.invokestatic 38, 3) := by decide +kernel
theorem dX11_cuts_21 : decode cX11_cuts 21 = .ok (.ifCond .ne 5, 3) := by decide +kernel
theorem dX11_cuts_24 : decode cX11_cuts 24 = .ok (.iconst (-1), 1) := by decide +kernel
theorem dX11_cuts_25 : decode cX11_cuts 25 = .ok (.ireturn, 1) := by decide +kernel
theorem dX11_cuts_26 : decode cX11_cuts 26 = .ok (.aload_n 0, 1) := by decide +kernel
theorem dX11_cuts_27 : decode cX11_cuts 27 = .ok (.iload_n 1, 1) := by decide +kernel
theorem dX11_cuts_28 : decode cX11_cuts 28 = .ok (.iload_n 2, 1) := by decide +kernel
theorem dX11_cuts_29 : decode cX11_cuts 29 = .ok (.invokevirtual 106, 3) := by decide +kernel
theorem dX11_cuts_32 : decode cX11_cuts 32 = .ok (.iconst 1, 1) := by decide +kernel
theorem dX11_cuts_33 : decode cX11_cuts 33 = .ok (.istore 4, 2) := by decide +kernel
theorem dX11_cuts_35 : decode cX11_cuts 35 = .ok (.iload 4, 2) := by decide +kernel
theorem dX11_cuts_37 : decode cX11_cuts 37 = .ok (.iload_n 1, 1) := by decide +kernel
theorem dX11_cuts_38 : decode cX11_cuts 38 = .ok (.if_icmp .gt 45, 3) := by decide +kernel
theorem dX11_cuts_41 : decode cX11_cuts 41 = .ok (.iconst 1, 1) := by decide +kernel
theorem dX11_cuts_42 : decode cX11_cuts 42 = .ok (.istore 5, 2) := by decide +kernel
theorem dX11_cuts_44 : decode cX11_cuts 44 = .ok (.iload 5, 2) := by decide +kernel
theorem dX11_cuts_46 : decode cX11_cuts 46 = .ok (.iload_n 2, 1) := by decide +kernel
theorem dX11_cuts_47 : decode cX11_cuts 47 = .ok (.if_icmp .gt 30, 3) := by decide +kernel
theorem dX11_cuts_50 : decode cX11_cuts 50 = .ok (.aload_n 0, 1) := by decide +kernel
theorem dX11_cuts_51 : decode cX11_cuts 51 = .ok (.getfield 35, 3) := by decide +kernel
theorem dX11_cuts_54 : decode cX11_cuts 54 = .ok (.iload 4, 2) := by decide +kernel
theorem dX11_cuts_56 : decode cX11_cuts 56 = .ok (.iload 5, 2) := by decide +kernel
theorem dX11_cuts_58 : decode cX11_cuts 58 = .ok (.invokestatic 92, 3) := by decide +kernel
theorem dX11_cuts_61 : decode cX11_cuts 61 = .ok (.aload_n 0, 1) := by decide +kernel
theorem dX11_cuts_62 : decode cX11_cuts 62 = .ok (.iload 4, 2) := by decide +kernel
theorem dX11_cuts_64 : decode cX11_cuts 64 = .ok (.iload 5, 2) := by decide +kernel
theorem dX11_cuts_66 : decode cX11_cuts 66 = .ok (.iload_n 3, 1) := by decide +kernel
theorem dX11_cuts_67 : decode cX11_cuts 67 = .ok (.invokevirtual 109, 3) := by decide +kernel
theorem dX11_cuts_70 : decode cX11_cuts 70 = .ok (.iastore, 1) := by decide +kernel
theorem dX11_cuts_71 : decode cX11_cuts 71 = .ok (.iinc 5 1, 3) := by decide +kernel
theorem dX11_cuts_74 : decode cX11_cuts 74 = .ok (.goto (-30), 3) := by decide +kernel
theorem dX11_cuts_77 : decode cX11_cuts 77 = .ok (.iinc 4 1, 3) := by decide +kernel
theorem dX11_cuts_80 : decode cX11_cuts 80 = .ok (.goto (-45), 3) := by decide +kernel
theorem dX11_cuts_83 : decode cX11_cuts 83 = .ok (.aload_n 0, 1) := by decide +kernel
theorem dX11_cuts_84 : decode cX11_cuts 84 = .ok (.getfield 35, 3) := by decide +kernel
theorem dX11_cuts_87 : decode cX11_cuts 87 = .ok (.iload_n 1, 1) := by decide +kernel
theorem dX11_cuts_88 : decode cX11_cuts 88 = .ok (.iload_n 2, 1) := by decide +kernel
theorem dX11_cuts_89 : decode cX11_cuts 89 = .ok (.invokestatic 92, 3) := by decide +kernel
theorem dX11_cuts_92 : decode cX11_cuts 92 = .ok (.iaload, 1) := by decide +kernel
theorem dX11_cuts_93 : decode cX11_cuts 93 = .ok (.ireturn, 1) := by decide +kernel
theorem dX11_count_0 : decode cX11_count 0 = .ok (.iconst 0, 1) := by decide +kernel
theorem dX11_count_1 : decode cX11_count 1 = .ok (.istore_n 2, 1) := by decide +kernel
theorem dX11_count_2 : decode cX11_count 2 = .ok (.iconst 0, 1) := by decide +kernel
theorem dX11_count_3 : decode cX11_count 3 = .ok (.istore_n 3, 1) := by decide +kernel
theorem dX11_count_4 : decode cX11_count 4 = .ok (.iconst 0, 1) := by decide +kernel
theorem dX11_count_5 : decode cX11_count 5 = .ok (.istore 4, 2) := by decide +kernel
theorem dX11_count_7 : decode cX11_count 7 = .ok (.iload 4, 2) := by decide +kernel
theorem dX11_count_9 : decode cX11_count 9 = .ok (.aload_n 0, 1) := by decide +kernel
theorem dX11_count_10 : decode cX11_count 10 = .ok (.getfield 7, 3) := by decide +kernel
theorem dX11_count_13 : decode cX11_count 13 = .ok (.iconst 0, 1) := by decide +kernel
theorem dX11_count_14 : decode cX11_count 14 = .ok (.iaload, 1) := by decide +kernel
theorem dX11_count_15 : decode cX11_count 15 = .ok (.if_icmp .ge 24, 3) := by decide +kernel
theorem dX11_count_18 : decode cX11_count 18 = .ok (.iload_n 2, 1) := by decide +kernel
theorem dX11_count_19 : decode cX11_count 19 = .ok (.aload_n 0, 1) := by decide +kernel
theorem dX11_count_20 : decode cX11_count 20 = .ok (.getfield 7, 3) := by decide +kernel
theorem dX11_count_23 : decode cX11_count 23 = .ok (.bipush 10, 2) := by decide +kernel
theorem dX11_count_25 : decode cX11_count 25 = .ok (.iconst 3, 1) := by decide +kernel
theorem dX11_count_26 : decode cX11_count 26 = .ok (.iload 4, 2) := by decide +kernel
theorem dX11_count_28 : decode cX11_count 28 = .ok (.imul, 1) := by decide +kernel
theorem dX11_count_29 : decode cX11_count 29 = .ok (.iadd, 1) := by decide +kernel
theorem dX11_count_30 : decode cX11_count 30 = .ok (.iaload, 1) := by decide +kernel
theorem dX11_count_31 : decode cX11_count 31 = .ok (.iadd, 1) := by decide +kernel
theorem dX11_count_32 : decode cX11_count 32 = .ok (.istore_n 2, 1) := by decide +kernel
theorem dX11_count_33 : decode cX11_count 33 = .ok (.iinc 4 1, 3) := by decide +kernel
theorem dX11_count_36 : decode cX11_count 36 = .ok (.goto (-29), 3) := by decide +kernel
theorem dX11_count_39 : decode cX11_count 39 = .ok (.iconst 0, 1) := by decide +kernel
theorem dX11_count_40 : decode cX11_count 40 = .ok (.istore 4, 2) := by decide +kernel
theorem dX11_count_42 : decode cX11_count 42 = .ok (.iload 4, 2) := by decide +kernel
theorem dX11_count_44 : decode cX11_count 44 = .ok (.aload_n 0, 1) := by decide +kernel
theorem dX11_count_45 : decode cX11_count 45 = .ok (.getfield 7, 3) := by decide +kernel
theorem dX11_count_48 : decode cX11_count 48 = .ok (.iconst 2, 1) := by decide +kernel
theorem dX11_count_49 : decode cX11_count 49 = .ok (.iaload, 1) := by decide +kernel
theorem dX11_count_50 : decode cX11_count 50 = .ok (.if_icmp .ge 36, 3) := by decide +kernel
theorem dX11_count_53 : decode cX11_count 53 = .ok (.iload_n 3, 1) := by decide +kernel
theorem dX11_count_54 : decode cX11_count 54 = .ok (.aload_n 0, 1) := by decide +kernel
theorem dX11_count_55 : decode cX11_count 55 = .ok (.getfield 7, 3) := by decide +kernel
theorem dX11_count_58 : decode cX11_count 58 = .ok (.bipush 50, 2) := by decide +kernel
theorem dX11_count_60 : decode cX11_count 60 = .ok (.bipush 8, 2) := by decide +kernel
theorem dX11_count_62 : decode cX11_count 62 = .ok (.iload 4, 2) := by decide +kernel
theorem dX11_count_64 : decode cX11_count 64 = .ok (.imul, 1) := by decide +kernel
theorem dX11_count_65 : decode cX11_count 65 = .ok (.iadd, 1) := by decide +kernel
theorem dX11_count_66 : decode cX11_count 66 = .ok (.bipush 7, 2) := by decide +kernel
theorem dX11_count_68 : decode cX11_count 68 = .ok (.iadd, 1) := by decide +kernel
theorem dX11_count_69 : decode cX11_count 69 = .ok (.iaload, 1) := by decide +kernel
theorem dX11_count_70 : decode cX11_count 70 = .ok (.ifCond .lt 7, 3) := by decide +kernel
theorem dX11_count_73 : decode cX11_count 73 = .ok (.iconst 1, 1) := by decide +kernel
theorem dX11_count_74 : decode cX11_count 74 = .ok (.goto 4, 3) := by decide +kernel
theorem dX11_count_77 : decode cX11_count 77 = .ok (.iconst 0, 1) := by decide +kernel
theorem dX11_count_78 : decode cX11_count 78 = .ok (.iadd, 1) := by decide +kernel
theorem dX11_count_79 : decode cX11_count 79 = .ok (.istore_n 3, 1) := by decide +kernel
theorem dX11_count_80 : decode cX11_count 80 = .ok (.iinc 4 1, 3) := by decide +kernel
theorem dX11_count_83 : decode cX11_count 83 = .ok (.goto (-41), 3) := by decide +kernel
theorem dX11_count_86 : decode cX11_count 86 = .ok (.iload_n 1, 1) := by decide +kernel
theorem dX11_count_87 : decode cX11_count 87 = .ok (.iconst 0, 1) := by decide +kernel
theorem dX11_count_88 : decode cX11_count 88 = .ok (.iconst 4, 1) := by decide +kernel
theorem dX11_count_89 : decode cX11_count 89 = .ok (.invokestatic 38, 3) := by decide +kernel
theorem dX11_count_92 : decode cX11_count 92 = .ok (.ifCond .eq 10, 3) := by decide +kernel
theorem dX11_count_95 : decode cX11_count 95 = .ok (.aload_n 0, 1) := by decide +kernel
theorem dX11_count_96 : decode cX11_count 96 = .ok (.getfield 7, 3) := by decide +kernel
theorem dX11_count_99 : decode cX11_count 99 = .ok (.iload_n 1, 1) := by decide +kernel
theorem dX11_count_100 : decode cX11_count 100 = .ok (.iaload, 1) := by decide +kernel
theorem dX11_count_101 : decode cX11_count 101 = .ok (.ireturn, 1) := by decide +kernel
theorem dX11_count_102 : decode cX11_count 102 = .ok (.iload_n 1, 1) := by decide +kernel
theorem dX11_count_103 : decode cX11_count 103 = .ok (.bipush 10, 2) := by decide +kernel
theorem dX11_count_105 : decode cX11_count 105 = .ok (.bipush 15, 2) := by decide +kernel
theorem dX11_count_107 : decode cX11_count 107 = .ok (.invokestatic 38, 3) := by decide +kernel
theorem dX11_count_110 : decode cX11_count 110 = .ok (.ifCond .eq 34, 3) := by decide +kernel
theorem dX11_count_113 : decode cX11_count 113 = .ok (.aload_n 0, 1) := by decide +kernel
theorem dX11_count_114 : decode cX11_count 114 = .ok (.iload_n 1, 1) := by decide +kernel
theorem dX11_count_115 : decode cX11_count 115 = .ok (.bipush 10, 2) := by decide +kernel
theorem dX11_count_117 : decode cX11_count 117 = .ok (.isub, 1) := by decide +kernel
theorem dX11_count_118 : decode cX11_count 118 = .ok (.iconst 0, 1) := by decide +kernel
theorem dX11_count_119 : decode cX11_count 119 = .ok (.invokevirtual 42, 3) := by decide +kernel
theorem dX11_count_122 : decode cX11_count 122 = .ok (.ifCond .eq 20, 3) := by decide +kernel
theorem dX11_count_125 : decode cX11_count 125 = .ok (.aload_n 0, 1) := by decide +kernel
theorem dX11_count_126 : decode cX11_count 126 = .ok (.getfield 7, 3) := by decide +kernel
theorem dX11_count_129 : decode cX11_count 129 = .ok (.bipush 10, 2) := by decide +kernel
theorem dX11_count_131 : decode cX11_count 131 = .ok (.iconst 3, 1) := by decide +kernel
theorem dX11_count_132 : decode cX11_count 132 = .ok (.iload_n 1, 1) := by decide +kernel
theorem dX11_count_133 : decode cX11_count 133 = .ok (.bipush 10, 2) := by decide +kernel
theorem dX11_count_135 : decode cX11_count 135 = .ok (.isub, 1) := by decide +kernel
theorem dX11_count_136 : decode cX11_count 136 = .ok (.imul, 1) := by decide +kernel
theorem dX11_count_137 : decode cX11_count 137 = .ok (.iadd, 1) := by decide +kernel
theorem dX11_count_138 : decode cX11_count 138 = .ok (.iaload, 1) := by decide +kernel
theorem dX11_count_139 : decode cX11_count 139 = .ok (.goto 4, 3) := by decide +kernel
theorem dX11_count_142 : decode cX11_count 142 = .ok (.iconst (-1), 1) := by decide +kernel
theorem dX11_count_143 : decode cX11_count 143 = .ok (.ireturn, 1) := by decide +kernel
theorem dX11_count_144 : decode cX11_count 144 = .ok (.iload_n 1, 1) := by decide +kernel
theorem dX11_count_145 : decode cX11_count 145 = .ok (.bipush 20, 2) := by decide +kernel
theorem dX11_count_147 : decode cX11_count 147 = .ok (.bipush 27, 2) := by decide +kernel
theorem dX11_count_149 : decode cX11_count 149 = .ok (.invokestatic 38, 3) := by decide +kernel
theorem dX11_count_152 : decode cX11_count 152 = .ok (.ifCond .eq 32, 3) := by decide +kernel
theorem dX11_count_155 : decode cX11_count 155 = .ok (.aload_n 0, 1) := by decide +kernel
theorem dX11_count_156 : decode cX11_count 156 = .ok (.iload_n 1, 1) := by decide +kernel
theorem dX11_count_157 : decode cX11_count 157 = .ok (.bipush 20, 2) := by decide +kernel
theorem dX11_count_159 : decode cX11_count 159 = .ok (.isub, 1) := by decide +kernel
theorem dX11_count_160 : decode cX11_count 160 = .ok (.iconst 1, 1) := by decide +kernel
theorem dX11_count_161 : decode cX11_count 161 = .ok (.invokevirtual 42, 3) := by decide +kernel
theorem dX11_count_164 : decode cX11_count 164 = .ok (.ifCond .eq 18, 3) := by decide +kernel
theorem dX11_count_167 : decode cX11_count 167 = .ok (.aload_n 0, 1) := by decide +kernel
theorem dX11_count_168 : decode cX11_count 168 = .ok (.getfield 7, 3) := by decide +kernel
theorem dX11_count_171 : decode cX11_count 171 = .ok (.bipush 30, 2) := by decide +kernel
theorem dX11_count_173 : decode cX11_count 173 = .ok (.iload_n 1, 1) := by decide +kernel
theorem dX11_count_174 : decode cX11_count 174 = .ok (.iadd, 1) := by decide +kernel
theorem dX11_count_175 : decode cX11_count 175 = .ok (.bipush 20, 2) := by decide +kernel
theorem dX11_count_177 : decode cX11_count 177 = .ok (.isub, 1) := by decide +kernel
theorem dX11_count_178 : decode cX11_count 178 = .ok (.iaload, 1) := by decide +kernel
theorem dX11_count_179 : decode cX11_count 179 = .ok (.goto 4, 3) := by decide +kernel
theorem dX11_count_182 : decode cX11_count 182 = .ok (.iconst (-1), 1) := by decide +kernel
theorem dX11_count_183 : decode cX11_count 183 = .ok (.ireturn, 1) := by decide +kernel
theorem dX11_count_184 : decode cX11_count 184 = .ok (.iload_n 1, 1) := by decide +kernel
theorem dX11_count_185 : decode cX11_count 185 = .ok (.iconst 5, 1) := by decide +kernel
theorem dX11_count_186 : decode cX11_count 186 = .ok (.if_icmp .ne 7, 3) := by decide +kernel
theorem dX11_count_189 : decode cX11_count 189 = .ok (.iload_n 2, 1) := by decide +kernel
theorem dX11_count_190 : decode cX11_count 190 = .ok (.goto 27, 3) := by decide +kernel
theorem dX11_count_193 : decode cX11_count 193 = .ok (.iload_n 1, 1) := by decide +kernel
theorem dX11_count_194 : decode cX11_count 194 = .ok (.bipush 6, 2) := by decide +kernel
theorem dX11_count_196 : decode cX11_count 196 = .ok (.if_icmp .ne 10, 3) := by decide +kernel
theorem dX11_count_199 : decode cX11_count 199 = .ok (.aload_n 0, 1) := by decide +kernel
theorem dX11_count_200 : decode cX11_count 200 = .ok (.invokevirtual 55, 3) := by decide +kernel
theorem dX11_count_203 : decode cX11_count 203 = .ok (.goto 14, 3) := by decide +kernel
theorem dX11_count_206 : decode cX11_count 206 = .ok (.iload_n 1, 1) := by decide +kernel
theorem dX11_count_207 : decode cX11_count 207 = .ok (.bipush 7, 2) := by decide +kernel
theorem dX11_count_209 : decode cX11_count 209 = .ok (.if_icmp .ne 7, 3) := by decide +kernel
theorem dX11_count_212 : decode cX11_count 212 = .ok (.iload_n 3, 1) := by decide +kernel
theorem dX11_count_213 : decode cX11_count 213 = .ok (.goto 4, 3) := by decide +kernel
theorem dX11_count_216 : decode cX11_count 216 = .ok (.iconst (-1), 1) := by decide +kernel
theorem dX11_count_217 : decode cX11_count 217 = .ok (.ireturn, 1) := by decide +kernel
theorem dX11_image_0 : decode cX11_image 0 = .ok (.iload_n 1, 1) := by decide +kernel
theorem dX11_image_1 : decode cX11_image 1 = .ok (.iconst 0, 1) := by decide +kernel
theorem dX11_image_2 : decode cX11_image 2 = .ok (.iconst 2, 1) := by decide +kernel
theorem dX11_image_3 : decode cX11_image 3 = .ok (.invokestatic 38, 3) := by decide +kernel
theorem dX11_image_6 : decode cX11_image 6 = .ok (.ifCond .ne 5, 3) := by decide +kernel
theorem dX11_image_9 : decode cX11_image 9 = .ok (.iconst 0, 1) := by decide +kernel
theorem dX11_image_10 : decode cX11_image 10 = .ok (.ireturn, 1) := by decide +kernel
theorem dX11_image_11 : decode cX11_image 11 = .ok (.aload_n 0, 1) := by decide +kernel
theorem dX11_image_12 : decode cX11_image 12 = .ok (.getfield 13, 3) := by decide +kernel
theorem dX11_image_15 : decode cX11_image 15 = .ok (.iload_n 1, 1) := by decide +kernel
theorem dX11_image_16 : decode cX11_image 16 = .ok (.iconst 1, 1) := by decide +kernel
theorem dX11_image_17 : decode cX11_image 17 = .ok (.bastore, 1) := by decide +kernel
theorem dX11_image_18 : decode cX11_image 18 = .ok (.iconst 0, 1) := by decide +kernel
theorem dX11_image_19 : decode cX11_image 19 = .ok (.istore_n 2, 1) := by decide +kernel
theorem dX11_image_20 : decode cX11_image 20 = .ok (.iload_n 2, 1) := by decide +kernel
theorem dX11_image_21 : decode cX11_image 21 = .ok (.sipush 320, 3) := by decide +kernel
theorem dX11_image_24 : decode cX11_image 24 = .ok (.if_icmp .ge 29, 3) := by decide +kernel
theorem dX11_image_27 : decode cX11_image 27 = .ok (.aload_n 0, 1) := by decide +kernel
theorem dX11_image_28 : decode cX11_image 28 = .ok (.getfield 7, 3) := by decide +kernel
theorem dX11_image_31 : decode cX11_image 31 = .ok (.sipush 320, 3) := by decide +kernel
theorem dX11_image_34 : decode cX11_image 34 = .ok (.iload_n 1, 1) := by decide +kernel
theorem dX11_image_35 : decode cX11_image 35 = .ok (.iconst 1, 1) := by decide +kernel
theorem dX11_image_36 : decode cX11_image 36 = .ok (.iadd, 1) := by decide +kernel
theorem dX11_image_37 : decode cX11_image 37 = .ok (.imul, 1) := by decide +kernel
theorem dX11_image_38 : decode cX11_image 38 = .ok (.iload_n 2, 1) := by decide +kernel
theorem dX11_image_39 : decode cX11_image 39 = .ok (.iadd, 1) := by decide +kernel
theorem dX11_image_40 : decode cX11_image 40 = .ok (.aload_n 0, 1) := by decide +kernel
theorem dX11_image_41 : decode cX11_image 41 = .ok (.getfield 7, 3) := by decide +kernel
theorem dX11_image_44 : decode cX11_image 44 = .ok (.iload_n 2, 1) := by decide +kernel
theorem dX11_image_45 : decode cX11_image 45 = .ok (.iaload, 1) := by decide +kernel
theorem dX11_image_46 : decode cX11_image 46 = .ok (.iastore, 1) := by decide +kernel
theorem dX11_image_47 : decode cX11_image 47 = .ok (.iinc 2 1, 3) := by decide +kernel
theorem dX11_image_50 : decode cX11_image 50 = .ok (.goto (-30), 3) := by decide +kernel
theorem dX11_image_53 : decode cX11_image 53 = .ok (.iconst 1, 1) := by decide +kernel
theorem dX11_image_54 : decode cX11_image 54 = .ok (.ireturn, 1) := by decide +kernel
theorem dX11_again_0 : decode cX11_again 0 = .ok (.iload_n 1, 1) := by decide +kernel
theorem dX11_again_1 : decode cX11_again 1 = .ok (.iconst 0, 1) := by decide +kernel
theorem dX11_again_2 : decode cX11_again 2 = .ok (.iconst 2, 1) := by decide +kernel
theorem dX11_again_3 : decode cX11_again 3 = .ok (.invokestatic 38, 3) := by decide +kernel
theorem dX11_again_6 : decode cX11_again 6 = .ok (.ifCond .eq 12, 3) := by decide +kernel
theorem dX11_again_9 : decode cX11_again 9 = .ok (.aload_n 0, 1) := by decide +kernel
theorem dX11_again_10 : decode cX11_again 10 = .ok (.getfield 13, 3) := by decide +kernel
theorem dX11_again_13 : decode cX11_again 13 = .ok (.iload_n 1, 1) := by decide +kernel
theorem dX11_again_14 : decode cX11_again 14 = .ok (.baload, 1) := by decide +kernel
theorem dX11_again_15 : decode cX11_again 15 = .ok (.ifCond .ne 5, 3) := by decide +kernel
theorem dX11_again_18 : decode cX11_again 18 = .ok (.iconst 0, 1) := by decide +kernel
theorem dX11_again_19 : decode cX11_again 19 = .ok (.ireturn, 1) := by decide +kernel
theorem dX11_again_20 : decode cX11_again 20 = .ok (.iconst 0, 1) := by decide +kernel
theorem dX11_again_21 : decode cX11_again 21 = .ok (.istore_n 2, 1) := by decide +kernel
theorem dX11_again_22 : decode cX11_again 22 = .ok (.iload_n 2, 1) := by decide +kernel
theorem dX11_again_23 : decode cX11_again 23 = .ok (.sipush 320, 3) := by decide +kernel
theorem dX11_again_26 : decode cX11_again 26 = .ok (.if_icmp .ge 29, 3) := by decide +kernel
theorem dX11_again_29 : decode cX11_again 29 = .ok (.aload_n 0, 1) := by decide +kernel
theorem dX11_again_30 : decode cX11_again 30 = .ok (.getfield 7, 3) := by decide +kernel
theorem dX11_again_33 : decode cX11_again 33 = .ok (.iload_n 2, 1) := by decide +kernel
theorem dX11_again_34 : decode cX11_again 34 = .ok (.aload_n 0, 1) := by decide +kernel
theorem dX11_again_35 : decode cX11_again 35 = .ok (.getfield 7, 3) := by decide +kernel
theorem dX11_again_38 : decode cX11_again 38 = .ok (.sipush 320, 3) := by decide +kernel
theorem dX11_again_41 : decode cX11_again 41 = .ok (.iload_n 1, 1) := by decide +kernel
theorem dX11_again_42 : decode cX11_again 42 = .ok (.iconst 1, 1) := by decide +kernel
theorem dX11_again_43 : decode cX11_again 43 = .ok (.iadd, 1) := by decide +kernel
theorem dX11_again_44 : decode cX11_again 44 = .ok (.imul, 1) := by decide +kernel
theorem dX11_again_45 : decode cX11_again 45 = .ok (.iload_n 2, 1) := by decide +kernel
theorem dX11_again_46 : decode cX11_again 46 = .ok (.iadd, 1) := by decide +kernel
theorem dX11_again_47 : decode cX11_again 47 = .ok (.iaload, 1) := by decide +kernel
theorem dX11_again_48 : decode cX11_again 48 = .ok (.iastore, 1) := by decide +kernel
theorem dX11_again_49 : decode cX11_again 49 = .ok (.iinc 2 1, 3) := by decide +kernel
theorem dX11_again_52 : decode cX11_again 52 = .ok (.goto (-30), 3) := by decide +kernel
theorem dX11_again_55 : decode cX11_again 55 = .ok (.iconst 1, 1) := by decide +kernel
theorem dX11_again_56 : decode cX11_again 56 = .ok (.ireturn, 1) := by decide +kernel
theorem dL_law_0 : decode cL_law 0 = .ok (.new 7, 3) := by decide +kernel
theorem dL_law_3 : decode cL_law 3 = .ok (.dup, 1) := by decide +kernel
theorem dL_law_4 : decode cL_law 4 = .ok (.invokespecial 9, 3) := by decide +kernel
theorem dL_law_7 : decode cL_law 7 = .ok (.astore_n 1, 1) := by decide +kernel
theorem dL_law_8 : decode cL_law 8 = .ok (.new 10, 3) := by decide +kernel
theorem dL_law_11 : decode cL_law 11 = .ok (.dup, 1) := by decide +kernel
theorem dL_law_12 : decode cL_law 12 = .ok (.invokespecial 12, 3) := by decide +kernel
theorem dL_law_15 : decode cL_law 15 = .ok (.astore_n 2, 1) := by decide +kernel
theorem dL_law_16 : decode cL_law 16 = .ok (.iconst 0, 1) := by decide +kernel
theorem dL_law_17 : decode cL_law 17 = .ok (.istore_n 3, 1) := by decide +kernel
theorem dL_law_18 : decode cL_law 18 = .ok (.iload_n 3, 1) := by decide +kernel
theorem dL_law_19 : decode cL_law 19 = .ok (.aload_n 0, 1) := by decide +kernel
theorem dL_law_20 : decode cL_law 20 = .ok (.arraylength, 1) := by decide +kernel
theorem dL_law_21 : decode cL_law 21 = .ok (.bipush 6, 2) := by decide +kernel
theorem dL_law_23 : decode cL_law 23 = .ok (.isub, 1) := by decide +kernel
theorem dL_law_24 : decode cL_law 24 = .ok (.if_icmp .gt 872, 3) := by decide +kernel
theorem dL_law_27 : decode cL_law 27 = .ok (.aload_n 0, 1) := by decide +kernel
theorem dL_law_28 : decode cL_law 28 = .ok (.iload_n 3, 1) := by decide +kernel
theorem dL_law_29 : decode cL_law 29 = .ok (.iaload, 1) := by decide +kernel
theorem dL_law_30 : decode cL_law 30 = .ok (.bipush 31, 2) := by decide +kernel
theorem dL_law_32 : decode cL_law 32 = .ok (.iand, 1) := by decide +kernel
theorem dL_law_33 : decode cL_law 33 = .ok (.tableswitch 857 0 21 #[103, 152, 185, 208, 241, 284, 317, 340, 363, 396, 419, 452, 515, 558, 633, 646, 669, 712, 745, 788, 811, 834], 103) := by decide +kernel
theorem dL_law_136 : decode cL_law 136 = .ok (.aload_n 1, 1) := by decide +kernel
theorem dL_law_137 : decode cL_law 137 = .ok (.aload_n 0, 1) := by decide +kernel
theorem dL_law_138 : decode cL_law 138 = .ok (.iload_n 3, 1) := by decide +kernel
theorem dL_law_139 : decode cL_law 139 = .ok (.iconst 1, 1) := by decide +kernel
theorem dL_law_140 : decode cL_law 140 = .ok (.iadd, 1) := by decide +kernel
theorem dL_law_141 : decode cL_law 141 = .ok (.iaload, 1) := by decide +kernel
theorem dL_law_142 : decode cL_law 142 = .ok (.aload_n 0, 1) := by decide +kernel
theorem dL_law_143 : decode cL_law 143 = .ok (.iload_n 3, 1) := by decide +kernel
theorem dL_law_144 : decode cL_law 144 = .ok (.iconst 2, 1) := by decide +kernel
theorem dL_law_145 : decode cL_law 145 = .ok (.iadd, 1) := by decide +kernel
theorem dL_law_146 : decode cL_law 146 = .ok (.iaload, 1) := by decide +kernel
theorem dL_law_147 : decode cL_law 147 = .ok (.ifCond .eq 7, 3) := by decide +kernel
theorem dL_law_150 : decode cL_law 150 = .ok (.iconst 1, 1) := by decide +kernel
theorem dL_law_151 : decode cL_law 151 = .ok (.goto 4, 3) := by decide +kernel
theorem dL_law_154 : decode cL_law 154 = .ok (.iconst 0, 1) := by decide +kernel
theorem dL_law_155 : decode cL_law 155 = .ok (.invokevirtual 13, 3) := by decide +kernel
theorem dL_law_158 : decode cL_law 158 = .ok (.aload_n 2, 1) := by decide +kernel
theorem dL_law_159 : decode cL_law 159 = .ok (.aload_n 0, 1) := by decide +kernel
theorem dL_law_160 : decode cL_law 160 = .ok (.iload_n 3, 1) := by decide +kernel
theorem dL_law_161 : decode cL_law 161 = .ok (.iconst 1, 1) := by decide +kernel
theorem dL_law_162 : decode cL_law 162 = .ok (.iadd, 1) := by decide +kernel
theorem dL_law_163 : decode cL_law 163 = .ok (.iaload, 1) := by decide +kernel
theorem dL_law_164 : decode cL_law 164 = .ok (.aload_n 0, 1) := by decide +kernel
theorem dL_law_165 : decode cL_law 165 = .ok (.iload_n 3, 1) := by decide +kernel
theorem dL_law_166 : decode cL_law 166 = .ok (.iconst 2, 1) := by decide +kernel
theorem dL_law_167 : decode cL_law 167 = .ok (.iadd, 1) := by decide +kernel
theorem dL_law_168 : decode cL_law 168 = .ok (.iaload, 1) := by decide +kernel
theorem dL_law_169 : decode cL_law 169 = .ok (.ifCond .eq 7, 3) := by decide +kernel
theorem dL_law_172 : decode cL_law 172 = .ok (.iconst 1, 1) := by decide +kernel
theorem dL_law_173 : decode cL_law 173 = .ok (.goto 4, 3) := by decide +kernel
theorem dL_law_176 : decode cL_law 176 = .ok (.iconst 0, 1) := by decide +kernel
theorem dL_law_177 : decode cL_law 177 = .ok (.invokevirtual 17, 3) := by decide +kernel
theorem dL_law_180 : decode cL_law 180 = .ok (.if_icmp .eq 710, 3) := by decide +kernel
theorem dL_law_183 : decode cL_law 183 = .ok (.iconst 0, 1) := by decide +kernel
theorem dL_law_184 : decode cL_law 184 = .ok (.ireturn, 1) := by decide +kernel
theorem dL_law_185 : decode cL_law 185 = .ok (.aload_n 1, 1) := by decide +kernel
theorem dL_law_186 : decode cL_law 186 = .ok (.aload_n 0, 1) := by decide +kernel
theorem dL_law_187 : decode cL_law 187 = .ok (.iload_n 3, 1) := by decide +kernel
theorem dL_law_188 : decode cL_law 188 = .ok (.iconst 1, 1) := by decide +kernel
theorem dL_law_189 : decode cL_law 189 = .ok (.iadd, 1) := by decide +kernel
theorem dL_law_190 : decode cL_law 190 = .ok (.iaload, 1) := by decide +kernel
theorem dL_law_191 : decode cL_law 191 = .ok (.aload_n 0, 1) := by decide +kernel
theorem dL_law_192 : decode cL_law 192 = .ok (.iload_n 3, 1) := by decide +kernel
theorem dL_law_193 : decode cL_law 193 = .ok (.iconst 2, 1) := by decide +kernel
theorem dL_law_194 : decode cL_law 194 = .ok (.iadd, 1) := by decide +kernel
theorem dL_law_195 : decode cL_law 195 = .ok (.iaload, 1) := by decide +kernel
theorem dL_law_196 : decode cL_law 196 = .ok (.invokevirtual 18, 3) := by decide +kernel
theorem dL_law_199 : decode cL_law 199 = .ok (.aload_n 2, 1) := by decide +kernel
theorem dL_law_200 : decode cL_law 200 = .ok (.aload_n 0, 1) := by decide +kernel
theorem dL_law_201 : decode cL_law 201 = .ok (.iload_n 3, 1) := by decide +kernel
theorem dL_law_202 : decode cL_law 202 = .ok (.iconst 1, 1) := by decide +kernel
theorem dL_law_203 : decode cL_law 203 = .ok (.iadd, 1) := by decide +kernel
theorem dL_law_204 : decode cL_law 204 = .ok (.iaload, 1) := by decide +kernel
theorem dL_law_205 : decode cL_law 205 = .ok (.aload_n 0, 1) := by decide +kernel
theorem dL_law_206 : decode cL_law 206 = .ok (.iload_n 3, 1) := by decide +kernel
theorem dL_law_207 : decode cL_law 207 = .ok (.iconst 2, 1) := by decide +kernel
theorem dL_law_208 : decode cL_law 208 = .ok (.iadd, 1) := by decide +kernel
theorem dL_law_209 : decode cL_law 209 = .ok (.iaload, 1) := by decide +kernel
theorem dL_law_210 : decode cL_law 210 = .ok (.invokevirtual 22, 3) := by decide +kernel
theorem dL_law_213 : decode cL_law 213 = .ok (.if_icmp .eq 677, 3) := by decide +kernel
theorem dL_law_216 : decode cL_law 216 = .ok (.iconst 0, 1) := by decide +kernel
theorem dL_law_217 : decode cL_law 217 = .ok (.ireturn, 1) := by decide +kernel
theorem dL_law_218 : decode cL_law 218 = .ok (.aload_n 1, 1) := by decide +kernel
theorem dL_law_219 : decode cL_law 219 = .ok (.aload_n 0, 1) := by decide +kernel
theorem dL_law_220 : decode cL_law 220 = .ok (.iload_n 3, 1) := by decide +kernel
theorem dL_law_221 : decode cL_law 221 = .ok (.iconst 1, 1) := by decide +kernel
theorem dL_law_222 : decode cL_law 222 = .ok (.iadd, 1) := by decide +kernel
theorem dL_law_223 : decode cL_law 223 = .ok (.iaload, 1) := by decide +kernel
theorem dL_law_224 : decode cL_law 224 = .ok (.invokevirtual 23, 3) := by decide +kernel
theorem dL_law_227 : decode cL_law 227 = .ok (.aload_n 2, 1) := by decide +kernel
theorem dL_law_228 : decode cL_law 228 = .ok (.aload_n 0, 1) := by decide +kernel
theorem dL_law_229 : decode cL_law 229 = .ok (.iload_n 3, 1) := by decide +kernel
theorem dL_law_230 : decode cL_law 230 = .ok (.iconst 1, 1) := by decide +kernel
theorem dL_law_231 : decode cL_law 231 = .ok (.iadd, 1) := by decide +kernel
theorem dL_law_232 : decode cL_law 232 = .ok (.iaload, 1) := by decide +kernel
theorem dL_law_233 : decode cL_law 233 = .ok (.invokevirtual 27, 3) := by decide +kernel
theorem dL_law_236 : decode cL_law 236 = .ok (.if_icmp .eq 654, 3) := by decide +kernel
theorem dL_law_239 : decode cL_law 239 = .ok (.iconst 0, 1) := by decide +kernel
theorem dL_law_240 : decode cL_law 240 = .ok (.ireturn, 1) := by decide +kernel
theorem dL_law_241 : decode cL_law 241 = .ok (.aload_n 1, 1) := by decide +kernel
theorem dL_law_242 : decode cL_law 242 = .ok (.aload_n 0, 1) := by decide +kernel
theorem dL_law_243 : decode cL_law 243 = .ok (.iload_n 3, 1) := by decide +kernel
theorem dL_law_244 : decode cL_law 244 = .ok (.iconst 1, 1) := by decide +kernel
theorem dL_law_245 : decode cL_law 245 = .ok (.iadd, 1) := by decide +kernel
theorem dL_law_246 : decode cL_law 246 = .ok (.iaload, 1) := by decide +kernel
theorem dL_law_247 : decode cL_law 247 = .ok (.aload_n 0, 1) := by decide +kernel
theorem dL_law_248 : decode cL_law 248 = .ok (.iload_n 3, 1) := by decide +kernel
theorem dL_law_249 : decode cL_law 249 = .ok (.iconst 2, 1) := by decide +kernel
theorem dL_law_250 : decode cL_law 250 = .ok (.iadd, 1) := by decide +kernel
theorem dL_law_251 : decode cL_law 251 = .ok (.iaload, 1) := by decide +kernel
theorem dL_law_252 : decode cL_law 252 = .ok (.invokevirtual 28, 3) := by decide +kernel
theorem dL_law_255 : decode cL_law 255 = .ok (.aload_n 2, 1) := by decide +kernel
theorem dL_law_256 : decode cL_law 256 = .ok (.aload_n 0, 1) := by decide +kernel
theorem dL_law_257 : decode cL_law 257 = .ok (.iload_n 3, 1) := by decide +kernel
theorem dL_law_258 : decode cL_law 258 = .ok (.iconst 1, 1) := by decide +kernel
theorem dL_law_259 : decode cL_law 259 = .ok (.iadd, 1) := by decide +kernel
theorem dL_law_260 : decode cL_law 260 = .ok (.iaload, 1) := by decide +kernel
theorem dL_law_261 : decode cL_law 261 = .ok (.aload_n 0, 1) := by decide +kernel
theorem dL_law_262 : decode cL_law 262 = .ok (.iload_n 3, 1) := by decide +kernel
theorem dL_law_263 : decode cL_law 263 = .ok (.iconst 2, 1) := by decide +kernel
theorem dL_law_264 : decode cL_law 264 = .ok (.iadd, 1) := by decide +kernel
theorem dL_law_265 : decode cL_law 265 = .ok (.iaload, 1) := by decide +kernel
theorem dL_law_266 : decode cL_law 266 = .ok (.invokevirtual 32, 3) := by decide +kernel
theorem dL_law_269 : decode cL_law 269 = .ok (.if_icmp .eq 621, 3) := by decide +kernel
theorem dL_law_272 : decode cL_law 272 = .ok (.iconst 0, 1) := by decide +kernel
theorem dL_law_273 : decode cL_law 273 = .ok (.ireturn, 1) := by decide +kernel
theorem dL_law_274 : decode cL_law 274 = .ok (.aload_n 1, 1) := by decide +kernel
theorem dL_law_275 : decode cL_law 275 = .ok (.aload_n 0, 1) := by decide +kernel
theorem dL_law_276 : decode cL_law 276 = .ok (.iload_n 3, 1) := by decide +kernel
theorem dL_law_277 : decode cL_law 277 = .ok (.iconst 1, 1) := by decide +kernel
theorem dL_law_278 : decode cL_law 278 = .ok (.iadd, 1) := by decide +kernel
theorem dL_law_279 : decode cL_law 279 = .ok (.iaload, 1) := by decide +kernel
theorem dL_law_280 : decode cL_law 280 = .ok (.aload_n 0, 1) := by decide +kernel
theorem dL_law_281 : decode cL_law 281 = .ok (.iload_n 3, 1) := by decide +kernel
theorem dL_law_282 : decode cL_law 282 = .ok (.iconst 2, 1) := by decide +kernel
theorem dL_law_283 : decode cL_law 283 = .ok (.iadd, 1) := by decide +kernel
theorem dL_law_284 : decode cL_law 284 = .ok (.iaload, 1) := by decide +kernel
theorem dL_law_285 : decode cL_law 285 = .ok (.aload_n 0, 1) := by decide +kernel
theorem dL_law_286 : decode cL_law 286 = .ok (.iload_n 3, 1) := by decide +kernel
theorem dL_law_287 : decode cL_law 287 = .ok (.iconst 3, 1) := by decide +kernel
theorem dL_law_288 : decode cL_law 288 = .ok (.iadd, 1) := by decide +kernel
theorem dL_law_289 : decode cL_law 289 = .ok (.iaload, 1) := by decide +kernel
theorem dL_law_290 : decode cL_law 290 = .ok (.invokevirtual 33, 3) := by decide +kernel
theorem dL_law_293 : decode cL_law 293 = .ok (.aload_n 2, 1) := by decide +kernel
theorem dL_law_294 : decode cL_law 294 = .ok (.aload_n 0, 1) := by decide +kernel
theorem dL_law_295 : decode cL_law 295 = .ok (.iload_n 3, 1) := by decide +kernel
theorem dL_law_296 : decode cL_law 296 = .ok (.iconst 1, 1) := by decide +kernel
theorem dL_law_297 : decode cL_law 297 = .ok (.iadd, 1) := by decide +kernel
theorem dL_law_298 : decode cL_law 298 = .ok (.iaload, 1) := by decide +kernel
theorem dL_law_299 : decode cL_law 299 = .ok (.aload_n 0, 1) := by decide +kernel
theorem dL_law_300 : decode cL_law 300 = .ok (.iload_n 3, 1) := by decide +kernel
theorem dL_law_301 : decode cL_law 301 = .ok (.iconst 2, 1) := by decide +kernel
theorem dL_law_302 : decode cL_law 302 = .ok (.iadd, 1) := by decide +kernel
theorem dL_law_303 : decode cL_law 303 = .ok (.iaload, 1) := by decide +kernel
theorem dL_law_304 : decode cL_law 304 = .ok (.aload_n 0, 1) := by decide +kernel
theorem dL_law_305 : decode cL_law 305 = .ok (.iload_n 3, 1) := by decide +kernel
theorem dL_law_306 : decode cL_law 306 = .ok (.iconst 3, 1) := by decide +kernel
theorem dL_law_307 : decode cL_law 307 = .ok (.iadd, 1) := by decide +kernel
theorem dL_law_308 : decode cL_law 308 = .ok (.iaload, 1) := by decide +kernel
theorem dL_law_309 : decode cL_law 309 = .ok (.invokevirtual 37, 3) := by decide +kernel
theorem dL_law_312 : decode cL_law 312 = .ok (.if_icmp .eq 578, 3) := by decide +kernel
theorem dL_law_315 : decode cL_law 315 = .ok (.iconst 0, 1) := by decide +kernel
theorem dL_law_316 : decode cL_law 316 = .ok (.ireturn, 1) := by decide +kernel
theorem dL_law_317 : decode cL_law 317 = .ok (.aload_n 1, 1) := by decide +kernel
theorem dL_law_318 : decode cL_law 318 = .ok (.aload_n 0, 1) := by decide +kernel
theorem dL_law_319 : decode cL_law 319 = .ok (.iload_n 3, 1) := by decide +kernel
theorem dL_law_320 : decode cL_law 320 = .ok (.iconst 1, 1) := by decide +kernel
theorem dL_law_321 : decode cL_law 321 = .ok (.iadd, 1) := by decide +kernel
theorem dL_law_322 : decode cL_law 322 = .ok (.iaload, 1) := by decide +kernel
theorem dL_law_323 : decode cL_law 323 = .ok (.aload_n 0, 1) := by decide +kernel
theorem dL_law_324 : decode cL_law 324 = .ok (.iload_n 3, 1) := by decide +kernel
theorem dL_law_325 : decode cL_law 325 = .ok (.iconst 2, 1) := by decide +kernel
theorem dL_law_326 : decode cL_law 326 = .ok (.iadd, 1) := by decide +kernel
theorem dL_law_327 : decode cL_law 327 = .ok (.iaload, 1) := by decide +kernel
theorem dL_law_328 : decode cL_law 328 = .ok (.invokevirtual 38, 3) := by decide +kernel
theorem dL_law_331 : decode cL_law 331 = .ok (.aload_n 2, 1) := by decide +kernel
theorem dL_law_332 : decode cL_law 332 = .ok (.aload_n 0, 1) := by decide +kernel
theorem dL_law_333 : decode cL_law 333 = .ok (.iload_n 3, 1) := by decide +kernel
theorem dL_law_334 : decode cL_law 334 = .ok (.iconst 1, 1) := by decide +kernel
theorem dL_law_335 : decode cL_law 335 = .ok (.iadd, 1) := by decide +kernel
theorem dL_law_336 : decode cL_law 336 = .ok (.iaload, 1) := by decide +kernel
theorem dL_law_337 : decode cL_law 337 = .ok (.aload_n 0, 1) := by decide +kernel
theorem dL_law_338 : decode cL_law 338 = .ok (.iload_n 3, 1) := by decide +kernel
theorem dL_law_339 : decode cL_law 339 = .ok (.iconst 2, 1) := by decide +kernel
theorem dL_law_340 : decode cL_law 340 = .ok (.iadd, 1) := by decide +kernel
theorem dL_law_341 : decode cL_law 341 = .ok (.iaload, 1) := by decide +kernel
theorem dL_law_342 : decode cL_law 342 = .ok (.invokevirtual 41, 3) := by decide +kernel
theorem dL_law_345 : decode cL_law 345 = .ok (.if_icmp .eq 545, 3) := by decide +kernel
theorem dL_law_348 : decode cL_law 348 = .ok (.iconst 0, 1) := by decide +kernel
theorem dL_law_349 : decode cL_law 349 = .ok (.ireturn, 1) := by decide +kernel
theorem dL_law_350 : decode cL_law 350 = .ok (.aload_n 1, 1) := by decide +kernel
theorem dL_law_351 : decode cL_law 351 = .ok (.aload_n 0, 1) := by decide +kernel
theorem dL_law_352 : decode cL_law 352 = .ok (.iload_n 3, 1) := by decide +kernel
theorem dL_law_353 : decode cL_law 353 = .ok (.iconst 1, 1) := by decide +kernel
theorem dL_law_354 : decode cL_law 354 = .ok (.iadd, 1) := by decide +kernel
theorem dL_law_355 : decode cL_law 355 = .ok (.iaload, 1) := by decide +kernel
theorem dL_law_356 : decode cL_law 356 = .ok (.invokevirtual 42, 3) := by decide +kernel
theorem dL_law_359 : decode cL_law 359 = .ok (.aload_n 2, 1) := by decide +kernel
theorem dL_law_360 : decode cL_law 360 = .ok (.aload_n 0, 1) := by decide +kernel
theorem dL_law_361 : decode cL_law 361 = .ok (.iload_n 3, 1) := by decide +kernel
theorem dL_law_362 : decode cL_law 362 = .ok (.iconst 1, 1) := by decide +kernel
theorem dL_law_363 : decode cL_law 363 = .ok (.iadd, 1) := by decide +kernel
theorem dL_law_364 : decode cL_law 364 = .ok (.iaload, 1) := by decide +kernel
theorem dL_law_365 : decode cL_law 365 = .ok (.invokevirtual 45, 3) := by decide +kernel
theorem dL_law_368 : decode cL_law 368 = .ok (.if_icmp .eq 522, 3) := by decide +kernel
theorem dL_law_371 : decode cL_law 371 = .ok (.iconst 0, 1) := by decide +kernel
theorem dL_law_372 : decode cL_law 372 = .ok (.ireturn, 1) := by decide +kernel
theorem dL_law_373 : decode cL_law 373 = .ok (.aload_n 1, 1) := by decide +kernel
theorem dL_law_374 : decode cL_law 374 = .ok (.aload_n 0, 1) := by decide +kernel
theorem dL_law_375 : decode cL_law 375 = .ok (.iload_n 3, 1) := by decide +kernel
theorem dL_law_376 : decode cL_law 376 = .ok (.iconst 1, 1) := by decide +kernel
theorem dL_law_377 : decode cL_law 377 = .ok (.iadd, 1) := by decide +kernel
theorem dL_law_378 : decode cL_law 378 = .ok (.iaload, 1) := by decide +kernel
theorem dL_law_379 : decode cL_law 379 = .ok (.invokevirtual 46, 3) := by decide +kernel
theorem dL_law_382 : decode cL_law 382 = .ok (.aload_n 2, 1) := by decide +kernel
theorem dL_law_383 : decode cL_law 383 = .ok (.aload_n 0, 1) := by decide +kernel
theorem dL_law_384 : decode cL_law 384 = .ok (.iload_n 3, 1) := by decide +kernel
theorem dL_law_385 : decode cL_law 385 = .ok (.iconst 1, 1) := by decide +kernel
theorem dL_law_386 : decode cL_law 386 = .ok (.iadd, 1) := by decide +kernel
theorem dL_law_387 : decode cL_law 387 = .ok (.iaload, 1) := by decide +kernel
theorem dL_law_388 : decode cL_law 388 = .ok (.invokevirtual 49, 3) := by decide +kernel
theorem dL_law_391 : decode cL_law 391 = .ok (.if_icmp .eq 499, 3) := by decide +kernel
theorem dL_law_394 : decode cL_law 394 = .ok (.iconst 0, 1) := by decide +kernel
theorem dL_law_395 : decode cL_law 395 = .ok (.ireturn, 1) := by decide +kernel
theorem dL_law_396 : decode cL_law 396 = .ok (.aload_n 1, 1) := by decide +kernel
theorem dL_law_397 : decode cL_law 397 = .ok (.aload_n 0, 1) := by decide +kernel
theorem dL_law_398 : decode cL_law 398 = .ok (.iload_n 3, 1) := by decide +kernel
theorem dL_law_399 : decode cL_law 399 = .ok (.iconst 1, 1) := by decide +kernel
theorem dL_law_400 : decode cL_law 400 = .ok (.iadd, 1) := by decide +kernel
theorem dL_law_401 : decode cL_law 401 = .ok (.iaload, 1) := by decide +kernel
theorem dL_law_402 : decode cL_law 402 = .ok (.aload_n 0, 1) := by decide +kernel
theorem dL_law_403 : decode cL_law 403 = .ok (.iload_n 3, 1) := by decide +kernel
theorem dL_law_404 : decode cL_law 404 = .ok (.iconst 2, 1) := by decide +kernel
theorem dL_law_405 : decode cL_law 405 = .ok (.iadd, 1) := by decide +kernel
theorem dL_law_406 : decode cL_law 406 = .ok (.iaload, 1) := by decide +kernel
theorem dL_law_407 : decode cL_law 407 = .ok (.invokevirtual 50, 3) := by decide +kernel
theorem dL_law_410 : decode cL_law 410 = .ok (.aload_n 2, 1) := by decide +kernel
theorem dL_law_411 : decode cL_law 411 = .ok (.aload_n 0, 1) := by decide +kernel
theorem dL_law_412 : decode cL_law 412 = .ok (.iload_n 3, 1) := by decide +kernel
theorem dL_law_413 : decode cL_law 413 = .ok (.iconst 1, 1) := by decide +kernel
theorem dL_law_414 : decode cL_law 414 = .ok (.iadd, 1) := by decide +kernel
theorem dL_law_415 : decode cL_law 415 = .ok (.iaload, 1) := by decide +kernel
theorem dL_law_416 : decode cL_law 416 = .ok (.aload_n 0, 1) := by decide +kernel
theorem dL_law_417 : decode cL_law 417 = .ok (.iload_n 3, 1) := by decide +kernel
theorem dL_law_418 : decode cL_law 418 = .ok (.iconst 2, 1) := by decide +kernel
theorem dL_law_419 : decode cL_law 419 = .ok (.iadd, 1) := by decide +kernel
theorem dL_law_420 : decode cL_law 420 = .ok (.iaload, 1) := by decide +kernel
theorem dL_law_421 : decode cL_law 421 = .ok (.invokevirtual 53, 3) := by decide +kernel
theorem dL_law_424 : decode cL_law 424 = .ok (.if_icmp .eq 466, 3) := by decide +kernel
theorem dL_law_427 : decode cL_law 427 = .ok (.iconst 0, 1) := by decide +kernel
theorem dL_law_428 : decode cL_law 428 = .ok (.ireturn, 1) := by decide +kernel
theorem dL_law_429 : decode cL_law 429 = .ok (.aload_n 1, 1) := by decide +kernel
theorem dL_law_430 : decode cL_law 430 = .ok (.aload_n 0, 1) := by decide +kernel
theorem dL_law_431 : decode cL_law 431 = .ok (.iload_n 3, 1) := by decide +kernel
theorem dL_law_432 : decode cL_law 432 = .ok (.iconst 1, 1) := by decide +kernel
theorem dL_law_433 : decode cL_law 433 = .ok (.iadd, 1) := by decide +kernel
theorem dL_law_434 : decode cL_law 434 = .ok (.iaload, 1) := by decide +kernel
theorem dL_law_435 : decode cL_law 435 = .ok (.invokevirtual 54, 3) := by decide +kernel
theorem dL_law_438 : decode cL_law 438 = .ok (.aload_n 2, 1) := by decide +kernel
theorem dL_law_439 : decode cL_law 439 = .ok (.aload_n 0, 1) := by decide +kernel
theorem dL_law_440 : decode cL_law 440 = .ok (.iload_n 3, 1) := by decide +kernel
theorem dL_law_441 : decode cL_law 441 = .ok (.iconst 1, 1) := by decide +kernel
theorem dL_law_442 : decode cL_law 442 = .ok (.iadd, 1) := by decide +kernel
theorem dL_law_443 : decode cL_law 443 = .ok (.iaload, 1) := by decide +kernel
theorem dL_law_444 : decode cL_law 444 = .ok (.invokevirtual 57, 3) := by decide +kernel
theorem dL_law_447 : decode cL_law 447 = .ok (.if_icmp .eq 443, 3) := by decide +kernel
theorem dL_law_450 : decode cL_law 450 = .ok (.iconst 0, 1) := by decide +kernel
theorem dL_law_451 : decode cL_law 451 = .ok (.ireturn, 1) := by decide +kernel
theorem dL_law_452 : decode cL_law 452 = .ok (.aload_n 1, 1) := by decide +kernel
theorem dL_law_453 : decode cL_law 453 = .ok (.aload_n 0, 1) := by decide +kernel
theorem dL_law_454 : decode cL_law 454 = .ok (.iload_n 3, 1) := by decide +kernel
theorem dL_law_455 : decode cL_law 455 = .ok (.iconst 1, 1) := by decide +kernel
theorem dL_law_456 : decode cL_law 456 = .ok (.iadd, 1) := by decide +kernel
theorem dL_law_457 : decode cL_law 457 = .ok (.iaload, 1) := by decide +kernel
theorem dL_law_458 : decode cL_law 458 = .ok (.aload_n 0, 1) := by decide +kernel
theorem dL_law_459 : decode cL_law 459 = .ok (.iload_n 3, 1) := by decide +kernel
theorem dL_law_460 : decode cL_law 460 = .ok (.iconst 2, 1) := by decide +kernel
theorem dL_law_461 : decode cL_law 461 = .ok (.iadd, 1) := by decide +kernel
theorem dL_law_462 : decode cL_law 462 = .ok (.iaload, 1) := by decide +kernel
theorem dL_law_463 : decode cL_law 463 = .ok (.invokevirtual 58, 3) := by decide +kernel
theorem dL_law_466 : decode cL_law 466 = .ok (.aload_n 2, 1) := by decide +kernel
theorem dL_law_467 : decode cL_law 467 = .ok (.aload_n 0, 1) := by decide +kernel
theorem dL_law_468 : decode cL_law 468 = .ok (.iload_n 3, 1) := by decide +kernel
theorem dL_law_469 : decode cL_law 469 = .ok (.iconst 1, 1) := by decide +kernel
theorem dL_law_470 : decode cL_law 470 = .ok (.iadd, 1) := by decide +kernel
theorem dL_law_471 : decode cL_law 471 = .ok (.iaload, 1) := by decide +kernel
theorem dL_law_472 : decode cL_law 472 = .ok (.aload_n 0, 1) := by decide +kernel
theorem dL_law_473 : decode cL_law 473 = .ok (.iload_n 3, 1) := by decide +kernel
theorem dL_law_474 : decode cL_law 474 = .ok (.iconst 2, 1) := by decide +kernel
theorem dL_law_475 : decode cL_law 475 = .ok (.iadd, 1) := by decide +kernel
theorem dL_law_476 : decode cL_law 476 = .ok (.iaload, 1) := by decide +kernel
theorem dL_law_477 : decode cL_law 477 = .ok (.invokevirtual 61, 3) := by decide +kernel
theorem dL_law_480 : decode cL_law 480 = .ok (.if_icmp .eq 410, 3) := by decide +kernel
theorem dL_law_483 : decode cL_law 483 = .ok (.iconst 0, 1) := by decide +kernel
theorem dL_law_484 : decode cL_law 484 = .ok (.ireturn, 1) := by decide +kernel
theorem dL_law_485 : decode cL_law 485 = .ok (.aload_n 1, 1) := by decide +kernel
theorem dL_law_486 : decode cL_law 486 = .ok (.aload_n 0, 1) := by decide +kernel
theorem dL_law_487 : decode cL_law 487 = .ok (.iload_n 3, 1) := by decide +kernel
theorem dL_law_488 : decode cL_law 488 = .ok (.iconst 1, 1) := by decide +kernel
theorem dL_law_489 : decode cL_law 489 = .ok (.iadd, 1) := by decide +kernel
theorem dL_law_490 : decode cL_law 490 = .ok (.iaload, 1) := by decide +kernel
theorem dL_law_491 : decode cL_law 491 = .ok (.aload_n 0, 1) := by decide +kernel
theorem dL_law_492 : decode cL_law 492 = .ok (.iload_n 3, 1) := by decide +kernel
theorem dL_law_493 : decode cL_law 493 = .ok (.iconst 2, 1) := by decide +kernel
theorem dL_law_494 : decode cL_law 494 = .ok (.iadd, 1) := by decide +kernel
theorem dL_law_495 : decode cL_law 495 = .ok (.iaload, 1) := by decide +kernel
theorem dL_law_496 : decode cL_law 496 = .ok (.aload_n 0, 1) := by decide +kernel
theorem dL_law_497 : decode cL_law 497 = .ok (.iload_n 3, 1) := by decide +kernel
theorem dL_law_498 : decode cL_law 498 = .ok (.iconst 3, 1) := by decide +kernel
theorem dL_law_499 : decode cL_law 499 = .ok (.iadd, 1) := by decide +kernel
theorem dL_law_500 : decode cL_law 500 = .ok (.iaload, 1) := by decide +kernel
theorem dL_law_501 : decode cL_law 501 = .ok (.aload_n 0, 1) := by decide +kernel
theorem dL_law_502 : decode cL_law 502 = .ok (.iload_n 3, 1) := by decide +kernel
theorem dL_law_503 : decode cL_law 503 = .ok (.iconst 4, 1) := by decide +kernel
theorem dL_law_504 : decode cL_law 504 = .ok (.iadd, 1) := by decide +kernel
theorem dL_law_505 : decode cL_law 505 = .ok (.iaload, 1) := by decide +kernel
theorem dL_law_506 : decode cL_law 506 = .ok (.aload_n 0, 1) := by decide +kernel
theorem dL_law_507 : decode cL_law 507 = .ok (.iload_n 3, 1) := by decide +kernel
theorem dL_law_508 : decode cL_law 508 = .ok (.iconst 5, 1) := by decide +kernel
theorem dL_law_509 : decode cL_law 509 = .ok (.iadd, 1) := by decide +kernel
theorem dL_law_510 : decode cL_law 510 = .ok (.iaload, 1) := by decide +kernel
theorem dL_law_511 : decode cL_law 511 = .ok (.invokevirtual 62, 3) := by decide +kernel
theorem dL_law_514 : decode cL_law 514 = .ok (.aload_n 2, 1) := by decide +kernel
theorem dL_law_515 : decode cL_law 515 = .ok (.aload_n 0, 1) := by decide +kernel
theorem dL_law_516 : decode cL_law 516 = .ok (.iload_n 3, 1) := by decide +kernel
theorem dL_law_517 : decode cL_law 517 = .ok (.iconst 1, 1) := by decide +kernel
theorem dL_law_518 : decode cL_law 518 = .ok (.iadd, 1) := by decide +kernel
theorem dL_law_519 : decode cL_law 519 = .ok (.iaload, 1) := by decide +kernel
theorem dL_law_520 : decode cL_law 520 = .ok (.aload_n 0, 1) := by decide +kernel
theorem dL_law_521 : decode cL_law 521 = .ok (.iload_n 3, 1) := by decide +kernel
theorem dL_law_522 : decode cL_law 522 = .ok (.iconst 2, 1) := by decide +kernel
theorem dL_law_523 : decode cL_law 523 = .ok (.iadd, 1) := by decide +kernel
theorem dL_law_524 : decode cL_law 524 = .ok (.iaload, 1) := by decide +kernel
theorem dL_law_525 : decode cL_law 525 = .ok (.aload_n 0, 1) := by decide +kernel
theorem dL_law_526 : decode cL_law 526 = .ok (.iload_n 3, 1) := by decide +kernel
theorem dL_law_527 : decode cL_law 527 = .ok (.iconst 3, 1) := by decide +kernel
theorem dL_law_528 : decode cL_law 528 = .ok (.iadd, 1) := by decide +kernel
theorem dL_law_529 : decode cL_law 529 = .ok (.iaload, 1) := by decide +kernel
theorem dL_law_530 : decode cL_law 530 = .ok (.aload_n 0, 1) := by decide +kernel
theorem dL_law_531 : decode cL_law 531 = .ok (.iload_n 3, 1) := by decide +kernel
theorem dL_law_532 : decode cL_law 532 = .ok (.iconst 4, 1) := by decide +kernel
theorem dL_law_533 : decode cL_law 533 = .ok (.iadd, 1) := by decide +kernel
theorem dL_law_534 : decode cL_law 534 = .ok (.iaload, 1) := by decide +kernel
theorem dL_law_535 : decode cL_law 535 = .ok (.aload_n 0, 1) := by decide +kernel
theorem dL_law_536 : decode cL_law 536 = .ok (.iload_n 3, 1) := by decide +kernel
theorem dL_law_537 : decode cL_law 537 = .ok (.iconst 5, 1) := by decide +kernel
theorem dL_law_538 : decode cL_law 538 = .ok (.iadd, 1) := by decide +kernel
theorem dL_law_539 : decode cL_law 539 = .ok (.iaload, 1) := by decide +kernel
theorem dL_law_540 : decode cL_law 540 = .ok (.invokevirtual 66, 3) := by decide +kernel
theorem dL_law_543 : decode cL_law 543 = .ok (.if_icmp .eq 347, 3) := by decide +kernel
theorem dL_law_546 : decode cL_law 546 = .ok (.iconst 0, 1) := by decide +kernel
theorem dL_law_547 : decode cL_law 547 = .ok (.ireturn, 1) := by decide +kernel
theorem dL_law_548 : decode cL_law 548 = .ok (.aload_n 1, 1) := by decide +kernel
theorem dL_law_549 : decode cL_law 549 = .ok (.aload_n 0, 1) := by decide +kernel
theorem dL_law_550 : decode cL_law 550 = .ok (.iload_n 3, 1) := by decide +kernel
theorem dL_law_551 : decode cL_law 551 = .ok (.iconst 1, 1) := by decide +kernel
theorem dL_law_552 : decode cL_law 552 = .ok (.iadd, 1) := by decide +kernel
theorem dL_law_553 : decode cL_law 553 = .ok (.iaload, 1) := by decide +kernel
theorem dL_law_554 : decode cL_law 554 = .ok (.aload_n 0, 1) := by decide +kernel
theorem dL_law_555 : decode cL_law 555 = .ok (.iload_n 3, 1) := by decide +kernel
theorem dL_law_556 : decode cL_law 556 = .ok (.iconst 2, 1) := by decide +kernel
theorem dL_law_557 : decode cL_law 557 = .ok (.iadd, 1) := by decide +kernel
theorem dL_law_558 : decode cL_law 558 = .ok (.iaload, 1) := by decide +kernel
theorem dL_law_559 : decode cL_law 559 = .ok (.aload_n 0, 1) := by decide +kernel
theorem dL_law_560 : decode cL_law 560 = .ok (.iload_n 3, 1) := by decide +kernel
theorem dL_law_561 : decode cL_law 561 = .ok (.iconst 3, 1) := by decide +kernel
theorem dL_law_562 : decode cL_law 562 = .ok (.iadd, 1) := by decide +kernel
theorem dL_law_563 : decode cL_law 563 = .ok (.iaload, 1) := by decide +kernel
theorem dL_law_564 : decode cL_law 564 = .ok (.invokevirtual 67, 3) := by decide +kernel
theorem dL_law_567 : decode cL_law 567 = .ok (.aload_n 2, 1) := by decide +kernel
theorem dL_law_568 : decode cL_law 568 = .ok (.aload_n 0, 1) := by decide +kernel
theorem dL_law_569 : decode cL_law 569 = .ok (.iload_n 3, 1) := by decide +kernel
theorem dL_law_570 : decode cL_law 570 = .ok (.iconst 1, 1) := by decide +kernel
theorem dL_law_571 : decode cL_law 571 = .ok (.iadd, 1) := by decide +kernel
theorem dL_law_572 : decode cL_law 572 = .ok (.iaload, 1) := by decide +kernel
theorem dL_law_573 : decode cL_law 573 = .ok (.aload_n 0, 1) := by decide +kernel
theorem dL_law_574 : decode cL_law 574 = .ok (.iload_n 3, 1) := by decide +kernel
theorem dL_law_575 : decode cL_law 575 = .ok (.iconst 2, 1) := by decide +kernel
theorem dL_law_576 : decode cL_law 576 = .ok (.iadd, 1) := by decide +kernel
theorem dL_law_577 : decode cL_law 577 = .ok (.iaload, 1) := by decide +kernel
theorem dL_law_578 : decode cL_law 578 = .ok (.aload_n 0, 1) := by decide +kernel
theorem dL_law_579 : decode cL_law 579 = .ok (.iload_n 3, 1) := by decide +kernel
theorem dL_law_580 : decode cL_law 580 = .ok (.iconst 3, 1) := by decide +kernel
theorem dL_law_581 : decode cL_law 581 = .ok (.iadd, 1) := by decide +kernel
theorem dL_law_582 : decode cL_law 582 = .ok (.iaload, 1) := by decide +kernel
theorem dL_law_583 : decode cL_law 583 = .ok (.invokevirtual 71, 3) := by decide +kernel
theorem dL_law_586 : decode cL_law 586 = .ok (.if_icmp .eq 304, 3) := by decide +kernel
theorem dL_law_589 : decode cL_law 589 = .ok (.iconst 0, 1) := by decide +kernel
theorem dL_law_590 : decode cL_law 590 = .ok (.ireturn, 1) := by decide +kernel
theorem dL_law_591 : decode cL_law 591 = .ok (.aload_n 1, 1) := by decide +kernel
theorem dL_law_592 : decode cL_law 592 = .ok (.aload_n 0, 1) := by decide +kernel
theorem dL_law_593 : decode cL_law 593 = .ok (.iload_n 3, 1) := by decide +kernel
theorem dL_law_594 : decode cL_law 594 = .ok (.iconst 1, 1) := by decide +kernel
theorem dL_law_595 : decode cL_law 595 = .ok (.iadd, 1) := by decide +kernel
theorem dL_law_596 : decode cL_law 596 = .ok (.iaload, 1) := by decide +kernel
theorem dL_law_597 : decode cL_law 597 = .ok (.aload_n 0, 1) := by decide +kernel
theorem dL_law_598 : decode cL_law 598 = .ok (.iload_n 3, 1) := by decide +kernel
theorem dL_law_599 : decode cL_law 599 = .ok (.iconst 2, 1) := by decide +kernel
theorem dL_law_600 : decode cL_law 600 = .ok (.iadd, 1) := by decide +kernel
theorem dL_law_601 : decode cL_law 601 = .ok (.iaload, 1) := by decide +kernel
theorem dL_law_602 : decode cL_law 602 = .ok (.ifCond .eq 7, 3) := by decide +kernel
theorem dL_law_605 : decode cL_law 605 = .ok (.iconst 1, 1) := by decide +kernel
theorem dL_law_606 : decode cL_law 606 = .ok (.goto 4, 3) := by decide +kernel
theorem dL_law_609 : decode cL_law 609 = .ok (.iconst 0, 1) := by decide +kernel
theorem dL_law_610 : decode cL_law 610 = .ok (.aload_n 0, 1) := by decide +kernel
theorem dL_law_611 : decode cL_law 611 = .ok (.iload_n 3, 1) := by decide +kernel
theorem dL_law_612 : decode cL_law 612 = .ok (.iconst 3, 1) := by decide +kernel
theorem dL_law_613 : decode cL_law 613 = .ok (.iadd, 1) := by decide +kernel
theorem dL_law_614 : decode cL_law 614 = .ok (.iaload, 1) := by decide +kernel
theorem dL_law_615 : decode cL_law 615 = .ok (.ifCond .eq 7, 3) := by decide +kernel
theorem dL_law_618 : decode cL_law 618 = .ok (.iconst 1, 1) := by decide +kernel
theorem dL_law_619 : decode cL_law 619 = .ok (.goto 4, 3) := by decide +kernel
theorem dL_law_622 : decode cL_law 622 = .ok (.iconst 0, 1) := by decide +kernel
theorem dL_law_623 : decode cL_law 623 = .ok (.invokevirtual 72, 3) := by decide +kernel
theorem dL_law_626 : decode cL_law 626 = .ok (.aload_n 2, 1) := by decide +kernel
theorem dL_law_627 : decode cL_law 627 = .ok (.aload_n 0, 1) := by decide +kernel
theorem dL_law_628 : decode cL_law 628 = .ok (.iload_n 3, 1) := by decide +kernel
theorem dL_law_629 : decode cL_law 629 = .ok (.iconst 1, 1) := by decide +kernel
theorem dL_law_630 : decode cL_law 630 = .ok (.iadd, 1) := by decide +kernel
theorem dL_law_631 : decode cL_law 631 = .ok (.iaload, 1) := by decide +kernel
theorem dL_law_632 : decode cL_law 632 = .ok (.aload_n 0, 1) := by decide +kernel
theorem dL_law_633 : decode cL_law 633 = .ok (.iload_n 3, 1) := by decide +kernel
theorem dL_law_634 : decode cL_law 634 = .ok (.iconst 2, 1) := by decide +kernel
theorem dL_law_635 : decode cL_law 635 = .ok (.iadd, 1) := by decide +kernel
theorem dL_law_636 : decode cL_law 636 = .ok (.iaload, 1) := by decide +kernel
theorem dL_law_637 : decode cL_law 637 = .ok (.ifCond .eq 7, 3) := by decide +kernel
theorem dL_law_640 : decode cL_law 640 = .ok (.iconst 1, 1) := by decide +kernel
theorem dL_law_641 : decode cL_law 641 = .ok (.goto 4, 3) := by decide +kernel
theorem dL_law_644 : decode cL_law 644 = .ok (.iconst 0, 1) := by decide +kernel
theorem dL_law_645 : decode cL_law 645 = .ok (.aload_n 0, 1) := by decide +kernel
theorem dL_law_646 : decode cL_law 646 = .ok (.iload_n 3, 1) := by decide +kernel
theorem dL_law_647 : decode cL_law 647 = .ok (.iconst 3, 1) := by decide +kernel
theorem dL_law_648 : decode cL_law 648 = .ok (.iadd, 1) := by decide +kernel
theorem dL_law_649 : decode cL_law 649 = .ok (.iaload, 1) := by decide +kernel
theorem dL_law_650 : decode cL_law 650 = .ok (.ifCond .eq 7, 3) := by decide +kernel
theorem dL_law_653 : decode cL_law 653 = .ok (.iconst 1, 1) := by decide +kernel
theorem dL_law_654 : decode cL_law 654 = .ok (.goto 4, 3) := by decide +kernel
theorem dL_law_657 : decode cL_law 657 = .ok (.iconst 0, 1) := by decide +kernel
theorem dL_law_658 : decode cL_law 658 = .ok (.invokevirtual 76, 3) := by decide +kernel
theorem dL_law_661 : decode cL_law 661 = .ok (.if_icmp .eq 229, 3) := by decide +kernel
theorem dL_law_664 : decode cL_law 664 = .ok (.iconst 0, 1) := by decide +kernel
theorem dL_law_665 : decode cL_law 665 = .ok (.ireturn, 1) := by decide +kernel
theorem dL_law_666 : decode cL_law 666 = .ok (.aload_n 1, 1) := by decide +kernel
theorem dL_law_667 : decode cL_law 667 = .ok (.invokevirtual 77, 3) := by decide +kernel
theorem dL_law_670 : decode cL_law 670 = .ok (.aload_n 2, 1) := by decide +kernel
theorem dL_law_671 : decode cL_law 671 = .ok (.invokevirtual 81, 3) := by decide +kernel
theorem dL_law_674 : decode cL_law 674 = .ok (.if_icmp .eq 216, 3) := by decide +kernel
theorem dL_law_677 : decode cL_law 677 = .ok (.iconst 0, 1) := by decide +kernel
theorem dL_law_678 : decode cL_law 678 = .ok (.ireturn, 1) := by decide +kernel
theorem dL_law_679 : decode cL_law 679 = .ok (.aload_n 1, 1) := by decide +kernel
theorem dL_law_680 : decode cL_law 680 = .ok (.aload_n 0, 1) := by decide +kernel
theorem dL_law_681 : decode cL_law 681 = .ok (.iload_n 3, 1) := by decide +kernel
theorem dL_law_682 : decode cL_law 682 = .ok (.iconst 1, 1) := by decide +kernel
theorem dL_law_683 : decode cL_law 683 = .ok (.iadd, 1) := by decide +kernel
theorem dL_law_684 : decode cL_law 684 = .ok (.iaload, 1) := by decide +kernel
theorem dL_law_685 : decode cL_law 685 = .ok (.invokevirtual 82, 3) := by decide +kernel
theorem dL_law_688 : decode cL_law 688 = .ok (.aload_n 2, 1) := by decide +kernel
theorem dL_law_689 : decode cL_law 689 = .ok (.aload_n 0, 1) := by decide +kernel
theorem dL_law_690 : decode cL_law 690 = .ok (.iload_n 3, 1) := by decide +kernel
theorem dL_law_691 : decode cL_law 691 = .ok (.iconst 1, 1) := by decide +kernel
theorem dL_law_692 : decode cL_law 692 = .ok (.iadd, 1) := by decide +kernel
theorem dL_law_693 : decode cL_law 693 = .ok (.iaload, 1) := by decide +kernel
theorem dL_law_694 : decode cL_law 694 = .ok (.invokevirtual 85, 3) := by decide +kernel
theorem dL_law_697 : decode cL_law 697 = .ok (.if_icmp .eq 193, 3) := by decide +kernel
theorem dL_law_700 : decode cL_law 700 = .ok (.iconst 0, 1) := by decide +kernel
theorem dL_law_701 : decode cL_law 701 = .ok (.ireturn, 1) := by decide +kernel
theorem dL_law_702 : decode cL_law 702 = .ok (.aload_n 1, 1) := by decide +kernel
theorem dL_law_703 : decode cL_law 703 = .ok (.aload_n 0, 1) := by decide +kernel
theorem dL_law_704 : decode cL_law 704 = .ok (.iload_n 3, 1) := by decide +kernel
theorem dL_law_705 : decode cL_law 705 = .ok (.iconst 1, 1) := by decide +kernel
theorem dL_law_706 : decode cL_law 706 = .ok (.iadd, 1) := by decide +kernel
theorem dL_law_707 : decode cL_law 707 = .ok (.iaload, 1) := by decide +kernel
theorem dL_law_708 : decode cL_law 708 = .ok (.aload_n 0, 1) := by decide +kernel
theorem dL_law_709 : decode cL_law 709 = .ok (.iload_n 3, 1) := by decide +kernel
theorem dL_law_710 : decode cL_law 710 = .ok (.iconst 2, 1) := by decide +kernel
theorem dL_law_711 : decode cL_law 711 = .ok (.iadd, 1) := by decide +kernel
theorem dL_law_712 : decode cL_law 712 = .ok (.iaload, 1) := by decide +kernel
theorem dL_law_713 : decode cL_law 713 = .ok (.aload_n 0, 1) := by decide +kernel
theorem dL_law_714 : decode cL_law 714 = .ok (.iload_n 3, 1) := by decide +kernel
theorem dL_law_715 : decode cL_law 715 = .ok (.iconst 3, 1) := by decide +kernel
theorem dL_law_716 : decode cL_law 716 = .ok (.iadd, 1) := by decide +kernel
theorem dL_law_717 : decode cL_law 717 = .ok (.iaload, 1) := by decide +kernel
theorem dL_law_718 : decode cL_law 718 = .ok (.invokevirtual 86, 3) := by decide +kernel
theorem dL_law_721 : decode cL_law 721 = .ok (.aload_n 2, 1) := by decide +kernel
theorem dL_law_722 : decode cL_law 722 = .ok (.aload_n 0, 1) := by decide +kernel
theorem dL_law_723 : decode cL_law 723 = .ok (.iload_n 3, 1) := by decide +kernel
theorem dL_law_724 : decode cL_law 724 = .ok (.iconst 1, 1) := by decide +kernel
theorem dL_law_725 : decode cL_law 725 = .ok (.iadd, 1) := by decide +kernel
theorem dL_law_726 : decode cL_law 726 = .ok (.iaload, 1) := by decide +kernel
theorem dL_law_727 : decode cL_law 727 = .ok (.aload_n 0, 1) := by decide +kernel
theorem dL_law_728 : decode cL_law 728 = .ok (.iload_n 3, 1) := by decide +kernel
theorem dL_law_729 : decode cL_law 729 = .ok (.iconst 2, 1) := by decide +kernel
theorem dL_law_730 : decode cL_law 730 = .ok (.iadd, 1) := by decide +kernel
theorem dL_law_731 : decode cL_law 731 = .ok (.iaload, 1) := by decide +kernel
theorem dL_law_732 : decode cL_law 732 = .ok (.aload_n 0, 1) := by decide +kernel
theorem dL_law_733 : decode cL_law 733 = .ok (.iload_n 3, 1) := by decide +kernel
theorem dL_law_734 : decode cL_law 734 = .ok (.iconst 3, 1) := by decide +kernel
theorem dL_law_735 : decode cL_law 735 = .ok (.iadd, 1) := by decide +kernel
theorem dL_law_736 : decode cL_law 736 = .ok (.iaload, 1) := by decide +kernel
theorem dL_law_737 : decode cL_law 737 = .ok (.invokevirtual 89, 3) := by decide +kernel
theorem dL_law_740 : decode cL_law 740 = .ok (.if_icmp .eq 150, 3) := by decide +kernel
theorem dL_law_743 : decode cL_law 743 = .ok (.iconst 0, 1) := by decide +kernel
theorem dL_law_744 : decode cL_law 744 = .ok (.ireturn, 1) := by decide +kernel
theorem dL_law_745 : decode cL_law 745 = .ok (.aload_n 1, 1) := by decide +kernel
theorem dL_law_746 : decode cL_law 746 = .ok (.aload_n 0, 1) := by decide +kernel
theorem dL_law_747 : decode cL_law 747 = .ok (.iload_n 3, 1) := by decide +kernel
theorem dL_law_748 : decode cL_law 748 = .ok (.iconst 1, 1) := by decide +kernel
theorem dL_law_749 : decode cL_law 749 = .ok (.iadd, 1) := by decide +kernel
theorem dL_law_750 : decode cL_law 750 = .ok (.iaload, 1) := by decide +kernel
theorem dL_law_751 : decode cL_law 751 = .ok (.aload_n 0, 1) := by decide +kernel
theorem dL_law_752 : decode cL_law 752 = .ok (.iload_n 3, 1) := by decide +kernel
theorem dL_law_753 : decode cL_law 753 = .ok (.iconst 2, 1) := by decide +kernel
theorem dL_law_754 : decode cL_law 754 = .ok (.iadd, 1) := by decide +kernel
theorem dL_law_755 : decode cL_law 755 = .ok (.iaload, 1) := by decide +kernel
theorem dL_law_756 : decode cL_law 756 = .ok (.invokevirtual 90, 3) := by decide +kernel
theorem dL_law_759 : decode cL_law 759 = .ok (.aload_n 2, 1) := by decide +kernel
theorem dL_law_760 : decode cL_law 760 = .ok (.aload_n 0, 1) := by decide +kernel
theorem dL_law_761 : decode cL_law 761 = .ok (.iload_n 3, 1) := by decide +kernel
theorem dL_law_762 : decode cL_law 762 = .ok (.iconst 1, 1) := by decide +kernel
theorem dL_law_763 : decode cL_law 763 = .ok (.iadd, 1) := by decide +kernel
theorem dL_law_764 : decode cL_law 764 = .ok (.iaload, 1) := by decide +kernel
theorem dL_law_765 : decode cL_law 765 = .ok (.aload_n 0, 1) := by decide +kernel
theorem dL_law_766 : decode cL_law 766 = .ok (.iload_n 3, 1) := by decide +kernel
theorem dL_law_767 : decode cL_law 767 = .ok (.iconst 2, 1) := by decide +kernel
theorem dL_law_768 : decode cL_law 768 = .ok (.iadd, 1) := by decide +kernel
theorem dL_law_769 : decode cL_law 769 = .ok (.iaload, 1) := by decide +kernel
theorem dL_law_770 : decode cL_law 770 = .ok (.invokevirtual 93, 3) := by decide +kernel
theorem dL_law_773 : decode cL_law 773 = .ok (.if_icmp .eq 117, 3) := by decide +kernel
theorem dL_law_776 : decode cL_law 776 = .ok (.iconst 0, 1) := by decide +kernel
theorem dL_law_777 : decode cL_law 777 = .ok (.ireturn, 1) := by decide +kernel
theorem dL_law_778 : decode cL_law 778 = .ok (.aload_n 1, 1) := by decide +kernel
theorem dL_law_779 : decode cL_law 779 = .ok (.aload_n 0, 1) := by decide +kernel
theorem dL_law_780 : decode cL_law 780 = .ok (.iload_n 3, 1) := by decide +kernel
theorem dL_law_781 : decode cL_law 781 = .ok (.iconst 1, 1) := by decide +kernel
theorem dL_law_782 : decode cL_law 782 = .ok (.iadd, 1) := by decide +kernel
theorem dL_law_783 : decode cL_law 783 = .ok (.iaload, 1) := by decide +kernel
theorem dL_law_784 : decode cL_law 784 = .ok (.aload_n 0, 1) := by decide +kernel
theorem dL_law_785 : decode cL_law 785 = .ok (.iload_n 3, 1) := by decide +kernel
theorem dL_law_786 : decode cL_law 786 = .ok (.iconst 2, 1) := by decide +kernel
theorem dL_law_787 : decode cL_law 787 = .ok (.iadd, 1) := by decide +kernel
theorem dL_law_788 : decode cL_law 788 = .ok (.iaload, 1) := by decide +kernel
theorem dL_law_789 : decode cL_law 789 = .ok (.aload_n 0, 1) := by decide +kernel
theorem dL_law_790 : decode cL_law 790 = .ok (.iload_n 3, 1) := by decide +kernel
theorem dL_law_791 : decode cL_law 791 = .ok (.iconst 3, 1) := by decide +kernel
theorem dL_law_792 : decode cL_law 792 = .ok (.iadd, 1) := by decide +kernel
theorem dL_law_793 : decode cL_law 793 = .ok (.iaload, 1) := by decide +kernel
theorem dL_law_794 : decode cL_law 794 = .ok (.invokevirtual 94, 3) := by decide +kernel
theorem dL_law_797 : decode cL_law 797 = .ok (.aload_n 2, 1) := by decide +kernel
theorem dL_law_798 : decode cL_law 798 = .ok (.aload_n 0, 1) := by decide +kernel
theorem dL_law_799 : decode cL_law 799 = .ok (.iload_n 3, 1) := by decide +kernel
theorem dL_law_800 : decode cL_law 800 = .ok (.iconst 1, 1) := by decide +kernel
theorem dL_law_801 : decode cL_law 801 = .ok (.iadd, 1) := by decide +kernel
theorem dL_law_802 : decode cL_law 802 = .ok (.iaload, 1) := by decide +kernel
theorem dL_law_803 : decode cL_law 803 = .ok (.aload_n 0, 1) := by decide +kernel
theorem dL_law_804 : decode cL_law 804 = .ok (.iload_n 3, 1) := by decide +kernel
theorem dL_law_805 : decode cL_law 805 = .ok (.iconst 2, 1) := by decide +kernel
theorem dL_law_806 : decode cL_law 806 = .ok (.iadd, 1) := by decide +kernel
theorem dL_law_807 : decode cL_law 807 = .ok (.iaload, 1) := by decide +kernel
theorem dL_law_808 : decode cL_law 808 = .ok (.aload_n 0, 1) := by decide +kernel
theorem dL_law_809 : decode cL_law 809 = .ok (.iload_n 3, 1) := by decide +kernel
theorem dL_law_810 : decode cL_law 810 = .ok (.iconst 3, 1) := by decide +kernel
theorem dL_law_811 : decode cL_law 811 = .ok (.iadd, 1) := by decide +kernel
theorem dL_law_812 : decode cL_law 812 = .ok (.iaload, 1) := by decide +kernel
theorem dL_law_813 : decode cL_law 813 = .ok (.invokevirtual 97, 3) := by decide +kernel
theorem dL_law_816 : decode cL_law 816 = .ok (.if_icmp .eq 74, 3) := by decide +kernel
theorem dL_law_819 : decode cL_law 819 = .ok (.iconst 0, 1) := by decide +kernel
theorem dL_law_820 : decode cL_law 820 = .ok (.ireturn, 1) := by decide +kernel
theorem dL_law_821 : decode cL_law 821 = .ok (.aload_n 1, 1) := by decide +kernel
theorem dL_law_822 : decode cL_law 822 = .ok (.aload_n 0, 1) := by decide +kernel
theorem dL_law_823 : decode cL_law 823 = .ok (.iload_n 3, 1) := by decide +kernel
theorem dL_law_824 : decode cL_law 824 = .ok (.iconst 1, 1) := by decide +kernel
theorem dL_law_825 : decode cL_law 825 = .ok (.iadd, 1) := by decide +kernel
theorem dL_law_826 : decode cL_law 826 = .ok (.iaload, 1) := by decide +kernel
theorem dL_law_827 : decode cL_law 827 = .ok (.invokevirtual 98, 3) := by decide +kernel
theorem dL_law_830 : decode cL_law 830 = .ok (.aload_n 2, 1) := by decide +kernel
theorem dL_law_831 : decode cL_law 831 = .ok (.aload_n 0, 1) := by decide +kernel
theorem dL_law_832 : decode cL_law 832 = .ok (.iload_n 3, 1) := by decide +kernel
theorem dL_law_833 : decode cL_law 833 = .ok (.iconst 1, 1) := by decide +kernel
theorem dL_law_834 : decode cL_law 834 = .ok (.iadd, 1) := by decide +kernel
theorem dL_law_835 : decode cL_law 835 = .ok (.iaload, 1) := by decide +kernel
theorem dL_law_836 : decode cL_law 836 = .ok (.invokevirtual 101, 3) := by decide +kernel
theorem dL_law_839 : decode cL_law 839 = .ok (.if_icmp .eq 51, 3) := by decide +kernel
theorem dL_law_842 : decode cL_law 842 = .ok (.iconst 0, 1) := by decide +kernel
theorem dL_law_843 : decode cL_law 843 = .ok (.ireturn, 1) := by decide +kernel
theorem dL_law_844 : decode cL_law 844 = .ok (.aload_n 1, 1) := by decide +kernel
theorem dL_law_845 : decode cL_law 845 = .ok (.aload_n 0, 1) := by decide +kernel
theorem dL_law_846 : decode cL_law 846 = .ok (.iload_n 3, 1) := by decide +kernel
theorem dL_law_847 : decode cL_law 847 = .ok (.iconst 1, 1) := by decide +kernel
theorem dL_law_848 : decode cL_law 848 = .ok (.iadd, 1) := by decide +kernel
theorem dL_law_849 : decode cL_law 849 = .ok (.iaload, 1) := by decide +kernel
theorem dL_law_850 : decode cL_law 850 = .ok (.invokevirtual 102, 3) := by decide +kernel
theorem dL_law_853 : decode cL_law 853 = .ok (.aload_n 2, 1) := by decide +kernel
theorem dL_law_854 : decode cL_law 854 = .ok (.aload_n 0, 1) := by decide +kernel
theorem dL_law_855 : decode cL_law 855 = .ok (.iload_n 3, 1) := by decide +kernel
theorem dL_law_856 : decode cL_law 856 = .ok (.iconst 1, 1) := by decide +kernel
theorem dL_law_857 : decode cL_law 857 = .ok (.iadd, 1) := by decide +kernel
theorem dL_law_858 : decode cL_law 858 = .ok (.iaload, 1) := by decide +kernel
theorem dL_law_859 : decode cL_law 859 = .ok (.invokevirtual 106, 3) := by decide +kernel
theorem dL_law_862 : decode cL_law 862 = .ok (.if_icmp .eq 28, 3) := by decide +kernel
theorem dL_law_865 : decode cL_law 865 = .ok (.iconst 0, 1) := by decide +kernel
theorem dL_law_866 : decode cL_law 866 = .ok (.ireturn, 1) := by decide +kernel
theorem dL_law_867 : decode cL_law 867 = .ok (.aload_n 1, 1) := by decide +kernel
theorem dL_law_868 : decode cL_law 868 = .ok (.aload_n 0, 1) := by decide +kernel
theorem dL_law_869 : decode cL_law 869 = .ok (.iload_n 3, 1) := by decide +kernel
theorem dL_law_870 : decode cL_law 870 = .ok (.iconst 1, 1) := by decide +kernel
theorem dL_law_871 : decode cL_law 871 = .ok (.iadd, 1) := by decide +kernel
theorem dL_law_872 : decode cL_law 872 = .ok (.iaload, 1) := by decide +kernel
theorem dL_law_873 : decode cL_law 873 = .ok (.invokevirtual 107, 3) := by decide +kernel
theorem dL_law_876 : decode cL_law 876 = .ok (.aload_n 2, 1) := by decide +kernel
theorem dL_law_877 : decode cL_law 877 = .ok (.aload_n 0, 1) := by decide +kernel
theorem dL_law_878 : decode cL_law 878 = .ok (.iload_n 3, 1) := by decide +kernel
theorem dL_law_879 : decode cL_law 879 = .ok (.iconst 1, 1) := by decide +kernel
theorem dL_law_880 : decode cL_law 880 = .ok (.iadd, 1) := by decide +kernel
theorem dL_law_881 : decode cL_law 881 = .ok (.iaload, 1) := by decide +kernel
theorem dL_law_882 : decode cL_law 882 = .ok (.invokevirtual 110, 3) := by decide +kernel
theorem dL_law_885 : decode cL_law 885 = .ok (.if_icmp .eq 5, 3) := by decide +kernel
theorem dL_law_888 : decode cL_law 888 = .ok (.iconst 0, 1) := by decide +kernel
theorem dL_law_889 : decode cL_law 889 = .ok (.ireturn, 1) := by decide +kernel
theorem dL_law_890 : decode cL_law 890 = .ok (.iinc 3 6, 3) := by decide +kernel
theorem dL_law_893 : decode cL_law 893 = .ok (.goto (-875), 3) := by decide +kernel
theorem dL_law_896 : decode cL_law 896 = .ok (.iconst 1, 1) := by decide +kernel
theorem dL_law_897 : decode cL_law 897 = .ok (.ireturn, 1) := by decide +kernel
