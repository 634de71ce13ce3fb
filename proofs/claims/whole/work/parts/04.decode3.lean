theorem dX10_common_23 : decode cX10_common 23 = .ok (.invokevirtual 118, 3) := by decide +kernel
theorem dX10_common_26 : decode cX10_common 26 = .ok (.ireturn, 1) := by decide +kernel
theorem dX10_common_27 : decode cX10_common 27 = .ok (.aload_n 0, 1) := by decide +kernel
theorem dX10_common_28 : decode cX10_common 28 = .ok (.getfield 158, 3) := by decide +kernel
theorem dX10_common_31 : decode cX10_common 31 = .ok (.bipush 40, 2) := by decide +kernel
theorem dX10_common_33 : decode cX10_common 33 = .ok (.if_icmp .ne 9, 3) := by decide +kernel
theorem dX10_common_36 : decode cX10_common 36 = .ok (.aload_n 0, 1) := by decide +kernel
theorem dX10_common_37 : decode cX10_common 37 = .ok (.iconst 2, 1) := by decide +kernel
theorem dX10_common_38 : decode cX10_common 38 = .ok (.invokevirtual 118, 3) := by decide +kernel
theorem dX10_common_41 : decode cX10_common 41 = .ok (.ireturn, 1) := by decide +kernel
theorem dX10_common_42 : decode cX10_common 42 = .ok (.aload_n 0, 1) := by decide +kernel
theorem dX10_common_43 : decode cX10_common 43 = .ok (.aload_n 0, 1) := by decide +kernel
theorem dX10_common_44 : decode cX10_common 44 = .ok (.getfield 42, 3) := by decide +kernel
theorem dX10_common_47 : decode cX10_common 47 = .ok (.iload_n 1, 1) := by decide +kernel
theorem dX10_common_48 : decode cX10_common 48 = .ok (.invokevirtual 185, 3) := by decide +kernel
theorem dX10_common_51 : decode cX10_common 51 = .ok (.aload_n 0, 1) := by decide +kernel
theorem dX10_common_52 : decode cX10_common 52 = .ok (.aload_n 0, 1) := by decide +kernel
theorem dX10_common_53 : decode cX10_common 53 = .ok (.getfield 45, 3) := by decide +kernel
theorem dX10_common_56 : decode cX10_common 56 = .ok (.iload_n 2, 1) := by decide +kernel
theorem dX10_common_57 : decode cX10_common 57 = .ok (.invokevirtual 185, 3) := by decide +kernel
theorem dX10_common_60 : decode cX10_common 60 = .ok (.aload_n 0, 1) := by decide +kernel
theorem dX10_common_61 : decode cX10_common 61 = .ok (.aload_n 0, 1) := by decide +kernel
theorem dX10_common_62 : decode cX10_common 62 = .ok (.getfield 42, 3) := by decide +kernel
theorem dX10_common_65 : decode cX10_common 65 = .ok (.aload_n 0, 1) := by decide +kernel
theorem dX10_common_66 : decode cX10_common 66 = .ok (.getfield 45, 3) := by decide +kernel
theorem dX10_common_69 : decode cX10_common 69 = .ok (.invokevirtual 196, 3) := by decide +kernel
theorem dX10_common_72 : decode cX10_common 72 = .ok (.aload_n 0, 1) := by decide +kernel
theorem dX10_common_73 : decode cX10_common 73 = .ok (.aload_n 0, 1) := by decide +kernel
theorem dX10_common_74 : decode cX10_common 74 = .ok (.getfield 42, 3) := by decide +kernel
theorem dX10_common_77 : decode cX10_common 77 = .ok (.invokevirtual 169, 3) := by decide +kernel
theorem dX10_common_80 : decode cX10_common 80 = .ok (.ireturn, 1) := by decide +kernel
theorem dX10_root_0 : decode cX10_root 0 = .ok (.aload_n 0, 1) := by decide +kernel
theorem dX10_root_1 : decode cX10_root 1 = .ok (.iconst 0, 1) := by decide +kernel
theorem dX10_root_2 : decode cX10_root 2 = .ok (.putfield 1, 3) := by decide +kernel
theorem dX10_root_5 : decode cX10_root 5 = .ok (.aload_n 0, 1) := by decide +kernel
theorem dX10_root_6 : decode cX10_root 6 = .ok (.iload_n 1, 1) := by decide +kernel
theorem dX10_root_7 : decode cX10_root 7 = .ok (.invokevirtual 182, 3) := by decide +kernel
theorem dX10_root_10 : decode cX10_root 10 = .ok (.ifCond .eq 7, 3) := by decide +kernel
theorem dX10_root_13 : decode cX10_root 13 = .ok (.iload_n 2, 1) := by decide +kernel
theorem dX10_root_14 : decode cX10_root 14 = .ok (.ifCond .ge 9, 3) := by decide +kernel
theorem dX10_root_17 : decode cX10_root 17 = .ok (.aload_n 0, 1) := by decide +kernel
theorem dX10_root_18 : decode cX10_root 18 = .ok (.iconst 1, 1) := by decide +kernel
theorem dX10_root_19 : decode cX10_root 19 = .ok (.invokevirtual 118, 3) := by decide +kernel
theorem dX10_root_22 : decode cX10_root 22 = .ok (.ireturn, 1) := by decide +kernel
theorem dX10_root_23 : decode cX10_root 23 = .ok (.aload_n 0, 1) := by decide +kernel
theorem dX10_root_24 : decode cX10_root 24 = .ok (.getfield 36, 3) := by decide +kernel
theorem dX10_root_27 : decode cX10_root 27 = .ok (.iload_n 1, 1) := by decide +kernel
theorem dX10_root_28 : decode cX10_root 28 = .ok (.iaload, 1) := by decide +kernel
theorem dX10_root_29 : decode cX10_root 29 = .ok (.iconst (-1), 1) := by decide +kernel
theorem dX10_root_30 : decode cX10_root 30 = .ok (.if_icmp .ne 17, 3) := by decide +kernel
theorem dX10_root_33 : decode cX10_root 33 = .ok (.iload_n 2, 1) := by decide +kernel
theorem dX10_root_34 : decode cX10_root 34 = .ok (.aload_n 0, 1) := by decide +kernel
theorem dX10_root_35 : decode cX10_root 35 = .ok (.getfield 78, 3) := by decide +kernel
theorem dX10_root_38 : decode cX10_root 38 = .ok (.if_icmp .ge 7, 3) := by decide +kernel
theorem dX10_root_41 : decode cX10_root 41 = .ok (.iload_n 2, 1) := by decide +kernel
theorem dX10_root_42 : decode cX10_root 42 = .ok (.goto 4, 3) := by decide +kernel
theorem dX10_root_45 : decode cX10_root 45 = .ok (.iconst (-1), 1) := by decide +kernel
theorem dX10_root_46 : decode cX10_root 46 = .ok (.ireturn, 1) := by decide +kernel
theorem dX10_root_47 : decode cX10_root 47 = .ok (.aload_n 0, 1) := by decide +kernel
theorem dX10_root_48 : decode cX10_root 48 = .ok (.getfield 54, 3) := by decide +kernel
theorem dX10_root_51 : decode cX10_root 51 = .ok (.iload_n 1, 1) := by decide +kernel
theorem dX10_root_52 : decode cX10_root 52 = .ok (.if_icmp .eq 83, 3) := by decide +kernel
theorem dX10_root_55 : decode cX10_root 55 = .ok (.aload_n 0, 1) := by decide +kernel
theorem dX10_root_56 : decode cX10_root 56 = .ok (.iload_n 1, 1) := by decide +kernel
theorem dX10_root_57 : decode cX10_root 57 = .ok (.putfield 54, 3) := by decide +kernel
theorem dX10_root_60 : decode cX10_root 60 = .ok (.aload_n 0, 1) := by decide +kernel
theorem dX10_root_61 : decode cX10_root 61 = .ok (.iconst 0, 1) := by decide +kernel
theorem dX10_root_62 : decode cX10_root 62 = .ok (.putfield 199, 3) := by decide +kernel
theorem dX10_root_65 : decode cX10_root 65 = .ok (.aload_n 0, 1) := by decide +kernel
theorem dX10_root_66 : decode cX10_root 66 = .ok (.aload_n 0, 1) := by decide +kernel
theorem dX10_root_67 : decode cX10_root 67 = .ok (.getfield 42, 3) := by decide +kernel
theorem dX10_root_70 : decode cX10_root 70 = .ok (.iload_n 1, 1) := by decide +kernel
theorem dX10_root_71 : decode cX10_root 71 = .ok (.invokevirtual 185, 3) := by decide +kernel
theorem dX10_root_74 : decode cX10_root 74 = .ok (.iconst 0, 1) := by decide +kernel
theorem dX10_root_75 : decode cX10_root 75 = .ok (.istore_n 3, 1) := by decide +kernel
theorem dX10_root_76 : decode cX10_root 76 = .ok (.iload_n 3, 1) := by decide +kernel
theorem dX10_root_77 : decode cX10_root 77 = .ok (.aload_n 0, 1) := by decide +kernel
theorem dX10_root_78 : decode cX10_root 78 = .ok (.getfield 78, 3) := by decide +kernel
theorem dX10_root_81 : decode cX10_root 81 = .ok (.if_icmp .ge 54, 3) := by decide +kernel
theorem dX10_root_84 : decode cX10_root 84 = .ok (.aload_n 0, 1) := by decide +kernel
theorem dX10_root_85 : decode cX10_root 85 = .ok (.getfield 199, 3) := by decide +kernel
theorem dX10_root_88 : decode cX10_root 88 = .ok (.aload_n 0, 1) := by decide +kernel
theorem dX10_root_89 : decode cX10_root 89 = .ok (.getfield 36, 3) := by decide +kernel
theorem dX10_root_92 : decode cX10_root 92 = .ok (.iload_n 1, 1) := by decide +kernel
theorem dX10_root_93 : decode cX10_root 93 = .ok (.iaload, 1) := by decide +kernel
theorem dX10_root_94 : decode cX10_root 94 = .ok (.if_icmp .ge 41, 3) := by decide +kernel
theorem dX10_root_97 : decode cX10_root 97 = .ok (.aload_n 0, 1) := by decide +kernel
theorem dX10_root_98 : decode cX10_root 98 = .ok (.aload_n 0, 1) := by decide +kernel
theorem dX10_root_99 : decode cX10_root 99 = .ok (.getfield 42, 3) := by decide +kernel
theorem dX10_root_102 : decode cX10_root 102 = .ok (.iload_n 3, 1) := by decide +kernel
theorem dX10_root_103 : decode cX10_root 103 = .ok (.invokevirtual 172, 3) := by decide +kernel
theorem dX10_root_106 : decode cX10_root 106 = .ok (.ifCond .ne 23, 3) := by decide +kernel
theorem dX10_root_109 : decode cX10_root 109 = .ok (.aload_n 0, 1) := by decide +kernel
theorem dX10_root_110 : decode cX10_root 110 = .ok (.getfield 57, 3) := by decide +kernel
theorem dX10_root_113 : decode cX10_root 113 = .ok (.aload_n 0, 1) := by decide +kernel
theorem dX10_root_114 : decode cX10_root 114 = .ok (.getfield 199, 3) := by decide +kernel
theorem dX10_root_117 : decode cX10_root 117 = .ok (.iload_n 3, 1) := by decide +kernel
theorem dX10_root_118 : decode cX10_root 118 = .ok (.iastore, 1) := by decide +kernel
theorem dX10_root_119 : decode cX10_root 119 = .ok (.aload_n 0, 1) := by decide +kernel
theorem dX10_root_120 : decode cX10_root 120 = .ok (.dup, 1) := by decide +kernel
theorem dX10_root_121 : decode cX10_root 121 = .ok (.getfield 199, 3) := by decide +kernel
theorem dX10_root_124 : decode cX10_root 124 = .ok (.iconst 1, 1) := by decide +kernel
theorem dX10_root_125 : decode cX10_root 125 = .ok (.iadd, 1) := by decide +kernel
theorem dX10_root_126 : decode cX10_root 126 = .ok (.putfield 199, 3) := by decide +kernel
theorem dX10_root_129 : decode cX10_root 129 = .ok (.iinc 3 1, 3) := by decide +kernel
theorem dX10_root_132 : decode cX10_root 132 = .ok (.goto (-56), 3) := by decide +kernel
theorem dX10_root_135 : decode cX10_root 135 = .ok (.iload_n 2, 1) := by decide +kernel
theorem dX10_root_136 : decode cX10_root 136 = .ok (.aload_n 0, 1) := by decide +kernel
theorem dX10_root_137 : decode cX10_root 137 = .ok (.getfield 199, 3) := by decide +kernel
theorem dX10_root_140 : decode cX10_root 140 = .ok (.if_icmp .ge 12, 3) := by decide +kernel
theorem dX10_root_143 : decode cX10_root 143 = .ok (.aload_n 0, 1) := by decide +kernel
theorem dX10_root_144 : decode cX10_root 144 = .ok (.getfield 57, 3) := by decide +kernel
theorem dX10_root_147 : decode cX10_root 147 = .ok (.iload_n 2, 1) := by decide +kernel
theorem dX10_root_148 : decode cX10_root 148 = .ok (.iaload, 1) := by decide +kernel
theorem dX10_root_149 : decode cX10_root 149 = .ok (.goto 4, 3) := by decide +kernel
theorem dX10_root_152 : decode cX10_root 152 = .ok (.iconst (-1), 1) := by decide +kernel
theorem dX10_root_153 : decode cX10_root 153 = .ok (.ireturn, 1) := by decide +kernel
theorem dX10_often_0 : decode cX10_often 0 = .ok (.aload_n 0, 1) := by decide +kernel
theorem dX10_often_1 : decode cX10_often 1 = .ok (.iconst 0, 1) := by decide +kernel
theorem dX10_often_2 : decode cX10_often 2 = .ok (.putfield 1, 3) := by decide +kernel
theorem dX10_often_5 : decode cX10_often 5 = .ok (.aload_n 0, 1) := by decide +kernel
theorem dX10_often_6 : decode cX10_often 6 = .ok (.iload_n 1, 1) := by decide +kernel
theorem dX10_often_7 : decode cX10_often 7 = .ok (.invokevirtual 182, 3) := by decide +kernel
theorem dX10_often_10 : decode cX10_often 10 = .ok (.ifCond .ne 9, 3) := by decide +kernel
theorem dX10_often_13 : decode cX10_often 13 = .ok (.aload_n 0, 1) := by decide +kernel
theorem dX10_often_14 : decode cX10_often 14 = .ok (.iconst 1, 1) := by decide +kernel
theorem dX10_often_15 : decode cX10_often 15 = .ok (.invokevirtual 118, 3) := by decide +kernel
theorem dX10_often_18 : decode cX10_often 18 = .ok (.ireturn, 1) := by decide +kernel
theorem dX10_often_19 : decode cX10_often 19 = .ok (.aload_n 0, 1) := by decide +kernel
theorem dX10_often_20 : decode cX10_often 20 = .ok (.iload_n 2, 1) := by decide +kernel
theorem dX10_often_21 : decode cX10_often 21 = .ok (.invokevirtual 115, 3) := by decide +kernel
theorem dX10_often_24 : decode cX10_often 24 = .ok (.ifCond .ne 9, 3) := by decide +kernel
theorem dX10_often_27 : decode cX10_often 27 = .ok (.aload_n 0, 1) := by decide +kernel
theorem dX10_often_28 : decode cX10_often 28 = .ok (.iconst 2, 1) := by decide +kernel
theorem dX10_often_29 : decode cX10_often 29 = .ok (.invokevirtual 118, 3) := by decide +kernel
theorem dX10_often_32 : decode cX10_often 32 = .ok (.ireturn, 1) := by decide +kernel
theorem dX10_often_33 : decode cX10_often 33 = .ok (.aload_n 0, 1) := by decide +kernel
theorem dX10_often_34 : decode cX10_often 34 = .ok (.getfield 36, 3) := by decide +kernel
theorem dX10_often_37 : decode cX10_often 37 = .ok (.iload_n 1, 1) := by decide +kernel
theorem dX10_often_38 : decode cX10_often 38 = .ok (.iaload, 1) := by decide +kernel
theorem dX10_often_39 : decode cX10_often 39 = .ok (.iconst (-1), 1) := by decide +kernel
theorem dX10_often_40 : decode cX10_often 40 = .ok (.if_icmp .ne 5, 3) := by decide +kernel
theorem dX10_often_43 : decode cX10_often 43 = .ok (.iconst (-1), 1) := by decide +kernel
theorem dX10_often_44 : decode cX10_often 44 = .ok (.ireturn, 1) := by decide +kernel
theorem dX10_often_45 : decode cX10_often 45 = .ok (.aload_n 0, 1) := by decide +kernel
theorem dX10_often_46 : decode cX10_often 46 = .ok (.aload_n 0, 1) := by decide +kernel
theorem dX10_often_47 : decode cX10_often 47 = .ok (.getfield 42, 3) := by decide +kernel
theorem dX10_often_50 : decode cX10_often 50 = .ok (.iload_n 1, 1) := by decide +kernel
theorem dX10_often_51 : decode cX10_often 51 = .ok (.invokevirtual 185, 3) := by decide +kernel
theorem dX10_often_54 : decode cX10_often 54 = .ok (.iconst 0, 1) := by decide +kernel
theorem dX10_often_55 : decode cX10_often 55 = .ok (.istore_n 3, 1) := by decide +kernel
theorem dX10_often_56 : decode cX10_often 56 = .ok (.aload_n 0, 1) := by decide +kernel
theorem dX10_often_57 : decode cX10_often 57 = .ok (.aload_n 0, 1) := by decide +kernel
theorem dX10_often_58 : decode cX10_often 58 = .ok (.getfield 42, 3) := by decide +kernel
theorem dX10_often_61 : decode cX10_often 61 = .ok (.iload_n 2, 1) := by decide +kernel
theorem dX10_often_62 : decode cX10_often 62 = .ok (.invokevirtual 172, 3) := by decide +kernel
theorem dX10_often_65 : decode cX10_often 65 = .ok (.ifCond .ne 53, 3) := by decide +kernel
theorem dX10_often_68 : decode cX10_often 68 = .ok (.aload_n 0, 1) := by decide +kernel
theorem dX10_often_69 : decode cX10_often 69 = .ok (.getfield 45, 3) := by decide +kernel
theorem dX10_often_72 : decode cX10_often 72 = .ok (.invokestatic 161, 3) := by decide +kernel
theorem dX10_often_75 : decode cX10_often 75 = .ok (.aload_n 0, 1) := by decide +kernel
theorem dX10_often_76 : decode cX10_often 76 = .ok (.getfield 45, 3) := by decide +kernel
theorem dX10_often_79 : decode cX10_often 79 = .ok (.iconst 0, 1) := by decide +kernel
theorem dX10_often_80 : decode cX10_often 80 = .ok (.iload_n 2, 1) := by decide +kernel
theorem dX10_often_81 : decode cX10_often 81 = .ok (.iastore, 1) := by decide +kernel
theorem dX10_often_82 : decode cX10_often 82 = .ok (.aload_n 0, 1) := by decide +kernel
theorem dX10_often_83 : decode cX10_often 83 = .ok (.getfield 45, 3) := by decide +kernel
theorem dX10_often_86 : decode cX10_often 86 = .ok (.iconst 1, 1) := by decide +kernel
theorem dX10_often_87 : decode cX10_often 87 = .ok (.iconst 1, 1) := by decide +kernel
theorem dX10_often_88 : decode cX10_often 88 = .ok (.iastore, 1) := by decide +kernel
theorem dX10_often_89 : decode cX10_often 89 = .ok (.aload_n 0, 1) := by decide +kernel
theorem dX10_often_90 : decode cX10_often 90 = .ok (.aload_n 0, 1) := by decide +kernel
theorem dX10_often_91 : decode cX10_often 91 = .ok (.getfield 42, 3) := by decide +kernel
theorem dX10_often_94 : decode cX10_often 94 = .ok (.aload_n 0, 1) := by decide +kernel
theorem dX10_often_95 : decode cX10_often 95 = .ok (.getfield 45, 3) := by decide +kernel
theorem dX10_often_98 : decode cX10_often 98 = .ok (.invokevirtual 189, 3) := by decide +kernel
theorem dX10_often_101 : decode cX10_often 101 = .ok (.aload_n 0, 1) := by decide +kernel
theorem dX10_often_102 : decode cX10_often 102 = .ok (.getfield 42, 3) := by decide +kernel
theorem dX10_often_105 : decode cX10_often 105 = .ok (.aload_n 0, 1) := by decide +kernel
theorem dX10_often_106 : decode cX10_often 106 = .ok (.getfield 48, 3) := by decide +kernel
theorem dX10_often_109 : decode cX10_often 109 = .ok (.invokestatic 193, 3) := by decide +kernel
theorem dX10_often_112 : decode cX10_often 112 = .ok (.iinc 3 1, 3) := by decide +kernel
theorem dX10_often_115 : decode cX10_often 115 = .ok (.goto (-59), 3) := by decide +kernel
theorem dX10_often_118 : decode cX10_often 118 = .ok (.iload_n 3, 1) := by decide +kernel
theorem dX10_often_119 : decode cX10_often 119 = .ok (.ireturn, 1) := by decide +kernel
theorem dX10_square_0 : decode cX10_square 0 = .ok (.bipush 65, 2) := by decide +kernel
theorem dX10_square_2 : decode cX10_square 2 = .ok (.istore_n 2, 1) := by decide +kernel
theorem dX10_square_3 : decode cX10_square 3 = .ok (.iload_n 2, 1) := by decide +kernel
theorem dX10_square_4 : decode cX10_square 4 = .ok (.ifCond .lt 36, 3) := by decide +kernel
theorem dX10_square_7 : decode cX10_square 7 = .ok (.aload_n 1, 1) := by decide +kernel
theorem dX10_square_8 : decode cX10_square 8 = .ok (.iconst 2, 1) := by decide +kernel
theorem dX10_square_9 : decode cX10_square 9 = .ok (.iload_n 2, 1) := by decide +kernel
theorem dX10_square_10 : decode cX10_square 10 = .ok (.imul, 1) := by decide +kernel
theorem dX10_square_11 : decode cX10_square 11 = .ok (.aload_n 0, 1) := by decide +kernel
theorem dX10_square_12 : decode cX10_square 12 = .ok (.aload_n 1, 1) := by decide +kernel
theorem dX10_square_13 : decode cX10_square 13 = .ok (.iload_n 2, 1) := by decide +kernel
theorem dX10_square_14 : decode cX10_square 14 = .ok (.iaload, 1) := by decide +kernel
theorem dX10_square_15 : decode cX10_square 15 = .ok (.aload_n 1, 1) := by decide +kernel
theorem dX10_square_16 : decode cX10_square 16 = .ok (.iload_n 2, 1) := by decide +kernel
theorem dX10_square_17 : decode cX10_square 17 = .ok (.iaload, 1) := by decide +kernel
theorem dX10_square_18 : decode cX10_square 18 = .ok (.invokevirtual 102, 3) := by decide +kernel
theorem dX10_square_21 : decode cX10_square 21 = .ok (.iastore, 1) := by decide +kernel
theorem dX10_square_22 : decode cX10_square 22 = .ok (.iload_n 2, 1) := by decide +kernel
theorem dX10_square_23 : decode cX10_square 23 = .ok (.ifCond .le 11, 3) := by decide +kernel
theorem dX10_square_26 : decode cX10_square 26 = .ok (.aload_n 1, 1) := by decide +kernel
theorem dX10_square_27 : decode cX10_square 27 = .ok (.iconst 2, 1) := by decide +kernel
theorem dX10_square_28 : decode cX10_square 28 = .ok (.iload_n 2, 1) := by decide +kernel
theorem dX10_square_29 : decode cX10_square 29 = .ok (.imul, 1) := by decide +kernel
theorem dX10_square_30 : decode cX10_square 30 = .ok (.iconst 1, 1) := by decide +kernel
theorem dX10_square_31 : decode cX10_square 31 = .ok (.isub, 1) := by decide +kernel
theorem dX10_square_32 : decode cX10_square 32 = .ok (.iconst 0, 1) := by decide +kernel
theorem dX10_square_33 : decode cX10_square 33 = .ok (.iastore, 1) := by decide +kernel
theorem dX10_square_34 : decode cX10_square 34 = .ok (.iinc 2 (-1), 3) := by decide +kernel
theorem dX10_square_37 : decode cX10_square 37 = .ok (.goto (-34), 3) := by decide +kernel
theorem dX10_square_40 : decode cX10_square 40 = .ok (.aload_n 0, 1) := by decide +kernel
theorem dX10_square_41 : decode cX10_square 41 = .ok (.aload_n 1, 1) := by decide +kernel
theorem dX10_square_42 : decode cX10_square 42 = .ok (.aload_n 0, 1) := by decide +kernel
theorem dX10_square_43 : decode cX10_square 43 = .ok (.getfield 66, 3) := by decide +kernel
theorem dX10_square_46 : decode cX10_square 46 = .ok (.invokevirtual 189, 3) := by decide +kernel
theorem dX10_square_49 : decode cX10_square 49 = .ok (.return_, 1) := by decide +kernel
theorem dX10_lookAtParts_0 : decode cX10_lookAtParts 0 = .ok (.iconst 0, 1) := by decide +kernel
theorem dX10_lookAtParts_1 : decode cX10_lookAtParts 1 = .ok (.istore_n 2, 1) := by decide +kernel
theorem dX10_lookAtParts_2 : decode cX10_lookAtParts 2 = .ok (.iload_n 2, 1) := by decide +kernel
theorem dX10_lookAtParts_3 : decode cX10_lookAtParts 3 = .ok (.bipush 65, 2) := by decide +kernel
theorem dX10_lookAtParts_5 : decode cX10_lookAtParts 5 = .ok (.if_icmp .ge 16, 3) := by decide +kernel
theorem dX10_lookAtParts_8 : decode cX10_lookAtParts 8 = .ok (.aload_n 0, 1) := by decide +kernel
theorem dX10_lookAtParts_9 : decode cX10_lookAtParts 9 = .ok (.getfield 63, 3) := by decide +kernel
theorem dX10_lookAtParts_12 : decode cX10_lookAtParts 12 = .ok (.iload_n 2, 1) := by decide +kernel
theorem dX10_lookAtParts_13 : decode cX10_lookAtParts 13 = .ok (.iconst 0, 1) := by decide +kernel
theorem dX10_lookAtParts_14 : decode cX10_lookAtParts 14 = .ok (.iastore, 1) := by decide +kernel
theorem dX10_lookAtParts_15 : decode cX10_lookAtParts 15 = .ok (.iinc 2 1, 3) := by decide +kernel
theorem dX10_lookAtParts_18 : decode cX10_lookAtParts 18 = .ok (.goto (-16), 3) := by decide +kernel
theorem dX10_lookAtParts_21 : decode cX10_lookAtParts 21 = .ok (.aload_n 0, 1) := by decide +kernel
theorem dX10_lookAtParts_22 : decode cX10_lookAtParts 22 = .ok (.aload_n 0, 1) := by decide +kernel
theorem dX10_lookAtParts_23 : decode cX10_lookAtParts 23 = .ok (.getfield 66, 3) := by decide +kernel
theorem dX10_lookAtParts_26 : decode cX10_lookAtParts 26 = .ok (.iload_n 1, 1) := by decide +kernel
theorem dX10_lookAtParts_27 : decode cX10_lookAtParts 27 = .ok (.invokevirtual 185, 3) := by decide +kernel
theorem dX10_lookAtParts_30 : decode cX10_lookAtParts 30 = .ok (.aload_n 0, 1) := by decide +kernel
theorem dX10_lookAtParts_31 : decode cX10_lookAtParts 31 = .ok (.getfield 69, 3) := by decide +kernel
theorem dX10_lookAtParts_34 : decode cX10_lookAtParts 34 = .ok (.invokestatic 161, 3) := by decide +kernel
theorem dX10_lookAtParts_37 : decode cX10_lookAtParts 37 = .ok (.aload_n 0, 1) := by decide +kernel
theorem dX10_lookAtParts_38 : decode cX10_lookAtParts 38 = .ok (.getfield 69, 3) := by decide +kernel
theorem dX10_lookAtParts_41 : decode cX10_lookAtParts 41 = .ok (.iconst 1, 1) := by decide +kernel
theorem dX10_lookAtParts_42 : decode cX10_lookAtParts 42 = .ok (.iconst 1, 1) := by decide +kernel
theorem dX10_lookAtParts_43 : decode cX10_lookAtParts 43 = .ok (.iastore, 1) := by decide +kernel
theorem dX10_lookAtParts_44 : decode cX10_lookAtParts 44 = .ok (.aload_n 0, 1) := by decide +kernel
theorem dX10_lookAtParts_45 : decode cX10_lookAtParts 45 = .ok (.aload_n 0, 1) := by decide +kernel
theorem dX10_lookAtParts_46 : decode cX10_lookAtParts 46 = .ok (.getfield 69, 3) := by decide +kernel
theorem dX10_lookAtParts_49 : decode cX10_lookAtParts 49 = .ok (.aload_n 0, 1) := by decide +kernel
theorem dX10_lookAtParts_50 : decode cX10_lookAtParts 50 = .ok (.getfield 66, 3) := by decide +kernel
theorem dX10_lookAtParts_53 : decode cX10_lookAtParts 53 = .ok (.invokevirtual 189, 3) := by decide +kernel
theorem dX10_lookAtParts_56 : decode cX10_lookAtParts 56 = .ok (.iconst 1, 1) := by decide +kernel
theorem dX10_lookAtParts_57 : decode cX10_lookAtParts 57 = .ok (.istore_n 2, 1) := by decide +kernel
theorem dX10_lookAtParts_58 : decode cX10_lookAtParts 58 = .ok (.aload_n 0, 1) := by decide +kernel
theorem dX10_lookAtParts_59 : decode cX10_lookAtParts 59 = .ok (.getfield 66, 3) := by decide +kernel
theorem dX10_lookAtParts_62 : decode cX10_lookAtParts 62 = .ok (.invokestatic 165, 3) := by decide +kernel
theorem dX10_lookAtParts_65 : decode cX10_lookAtParts 65 = .ok (.ifCond .le 182, 3) := by decide +kernel
theorem dX10_lookAtParts_68 : decode cX10_lookAtParts 68 = .ok (.iconst 0, 1) := by decide +kernel
theorem dX10_lookAtParts_69 : decode cX10_lookAtParts 69 = .ok (.istore_n 3, 1) := by decide +kernel
theorem dX10_lookAtParts_70 : decode cX10_lookAtParts 70 = .ok (.iload_n 3, 1) := by decide +kernel
theorem dX10_lookAtParts_71 : decode cX10_lookAtParts 71 = .ok (.aload_n 0, 1) := by decide +kernel
theorem dX10_lookAtParts_72 : decode cX10_lookAtParts 72 = .ok (.getfield 75, 3) := by decide +kernel
theorem dX10_lookAtParts_75 : decode cX10_lookAtParts 75 = .ok (.if_icmp .ge 17, 3) := by decide +kernel
theorem dX10_lookAtParts_78 : decode cX10_lookAtParts 78 = .ok (.aload_n 0, 1) := by decide +kernel
theorem dX10_lookAtParts_79 : decode cX10_lookAtParts 79 = .ok (.aload_n 0, 1) := by decide +kernel
theorem dX10_lookAtParts_80 : decode cX10_lookAtParts 80 = .ok (.getfield 69, 3) := by decide +kernel
theorem dX10_lookAtParts_83 : decode cX10_lookAtParts 83 = .ok (.invokevirtual 202, 3) := by decide +kernel
theorem dX10_lookAtParts_86 : decode cX10_lookAtParts 86 = .ok (.iinc 3 1, 3) := by decide +kernel
theorem dX10_lookAtParts_89 : decode cX10_lookAtParts 89 = .ok (.goto (-19), 3) := by decide +kernel
theorem dX10_lookAtParts_92 : decode cX10_lookAtParts 92 = .ok (.iconst 1, 1) := by decide +kernel
theorem dX10_lookAtParts_93 : decode cX10_lookAtParts 93 = .ok (.istore_n 3, 1) := by decide +kernel
theorem dX10_lookAtParts_94 : decode cX10_lookAtParts 94 = .ok (.iload_n 3, 1) := by decide +kernel
theorem dX10_lookAtParts_95 : decode cX10_lookAtParts 95 = .ok (.ifCond .eq 146, 3) := by decide +kernel
theorem dX10_lookAtParts_98 : decode cX10_lookAtParts 98 = .ok (.aload_n 0, 1) := by decide +kernel
theorem dX10_lookAtParts_99 : decode cX10_lookAtParts 99 = .ok (.getfield 66, 3) := by decide +kernel
theorem dX10_lookAtParts_102 : decode cX10_lookAtParts 102 = .ok (.invokestatic 165, 3) := by decide +kernel
theorem dX10_lookAtParts_105 : decode cX10_lookAtParts 105 = .ok (.ifCond .le 136, 3) := by decide +kernel
theorem dX10_lookAtParts_108 : decode cX10_lookAtParts 108 = .ok (.aload_n 0, 1) := by decide +kernel
theorem dX10_lookAtParts_109 : decode cX10_lookAtParts 109 = .ok (.getfield 42, 3) := by decide +kernel
theorem dX10_lookAtParts_112 : decode cX10_lookAtParts 112 = .ok (.aload_n 0, 1) := by decide +kernel
theorem dX10_lookAtParts_113 : decode cX10_lookAtParts 113 = .ok (.getfield 66, 3) := by decide +kernel
theorem dX10_lookAtParts_116 : decode cX10_lookAtParts 116 = .ok (.invokestatic 193, 3) := by decide +kernel
theorem dX10_lookAtParts_119 : decode cX10_lookAtParts 119 = .ok (.aload_n 0, 1) := by decide +kernel
theorem dX10_lookAtParts_120 : decode cX10_lookAtParts 120 = .ok (.getfield 45, 3) := by decide +kernel
theorem dX10_lookAtParts_123 : decode cX10_lookAtParts 123 = .ok (.aload_n 0, 1) := by decide +kernel
theorem dX10_lookAtParts_124 : decode cX10_lookAtParts 124 = .ok (.getfield 69, 3) := by decide +kernel
theorem dX10_lookAtParts_127 : decode cX10_lookAtParts 127 = .ok (.invokestatic 193, 3) := by decide +kernel
theorem dX10_lookAtParts_130 : decode cX10_lookAtParts 130 = .ok (.aload_n 0, 1) := by decide +kernel
theorem dX10_lookAtParts_131 : decode cX10_lookAtParts 131 = .ok (.getfield 45, 3) := by decide +kernel
theorem dX10_lookAtParts_134 : decode cX10_lookAtParts 134 = .ok (.iconst 1, 1) := by decide +kernel
theorem dX10_lookAtParts_135 : decode cX10_lookAtParts 135 = .ok (.dup2, 1) := by decide +kernel
theorem dX10_lookAtParts_136 : decode cX10_lookAtParts 136 = .ok (.iaload, 1) := by decide +kernel
theorem dX10_lookAtParts_137 : decode cX10_lookAtParts 137 = .ok (.iconst 1, 1) := by decide +kernel
theorem dX10_lookAtParts_138 : decode cX10_lookAtParts 138 = .ok (.ixor, 1) := by decide +kernel
theorem dX10_lookAtParts_139 : decode cX10_lookAtParts 139 = .ok (.iastore, 1) := by decide +kernel
theorem dX10_lookAtParts_140 : decode cX10_lookAtParts 140 = .ok (.aload_n 0, 1) := by decide +kernel
theorem dX10_lookAtParts_141 : decode cX10_lookAtParts 141 = .ok (.aload_n 0, 1) := by decide +kernel
theorem dX10_lookAtParts_142 : decode cX10_lookAtParts 142 = .ok (.getfield 42, 3) := by decide +kernel
theorem dX10_lookAtParts_145 : decode cX10_lookAtParts 145 = .ok (.aload_n 0, 1) := by decide +kernel
theorem dX10_lookAtParts_146 : decode cX10_lookAtParts 146 = .ok (.getfield 45, 3) := by decide +kernel
theorem dX10_lookAtParts_149 : decode cX10_lookAtParts 149 = .ok (.invokevirtual 196, 3) := by decide +kernel
theorem dX10_lookAtParts_152 : decode cX10_lookAtParts 152 = .ok (.aload_n 0, 1) := by decide +kernel
theorem dX10_lookAtParts_153 : decode cX10_lookAtParts 153 = .ok (.getfield 42, 3) := by decide +kernel
theorem dX10_lookAtParts_156 : decode cX10_lookAtParts 156 = .ok (.invokestatic 165, 3) := by decide +kernel
theorem dX10_lookAtParts_159 : decode cX10_lookAtParts 159 = .ok (.ifCond .le 7, 3) := by decide +kernel
theorem dX10_lookAtParts_162 : decode cX10_lookAtParts 162 = .ok (.iconst 1, 1) := by decide +kernel
theorem dX10_lookAtParts_163 : decode cX10_lookAtParts 163 = .ok (.goto 4, 3) := by decide +kernel
theorem dX10_lookAtParts_166 : decode cX10_lookAtParts 166 = .ok (.iconst 0, 1) := by decide +kernel
theorem dX10_lookAtParts_167 : decode cX10_lookAtParts 167 = .ok (.istore_n 3, 1) := by decide +kernel
theorem dX10_lookAtParts_168 : decode cX10_lookAtParts 168 = .ok (.iload_n 3, 1) := by decide +kernel
theorem dX10_lookAtParts_169 : decode cX10_lookAtParts 169 = .ok (.ifCond .ne 6, 3) := by decide +kernel
theorem dX10_lookAtParts_172 : decode cX10_lookAtParts 172 = .ok (.goto (-78), 3) := by decide +kernel
theorem dX10_lookAtParts_175 : decode cX10_lookAtParts 175 = .ok (.aload_n 0, 1) := by decide +kernel
theorem dX10_lookAtParts_176 : decode cX10_lookAtParts 176 = .ok (.getfield 63, 3) := by decide +kernel
theorem dX10_lookAtParts_179 : decode cX10_lookAtParts 179 = .ok (.iload_n 2, 1) := by decide +kernel
theorem dX10_lookAtParts_180 : decode cX10_lookAtParts 180 = .ok (.dup2, 1) := by decide +kernel
theorem dX10_lookAtParts_181 : decode cX10_lookAtParts 181 = .ok (.iaload, 1) := by decide +kernel
theorem dX10_lookAtParts_182 : decode cX10_lookAtParts 182 = .ok (.aload_n 0, 1) := by decide +kernel
theorem dX10_lookAtParts_183 : decode cX10_lookAtParts 183 = .ok (.getfield 42, 3) := by decide +kernel
theorem dX10_lookAtParts_186 : decode cX10_lookAtParts 186 = .ok (.invokestatic 165, 3) := by decide +kernel
theorem dX10_lookAtParts_189 : decode cX10_lookAtParts 189 = .ok (.iload_n 2, 1) := by decide +kernel
theorem dX10_lookAtParts_190 : decode cX10_lookAtParts 190 = .ok (.idiv, 1) := by decide +kernel
theorem dX10_lookAtParts_191 : decode cX10_lookAtParts 191 = .ok (.iadd, 1) := by decide +kernel
theorem dX10_lookAtParts_192 : decode cX10_lookAtParts 192 = .ok (.iastore, 1) := by decide +kernel
theorem dX10_lookAtParts_193 : decode cX10_lookAtParts 193 = .ok (.aload_n 0, 1) := by decide +kernel
theorem dX10_lookAtParts_194 : decode cX10_lookAtParts 194 = .ok (.aload_n 0, 1) := by decide +kernel
theorem dX10_lookAtParts_195 : decode cX10_lookAtParts 195 = .ok (.getfield 66, 3) := by decide +kernel
theorem dX10_lookAtParts_198 : decode cX10_lookAtParts 198 = .ok (.aload_n 0, 1) := by decide +kernel
theorem dX10_lookAtParts_199 : decode cX10_lookAtParts 199 = .ok (.getfield 42, 3) := by decide +kernel
theorem dX10_lookAtParts_202 : decode cX10_lookAtParts 202 = .ok (.invokevirtual 189, 3) := by decide +kernel
theorem dX10_lookAtParts_205 : decode cX10_lookAtParts 205 = .ok (.aload_n 0, 1) := by decide +kernel
theorem dX10_lookAtParts_206 : decode cX10_lookAtParts 206 = .ok (.getfield 66, 3) := by decide +kernel
theorem dX10_lookAtParts_209 : decode cX10_lookAtParts 209 = .ok (.aload_n 0, 1) := by decide +kernel
theorem dX10_lookAtParts_210 : decode cX10_lookAtParts 210 = .ok (.getfield 48, 3) := by decide +kernel
theorem dX10_lookAtParts_213 : decode cX10_lookAtParts 213 = .ok (.invokestatic 193, 3) := by decide +kernel
theorem dX10_lookAtParts_216 : decode cX10_lookAtParts 216 = .ok (.aload_n 0, 1) := by decide +kernel
theorem dX10_lookAtParts_217 : decode cX10_lookAtParts 217 = .ok (.getfield 66, 3) := by decide +kernel
theorem dX10_lookAtParts_220 : decode cX10_lookAtParts 220 = .ok (.invokestatic 165, 3) := by decide +kernel
theorem dX10_lookAtParts_223 : decode cX10_lookAtParts 223 = .ok (.ifCond .le (-129), 3) := by decide +kernel
theorem dX10_lookAtParts_226 : decode cX10_lookAtParts 226 = .ok (.aload_n 0, 1) := by decide +kernel
theorem dX10_lookAtParts_227 : decode cX10_lookAtParts 227 = .ok (.aload_n 0, 1) := by decide +kernel
theorem dX10_lookAtParts_228 : decode cX10_lookAtParts 228 = .ok (.getfield 69, 3) := by decide +kernel
theorem dX10_lookAtParts_231 : decode cX10_lookAtParts 231 = .ok (.aload_n 0, 1) := by decide +kernel
theorem dX10_lookAtParts_232 : decode cX10_lookAtParts 232 = .ok (.getfield 66, 3) := by decide +kernel
theorem dX10_lookAtParts_235 : decode cX10_lookAtParts 235 = .ok (.invokevirtual 189, 3) := by decide +kernel
theorem dX10_lookAtParts_238 : decode cX10_lookAtParts 238 = .ok (.goto (-144), 3) := by decide +kernel
theorem dX10_lookAtParts_241 : decode cX10_lookAtParts 241 = .ok (.iinc 2 1, 3) := by decide +kernel
theorem dX10_lookAtParts_244 : decode cX10_lookAtParts 244 = .ok (.goto (-186), 3) := by decide +kernel
theorem dX10_lookAtParts_247 : decode cX10_lookAtParts 247 = .ok (.return_, 1) := by decide +kernel
theorem dX10_parts_0 : decode cX10_parts 0 = .ok (.aload_n 0, 1) := by decide +kernel
theorem dX10_parts_1 : decode cX10_parts 1 = .ok (.iconst 0, 1) := by decide +kernel
theorem dX10_parts_2 : decode cX10_parts 2 = .ok (.putfield 1, 3) := by decide +kernel
theorem dX10_parts_5 : decode cX10_parts 5 = .ok (.aload_n 0, 1) := by decide +kernel
theorem dX10_parts_6 : decode cX10_parts 6 = .ok (.iload_n 1, 1) := by decide +kernel
theorem dX10_parts_7 : decode cX10_parts 7 = .ok (.invokevirtual 182, 3) := by decide +kernel
theorem dX10_parts_10 : decode cX10_parts 10 = .ok (.ifCond .ne 9, 3) := by decide +kernel
theorem dX10_parts_13 : decode cX10_parts 13 = .ok (.aload_n 0, 1) := by decide +kernel
theorem dX10_parts_14 : decode cX10_parts 14 = .ok (.iconst 1, 1) := by decide +kernel
theorem dX10_parts_15 : decode cX10_parts 15 = .ok (.invokevirtual 118, 3) := by decide +kernel
theorem dX10_parts_18 : decode cX10_parts 18 = .ok (.ireturn, 1) := by decide +kernel
theorem dX10_parts_19 : decode cX10_parts 19 = .ok (.iload_n 2, 1) := by decide +kernel
theorem dX10_parts_20 : decode cX10_parts 20 = .ok (.iconst 1, 1) := by decide +kernel
theorem dX10_parts_21 : decode cX10_parts 21 = .ok (.if_icmp .lt 9, 3) := by decide +kernel
theorem dX10_parts_24 : decode cX10_parts 24 = .ok (.iload_n 2, 1) := by decide +kernel
theorem dX10_parts_25 : decode cX10_parts 25 = .ok (.bipush 64, 2) := by decide +kernel
theorem dX10_parts_27 : decode cX10_parts 27 = .ok (.if_icmp .le 9, 3) := by decide +kernel
theorem dX10_parts_30 : decode cX10_parts 30 = .ok (.aload_n 0, 1) := by decide +kernel
theorem dX10_parts_31 : decode cX10_parts 31 = .ok (.iconst 2, 1) := by decide +kernel
theorem dX10_parts_32 : decode cX10_parts 32 = .ok (.invokevirtual 118, 3) := by decide +kernel
theorem dX10_parts_35 : decode cX10_parts 35 = .ok (.ireturn, 1) := by decide +kernel
theorem dX10_parts_36 : decode cX10_parts 36 = .ok (.aload_n 0, 1) := by decide +kernel
theorem dX10_parts_37 : decode cX10_parts 37 = .ok (.getfield 36, 3) := by decide +kernel
theorem dX10_parts_40 : decode cX10_parts 40 = .ok (.iload_n 1, 1) := by decide +kernel
theorem dX10_parts_41 : decode cX10_parts 41 = .ok (.iaload, 1) := by decide +kernel
theorem dX10_parts_42 : decode cX10_parts 42 = .ok (.iconst (-1), 1) := by decide +kernel
theorem dX10_parts_43 : decode cX10_parts 43 = .ok (.if_icmp .ne 5, 3) := by decide +kernel
theorem dX10_parts_46 : decode cX10_parts 46 = .ok (.iconst (-1), 1) := by decide +kernel
theorem dX10_parts_47 : decode cX10_parts 47 = .ok (.ireturn, 1) := by decide +kernel
theorem dX10_parts_48 : decode cX10_parts 48 = .ok (.aload_n 0, 1) := by decide +kernel
theorem dX10_parts_49 : decode cX10_parts 49 = .ok (.getfield 60, 3) := by decide +kernel
theorem dX10_parts_52 : decode cX10_parts 52 = .ok (.iload_n 1, 1) := by decide +kernel
theorem dX10_parts_53 : decode cX10_parts 53 = .ok (.if_icmp .eq 13, 3) := by decide +kernel
theorem dX10_parts_56 : decode cX10_parts 56 = .ok (.aload_n 0, 1) := by decide +kernel
theorem dX10_parts_57 : decode cX10_parts 57 = .ok (.iload_n 1, 1) := by decide +kernel
theorem dX10_parts_58 : decode cX10_parts 58 = .ok (.putfield 60, 3) := by decide +kernel
theorem dX10_parts_61 : decode cX10_parts 61 = .ok (.aload_n 0, 1) := by decide +kernel
theorem dX10_parts_62 : decode cX10_parts 62 = .ok (.iload_n 1, 1) := by decide +kernel
theorem dX10_parts_63 : decode cX10_parts 63 = .ok (.invokevirtual 205, 3) := by decide +kernel
theorem dX10_parts_66 : decode cX10_parts 66 = .ok (.aload_n 0, 1) := by decide +kernel
theorem dX10_parts_67 : decode cX10_parts 67 = .ok (.getfield 63, 3) := by decide +kernel
theorem dX10_parts_70 : decode cX10_parts 70 = .ok (.iload_n 2, 1) := by decide +kernel
theorem dX10_parts_71 : decode cX10_parts 71 = .ok (.iaload, 1) := by decide +kernel
theorem dX10_parts_72 : decode cX10_parts 72 = .ok (.ireturn, 1) := by decide +kernel
theorem dX10_span_0 : decode cX10_span 0 = .ok (.aload_n 0, 1) := by decide +kernel
theorem dX10_span_1 : decode cX10_span 1 = .ok (.iconst 0, 1) := by decide +kernel
theorem dX10_span_2 : decode cX10_span 2 = .ok (.putfield 1, 3) := by decide +kernel
theorem dX10_span_5 : decode cX10_span 5 = .ok (.iconst 1, 1) := by decide +kernel
theorem dX10_span_6 : decode cX10_span 6 = .ok (.istore_n 1, 1) := by decide +kernel
theorem dX10_span_7 : decode cX10_span 7 = .ok (.aload_n 0, 1) := by decide +kernel
theorem dX10_span_8 : decode cX10_span 8 = .ok (.getfield 124, 3) := by decide +kernel
theorem dX10_span_11 : decode cX10_span 11 = .ok (.bipush 6, 2) := by decide +kernel
theorem dX10_span_13 : decode cX10_span 13 = .ok (.if_icmp .gt 7, 3) := by decide +kernel
theorem dX10_span_16 : decode cX10_span 16 = .ok (.iconst 1, 1) := by decide +kernel
theorem dX10_span_17 : decode cX10_span 17 = .ok (.goto 4, 3) := by decide +kernel
theorem dX10_span_20 : decode cX10_span 20 = .ok (.iconst 0, 1) := by decide +kernel
theorem dX10_span_21 : decode cX10_span 21 = .ok (.istore_n 2, 1) := by decide +kernel
theorem dX10_span_22 : decode cX10_span 22 = .ok (.iconst 0, 1) := by decide +kernel
theorem dX10_span_23 : decode cX10_span 23 = .ok (.istore_n 3, 1) := by decide +kernel
theorem dX10_span_24 : decode cX10_span 24 = .ok (.iload_n 3, 1) := by decide +kernel
theorem dX10_span_25 : decode cX10_span 25 = .ok (.aload_n 0, 1) := by decide +kernel
theorem dX10_span_26 : decode cX10_span 26 = .ok (.getfield 124, 3) := by decide +kernel
theorem dX10_span_29 : decode cX10_span 29 = .ok (.if_icmp .ge 126, 3) := by decide +kernel
theorem dX10_span_32 : decode cX10_span 32 = .ok (.iload_n 2, 1) := by decide +kernel
theorem dX10_span_33 : decode cX10_span 33 = .ok (.ifCond .eq 122, 3) := by decide +kernel
theorem dX10_span_36 : decode cX10_span 36 = .ok (.iconst 0, 1) := by decide +kernel
theorem dX10_span_37 : decode cX10_span 37 = .ok (.istore 4, 2) := by decide +kernel
theorem dX10_span_39 : decode cX10_span 39 = .ok (.iload 4, 2) := by decide +kernel
theorem dX10_span_41 : decode cX10_span 41 = .ok (.iload_n 1, 1) := by decide +kernel
theorem dX10_span_42 : decode cX10_span 42 = .ok (.if_icmp .ge 37, 3) := by decide +kernel
theorem dX10_span_45 : decode cX10_span 45 = .ok (.iload_n 3, 1) := by decide +kernel
theorem dX10_span_46 : decode cX10_span 46 = .ok (.ifCond .le 33, 3) := by decide +kernel
theorem dX10_span_49 : decode cX10_span 49 = .ok (.iload_n 2, 1) := by decide +kernel
theorem dX10_span_50 : decode cX10_span 50 = .ok (.aload_n 0, 1) := by decide +kernel
theorem dX10_span_51 : decode cX10_span 51 = .ok (.getfield 51, 3) := by decide +kernel
theorem dX10_span_54 : decode cX10_span 54 = .ok (.iload 4, 2) := by decide +kernel
theorem dX10_span_56 : decode cX10_span 56 = .ok (.iaload, 1) := by decide +kernel
theorem dX10_span_57 : decode cX10_span 57 = .ok (.aload_n 0, 1) := by decide +kernel
theorem dX10_span_58 : decode cX10_span 58 = .ok (.getfield 13, 3) := by decide +kernel
theorem dX10_span_61 : decode cX10_span 61 = .ok (.iload_n 3, 1) := by decide +kernel
theorem dX10_span_62 : decode cX10_span 62 = .ok (.iaload, 1) := by decide +kernel
theorem dX10_span_63 : decode cX10_span 63 = .ok (.if_icmp .eq 7, 3) := by decide +kernel
theorem dX10_span_66 : decode cX10_span 66 = .ok (.iconst 1, 1) := by decide +kernel
theorem dX10_span_67 : decode cX10_span 67 = .ok (.goto 4, 3) := by decide +kernel
theorem dX10_span_70 : decode cX10_span 70 = .ok (.iconst 0, 1) := by decide +kernel
theorem dX10_span_71 : decode cX10_span 71 = .ok (.iand, 1) := by decide +kernel
theorem dX10_span_72 : decode cX10_span 72 = .ok (.istore_n 2, 1) := by decide +kernel
theorem dX10_span_73 : decode cX10_span 73 = .ok (.iinc 4 1, 3) := by decide +kernel
theorem dX10_span_76 : decode cX10_span 76 = .ok (.goto (-37), 3) := by decide +kernel
theorem dX10_span_79 : decode cX10_span 79 = .ok (.iload_n 2, 1) := by decide +kernel
theorem dX10_span_80 : decode cX10_span 80 = .ok (.aload_n 0, 1) := by decide +kernel
theorem dX10_span_81 : decode cX10_span 81 = .ok (.getfield 13, 3) := by decide +kernel
theorem dX10_span_84 : decode cX10_span 84 = .ok (.iload_n 3, 1) := by decide +kernel
theorem dX10_span_85 : decode cX10_span 85 = .ok (.iaload, 1) := by decide +kernel
theorem dX10_span_86 : decode cX10_span 86 = .ok (.ifCond .eq 7, 3) := by decide +kernel
theorem dX10_span_89 : decode cX10_span 89 = .ok (.iconst 1, 1) := by decide +kernel
theorem dX10_span_90 : decode cX10_span 90 = .ok (.goto 4, 3) := by decide +kernel
theorem dX10_span_93 : decode cX10_span 93 = .ok (.iconst 0, 1) := by decide +kernel
theorem dX10_span_94 : decode cX10_span 94 = .ok (.iand, 1) := by decide +kernel
theorem dX10_span_95 : decode cX10_span 95 = .ok (.istore_n 2, 1) := by decide +kernel
theorem dX10_span_96 : decode cX10_span 96 = .ok (.iload_n 3, 1) := by decide +kernel
theorem dX10_span_97 : decode cX10_span 97 = .ok (.ifCond .ne 10, 3) := by decide +kernel
theorem dX10_span_100 : decode cX10_span 100 = .ok (.aload_n 0, 1) := by decide +kernel
theorem dX10_span_101 : decode cX10_span 101 = .ok (.getfield 51, 3) := by decide +kernel
theorem dX10_span_104 : decode cX10_span 104 = .ok (.iconst 0, 1) := by decide +kernel
theorem dX10_span_105 : decode cX10_span 105 = .ok (.iconst 0, 1) := by decide +kernel
theorem dX10_span_106 : decode cX10_span 106 = .ok (.iastore, 1) := by decide +kernel
theorem dX10_span_107 : decode cX10_span 107 = .ok (.iconst 0, 1) := by decide +kernel
theorem dX10_span_108 : decode cX10_span 108 = .ok (.istore 4, 2) := by decide +kernel
theorem dX10_span_110 : decode cX10_span 110 = .ok (.iload 4, 2) := by decide +kernel
theorem dX10_span_112 : decode cX10_span 112 = .ok (.iload_n 1, 1) := by decide +kernel
theorem dX10_span_113 : decode cX10_span 113 = .ok (.if_icmp .ge 32, 3) := by decide +kernel
theorem dX10_span_116 : decode cX10_span 116 = .ok (.aload_n 0, 1) := by decide +kernel
theorem dX10_span_117 : decode cX10_span 117 = .ok (.getfield 51, 3) := by decide +kernel
theorem dX10_span_120 : decode cX10_span 120 = .ok (.iload_n 1, 1) := by decide +kernel
theorem dX10_span_121 : decode cX10_span 121 = .ok (.iload 4, 2) := by decide +kernel
theorem dX10_span_123 : decode cX10_span 123 = .ok (.iadd, 1) := by decide +kernel
theorem dX10_span_124 : decode cX10_span 124 = .ok (.aload_n 0, 1) := by decide +kernel
theorem dX10_span_125 : decode cX10_span 125 = .ok (.getfield 51, 3) := by decide +kernel
theorem dX10_span_128 : decode cX10_span 128 = .ok (.iload 4, 2) := by decide +kernel
theorem dX10_span_130 : decode cX10_span 130 = .ok (.iaload, 1) := by decide +kernel
theorem dX10_span_131 : decode cX10_span 131 = .ok (.aload_n 0, 1) := by decide +kernel
theorem dX10_span_132 : decode cX10_span 132 = .ok (.getfield 13, 3) := by decide +kernel
theorem dX10_span_135 : decode cX10_span 135 = .ok (.iload_n 3, 1) := by decide +kernel
theorem dX10_span_136 : decode cX10_span 136 = .ok (.iaload, 1) := by decide +kernel
theorem dX10_span_137 : decode cX10_span 137 = .ok (.ixor, 1) := by decide +kernel
theorem dX10_span_138 : decode cX10_span 138 = .ok (.iastore, 1) := by decide +kernel
theorem dX10_span_139 : decode cX10_span 139 = .ok (.iinc 4 1, 3) := by decide +kernel
theorem dX10_span_142 : decode cX10_span 142 = .ok (.goto (-32), 3) := by decide +kernel
theorem dX10_span_145 : decode cX10_span 145 = .ok (.iload_n 1, 1) := by decide +kernel
theorem dX10_span_146 : decode cX10_span 146 = .ok (.iconst 2, 1) := by decide +kernel
theorem dX10_span_147 : decode cX10_span 147 = .ok (.imul, 1) := by decide +kernel
theorem dX10_span_148 : decode cX10_span 148 = .ok (.istore_n 1, 1) := by decide +kernel
theorem dX10_span_149 : decode cX10_span 149 = .ok (.iinc 3 1, 3) := by decide +kernel
theorem dX10_span_152 : decode cX10_span 152 = .ok (.goto (-128), 3) := by decide +kernel
theorem dX10_span_155 : decode cX10_span 155 = .ok (.iload_n 2, 1) := by decide +kernel
theorem dX10_span_156 : decode cX10_span 156 = .ok (.ifCond .ne 9, 3) := by decide +kernel
theorem dX10_span_159 : decode cX10_span 159 = .ok (.aload_n 0, 1) := by decide +kernel
theorem dX10_span_160 : decode cX10_span 160 = .ok (.iconst 1, 1) := by decide +kernel
theorem dX10_span_161 : decode cX10_span 161 = .ok (.invokevirtual 118, 3) := by decide +kernel
theorem dX10_span_164 : decode cX10_span 164 = .ok (.ireturn, 1) := by decide +kernel
theorem dX10_span_165 : decode cX10_span 165 = .ok (.aload_n 0, 1) := by decide +kernel
theorem dX10_span_166 : decode cX10_span 166 = .ok (.getfield 124, 3) := by decide +kernel
theorem dX10_span_169 : decode cX10_span 169 = .ok (.ifCond .ne 10, 3) := by decide +kernel
theorem dX10_span_172 : decode cX10_span 172 = .ok (.aload_n 0, 1) := by decide +kernel
theorem dX10_span_173 : decode cX10_span 173 = .ok (.getfield 51, 3) := by decide +kernel
theorem dX10_span_176 : decode cX10_span 176 = .ok (.iconst 0, 1) := by decide +kernel
theorem dX10_span_177 : decode cX10_span 177 = .ok (.iconst 0, 1) := by decide +kernel
theorem dX10_span_178 : decode cX10_span 178 = .ok (.iastore, 1) := by decide +kernel
theorem dX10_span_179 : decode cX10_span 179 = .ok (.iconst 0, 1) := by decide +kernel
theorem dX10_span_180 : decode cX10_span 180 = .ok (.istore_n 3, 1) := by decide +kernel
theorem dX10_span_181 : decode cX10_span 181 = .ok (.iload_n 3, 1) := by decide +kernel
theorem dX10_span_182 : decode cX10_span 182 = .ok (.iload_n 1, 1) := by decide +kernel
theorem dX10_span_183 : decode cX10_span 183 = .ok (.if_icmp .ge 21, 3) := by decide +kernel
theorem dX10_span_186 : decode cX10_span 186 = .ok (.aload_n 0, 1) := by decide +kernel
theorem dX10_span_187 : decode cX10_span 187 = .ok (.getfield 72, 3) := by decide +kernel
theorem dX10_span_190 : decode cX10_span 190 = .ok (.iload_n 3, 1) := by decide +kernel
theorem dX10_span_191 : decode cX10_span 191 = .ok (.aload_n 0, 1) := by decide +kernel
theorem dX10_span_192 : decode cX10_span 192 = .ok (.getfield 51, 3) := by decide +kernel
theorem dX10_span_195 : decode cX10_span 195 = .ok (.iload_n 3, 1) := by decide +kernel
theorem dX10_span_196 : decode cX10_span 196 = .ok (.iaload, 1) := by decide +kernel
theorem dX10_span_197 : decode cX10_span 197 = .ok (.iastore, 1) := by decide +kernel
theorem dX10_span_198 : decode cX10_span 198 = .ok (.iinc 3 1, 3) := by decide +kernel
theorem dX10_span_201 : decode cX10_span 201 = .ok (.goto (-20), 3) := by decide +kernel
theorem dX10_span_204 : decode cX10_span 204 = .ok (.aload_n 0, 1) := by decide +kernel
theorem dX10_span_205 : decode cX10_span 205 = .ok (.iload_n 1, 1) := by decide +kernel
theorem dX10_span_206 : decode cX10_span 206 = .ok (.putfield 208, 3) := by decide +kernel
theorem dX10_span_209 : decode cX10_span 209 = .ok (.aload_n 0, 1) := by decide +kernel
theorem dX10_span_210 : decode cX10_span 210 = .ok (.iconst 0, 1) := by decide +kernel
theorem dX10_span_211 : decode cX10_span 211 = .ok (.putfield 124, 3) := by decide +kernel
theorem dX10_span_214 : decode cX10_span 214 = .ok (.iload_n 1, 1) := by decide +kernel
theorem dX10_span_215 : decode cX10_span 215 = .ok (.ireturn, 1) := by decide +kernel
theorem dX10_forth_0 : decode cX10_forth 0 = .ok (.aload_n 0, 1) := by decide +kernel
theorem dX10_forth_1 : decode cX10_forth 1 = .ok (.iconst 0, 1) := by decide +kernel
theorem dX10_forth_2 : decode cX10_forth 2 = .ok (.putfield 1, 3) := by decide +kernel
theorem dX10_forth_5 : decode cX10_forth 5 = .ok (.aload_n 0, 1) := by decide +kernel
theorem dX10_forth_6 : decode cX10_forth 6 = .ok (.iload_n 1, 1) := by decide +kernel
theorem dX10_forth_7 : decode cX10_forth 7 = .ok (.invokevirtual 182, 3) := by decide +kernel
theorem dX10_forth_10 : decode cX10_forth 10 = .ok (.ifCond .ne 9, 3) := by decide +kernel
theorem dX10_forth_13 : decode cX10_forth 13 = .ok (.aload_n 0, 1) := by decide +kernel
theorem dX10_forth_14 : decode cX10_forth 14 = .ok (.iconst 1, 1) := by decide +kernel
theorem dX10_forth_15 : decode cX10_forth 15 = .ok (.invokevirtual 118, 3) := by decide +kernel
theorem dX10_forth_18 : decode cX10_forth 18 = .ok (.ireturn, 1) := by decide +kernel
theorem dX10_forth_19 : decode cX10_forth 19 = .ok (.aload_n 0, 1) := by decide +kernel
theorem dX10_forth_20 : decode cX10_forth 20 = .ok (.getfield 208, 3) := by decide +kernel
theorem dX10_forth_23 : decode cX10_forth 23 = .ok (.ifCond .ne 9, 3) := by decide +kernel
theorem dX10_forth_26 : decode cX10_forth 26 = .ok (.aload_n 0, 1) := by decide +kernel
theorem dX10_forth_27 : decode cX10_forth 27 = .ok (.iconst 2, 1) := by decide +kernel
theorem dX10_forth_28 : decode cX10_forth 28 = .ok (.invokevirtual 118, 3) := by decide +kernel
theorem dX10_forth_31 : decode cX10_forth 31 = .ok (.ireturn, 1) := by decide +kernel
theorem dX10_forth_32 : decode cX10_forth 32 = .ok (.aload_n 0, 1) := by decide +kernel
theorem dX10_forth_33 : decode cX10_forth 33 = .ok (.aload_n 0, 1) := by decide +kernel
theorem dX10_forth_34 : decode cX10_forth 34 = .ok (.getfield 42, 3) := by decide +kernel
theorem dX10_forth_37 : decode cX10_forth 37 = .ok (.iload_n 1, 1) := by decide +kernel
theorem dX10_forth_38 : decode cX10_forth 38 = .ok (.invokevirtual 185, 3) := by decide +kernel
theorem dX10_forth_41 : decode cX10_forth 41 = .ok (.iconst 0, 1) := by decide +kernel
theorem dX10_forth_42 : decode cX10_forth 42 = .ok (.istore_n 2, 1) := by decide +kernel
theorem dX10_forth_43 : decode cX10_forth 43 = .ok (.iload_n 2, 1) := by decide +kernel
theorem dX10_forth_44 : decode cX10_forth 44 = .ok (.aload_n 0, 1) := by decide +kernel
theorem dX10_forth_45 : decode cX10_forth 45 = .ok (.getfield 208, 3) := by decide +kernel
theorem dX10_forth_48 : decode cX10_forth 48 = .ok (.if_icmp .ge 29, 3) := by decide +kernel
theorem dX10_forth_51 : decode cX10_forth 51 = .ok (.aload_n 0, 1) := by decide +kernel
theorem dX10_forth_52 : decode cX10_forth 52 = .ok (.getfield 13, 3) := by decide +kernel
theorem dX10_forth_55 : decode cX10_forth 55 = .ok (.iload_n 2, 1) := by decide +kernel
theorem dX10_forth_56 : decode cX10_forth 56 = .ok (.aload_n 0, 1) := by decide +kernel
theorem dX10_forth_57 : decode cX10_forth 57 = .ok (.aload_n 0, 1) := by decide +kernel
theorem dX10_forth_58 : decode cX10_forth 58 = .ok (.getfield 42, 3) := by decide +kernel
theorem dX10_forth_61 : decode cX10_forth 61 = .ok (.aload_n 0, 1) := by decide +kernel
theorem dX10_forth_62 : decode cX10_forth 62 = .ok (.getfield 72, 3) := by decide +kernel
theorem dX10_forth_65 : decode cX10_forth 65 = .ok (.iload_n 2, 1) := by decide +kernel
theorem dX10_forth_66 : decode cX10_forth 66 = .ok (.iaload, 1) := by decide +kernel
theorem dX10_forth_67 : decode cX10_forth 67 = .ok (.invokevirtual 172, 3) := by decide +kernel
theorem dX10_forth_70 : decode cX10_forth 70 = .ok (.iastore, 1) := by decide +kernel
theorem dX10_forth_71 : decode cX10_forth 71 = .ok (.iinc 2 1, 3) := by decide +kernel
theorem dX10_forth_74 : decode cX10_forth 74 = .ok (.goto (-31), 3) := by decide +kernel
theorem dX10_forth_77 : decode cX10_forth 77 = .ok (.aload_n 0, 1) := by decide +kernel
theorem dX10_forth_78 : decode cX10_forth 78 = .ok (.aload_n 0, 1) := by decide +kernel
theorem dX10_forth_79 : decode cX10_forth 79 = .ok (.getfield 208, 3) := by decide +kernel
theorem dX10_forth_82 : decode cX10_forth 82 = .ok (.putfield 124, 3) := by decide +kernel
theorem dX10_forth_85 : decode cX10_forth 85 = .ok (.aload_n 0, 1) := by decide +kernel
theorem dX10_forth_86 : decode cX10_forth 86 = .ok (.getfield 124, 3) := by decide +kernel
theorem dX10_forth_89 : decode cX10_forth 89 = .ok (.ireturn, 1) := by decide +kernel
theorem dX10_back_0 : decode cX10_back 0 = .ok (.aload_n 0, 1) := by decide +kernel
theorem dX10_back_1 : decode cX10_back 1 = .ok (.iconst 0, 1) := by decide +kernel
theorem dX10_back_2 : decode cX10_back 2 = .ok (.putfield 1, 3) := by decide +kernel
theorem dX10_back_5 : decode cX10_back 5 = .ok (.aload_n 0, 1) := by decide +kernel
theorem dX10_back_6 : decode cX10_back 6 = .ok (.getfield 208, 3) := by decide +kernel
theorem dX10_back_9 : decode cX10_back 9 = .ok (.ifCond .eq 14, 3) := by decide +kernel
theorem dX10_back_12 : decode cX10_back 12 = .ok (.aload_n 0, 1) := by decide +kernel
theorem dX10_back_13 : decode cX10_back 13 = .ok (.getfield 124, 3) := by decide +kernel
theorem dX10_back_16 : decode cX10_back 16 = .ok (.aload_n 0, 1) := by decide +kernel
theorem dX10_back_17 : decode cX10_back 17 = .ok (.getfield 208, 3) := by decide +kernel
theorem dX10_back_20 : decode cX10_back 20 = .ok (.if_icmp .eq 9, 3) := by decide +kernel
theorem dX10_back_23 : decode cX10_back 23 = .ok (.aload_n 0, 1) := by decide +kernel
theorem dX10_back_24 : decode cX10_back 24 = .ok (.iconst 1, 1) := by decide +kernel
theorem dX10_back_25 : decode cX10_back 25 = .ok (.invokevirtual 118, 3) := by decide +kernel
theorem dX10_back_28 : decode cX10_back 28 = .ok (.ireturn, 1) := by decide +kernel
theorem dX10_back_29 : decode cX10_back 29 = .ok (.aload_n 0, 1) := by decide +kernel
theorem dX10_back_30 : decode cX10_back 30 = .ok (.getfield 158, 3) := by decide +kernel
theorem dX10_back_33 : decode cX10_back 33 = .ok (.bipush 40, 2) := by decide +kernel
theorem dX10_back_35 : decode cX10_back 35 = .ok (.if_icmp .ne 9, 3) := by decide +kernel
theorem dX10_back_38 : decode cX10_back 38 = .ok (.aload_n 0, 1) := by decide +kernel
theorem dX10_back_39 : decode cX10_back 39 = .ok (.iconst 2, 1) := by decide +kernel
theorem dX10_back_40 : decode cX10_back 40 = .ok (.invokevirtual 118, 3) := by decide +kernel
theorem dX10_back_43 : decode cX10_back 43 = .ok (.ireturn, 1) := by decide +kernel
theorem dX10_back_44 : decode cX10_back 44 = .ok (.aload_n 0, 1) := by decide +kernel
theorem dX10_back_45 : decode cX10_back 45 = .ok (.invokevirtual 175, 3) := by decide +kernel
theorem dX10_back_48 : decode cX10_back 48 = .ok (.iconst 0, 1) := by decide +kernel
theorem dX10_back_49 : decode cX10_back 49 = .ok (.istore_n 1, 1) := by decide +kernel
theorem dX10_back_50 : decode cX10_back 50 = .ok (.iload_n 1, 1) := by decide +kernel
theorem dX10_back_51 : decode cX10_back 51 = .ok (.aload_n 0, 1) := by decide +kernel
theorem dX10_back_52 : decode cX10_back 52 = .ok (.getfield 208, 3) := by decide +kernel
theorem dX10_back_55 : decode cX10_back 55 = .ok (.if_icmp .ge 25, 3) := by decide +kernel
theorem dX10_back_58 : decode cX10_back 58 = .ok (.aload_n 0, 1) := by decide +kernel
theorem dX10_back_59 : decode cX10_back 59 = .ok (.aload_n 0, 1) := by decide +kernel
theorem dX10_back_60 : decode cX10_back 60 = .ok (.getfield 72, 3) := by decide +kernel
theorem dX10_back_63 : decode cX10_back 63 = .ok (.iload_n 1, 1) := by decide +kernel
theorem dX10_back_64 : decode cX10_back 64 = .ok (.iaload, 1) := by decide +kernel
theorem dX10_back_65 : decode cX10_back 65 = .ok (.aload_n 0, 1) := by decide +kernel
theorem dX10_back_66 : decode cX10_back 66 = .ok (.getfield 13, 3) := by decide +kernel
theorem dX10_back_69 : decode cX10_back 69 = .ok (.iload_n 1, 1) := by decide +kernel
theorem dX10_back_70 : decode cX10_back 70 = .ok (.iaload, 1) := by decide +kernel
theorem dX10_back_71 : decode cX10_back 71 = .ok (.invokevirtual 178, 3) := by decide +kernel
theorem dX10_back_74 : decode cX10_back 74 = .ok (.iinc 1 1, 3) := by decide +kernel
theorem dX10_back_77 : decode cX10_back 77 = .ok (.goto (-27), 3) := by decide +kernel
theorem dX10_back_80 : decode cX10_back 80 = .ok (.aload_n 0, 1) := by decide +kernel
theorem dX10_back_81 : decode cX10_back 81 = .ok (.iconst 0, 1) := by decide +kernel
theorem dX10_back_82 : decode cX10_back 82 = .ok (.putfield 124, 3) := by decide +kernel
theorem dX10_back_85 : decode cX10_back 85 = .ok (.aload_n 0, 1) := by decide +kernel
theorem dX10_back_86 : decode cX10_back 86 = .ok (.aload_n 0, 1) := by decide +kernel
theorem dX10_back_87 : decode cX10_back 87 = .ok (.getfield 42, 3) := by decide +kernel
theorem dX10_back_90 : decode cX10_back 90 = .ok (.invokevirtual 169, 3) := by decide +kernel
theorem dX10_back_93 : decode cX10_back 93 = .ok (.ireturn, 1) := by decide +kernel
theorem dX10_told_0 : decode cX10_told 0 = .ok (.aload_n 0, 1) := by decide +kernel
theorem dX10_told_1 : decode cX10_told 1 = .ok (.iconst 0, 1) := by decide +kernel
theorem dX10_told_2 : decode cX10_told 2 = .ok (.putfield 1, 3) := by decide +kernel
theorem dX10_told_5 : decode cX10_told 5 = .ok (.iload_n 1, 1) := by decide +kernel
theorem dX10_told_6 : decode cX10_told 6 = .ok (.ifCond .ne 10, 3) := by decide +kernel
theorem dX10_told_9 : decode cX10_told 9 = .ok (.aload_n 0, 1) := by decide +kernel
theorem dX10_told_10 : decode cX10_told 10 = .ok (.getfield 124, 3) := by decide +kernel
theorem dX10_told_13 : decode cX10_told 13 = .ok (.goto 44, 3) := by decide +kernel
theorem dX10_told_16 : decode cX10_told 16 = .ok (.iload_n 1, 1) := by decide +kernel
theorem dX10_told_17 : decode cX10_told 17 = .ok (.iconst 1, 1) := by decide +kernel
theorem dX10_told_18 : decode cX10_told 18 = .ok (.if_icmp .ne 10, 3) := by decide +kernel
theorem dX10_told_21 : decode cX10_told 21 = .ok (.aload_n 0, 1) := by decide +kernel
theorem dX10_told_22 : decode cX10_told 22 = .ok (.getfield 127, 3) := by decide +kernel
theorem dX10_told_25 : decode cX10_told 25 = .ok (.goto 32, 3) := by decide +kernel
theorem dX10_told_28 : decode cX10_told 28 = .ok (.iload_n 1, 1) := by decide +kernel
theorem dX10_told_29 : decode cX10_told 29 = .ok (.iconst 2, 1) := by decide +kernel
theorem dX10_told_30 : decode cX10_told 30 = .ok (.if_icmp .ne 10, 3) := by decide +kernel
theorem dX10_told_33 : decode cX10_told 33 = .ok (.aload_n 0, 1) := by decide +kernel
theorem dX10_told_34 : decode cX10_told 34 = .ok (.getfield 158, 3) := by decide +kernel
theorem dX10_told_37 : decode cX10_told 37 = .ok (.goto 20, 3) := by decide +kernel
theorem dX10_told_40 : decode cX10_told 40 = .ok (.iload_n 1, 1) := by decide +kernel
theorem dX10_told_41 : decode cX10_told 41 = .ok (.iconst 3, 1) := by decide +kernel
theorem dX10_told_42 : decode cX10_told 42 = .ok (.if_icmp .ne 10, 3) := by decide +kernel
theorem dX10_told_45 : decode cX10_told 45 = .ok (.aload_n 0, 1) := by decide +kernel
theorem dX10_told_46 : decode cX10_told 46 = .ok (.getfield 208, 3) := by decide +kernel
theorem dX10_told_49 : decode cX10_told 49 = .ok (.goto 8, 3) := by decide +kernel
theorem dX10_told_52 : decode cX10_told 52 = .ok (.aload_n 0, 1) := by decide +kernel
theorem dX10_told_53 : decode cX10_told 53 = .ok (.iconst 1, 1) := by decide +kernel
theorem dX10_told_54 : decode cX10_told 54 = .ok (.invokevirtual 118, 3) := by decide +kernel
theorem dX10_told_57 : decode cX10_told 57 = .ok (.ireturn, 1) := by decide +kernel
theorem dJx00060_init_a7421_0 : decode cJx00060_init_a7421 0 = .ok (.aload_n 0, 1) := by decide +kernel
theorem dJx00060_init_a7421_1 : decode cJx00060_init_a7421 1 = .ok (.aload_n 1, 1) := by decide +kernel
theorem dJx00060_init_a7421_2 : decode cJx00060_init_a7421 2 = .ok (.invokespecial 7, 3) := by decide +kernel
theorem dJx00060_init_a7421_5 : decode cJx00060_init_a7421 5 = .ok (.return_, 1) := by decide +kernel
theorem dJ6_numberOfLeadingZeros_0f7a4_0 : decode cJ6_numberOfLeadingZeros_0f7a4 0 = .ok (.iload_n 0, 1) := by decide +kernel
theorem dJ6_numberOfLeadingZeros_0f7a4_1 : decode cJ6_numberOfLeadingZeros_0f7a4 1 = .ok (.ifCond .gt 14, 3) := by decide +kernel
theorem dJ6_numberOfLeadingZeros_0f7a4_4 : decode cJ6_numberOfLeadingZeros_0f7a4 4 = .ok (.iload_n 0, 1) := by decide +kernel
theorem dJ6_numberOfLeadingZeros_0f7a4_5 : decode cJ6_numberOfLeadingZeros_0f7a4 5 = .ok (.ifCond .ne 8, 3) := by decide +kernel
theorem dJ6_numberOfLeadingZeros_0f7a4_8 : decode cJ6_numberOfLeadingZeros_0f7a4 8 = .ok (.bipush 32, 2) := by decide +kernel
theorem dJ6_numberOfLeadingZeros_0f7a4_10 : decode cJ6_numberOfLeadingZeros_0f7a4 10 = .ok (.goto 4, 3) := by decide +kernel
theorem dJ6_numberOfLeadingZeros_0f7a4_13 : decode cJ6_numberOfLeadingZeros_0f7a4 13 = .ok (.iconst 0, 1) := by decide +kernel
theorem dJ6_numberOfLeadingZeros_0f7a4_14 : decode cJ6_numberOfLeadingZeros_0f7a4 14 = .ok (.ireturn, 1) := by decide +kernel
theorem dJ6_numberOfLeadingZeros_0f7a4_15 : decode cJ6_numberOfLeadingZeros_0f7a4 15 = .ok (.bipush 31, 2) := by decide +kernel
theorem dJ6_numberOfLeadingZeros_0f7a4_17 : decode cJ6_numberOfLeadingZeros_0f7a4 17 = .ok (.istore_n 1, 1) := by decide +kernel
theorem dJ6_numberOfLeadingZeros_0f7a4_18 : decode cJ6_numberOfLeadingZeros_0f7a4 18 = .ok (.iload_n 0, 1) := by decide +kernel
theorem dJ6_numberOfLeadingZeros_0f7a4_19 : decode cJ6_numberOfLeadingZeros_0f7a4 19 = .ok (.ldc_w 264, 3) := by decide +kernel
theorem dJ6_numberOfLeadingZeros_0f7a4_22 : decode cJ6_numberOfLeadingZeros_0f7a4 22 = .ok (.if_icmp .lt 11, 3) := by decide +kernel
theorem dJ6_numberOfLeadingZeros_0f7a4_25 : decode cJ6_numberOfLeadingZeros_0f7a4 25 = .ok (.iinc 1 (-16), 3) := by decide +kernel
theorem dJ6_numberOfLeadingZeros_0f7a4_28 : decode cJ6_numberOfLeadingZeros_0f7a4 28 = .ok (.iload_n 0, 1) := by decide +kernel
theorem dJ6_numberOfLeadingZeros_0f7a4_29 : decode cJ6_numberOfLeadingZeros_0f7a4 29 = .ok (.bipush 16, 2) := by decide +kernel
theorem dJ6_numberOfLeadingZeros_0f7a4_31 : decode cJ6_numberOfLeadingZeros_0f7a4 31 = .ok (.iushr, 1) := by decide +kernel
theorem dJ6_numberOfLeadingZeros_0f7a4_32 : decode cJ6_numberOfLeadingZeros_0f7a4 32 = .ok (.istore_n 0, 1) := by decide +kernel
theorem dJ6_numberOfLeadingZeros_0f7a4_33 : decode cJ6_numberOfLeadingZeros_0f7a4 33 = .ok (.iload_n 0, 1) := by decide +kernel
theorem dJ6_numberOfLeadingZeros_0f7a4_34 : decode cJ6_numberOfLeadingZeros_0f7a4 34 = .ok (.sipush 256, 3) := by decide +kernel
theorem dJ6_numberOfLeadingZeros_0f7a4_37 : decode cJ6_numberOfLeadingZeros_0f7a4 37 = .ok (.if_icmp .lt 11, 3) := by decide +kernel
theorem dJ6_numberOfLeadingZeros_0f7a4_40 : decode cJ6_numberOfLeadingZeros_0f7a4 40 = .ok (.iinc 1 (-8), 3) := by decide +kernel
theorem dJ6_numberOfLeadingZeros_0f7a4_43 : decode cJ6_numberOfLeadingZeros_0f7a4 43 = .ok (.iload_n 0, 1) := by decide +kernel
theorem dJ6_numberOfLeadingZeros_0f7a4_44 : decode cJ6_numberOfLeadingZeros_0f7a4 44 = .ok (.bipush 8, 2) := by decide +kernel
theorem dJ6_numberOfLeadingZeros_0f7a4_46 : decode cJ6_numberOfLeadingZeros_0f7a4 46 = .ok (.iushr, 1) := by decide +kernel
theorem dJ6_numberOfLeadingZeros_0f7a4_47 : decode cJ6_numberOfLeadingZeros_0f7a4 47 = .ok (.istore_n 0, 1) := by decide +kernel
theorem dJ6_numberOfLeadingZeros_0f7a4_48 : decode cJ6_numberOfLeadingZeros_0f7a4 48 = .ok (.iload_n 0, 1) := by decide +kernel
theorem dJ6_numberOfLeadingZeros_0f7a4_49 : decode cJ6_numberOfLeadingZeros_0f7a4 49 = .ok (.bipush 16, 2) := by decide +kernel
theorem dJ6_numberOfLeadingZeros_0f7a4_51 : decode cJ6_numberOfLeadingZeros_0f7a4 51 = .ok (.if_icmp .lt 10, 3) := by decide +kernel
theorem dJ6_numberOfLeadingZeros_0f7a4_54 : decode cJ6_numberOfLeadingZeros_0f7a4 54 = .ok (.iinc 1 (-4), 3) := by decide +kernel
theorem dJ6_numberOfLeadingZeros_0f7a4_57 : decode cJ6_numberOfLeadingZeros_0f7a4 57 = .ok (.iload_n 0, 1) := by decide +kernel
theorem dJ6_numberOfLeadingZeros_0f7a4_58 : decode cJ6_numberOfLeadingZeros_0f7a4 58 = .ok (.iconst 4, 1) := by decide +kernel
theorem dJ6_numberOfLeadingZeros_0f7a4_59 : decode cJ6_numberOfLeadingZeros_0f7a4 59 = .ok (.iushr, 1) := by decide +kernel
theorem dJ6_numberOfLeadingZeros_0f7a4_60 : decode cJ6_numberOfLeadingZeros_0f7a4 60 = .ok (.istore_n 0, 1) := by decide +kernel
theorem dJ6_numberOfLeadingZeros_0f7a4_61 : decode cJ6_numberOfLeadingZeros_0f7a4 61 = .ok (.iload_n 0, 1) := by decide +kernel
theorem dJ6_numberOfLeadingZeros_0f7a4_62 : decode cJ6_numberOfLeadingZeros_0f7a4 62 = .ok (.iconst 4, 1) := by decide +kernel
theorem dJ6_numberOfLeadingZeros_0f7a4_63 : decode cJ6_numberOfLeadingZeros_0f7a4 63 = .ok (.if_icmp .lt 10, 3) := by decide +kernel
theorem dJ6_numberOfLeadingZeros_0f7a4_66 : decode cJ6_numberOfLeadingZeros_0f7a4 66 = .ok (.iinc 1 (-2), 3) := by decide +kernel
theorem dJ6_numberOfLeadingZeros_0f7a4_69 : decode cJ6_numberOfLeadingZeros_0f7a4 69 = .ok (.iload_n 0, 1) := by decide +kernel
theorem dJ6_numberOfLeadingZeros_0f7a4_70 : decode cJ6_numberOfLeadingZeros_0f7a4 70 = .ok (.iconst 2, 1) := by decide +kernel
theorem dJ6_numberOfLeadingZeros_0f7a4_71 : decode cJ6_numberOfLeadingZeros_0f7a4 71 = .ok (.iushr, 1) := by decide +kernel
theorem dJ6_numberOfLeadingZeros_0f7a4_72 : decode cJ6_numberOfLeadingZeros_0f7a4 72 = .ok (.istore_n 0, 1) := by decide +kernel
theorem dJ6_numberOfLeadingZeros_0f7a4_73 : decode cJ6_numberOfLeadingZeros_0f7a4 73 = .ok (.iload_n 1, 1) := by decide +kernel
theorem dJ6_numberOfLeadingZeros_0f7a4_74 : decode cJ6_numberOfLeadingZeros_0f7a4 74 = .ok (.iload_n 0, 1) := by decide +kernel
theorem dJ6_numberOfLeadingZeros_0f7a4_75 : decode cJ6_numberOfLeadingZeros_0f7a4 75 = .ok (.iconst 1, 1) := by decide +kernel
theorem dJ6_numberOfLeadingZeros_0f7a4_76 : decode cJ6_numberOfLeadingZeros_0f7a4 76 = .ok (.iushr, 1) := by decide +kernel
theorem dJ6_numberOfLeadingZeros_0f7a4_77 : decode cJ6_numberOfLeadingZeros_0f7a4 77 = .ok (.isub, 1) := by decide +kernel
theorem dJ6_numberOfLeadingZeros_0f7a4_78 : decode cJ6_numberOfLeadingZeros_0f7a4 78 = .ok (.ireturn, 1) := by decide +kernel
theorem dJ6_numberOfTrailingZeros_0f7a4_0 : decode cJ6_numberOfTrailingZeros_0f7a4 0 = .ok (.iload_n 0, 1) := by decide +kernel
theorem dJ6_numberOfTrailingZeros_0f7a4_1 : decode cJ6_numberOfTrailingZeros_0f7a4 1 = .ok (.iconst (-1), 1) := by decide +kernel
theorem dJ6_numberOfTrailingZeros_0f7a4_2 : decode cJ6_numberOfTrailingZeros_0f7a4 2 = .ok (.ixor, 1) := by decide +kernel
theorem dJ6_numberOfTrailingZeros_0f7a4_3 : decode cJ6_numberOfTrailingZeros_0f7a4 3 = .ok (.iload_n 0, 1) := by decide +kernel
theorem dJ6_numberOfTrailingZeros_0f7a4_4 : decode cJ6_numberOfTrailingZeros_0f7a4 4 = .ok (.iconst 1, 1) := by decide +kernel
theorem dJ6_numberOfTrailingZeros_0f7a4_5 : decode cJ6_numberOfTrailingZeros_0f7a4 5 = .ok (.isub, 1) := by decide +kernel
theorem dJ6_numberOfTrailingZeros_0f7a4_6 : decode cJ6_numberOfTrailingZeros_0f7a4 6 = .ok (.iand, 1) := by decide +kernel
theorem dJ6_numberOfTrailingZeros_0f7a4_7 : decode cJ6_numberOfTrailingZeros_0f7a4 7 = .ok (.istore_n 0, 1) := by decide +kernel
theorem dJ6_numberOfTrailingZeros_0f7a4_8 : decode cJ6_numberOfTrailingZeros_0f7a4 8 = .ok (.iload_n 0, 1) := by decide +kernel
theorem dJ6_numberOfTrailingZeros_0f7a4_9 : decode cJ6_numberOfTrailingZeros_0f7a4 9 = .ok (.ifCond .gt 8, 3) := by decide +kernel
theorem dJ6_numberOfTrailingZeros_0f7a4_12 : decode cJ6_numberOfTrailingZeros_0f7a4 12 = .ok (.iload_n 0, 1) := by decide +kernel
theorem dJ6_numberOfTrailingZeros_0f7a4_13 : decode cJ6_numberOfTrailingZeros_0f7a4 13 = .ok (.bipush 32, 2) := by decide +kernel
theorem dJ6_numberOfTrailingZeros_0f7a4_15 : decode cJ6_numberOfTrailingZeros_0f7a4 15 = .ok (.iand, 1) := by decide +kernel
theorem dJ6_numberOfTrailingZeros_0f7a4_16 : decode cJ6_numberOfTrailingZeros_0f7a4 16 = .ok (.ireturn, 1) := by decide +kernel
theorem dJ6_numberOfTrailingZeros_0f7a4_17 : decode cJ6_numberOfTrailingZeros_0f7a4 17 = .ok (.iconst 1, 1) := by decide +kernel
theorem dJ6_numberOfTrailingZeros_0f7a4_18 : decode cJ6_numberOfTrailingZeros_0f7a4 18 = .ok (.istore_n 1, 1) := by decide +kernel
theorem dJ6_numberOfTrailingZeros_0f7a4_19 : decode cJ6_numberOfTrailingZeros_0f7a4 19 = .ok (.iload_n 0, 1) := by decide +kernel
theorem dJ6_numberOfTrailingZeros_0f7a4_20 : decode cJ6_numberOfTrailingZeros_0f7a4 20 = .ok (.ldc_w 264, 3) := by decide +kernel
theorem dJ6_numberOfTrailingZeros_0f7a4_23 : decode cJ6_numberOfTrailingZeros_0f7a4 23 = .ok (.if_icmp .le 11, 3) := by decide +kernel
theorem dJ6_numberOfTrailingZeros_0f7a4_26 : decode cJ6_numberOfTrailingZeros_0f7a4 26 = .ok (.iinc 1 16, 3) := by decide +kernel
theorem dJ6_numberOfTrailingZeros_0f7a4_29 : decode cJ6_numberOfTrailingZeros_0f7a4 29 = .ok (.iload_n 0, 1) := by decide +kernel
theorem dJ6_numberOfTrailingZeros_0f7a4_30 : decode cJ6_numberOfTrailingZeros_0f7a4 30 = .ok (.bipush 16, 2) := by decide +kernel
theorem dJ6_numberOfTrailingZeros_0f7a4_32 : decode cJ6_numberOfTrailingZeros_0f7a4 32 = .ok (.iushr, 1) := by decide +kernel
theorem dJ6_numberOfTrailingZeros_0f7a4_33 : decode cJ6_numberOfTrailingZeros_0f7a4 33 = .ok (.istore_n 0, 1) := by decide +kernel
theorem dJ6_numberOfTrailingZeros_0f7a4_34 : decode cJ6_numberOfTrailingZeros_0f7a4 34 = .ok (.iload_n 0, 1) := by decide +kernel
theorem dJ6_numberOfTrailingZeros_0f7a4_35 : decode cJ6_numberOfTrailingZeros_0f7a4 35 = .ok (.sipush 256, 3) := by decide +kernel
theorem dJ6_numberOfTrailingZeros_0f7a4_38 : decode cJ6_numberOfTrailingZeros_0f7a4 38 = .ok (.if_icmp .le 11, 3) := by decide +kernel
theorem dJ6_numberOfTrailingZeros_0f7a4_41 : decode cJ6_numberOfTrailingZeros_0f7a4 41 = .ok (.iinc 1 8, 3) := by decide +kernel
theorem dJ6_numberOfTrailingZeros_0f7a4_44 : decode cJ6_numberOfTrailingZeros_0f7a4 44 = .ok (.iload_n 0, 1) := by decide +kernel
theorem dJ6_numberOfTrailingZeros_0f7a4_45 : decode cJ6_numberOfTrailingZeros_0f7a4 45 = .ok (.bipush 8, 2) := by decide +kernel
theorem dJ6_numberOfTrailingZeros_0f7a4_47 : decode cJ6_numberOfTrailingZeros_0f7a4 47 = .ok (.iushr, 1) := by decide +kernel
theorem dJ6_numberOfTrailingZeros_0f7a4_48 : decode cJ6_numberOfTrailingZeros_0f7a4 48 = .ok (.istore_n 0, 1) := by decide +kernel
theorem dJ6_numberOfTrailingZeros_0f7a4_49 : decode cJ6_numberOfTrailingZeros_0f7a4 49 = .ok (.iload_n 0, 1) := by decide +kernel
theorem dJ6_numberOfTrailingZeros_0f7a4_50 : decode cJ6_numberOfTrailingZeros_0f7a4 50 = .ok (.bipush 16, 2) := by decide +kernel
theorem dJ6_numberOfTrailingZeros_0f7a4_52 : decode cJ6_numberOfTrailingZeros_0f7a4 52 = .ok (.if_icmp .le 10, 3) := by decide +kernel
theorem dJ6_numberOfTrailingZeros_0f7a4_55 : decode cJ6_numberOfTrailingZeros_0f7a4 55 = .ok (.iinc 1 4, 3) := by decide +kernel
theorem dJ6_numberOfTrailingZeros_0f7a4_58 : decode cJ6_numberOfTrailingZeros_0f7a4 58 = .ok (.iload_n 0, 1) := by decide +kernel
theorem dJ6_numberOfTrailingZeros_0f7a4_59 : decode cJ6_numberOfTrailingZeros_0f7a4 59 = .ok (.iconst 4, 1) := by decide +kernel
theorem dJ6_numberOfTrailingZeros_0f7a4_60 : decode cJ6_numberOfTrailingZeros_0f7a4 60 = .ok (.iushr, 1) := by decide +kernel
theorem dJ6_numberOfTrailingZeros_0f7a4_61 : decode cJ6_numberOfTrailingZeros_0f7a4 61 = .ok (.istore_n 0, 1) := by decide +kernel
theorem dJ6_numberOfTrailingZeros_0f7a4_62 : decode cJ6_numberOfTrailingZeros_0f7a4 62 = .ok (.iload_n 0, 1) := by decide +kernel
theorem dJ6_numberOfTrailingZeros_0f7a4_63 : decode cJ6_numberOfTrailingZeros_0f7a4 63 = .ok (.iconst 4, 1) := by decide +kernel
theorem dJ6_numberOfTrailingZeros_0f7a4_64 : decode cJ6_numberOfTrailingZeros_0f7a4 64 = .ok (.if_icmp .le 10, 3) := by decide +kernel
theorem dJ6_numberOfTrailingZeros_0f7a4_67 : decode cJ6_numberOfTrailingZeros_0f7a4 67 = .ok (.iinc 1 2, 3) := by decide +kernel
theorem dJ6_numberOfTrailingZeros_0f7a4_70 : decode cJ6_numberOfTrailingZeros_0f7a4 70 = .ok (.iload_n 0, 1) := by decide +kernel
theorem dJ6_numberOfTrailingZeros_0f7a4_71 : decode cJ6_numberOfTrailingZeros_0f7a4 71 = .ok (.iconst 2, 1) := by decide +kernel
theorem dJ6_numberOfTrailingZeros_0f7a4_72 : decode cJ6_numberOfTrailingZeros_0f7a4 72 = .ok (.iushr, 1) := by decide +kernel
theorem dJ6_numberOfTrailingZeros_0f7a4_73 : decode cJ6_numberOfTrailingZeros_0f7a4 73 = .ok (.istore_n 0, 1) := by decide +kernel
theorem dJ6_numberOfTrailingZeros_0f7a4_74 : decode cJ6_numberOfTrailingZeros_0f7a4 74 = .ok (.iload_n 1, 1) := by decide +kernel
theorem dJ6_numberOfTrailingZeros_0f7a4_75 : decode cJ6_numberOfTrailingZeros_0f7a4 75 = .ok (.iload_n 0, 1) := by decide +kernel
theorem dJ6_numberOfTrailingZeros_0f7a4_76 : decode cJ6_numberOfTrailingZeros_0f7a4 76 = .ok (.iconst 1, 1) := by decide +kernel
theorem dJ6_numberOfTrailingZeros_0f7a4_77 : decode cJ6_numberOfTrailingZeros_0f7a4 77 = .ok (.iushr, 1) := by decide +kernel
theorem dJ6_numberOfTrailingZeros_0f7a4_78 : decode cJ6_numberOfTrailingZeros_0f7a4 78 = .ok (.iadd, 1) := by decide +kernel
theorem dJ6_numberOfTrailingZeros_0f7a4_79 : decode cJ6_numberOfTrailingZeros_0f7a4 79 = .ok (.ireturn, 1) := by decide +kernel
theorem dJ6_bitCount_0f7a4_0 : decode cJ6_bitCount_0f7a4 0 = .ok (.iload_n 0, 1) := by decide +kernel
theorem dJ6_bitCount_0f7a4_1 : decode cJ6_bitCount_0f7a4 1 = .ok (.iload_n 0, 1) := by decide +kernel
theorem dJ6_bitCount_0f7a4_2 : decode cJ6_bitCount_0f7a4 2 = .ok (.iconst 1, 1) := by decide +kernel
theorem dJ6_bitCount_0f7a4_3 : decode cJ6_bitCount_0f7a4 3 = .ok (.iushr, 1) := by decide +kernel
theorem dJ6_bitCount_0f7a4_4 : decode cJ6_bitCount_0f7a4 4 = .ok (.ldc_w 265, 3) := by decide +kernel
theorem dJ6_bitCount_0f7a4_7 : decode cJ6_bitCount_0f7a4 7 = .ok (.iand, 1) := by decide +kernel
theorem dJ6_bitCount_0f7a4_8 : decode cJ6_bitCount_0f7a4 8 = .ok (.isub, 1) := by decide +kernel
theorem dJ6_bitCount_0f7a4_9 : decode cJ6_bitCount_0f7a4 9 = .ok (.istore_n 0, 1) := by decide +kernel
theorem dJ6_bitCount_0f7a4_10 : decode cJ6_bitCount_0f7a4 10 = .ok (.iload_n 0, 1) := by decide +kernel
theorem dJ6_bitCount_0f7a4_11 : decode cJ6_bitCount_0f7a4 11 = .ok (.ldc_w 266, 3) := by decide +kernel
theorem dJ6_bitCount_0f7a4_14 : decode cJ6_bitCount_0f7a4 14 = .ok (.iand, 1) := by decide +kernel
theorem dJ6_bitCount_0f7a4_15 : decode cJ6_bitCount_0f7a4 15 = .ok (.iload_n 0, 1) := by decide +kernel
theorem dJ6_bitCount_0f7a4_16 : decode cJ6_bitCount_0f7a4 16 = .ok (.iconst 2, 1) := by decide +kernel
theorem dJ6_bitCount_0f7a4_17 : decode cJ6_bitCount_0f7a4 17 = .ok (.iushr, 1) := by decide +kernel
theorem dJ6_bitCount_0f7a4_18 : decode cJ6_bitCount_0f7a4 18 = .ok (.ldc_w 266, 3) := by decide +kernel
theorem dJ6_bitCount_0f7a4_21 : decode cJ6_bitCount_0f7a4 21 = .ok (.iand, 1) := by decide +kernel
theorem dJ6_bitCount_0f7a4_22 : decode cJ6_bitCount_0f7a4 22 = .ok (.iadd, 1) := by decide +kernel
theorem dJ6_bitCount_0f7a4_23 : decode cJ6_bitCount_0f7a4 23 = .ok (.istore_n 0, 1) := by decide +kernel
theorem dJ6_bitCount_0f7a4_24 : decode cJ6_bitCount_0f7a4 24 = .ok (.iload_n 0, 1) := by decide +kernel
theorem dJ6_bitCount_0f7a4_25 : decode cJ6_bitCount_0f7a4 25 = .ok (.iload_n 0, 1) := by decide +kernel
theorem dJ6_bitCount_0f7a4_26 : decode cJ6_bitCount_0f7a4 26 = .ok (.iconst 4, 1) := by decide +kernel
theorem dJ6_bitCount_0f7a4_27 : decode cJ6_bitCount_0f7a4 27 = .ok (.iushr, 1) := by decide +kernel
theorem dJ6_bitCount_0f7a4_28 : decode cJ6_bitCount_0f7a4 28 = .ok (.iadd, 1) := by decide +kernel
theorem dJ6_bitCount_0f7a4_29 : decode cJ6_bitCount_0f7a4 29 = .ok (.ldc_w 267, 3) := by decide +kernel
theorem dJ6_bitCount_0f7a4_32 : decode cJ6_bitCount_0f7a4 32 = .ok (.iand, 1) := by decide +kernel
theorem dJ6_bitCount_0f7a4_33 : decode cJ6_bitCount_0f7a4 33 = .ok (.istore_n 0, 1) := by decide +kernel
theorem dJ6_bitCount_0f7a4_34 : decode cJ6_bitCount_0f7a4 34 = .ok (.iload_n 0, 1) := by decide +kernel
theorem dJ6_bitCount_0f7a4_35 : decode cJ6_bitCount_0f7a4 35 = .ok (.iload_n 0, 1) := by decide +kernel
theorem dJ6_bitCount_0f7a4_36 : decode cJ6_bitCount_0f7a4 36 = .ok (.bipush 8, 2) := by decide +kernel
theorem dJ6_bitCount_0f7a4_38 : decode cJ6_bitCount_0f7a4 38 = .ok (.iushr, 1) := by decide +kernel
theorem dJ6_bitCount_0f7a4_39 : decode cJ6_bitCount_0f7a4 39 = .ok (.iadd, 1) := by decide +kernel
theorem dJ6_bitCount_0f7a4_40 : decode cJ6_bitCount_0f7a4 40 = .ok (.istore_n 0, 1) := by decide +kernel
theorem dJ6_bitCount_0f7a4_41 : decode cJ6_bitCount_0f7a4 41 = .ok (.iload_n 0, 1) := by decide +kernel
theorem dJ6_bitCount_0f7a4_42 : decode cJ6_bitCount_0f7a4 42 = .ok (.iload_n 0, 1) := by decide +kernel
theorem dJ6_bitCount_0f7a4_43 : decode cJ6_bitCount_0f7a4 43 = .ok (.bipush 16, 2) := by decide +kernel
theorem dJ6_bitCount_0f7a4_45 : decode cJ6_bitCount_0f7a4 45 = .ok (.iushr, 1) := by decide +kernel
theorem dJ6_bitCount_0f7a4_46 : decode cJ6_bitCount_0f7a4 46 = .ok (.iadd, 1) := by decide +kernel
theorem dJ6_bitCount_0f7a4_47 : decode cJ6_bitCount_0f7a4 47 = .ok (.istore_n 0, 1) := by decide +kernel
theorem dJ6_bitCount_0f7a4_48 : decode cJ6_bitCount_0f7a4 48 = .ok (.iload_n 0, 1) := by decide +kernel
theorem dJ6_bitCount_0f7a4_49 : decode cJ6_bitCount_0f7a4 49 = .ok (.bipush 63, 2) := by decide +kernel
theorem dJ6_bitCount_0f7a4_51 : decode cJ6_bitCount_0f7a4 51 = .ok (.iand, 1) := by decide +kernel
theorem dJ6_bitCount_0f7a4_52 : decode cJ6_bitCount_0f7a4 52 = .ok (.ireturn, 1) := by decide +kernel
theorem dJ9_max_7cf53_0 : decode cJ9_max_7cf53 0 = .ok (.iload_n 0, 1) := by decide +kernel
theorem dJ9_max_7cf53_1 : decode cJ9_max_7cf53 1 = .ok (.iload_n 1, 1) := by decide +kernel
theorem dJ9_max_7cf53_2 : decode cJ9_max_7cf53 2 = .ok (.if_icmp .lt 7, 3) := by decide +kernel
theorem dJ9_max_7cf53_5 : decode cJ9_max_7cf53 5 = .ok (.iload_n 0, 1) := by decide +kernel
theorem dJ9_max_7cf53_6 : decode cJ9_max_7cf53 6 = .ok (.goto 4, 3) := by decide +kernel
theorem dJ9_max_7cf53_9 : decode cJ9_max_7cf53 9 = .ok (.iload_n 1, 1) := by decide +kernel
theorem dJ9_max_7cf53_10 : decode cJ9_max_7cf53 10 = .ok (.ireturn, 1) := by decide +kernel
theorem dL_cell_0 : decode cL_cell 0 = .ok (.iload_n 1, 1) := by decide +kernel
theorem dL_cell_1 : decode cL_cell 1 = .ok (.aload_n 0, 1) := by decide +kernel
theorem dL_cell_2 : decode cL_cell 2 = .ok (.arraylength, 1) := by decide +kernel
theorem dL_cell_3 : decode cL_cell 3 = .ok (.if_icmp .ge 9, 3) := by decide +kernel
theorem dL_cell_6 : decode cL_cell 6 = .ok (.aload_n 0, 1) := by decide +kernel
theorem dL_cell_7 : decode cL_cell 7 = .ok (.iload_n 1, 1) := by decide +kernel
theorem dL_cell_8 : decode cL_cell 8 = .ok (.iaload, 1) := by decide +kernel
theorem dL_cell_9 : decode cL_cell 9 = .ok (.goto 4, 3) := by decide +kernel
theorem dL_cell_12 : decode cL_cell 12 = .ok (.iconst 0, 1) := by decide +kernel
theorem dL_cell_13 : decode cL_cell 13 = .ok (.ireturn, 1) := by decide +kernel
theorem dL_product_0 : decode cL_product 0 = .ok (.aload_n 3, 1) := by decide +kernel
theorem dL_product_1 : decode cL_product 1 = .ok (.iconst 0, 1) := by decide +kernel
theorem dL_product_2 : decode cL_product 2 = .ok (.aload_n 0, 1) := by decide +kernel
theorem dL_product_3 : decode cL_product 3 = .ok (.iload_n 1, 1) := by decide +kernel
theorem dL_product_4 : decode cL_product 4 = .ok (.iload_n 2, 1) := by decide +kernel
theorem dL_product_5 : decode cL_product 5 = .ok (.invokevirtual 7, 3) := by decide +kernel
theorem dL_product_8 : decode cL_product 8 = .ok (.i2l, 1) := by decide +kernel
theorem dL_product_9 : decode cL_product 9 = .ok (.lastore, 1) := by decide +kernel
theorem dL_product_10 : decode cL_product 10 = .ok (.goto 7, 3) := by decide +kernel
theorem dL_product_13 : decode cL_product 13 = .ok (.astore 4, 2) := by decide +kernel
theorem dL_product_15 : decode cL_product 15 = .ok (.iconst 1, 1) := by decide +kernel
theorem dL_product_16 : decode cL_product 16 = .ok (.ireturn, 1) := by decide +kernel
theorem dL_product_17 : decode cL_product 17 = .ok (.iconst 0, 1) := by decide +kernel
theorem dL_product_18 : decode cL_product 18 = .ok (.ireturn, 1) := by decide +kernel
theorem dL_quotient_0 : decode cL_quotient 0 = .ok (.aload_n 3, 1) := by decide +kernel
theorem dL_quotient_1 : decode cL_quotient 1 = .ok (.iconst 0, 1) := by decide +kernel
theorem dL_quotient_2 : decode cL_quotient 2 = .ok (.aload_n 0, 1) := by decide +kernel
theorem dL_quotient_3 : decode cL_quotient 3 = .ok (.iload_n 1, 1) := by decide +kernel
theorem dL_quotient_4 : decode cL_quotient 4 = .ok (.iload_n 2, 1) := by decide +kernel
theorem dL_quotient_5 : decode cL_quotient 5 = .ok (.invokevirtual 15, 3) := by decide +kernel
theorem dL_quotient_8 : decode cL_quotient 8 = .ok (.i2l, 1) := by decide +kernel
theorem dL_quotient_9 : decode cL_quotient 9 = .ok (.lastore, 1) := by decide +kernel
theorem dL_quotient_10 : decode cL_quotient 10 = .ok (.goto 11, 3) := by decide +kernel
theorem dL_quotient_13 : decode cL_quotient 13 = .ok (.astore 4, 2) := by decide +kernel
theorem dL_quotient_15 : decode cL_quotient 15 = .ok (.iconst 1, 1) := by decide +kernel
theorem dL_quotient_16 : decode cL_quotient 16 = .ok (.ireturn, 1) := by decide +kernel
theorem dL_quotient_17 : decode cL_quotient 17 = .ok (.astore 4, 2) := by decide +kernel
theorem dL_quotient_19 : decode cL_quotient 19 = .ok (.iconst 2, 1) := by decide +kernel
theorem dL_quotient_20 : decode cL_quotient 20 = .ok (.ireturn, 1) := by decide +kernel
theorem dL_quotient_21 : decode cL_quotient 21 = .ok (.iconst 0, 1) := by decide +kernel
theorem dL_quotient_22 : decode cL_quotient 22 = .ok (.ireturn, 1) := by decide +kernel
theorem dL_power_0 : decode cL_power 0 = .ok (.aload 4, 2) := by decide +kernel
theorem dL_power_2 : decode cL_power 2 = .ok (.iconst 0, 1) := by decide +kernel
theorem dL_power_3 : decode cL_power 3 = .ok (.aload_n 0, 1) := by decide +kernel
theorem dL_power_4 : decode cL_power 4 = .ok (.iload_n 1, 1) := by decide +kernel
theorem dL_power_5 : decode cL_power 5 = .ok (.lload_n 2, 1) := by decide +kernel
theorem dL_power_6 : decode cL_power 6 = .ok (.invokevirtual 20, 3) := by decide +kernel
theorem dL_power_9 : decode cL_power 9 = .ok (.i2l, 1) := by decide +kernel
theorem dL_power_10 : decode cL_power 10 = .ok (.lastore, 1) := by decide +kernel
theorem dL_power_11 : decode cL_power 11 = .ok (.goto 11, 3) := by decide +kernel
theorem dL_power_14 : decode cL_power 14 = .ok (.astore 5, 2) := by decide +kernel
theorem dL_power_16 : decode cL_power 16 = .ok (.iconst 1, 1) := by decide +kernel
theorem dL_power_17 : decode cL_power 17 = .ok (.ireturn, 1) := by decide +kernel
theorem dL_power_18 : decode cL_power 18 = .ok (.astore 5, 2) := by decide +kernel
theorem dL_power_20 : decode cL_power 20 = .ok (.iconst 2, 1) := by decide +kernel
theorem dL_power_21 : decode cL_power 21 = .ok (.ireturn, 1) := by decide +kernel
theorem dL_power_22 : decode cL_power 22 = .ok (.iconst 0, 1) := by decide +kernel
theorem dL_power_23 : decode cL_power 23 = .ok (.ireturn, 1) := by decide +kernel
theorem dL_log_0 : decode cL_log 0 = .ok (.aload_n 2, 1) := by decide +kernel
theorem dL_log_1 : decode cL_log 1 = .ok (.iconst 0, 1) := by decide +kernel
theorem dL_log_2 : decode cL_log 2 = .ok (.aload_n 0, 1) := by decide +kernel
theorem dL_log_3 : decode cL_log 3 = .ok (.iload_n 1, 1) := by decide +kernel
theorem dL_log_4 : decode cL_log 4 = .ok (.invokevirtual 24, 3) := by decide +kernel
theorem dL_log_7 : decode cL_log 7 = .ok (.i2l, 1) := by decide +kernel
theorem dL_log_8 : decode cL_log 8 = .ok (.lastore, 1) := by decide +kernel
theorem dL_log_9 : decode cL_log 9 = .ok (.goto 9, 3) := by decide +kernel
theorem dL_log_12 : decode cL_log 12 = .ok (.astore_n 3, 1) := by decide +kernel
theorem dL_log_13 : decode cL_log 13 = .ok (.iconst 1, 1) := by decide +kernel
theorem dL_log_14 : decode cL_log 14 = .ok (.ireturn, 1) := by decide +kernel
theorem dL_log_15 : decode cL_log 15 = .ok (.astore_n 3, 1) := by decide +kernel
theorem dL_log_16 : decode cL_log 16 = .ok (.iconst 2, 1) := by decide +kernel
theorem dL_log_17 : decode cL_log 17 = .ok (.ireturn, 1) := by decide +kernel
theorem dL_log_18 : decode cL_log 18 = .ok (.iconst 0, 1) := by decide +kernel
theorem dL_log_19 : decode cL_log 19 = .ok (.ireturn, 1) := by decide +kernel
theorem dL_order_0 : decode cL_order 0 = .ok (.aload_n 2, 1) := by decide +kernel
theorem dL_order_1 : decode cL_order 1 = .ok (.iconst 0, 1) := by decide +kernel
theorem dL_order_2 : decode cL_order 2 = .ok (.aload_n 0, 1) := by decide +kernel
theorem dL_order_3 : decode cL_order 3 = .ok (.iload_n 1, 1) := by decide +kernel
theorem dL_order_4 : decode cL_order 4 = .ok (.invokevirtual 30, 3) := by decide +kernel
theorem dL_order_7 : decode cL_order 7 = .ok (.i2l, 1) := by decide +kernel
theorem dL_order_8 : decode cL_order 8 = .ok (.lastore, 1) := by decide +kernel
theorem dL_order_9 : decode cL_order 9 = .ok (.goto 6, 3) := by decide +kernel
theorem dL_order_12 : decode cL_order 12 = .ok (.astore_n 3, 1) := by decide +kernel
theorem dL_order_13 : decode cL_order 13 = .ok (.iconst 1, 1) := by decide +kernel
theorem dL_order_14 : decode cL_order 14 = .ok (.ireturn, 1) := by decide +kernel
theorem dL_order_15 : decode cL_order 15 = .ok (.iconst 0, 1) := by decide +kernel
theorem dL_order_16 : decode cL_order 16 = .ok (.ireturn, 1) := by decide +kernel
theorem dL_put_0 : decode cL_put 0 = .ok (.aload_n 2, 1) := by decide +kernel
theorem dL_put_1 : decode cL_put 1 = .ok (.iconst 0, 1) := by decide +kernel
theorem dL_put_2 : decode cL_put 2 = .ok (.aload_n 0, 1) := by decide +kernel
theorem dL_put_3 : decode cL_put 3 = .ok (.iload_n 1, 1) := by decide +kernel
theorem dL_put_4 : decode cL_put 4 = .ok (.invokevirtual 33, 3) := by decide +kernel
theorem dL_put_7 : decode cL_put 7 = .ok (.i2l, 1) := by decide +kernel
theorem dL_put_8 : decode cL_put 8 = .ok (.lastore, 1) := by decide +kernel
theorem dL_put_9 : decode cL_put 9 = .ok (.goto 9, 3) := by decide +kernel
theorem dL_put_12 : decode cL_put 12 = .ok (.astore_n 3, 1) := by decide +kernel
theorem dL_put_13 : decode cL_put 13 = .ok (.iconst 1, 1) := by decide +kernel
theorem dL_put_14 : decode cL_put 14 = .ok (.ireturn, 1) := by decide +kernel
theorem dL_put_15 : decode cL_put 15 = .ok (.astore_n 3, 1) := by decide +kernel
theorem dL_put_16 : decode cL_put 16 = .ok (.iconst 2, 1) := by decide +kernel
theorem dL_put_17 : decode cL_put 17 = .ok (.ireturn, 1) := by decide +kernel
theorem dL_put_18 : decode cL_put 18 = .ok (.iconst 0, 1) := by decide +kernel
theorem dL_put_19 : decode cL_put 19 = .ok (.ireturn, 1) := by decide +kernel
theorem dL_row_0 : decode cL_row 0 = .ok (.aload_n 2, 1) := by decide +kernel
theorem dL_row_1 : decode cL_row 1 = .ok (.iconst 0, 1) := by decide +kernel
theorem dL_row_2 : decode cL_row 2 = .ok (.aload_n 0, 1) := by decide +kernel
theorem dL_row_3 : decode cL_row 3 = .ok (.iload_n 1, 1) := by decide +kernel
theorem dL_row_4 : decode cL_row 4 = .ok (.invokevirtual 38, 3) := by decide +kernel
theorem dL_row_7 : decode cL_row 7 = .ok (.i2l, 1) := by decide +kernel
theorem dL_row_8 : decode cL_row 8 = .ok (.lastore, 1) := by decide +kernel
theorem dL_row_9 : decode cL_row 9 = .ok (.goto 6, 3) := by decide +kernel
theorem dL_row_12 : decode cL_row 12 = .ok (.astore_n 3, 1) := by decide +kernel
theorem dL_row_13 : decode cL_row 13 = .ok (.iconst 1, 1) := by decide +kernel
theorem dL_row_14 : decode cL_row 14 = .ok (.ireturn, 1) := by decide +kernel
theorem dL_row_15 : decode cL_row 15 = .ok (.iconst 0, 1) := by decide +kernel
theorem dL_row_16 : decode cL_row 16 = .ok (.ireturn, 1) := by decide +kernel
theorem dL_matrix_0 : decode cL_matrix 0 = .ok (.aload_n 3, 1) := by decide +kernel
theorem dL_matrix_1 : decode cL_matrix 1 = .ok (.iconst 0, 1) := by decide +kernel
theorem dL_matrix_2 : decode cL_matrix 2 = .ok (.aload_n 0, 1) := by decide +kernel
theorem dL_matrix_3 : decode cL_matrix 3 = .ok (.iload_n 1, 1) := by decide +kernel
theorem dL_matrix_4 : decode cL_matrix 4 = .ok (.iload_n 2, 1) := by decide +kernel
theorem dL_matrix_5 : decode cL_matrix 5 = .ok (.invokevirtual 43, 3) := by decide +kernel
theorem dL_matrix_8 : decode cL_matrix 8 = .ok (.i2l, 1) := by decide +kernel
theorem dL_matrix_9 : decode cL_matrix 9 = .ok (.lastore, 1) := by decide +kernel
theorem dL_matrix_10 : decode cL_matrix 10 = .ok (.goto 11, 3) := by decide +kernel
theorem dL_matrix_13 : decode cL_matrix 13 = .ok (.astore 4, 2) := by decide +kernel
theorem dL_matrix_15 : decode cL_matrix 15 = .ok (.iconst 1, 1) := by decide +kernel
theorem dL_matrix_16 : decode cL_matrix 16 = .ok (.ireturn, 1) := by decide +kernel
theorem dL_matrix_17 : decode cL_matrix 17 = .ok (.astore 4, 2) := by decide +kernel
theorem dL_matrix_19 : decode cL_matrix 19 = .ok (.iconst 2, 1) := by decide +kernel
theorem dL_matrix_20 : decode cL_matrix 20 = .ok (.ireturn, 1) := by decide +kernel
theorem dL_matrix_21 : decode cL_matrix 21 = .ok (.iconst 0, 1) := by decide +kernel
theorem dL_matrix_22 : decode cL_matrix 22 = .ok (.ireturn, 1) := by decide +kernel
theorem dL_powers_0 : decode cL_powers 0 = .ok (.aload_n 3, 1) := by decide +kernel
theorem dL_powers_1 : decode cL_powers 1 = .ok (.iconst 0, 1) := by decide +kernel
theorem dL_powers_2 : decode cL_powers 2 = .ok (.aload_n 0, 1) := by decide +kernel
theorem dL_powers_3 : decode cL_powers 3 = .ok (.iload_n 1, 1) := by decide +kernel
theorem dL_powers_4 : decode cL_powers 4 = .ok (.iload_n 2, 1) := by decide +kernel
theorem dL_powers_5 : decode cL_powers 5 = .ok (.invokevirtual 46, 3) := by decide +kernel
theorem dL_powers_8 : decode cL_powers 8 = .ok (.i2l, 1) := by decide +kernel
theorem dL_powers_9 : decode cL_powers 9 = .ok (.lastore, 1) := by decide +kernel
theorem dL_powers_10 : decode cL_powers 10 = .ok (.goto 15, 3) := by decide +kernel
theorem dL_powers_13 : decode cL_powers 13 = .ok (.astore 4, 2) := by decide +kernel
theorem dL_powers_15 : decode cL_powers 15 = .ok (.iconst 1, 1) := by decide +kernel
theorem dL_powers_16 : decode cL_powers 16 = .ok (.ireturn, 1) := by decide +kernel
theorem dL_powers_17 : decode cL_powers 17 = .ok (.astore 4, 2) := by decide +kernel
theorem dL_powers_19 : decode cL_powers 19 = .ok (.iconst 2, 1) := by decide +kernel
theorem dL_powers_20 : decode cL_powers 20 = .ok (.ireturn, 1) := by decide +kernel
theorem dL_powers_21 : decode cL_powers 21 = .ok (.astore 4, 2) := by decide +kernel
theorem dL_powers_23 : decode cL_powers 23 = .ok (.iconst 3, 1) := by decide +kernel
theorem dL_powers_24 : decode cL_powers 24 = .ok (.ireturn, 1) := by decide +kernel
theorem dL_powers_25 : decode cL_powers 25 = .ok (.iconst 0, 1) := by decide +kernel
theorem dL_powers_26 : decode cL_powers 26 = .ok (.ireturn, 1) := by decide +kernel
theorem dL_sums_0 : decode cL_sums 0 = .ok (.aload_n 3, 1) := by decide +kernel
theorem dL_sums_1 : decode cL_sums 1 = .ok (.iconst 0, 1) := by decide +kernel
theorem dL_sums_2 : decode cL_sums 2 = .ok (.aload_n 0, 1) := by decide +kernel
theorem dL_sums_3 : decode cL_sums 3 = .ok (.iload_n 1, 1) := by decide +kernel
theorem dL_sums_4 : decode cL_sums 4 = .ok (.iload_n 2, 1) := by decide +kernel
theorem dL_sums_5 : decode cL_sums 5 = .ok (.invokevirtual 51, 3) := by decide +kernel
theorem dL_sums_8 : decode cL_sums 8 = .ok (.i2l, 1) := by decide +kernel
theorem dL_sums_9 : decode cL_sums 9 = .ok (.lastore, 1) := by decide +kernel
theorem dL_sums_10 : decode cL_sums 10 = .ok (.goto 15, 3) := by decide +kernel
theorem dL_sums_13 : decode cL_sums 13 = .ok (.astore 4, 2) := by decide +kernel
theorem dL_sums_15 : decode cL_sums 15 = .ok (.iconst 1, 1) := by decide +kernel
theorem dL_sums_16 : decode cL_sums 16 = .ok (.ireturn, 1) := by decide +kernel
theorem dL_sums_17 : decode cL_sums 17 = .ok (.astore 4, 2) := by decide +kernel
theorem dL_sums_19 : decode cL_sums 19 = .ok (.iconst 2, 1) := by decide +kernel
theorem dL_sums_20 : decode cL_sums 20 = .ok (.ireturn, 1) := by decide +kernel
theorem dL_sums_21 : decode cL_sums 21 = .ok (.astore 4, 2) := by decide +kernel
theorem dL_sums_23 : decode cL_sums 23 = .ok (.iconst 3, 1) := by decide +kernel
theorem dL_sums_24 : decode cL_sums 24 = .ok (.ireturn, 1) := by decide +kernel
theorem dL_sums_25 : decode cL_sums 25 = .ok (.iconst 0, 1) := by decide +kernel
theorem dL_sums_26 : decode cL_sums 26 = .ok (.ireturn, 1) := by decide +kernel
theorem dL_size_0 : decode cL_size 0 = .ok (.aload_n 3, 1) := by decide +kernel
theorem dL_size_1 : decode cL_size 1 = .ok (.iconst 0, 1) := by decide +kernel
theorem dL_size_2 : decode cL_size 2 = .ok (.aload_n 0, 1) := by decide +kernel
theorem dL_size_3 : decode cL_size 3 = .ok (.iload_n 1, 1) := by decide +kernel
theorem dL_size_4 : decode cL_size 4 = .ok (.iload_n 2, 1) := by decide +kernel
theorem dL_size_5 : decode cL_size 5 = .ok (.invokevirtual 54, 3) := by decide +kernel
theorem dL_size_8 : decode cL_size 8 = .ok (.i2l, 1) := by decide +kernel
theorem dL_size_9 : decode cL_size 9 = .ok (.lastore, 1) := by decide +kernel
theorem dL_size_10 : decode cL_size 10 = .ok (.goto 11, 3) := by decide +kernel
theorem dL_size_13 : decode cL_size 13 = .ok (.astore 4, 2) := by decide +kernel
theorem dL_size_15 : decode cL_size 15 = .ok (.iconst 1, 1) := by decide +kernel
theorem dL_size_16 : decode cL_size 16 = .ok (.ireturn, 1) := by decide +kernel
theorem dL_size_17 : decode cL_size 17 = .ok (.astore 4, 2) := by decide +kernel
theorem dL_size_19 : decode cL_size 19 = .ok (.iconst 2, 1) := by decide +kernel
theorem dL_size_20 : decode cL_size 20 = .ok (.ireturn, 1) := by decide +kernel
theorem dL_size_21 : decode cL_size 21 = .ok (.iconst 0, 1) := by decide +kernel
theorem dL_size_22 : decode cL_size 22 = .ok (.ireturn, 1) := by decide +kernel
theorem dL_cell__0 : decode cL_cell_ 0 = .ok (.aload 4, 2) := by decide +kernel
theorem dL_cell__2 : decode cL_cell_ 2 = .ok (.iconst 0, 1) := by decide +kernel
theorem dL_cell__3 : decode cL_cell_ 3 = .ok (.aload_n 0, 1) := by decide +kernel
theorem dL_cell__4 : decode cL_cell_ 4 = .ok (.iload_n 1, 1) := by decide +kernel
theorem dL_cell__5 : decode cL_cell_ 5 = .ok (.iload_n 2, 1) := by decide +kernel
theorem dL_cell__6 : decode cL_cell_ 6 = .ok (.iload_n 3, 1) := by decide +kernel
theorem dL_cell__7 : decode cL_cell_ 7 = .ok (.invokevirtual 57, 3) := by decide +kernel
theorem dL_cell__10 : decode cL_cell_ 10 = .ok (.i2l, 1) := by decide +kernel
theorem dL_cell__11 : decode cL_cell_ 11 = .ok (.lastore, 1) := by decide +kernel
theorem dL_cell__12 : decode cL_cell_ 12 = .ok (.goto 7, 3) := by decide +kernel
theorem dL_cell__15 : decode cL_cell_ 15 = .ok (.astore 5, 2) := by decide +kernel
theorem dL_cell__17 : decode cL_cell_ 17 = .ok (.iconst 1, 1) := by decide +kernel
theorem dL_cell__18 : decode cL_cell_ 18 = .ok (.ireturn, 1) := by decide +kernel
theorem dL_cell__19 : decode cL_cell_ 19 = .ok (.iconst 0, 1) := by decide +kernel
theorem dL_cell__20 : decode cL_cell_ 20 = .ok (.ireturn, 1) := by decide +kernel
theorem dL_set_0 : decode cL_set 0 = .ok (.aload 5, 2) := by decide +kernel
theorem dL_set_2 : decode cL_set 2 = .ok (.iconst 0, 1) := by decide +kernel
theorem dL_set_3 : decode cL_set 3 = .ok (.aload_n 0, 1) := by decide +kernel
theorem dL_set_4 : decode cL_set 4 = .ok (.iload_n 1, 1) := by decide +kernel
theorem dL_set_5 : decode cL_set 5 = .ok (.iload_n 2, 1) := by decide +kernel
theorem dL_set_6 : decode cL_set 6 = .ok (.iload_n 3, 1) := by decide +kernel
theorem dL_set_7 : decode cL_set 7 = .ok (.iload 4, 2) := by decide +kernel
theorem dL_set_9 : decode cL_set 9 = .ok (.invokevirtual 61, 3) := by decide +kernel
theorem dL_set_12 : decode cL_set 12 = .ok (.i2l, 1) := by decide +kernel
theorem dL_set_13 : decode cL_set 13 = .ok (.lastore, 1) := by decide +kernel
theorem dL_set_14 : decode cL_set 14 = .ok (.goto 11, 3) := by decide +kernel
theorem dL_set_17 : decode cL_set 17 = .ok (.astore 6, 2) := by decide +kernel
theorem dL_set_19 : decode cL_set 19 = .ok (.iconst 1, 1) := by decide +kernel
theorem dL_set_20 : decode cL_set 20 = .ok (.ireturn, 1) := by decide +kernel
theorem dL_set_21 : decode cL_set 21 = .ok (.astore 6, 2) := by decide +kernel
theorem dL_set_23 : decode cL_set 23 = .ok (.iconst 2, 1) := by decide +kernel
theorem dL_set_24 : decode cL_set 24 = .ok (.ireturn, 1) := by decide +kernel
theorem dL_set_25 : decode cL_set 25 = .ok (.iconst 0, 1) := by decide +kernel
theorem dL_set_26 : decode cL_set 26 = .ok (.ireturn, 1) := by decide +kernel
theorem dL_times_0 : decode cL_times 0 = .ok (.aload_n 3, 1) := by decide +kernel
theorem dL_times_1 : decode cL_times 1 = .ok (.iconst 0, 1) := by decide +kernel
theorem dL_times_2 : decode cL_times 2 = .ok (.aload_n 0, 1) := by decide +kernel
theorem dL_times_3 : decode cL_times 3 = .ok (.iload_n 1, 1) := by decide +kernel
theorem dL_times_4 : decode cL_times 4 = .ok (.iload_n 2, 1) := by decide +kernel
theorem dL_times_5 : decode cL_times 5 = .ok (.invokevirtual 65, 3) := by decide +kernel
theorem dL_times_8 : decode cL_times 8 = .ok (.i2l, 1) := by decide +kernel
theorem dL_times_9 : decode cL_times 9 = .ok (.lastore, 1) := by decide +kernel
theorem dL_times_10 : decode cL_times 10 = .ok (.goto 15, 3) := by decide +kernel
theorem dL_times_13 : decode cL_times 13 = .ok (.astore 4, 2) := by decide +kernel
theorem dL_times_15 : decode cL_times 15 = .ok (.iconst 1, 1) := by decide +kernel
theorem dL_times_16 : decode cL_times 16 = .ok (.ireturn, 1) := by decide +kernel
theorem dL_times_17 : decode cL_times 17 = .ok (.astore 4, 2) := by decide +kernel
theorem dL_times_19 : decode cL_times 19 = .ok (.iconst 2, 1) := by decide +kernel
theorem dL_times_20 : decode cL_times 20 = .ok (.ireturn, 1) := by decide +kernel
theorem dL_times_21 : decode cL_times 21 = .ok (.astore 4, 2) := by decide +kernel
theorem dL_times_23 : decode cL_times 23 = .ok (.iconst 3, 1) := by decide +kernel
theorem dL_times_24 : decode cL_times 24 = .ok (.ireturn, 1) := by decide +kernel
theorem dL_times_25 : decode cL_times 25 = .ok (.iconst 0, 1) := by decide +kernel
theorem dL_times_26 : decode cL_times 26 = .ok (.ireturn, 1) := by decide +kernel
theorem dL_invert_0 : decode cL_invert 0 = .ok (.aload_n 2, 1) := by decide +kernel
theorem dL_invert_1 : decode cL_invert 1 = .ok (.iconst 0, 1) := by decide +kernel
theorem dL_invert_2 : decode cL_invert 2 = .ok (.aload_n 0, 1) := by decide +kernel
theorem dL_invert_3 : decode cL_invert 3 = .ok (.iload_n 1, 1) := by decide +kernel
theorem dL_invert_4 : decode cL_invert 4 = .ok (.invokevirtual 68, 3) := by decide +kernel
theorem dL_invert_7 : decode cL_invert 7 = .ok (.i2l, 1) := by decide +kernel
theorem dL_invert_8 : decode cL_invert 8 = .ok (.lastore, 1) := by decide +kernel
theorem dL_invert_9 : decode cL_invert 9 = .ok (.goto 12, 3) := by decide +kernel
theorem dL_invert_12 : decode cL_invert 12 = .ok (.astore_n 3, 1) := by decide +kernel
theorem dL_invert_13 : decode cL_invert 13 = .ok (.iconst 1, 1) := by decide +kernel
theorem dL_invert_14 : decode cL_invert 14 = .ok (.ireturn, 1) := by decide +kernel
theorem dL_invert_15 : decode cL_invert 15 = .ok (.astore_n 3, 1) := by decide +kernel
theorem dL_invert_16 : decode cL_invert 16 = .ok (.iconst 2, 1) := by decide +kernel
theorem dL_invert_17 : decode cL_invert 17 = .ok (.ireturn, 1) := by decide +kernel
theorem dL_invert_18 : decode cL_invert 18 = .ok (.astore_n 3, 1) := by decide +kernel
theorem dL_invert_19 : decode cL_invert 19 = .ok (.iconst 3, 1) := by decide +kernel
theorem dL_invert_20 : decode cL_invert 20 = .ok (.ireturn, 1) := by decide +kernel
theorem dL_invert_21 : decode cL_invert 21 = .ok (.iconst 0, 1) := by decide +kernel
theorem dL_invert_22 : decode cL_invert 22 = .ok (.ireturn, 1) := by decide +kernel
theorem dL_rank_0 : decode cL_rank 0 = .ok (.aload_n 2, 1) := by decide +kernel
theorem dL_rank_1 : decode cL_rank 1 = .ok (.iconst 0, 1) := by decide +kernel
theorem dL_rank_2 : decode cL_rank 2 = .ok (.aload_n 0, 1) := by decide +kernel
theorem dL_rank_3 : decode cL_rank 3 = .ok (.iload_n 1, 1) := by decide +kernel
theorem dL_rank_4 : decode cL_rank 4 = .ok (.invokevirtual 71, 3) := by decide +kernel
theorem dL_rank_7 : decode cL_rank 7 = .ok (.i2l, 1) := by decide +kernel
theorem dL_rank_8 : decode cL_rank 8 = .ok (.lastore, 1) := by decide +kernel
theorem dL_rank_9 : decode cL_rank 9 = .ok (.goto 6, 3) := by decide +kernel
theorem dL_rank_12 : decode cL_rank 12 = .ok (.astore_n 3, 1) := by decide +kernel
theorem dL_rank_13 : decode cL_rank 13 = .ok (.iconst 1, 1) := by decide +kernel
theorem dL_rank_14 : decode cL_rank 14 = .ok (.ireturn, 1) := by decide +kernel
theorem dL_rank_15 : decode cL_rank 15 = .ok (.iconst 0, 1) := by decide +kernel
theorem dL_rank_16 : decode cL_rank 16 = .ok (.ireturn, 1) := by decide +kernel
theorem dL_determinant_0 : decode cL_determinant 0 = .ok (.aload_n 2, 1) := by decide +kernel
theorem dL_determinant_1 : decode cL_determinant 1 = .ok (.iconst 0, 1) := by decide +kernel
theorem dL_determinant_2 : decode cL_determinant 2 = .ok (.aload_n 0, 1) := by decide +kernel
theorem dL_determinant_3 : decode cL_determinant 3 = .ok (.iload_n 1, 1) := by decide +kernel
theorem dL_determinant_4 : decode cL_determinant 4 = .ok (.invokevirtual 74, 3) := by decide +kernel
theorem dL_determinant_7 : decode cL_determinant 7 = .ok (.i2l, 1) := by decide +kernel
theorem dL_determinant_8 : decode cL_determinant 8 = .ok (.lastore, 1) := by decide +kernel
theorem dL_determinant_9 : decode cL_determinant 9 = .ok (.goto 9, 3) := by decide +kernel
theorem dL_determinant_12 : decode cL_determinant 12 = .ok (.astore_n 3, 1) := by decide +kernel
theorem dL_determinant_13 : decode cL_determinant 13 = .ok (.iconst 1, 1) := by decide +kernel
theorem dL_determinant_14 : decode cL_determinant 14 = .ok (.ireturn, 1) := by decide +kernel
theorem dL_determinant_15 : decode cL_determinant 15 = .ok (.astore_n 3, 1) := by decide +kernel
theorem dL_determinant_16 : decode cL_determinant 16 = .ok (.iconst 2, 1) := by decide +kernel
theorem dL_determinant_17 : decode cL_determinant 17 = .ok (.ireturn, 1) := by decide +kernel
theorem dL_determinant_18 : decode cL_determinant 18 = .ok (.iconst 0, 1) := by decide +kernel
theorem dL_determinant_19 : decode cL_determinant 19 = .ok (.ireturn, 1) := by decide +kernel
theorem dL_singular_0 : decode cL_singular 0 = .ok (.aload_n 2, 1) := by decide +kernel
theorem dL_singular_1 : decode cL_singular 1 = .ok (.iconst 0, 1) := by decide +kernel
theorem dL_singular_2 : decode cL_singular 2 = .ok (.aload_n 0, 1) := by decide +kernel
theorem dL_singular_3 : decode cL_singular 3 = .ok (.iload_n 1, 1) := by decide +kernel
theorem dL_singular_4 : decode cL_singular 4 = .ok (.invokevirtual 77, 3) := by decide +kernel
theorem dL_singular_7 : decode cL_singular 7 = .ok (.i2l, 1) := by decide +kernel
theorem dL_singular_8 : decode cL_singular 8 = .ok (.lastore, 1) := by decide +kernel
theorem dL_singular_9 : decode cL_singular 9 = .ok (.goto 6, 3) := by decide +kernel
theorem dL_singular_12 : decode cL_singular 12 = .ok (.astore_n 3, 1) := by decide +kernel
theorem dL_singular_13 : decode cL_singular 13 = .ok (.iconst 1, 1) := by decide +kernel
theorem dL_singular_14 : decode cL_singular 14 = .ok (.ireturn, 1) := by decide +kernel
theorem dL_singular_15 : decode cL_singular 15 = .ok (.iconst 0, 1) := by decide +kernel
theorem dL_singular_16 : decode cL_singular 16 = .ok (.ireturn, 1) := by decide +kernel
theorem dL_solve_0 : decode cL_solve 0 = .ok (.aload_n 2, 1) := by decide +kernel
theorem dL_solve_1 : decode cL_solve 1 = .ok (.iconst 0, 1) := by decide +kernel
theorem dL_solve_2 : decode cL_solve 2 = .ok (.aload_n 0, 1) := by decide +kernel
theorem dL_solve_3 : decode cL_solve 3 = .ok (.iload_n 1, 1) := by decide +kernel
theorem dL_solve_4 : decode cL_solve 4 = .ok (.invokevirtual 80, 3) := by decide +kernel
theorem dL_solve_7 : decode cL_solve 7 = .ok (.i2l, 1) := by decide +kernel
theorem dL_solve_8 : decode cL_solve 8 = .ok (.lastore, 1) := by decide +kernel
theorem dL_solve_9 : decode cL_solve 9 = .ok (.goto 9, 3) := by decide +kernel
theorem dL_solve_12 : decode cL_solve 12 = .ok (.astore_n 3, 1) := by decide +kernel
theorem dL_solve_13 : decode cL_solve 13 = .ok (.iconst 1, 1) := by decide +kernel
theorem dL_solve_14 : decode cL_solve 14 = .ok (.ireturn, 1) := by decide +kernel
theorem dL_solve_15 : decode cL_solve 15 = .ok (.astore_n 3, 1) := by decide +kernel
theorem dL_solve_16 : decode cL_solve 16 = .ok (.iconst 2, 1) := by decide +kernel
theorem dL_solve_17 : decode cL_solve 17 = .ok (.ireturn, 1) := by decide +kernel
theorem dL_solve_18 : decode cL_solve 18 = .ok (.iconst 0, 1) := by decide +kernel
theorem dL_solve_19 : decode cL_solve 19 = .ok (.ireturn, 1) := by decide +kernel
theorem dL_polynomial_0 : decode cL_polynomial 0 = .ok (.aload_n 1, 1) := by decide +kernel
theorem dL_polynomial_1 : decode cL_polynomial 1 = .ok (.iconst 0, 1) := by decide +kernel
theorem dL_polynomial_2 : decode cL_polynomial 2 = .ok (.aload_n 0, 1) := by decide +kernel
theorem dL_polynomial_3 : decode cL_polynomial 3 = .ok (.invokevirtual 83, 3) := by decide +kernel
theorem dL_polynomial_6 : decode cL_polynomial 6 = .ok (.i2l, 1) := by decide +kernel
theorem dL_polynomial_7 : decode cL_polynomial 7 = .ok (.lastore, 1) := by decide +kernel
theorem dL_polynomial_8 : decode cL_polynomial 8 = .ok (.goto 6, 3) := by decide +kernel
theorem dL_polynomial_11 : decode cL_polynomial 11 = .ok (.astore_n 2, 1) := by decide +kernel
theorem dL_polynomial_12 : decode cL_polynomial 12 = .ok (.iconst 1, 1) := by decide +kernel
theorem dL_polynomial_13 : decode cL_polynomial 13 = .ok (.ireturn, 1) := by decide +kernel
theorem dL_polynomial_14 : decode cL_polynomial 14 = .ok (.iconst 0, 1) := by decide +kernel
theorem dL_polynomial_15 : decode cL_polynomial 15 = .ok (.ireturn, 1) := by decide +kernel
theorem dL_through_0 : decode cL_through 0 = .ok (.aload_n 1, 1) := by decide +kernel
theorem dL_through_1 : decode cL_through 1 = .ok (.iconst 0, 1) := by decide +kernel
theorem dL_through_2 : decode cL_through 2 = .ok (.aload_n 0, 1) := by decide +kernel
theorem dL_through_3 : decode cL_through 3 = .ok (.invokevirtual 87, 3) := by decide +kernel
theorem dL_through_6 : decode cL_through 6 = .ok (.i2l, 1) := by decide +kernel
theorem dL_through_7 : decode cL_through 7 = .ok (.lastore, 1) := by decide +kernel
theorem dL_through_8 : decode cL_through 8 = .ok (.goto 9, 3) := by decide +kernel
theorem dL_through_11 : decode cL_through 11 = .ok (.astore_n 2, 1) := by decide +kernel
theorem dL_through_12 : decode cL_through 12 = .ok (.iconst 1, 1) := by decide +kernel
theorem dL_through_13 : decode cL_through 13 = .ok (.ireturn, 1) := by decide +kernel
theorem dL_through_14 : decode cL_through 14 = .ok (.astore_n 2, 1) := by decide +kernel
theorem dL_through_15 : decode cL_through 15 = .ok (.iconst 2, 1) := by decide +kernel
theorem dL_through_16 : decode cL_through 16 = .ok (.ireturn, 1) := by decide +kernel
theorem dL_through_17 : decode cL_through 17 = .ok (.iconst 0, 1) := by decide +kernel
theorem dL_through_18 : decode cL_through 18 = .ok (.ireturn, 1) := by decide +kernel
theorem dL_degree_0 : decode cL_degree 0 = .ok (.aload_n 2, 1) := by decide +kernel
theorem dL_degree_1 : decode cL_degree 1 = .ok (.iconst 0, 1) := by decide +kernel
theorem dL_degree_2 : decode cL_degree 2 = .ok (.aload_n 0, 1) := by decide +kernel
theorem dL_degree_3 : decode cL_degree 3 = .ok (.iload_n 1, 1) := by decide +kernel
theorem dL_degree_4 : decode cL_degree 4 = .ok (.invokevirtual 90, 3) := by decide +kernel
theorem dL_degree_7 : decode cL_degree 7 = .ok (.i2l, 1) := by decide +kernel
theorem dL_degree_8 : decode cL_degree 8 = .ok (.lastore, 1) := by decide +kernel
theorem dL_degree_9 : decode cL_degree 9 = .ok (.goto 6, 3) := by decide +kernel
theorem dL_degree_12 : decode cL_degree 12 = .ok (.astore_n 3, 1) := by decide +kernel
theorem dL_degree_13 : decode cL_degree 13 = .ok (.iconst 1, 1) := by decide +kernel
theorem dL_degree_14 : decode cL_degree 14 = .ok (.ireturn, 1) := by decide +kernel
theorem dL_degree_15 : decode cL_degree 15 = .ok (.iconst 0, 1) := by decide +kernel
theorem dL_degree_16 : decode cL_degree 16 = .ok (.ireturn, 1) := by decide +kernel
theorem dL_coefficient_0 : decode cL_coefficient 0 = .ok (.aload_n 3, 1) := by decide +kernel
theorem dL_coefficient_1 : decode cL_coefficient 1 = .ok (.iconst 0, 1) := by decide +kernel
theorem dL_coefficient_2 : decode cL_coefficient 2 = .ok (.aload_n 0, 1) := by decide +kernel
theorem dL_coefficient_3 : decode cL_coefficient 3 = .ok (.iload_n 1, 1) := by decide +kernel
theorem dL_coefficient_4 : decode cL_coefficient 4 = .ok (.iload_n 2, 1) := by decide +kernel
theorem dL_coefficient_5 : decode cL_coefficient 5 = .ok (.invokevirtual 93, 3) := by decide +kernel
theorem dL_coefficient_8 : decode cL_coefficient 8 = .ok (.i2l, 1) := by decide +kernel
theorem dL_coefficient_9 : decode cL_coefficient 9 = .ok (.lastore, 1) := by decide +kernel
theorem dL_coefficient_10 : decode cL_coefficient 10 = .ok (.goto 7, 3) := by decide +kernel
theorem dL_coefficient_13 : decode cL_coefficient 13 = .ok (.astore 4, 2) := by decide +kernel
theorem dL_coefficient_15 : decode cL_coefficient 15 = .ok (.iconst 1, 1) := by decide +kernel
theorem dL_coefficient_16 : decode cL_coefficient 16 = .ok (.ireturn, 1) := by decide +kernel
theorem dL_coefficient_17 : decode cL_coefficient 17 = .ok (.iconst 0, 1) := by decide +kernel
theorem dL_coefficient_18 : decode cL_coefficient 18 = .ok (.ireturn, 1) := by decide +kernel
theorem dL_value_0 : decode cL_value 0 = .ok (.aload_n 3, 1) := by decide +kernel
theorem dL_value_1 : decode cL_value 1 = .ok (.iconst 0, 1) := by decide +kernel
theorem dL_value_2 : decode cL_value 2 = .ok (.aload_n 0, 1) := by decide +kernel
theorem dL_value_3 : decode cL_value 3 = .ok (.iload_n 1, 1) := by decide +kernel
theorem dL_value_4 : decode cL_value 4 = .ok (.iload_n 2, 1) := by decide +kernel
theorem dL_value_5 : decode cL_value 5 = .ok (.invokevirtual 96, 3) := by decide +kernel
theorem dL_value_8 : decode cL_value 8 = .ok (.i2l, 1) := by decide +kernel
theorem dL_value_9 : decode cL_value 9 = .ok (.lastore, 1) := by decide +kernel
theorem dL_value_10 : decode cL_value 10 = .ok (.goto 11, 3) := by decide +kernel
theorem dL_value_13 : decode cL_value 13 = .ok (.astore 4, 2) := by decide +kernel
theorem dL_value_15 : decode cL_value 15 = .ok (.iconst 1, 1) := by decide +kernel
theorem dL_value_16 : decode cL_value 16 = .ok (.ireturn, 1) := by decide +kernel
theorem dL_value_17 : decode cL_value 17 = .ok (.astore 4, 2) := by decide +kernel
theorem dL_value_19 : decode cL_value 19 = .ok (.iconst 2, 1) := by decide +kernel
theorem dL_value_20 : decode cL_value 20 = .ok (.ireturn, 1) := by decide +kernel
theorem dL_value_21 : decode cL_value 21 = .ok (.iconst 0, 1) := by decide +kernel
theorem dL_value_22 : decode cL_value 22 = .ok (.ireturn, 1) := by decide +kernel
theorem dL_plus_0 : decode cL_plus 0 = .ok (.aload_n 3, 1) := by decide +kernel
theorem dL_plus_1 : decode cL_plus 1 = .ok (.iconst 0, 1) := by decide +kernel
theorem dL_plus_2 : decode cL_plus 2 = .ok (.aload_n 0, 1) := by decide +kernel
theorem dL_plus_3 : decode cL_plus 3 = .ok (.iload_n 1, 1) := by decide +kernel
theorem dL_plus_4 : decode cL_plus 4 = .ok (.iload_n 2, 1) := by decide +kernel
theorem dL_plus_5 : decode cL_plus 5 = .ok (.invokevirtual 99, 3) := by decide +kernel
theorem dL_plus_8 : decode cL_plus 8 = .ok (.i2l, 1) := by decide +kernel
theorem dL_plus_9 : decode cL_plus 9 = .ok (.lastore, 1) := by decide +kernel
theorem dL_plus_10 : decode cL_plus 10 = .ok (.goto 11, 3) := by decide +kernel
theorem dL_plus_13 : decode cL_plus 13 = .ok (.astore 4, 2) := by decide +kernel
theorem dL_plus_15 : decode cL_plus 15 = .ok (.iconst 1, 1) := by decide +kernel
theorem dL_plus_16 : decode cL_plus 16 = .ok (.ireturn, 1) := by decide +kernel
theorem dL_plus_17 : decode cL_plus 17 = .ok (.astore 4, 2) := by decide +kernel
theorem dL_plus_19 : decode cL_plus 19 = .ok (.iconst 2, 1) := by decide +kernel
theorem dL_plus_20 : decode cL_plus 20 = .ok (.ireturn, 1) := by decide +kernel
theorem dL_plus_21 : decode cL_plus 21 = .ok (.iconst 0, 1) := by decide +kernel
theorem dL_plus_22 : decode cL_plus 22 = .ok (.ireturn, 1) := by decide +kernel
theorem dL_multiply_0 : decode cL_multiply 0 = .ok (.aload_n 3, 1) := by decide +kernel
theorem dL_multiply_1 : decode cL_multiply 1 = .ok (.iconst 0, 1) := by decide +kernel
theorem dL_multiply_2 : decode cL_multiply 2 = .ok (.aload_n 0, 1) := by decide +kernel
theorem dL_multiply_3 : decode cL_multiply 3 = .ok (.iload_n 1, 1) := by decide +kernel
theorem dL_multiply_4 : decode cL_multiply 4 = .ok (.iload_n 2, 1) := by decide +kernel
theorem dL_multiply_5 : decode cL_multiply 5 = .ok (.invokevirtual 102, 3) := by decide +kernel
theorem dL_multiply_8 : decode cL_multiply 8 = .ok (.i2l, 1) := by decide +kernel
theorem dL_multiply_9 : decode cL_multiply 9 = .ok (.lastore, 1) := by decide +kernel
theorem dL_multiply_10 : decode cL_multiply 10 = .ok (.goto 11, 3) := by decide +kernel
theorem dL_multiply_13 : decode cL_multiply 13 = .ok (.astore 4, 2) := by decide +kernel
theorem dL_multiply_15 : decode cL_multiply 15 = .ok (.iconst 1, 1) := by decide +kernel
theorem dL_multiply_16 : decode cL_multiply 16 = .ok (.ireturn, 1) := by decide +kernel
theorem dL_multiply_17 : decode cL_multiply 17 = .ok (.astore 4, 2) := by decide +kernel
theorem dL_multiply_19 : decode cL_multiply 19 = .ok (.iconst 2, 1) := by decide +kernel
theorem dL_multiply_20 : decode cL_multiply 20 = .ok (.ireturn, 1) := by decide +kernel
theorem dL_multiply_21 : decode cL_multiply 21 = .ok (.iconst 0, 1) := by decide +kernel
theorem dL_multiply_22 : decode cL_multiply 22 = .ok (.ireturn, 1) := by decide +kernel
theorem dL_divide_0 : decode cL_divide 0 = .ok (.aload 4, 2) := by decide +kernel
theorem dL_divide_2 : decode cL_divide 2 = .ok (.iconst 0, 1) := by decide +kernel
theorem dL_divide_3 : decode cL_divide 3 = .ok (.aload_n 0, 1) := by decide +kernel
theorem dL_divide_4 : decode cL_divide 4 = .ok (.iload_n 1, 1) := by decide +kernel
theorem dL_divide_5 : decode cL_divide 5 = .ok (.iload_n 2, 1) := by decide +kernel
theorem dL_divide_6 : decode cL_divide 6 = .ok (.iload_n 3, 1) := by decide +kernel
theorem dL_divide_7 : decode cL_divide 7 = .ok (.invokevirtual 105, 3) := by decide +kernel
theorem dL_divide_10 : decode cL_divide 10 = .ok (.i2l, 1) := by decide +kernel
theorem dL_divide_11 : decode cL_divide 11 = .ok (.lastore, 1) := by decide +kernel
theorem dL_divide_12 : decode cL_divide 12 = .ok (.goto 15, 3) := by decide +kernel
theorem dL_divide_15 : decode cL_divide 15 = .ok (.astore 5, 2) := by decide +kernel
theorem dL_divide_17 : decode cL_divide 17 = .ok (.iconst 1, 1) := by decide +kernel
theorem dL_divide_18 : decode cL_divide 18 = .ok (.ireturn, 1) := by decide +kernel
theorem dL_divide_19 : decode cL_divide 19 = .ok (.astore 5, 2) := by decide +kernel
theorem dL_divide_21 : decode cL_divide 21 = .ok (.iconst 2, 1) := by decide +kernel
theorem dL_divide_22 : decode cL_divide 22 = .ok (.ireturn, 1) := by decide +kernel
theorem dL_divide_23 : decode cL_divide 23 = .ok (.astore 5, 2) := by decide +kernel
theorem dL_divide_25 : decode cL_divide 25 = .ok (.iconst 3, 1) := by decide +kernel
theorem dL_divide_26 : decode cL_divide 26 = .ok (.ireturn, 1) := by decide +kernel
theorem dL_divide_27 : decode cL_divide 27 = .ok (.iconst 0, 1) := by decide +kernel
theorem dL_divide_28 : decode cL_divide 28 = .ok (.ireturn, 1) := by decide +kernel
theorem dL_common_0 : decode cL_common 0 = .ok (.aload_n 3, 1) := by decide +kernel
theorem dL_common_1 : decode cL_common 1 = .ok (.iconst 0, 1) := by decide +kernel
theorem dL_common_2 : decode cL_common 2 = .ok (.aload_n 0, 1) := by decide +kernel
theorem dL_common_3 : decode cL_common 3 = .ok (.iload_n 1, 1) := by decide +kernel
theorem dL_common_4 : decode cL_common 4 = .ok (.iload_n 2, 1) := by decide +kernel
theorem dL_common_5 : decode cL_common 5 = .ok (.invokevirtual 109, 3) := by decide +kernel
theorem dL_common_8 : decode cL_common 8 = .ok (.i2l, 1) := by decide +kernel
theorem dL_common_9 : decode cL_common 9 = .ok (.lastore, 1) := by decide +kernel
theorem dL_common_10 : decode cL_common 10 = .ok (.goto 11, 3) := by decide +kernel
theorem dL_common_13 : decode cL_common 13 = .ok (.astore 4, 2) := by decide +kernel
theorem dL_common_15 : decode cL_common 15 = .ok (.iconst 1, 1) := by decide +kernel
theorem dL_common_16 : decode cL_common 16 = .ok (.ireturn, 1) := by decide +kernel
theorem dL_common_17 : decode cL_common 17 = .ok (.astore 4, 2) := by decide +kernel
theorem dL_common_19 : decode cL_common 19 = .ok (.iconst 2, 1) := by decide +kernel
theorem dL_common_20 : decode cL_common 20 = .ok (.ireturn, 1) := by decide +kernel
theorem dL_common_21 : decode cL_common 21 = .ok (.iconst 0, 1) := by decide +kernel
theorem dL_common_22 : decode cL_common 22 = .ok (.ireturn, 1) := by decide +kernel
theorem dL_root_0 : decode cL_root 0 = .ok (.aload_n 3, 1) := by decide +kernel
theorem dL_root_1 : decode cL_root 1 = .ok (.iconst 0, 1) := by decide +kernel
theorem dL_root_2 : decode cL_root 2 = .ok (.aload_n 0, 1) := by decide +kernel
theorem dL_root_3 : decode cL_root 3 = .ok (.iload_n 1, 1) := by decide +kernel
theorem dL_root_4 : decode cL_root 4 = .ok (.iload_n 2, 1) := by decide +kernel
theorem dL_root_5 : decode cL_root 5 = .ok (.invokevirtual 112, 3) := by decide +kernel
theorem dL_root_8 : decode cL_root 8 = .ok (.i2l, 1) := by decide +kernel
theorem dL_root_9 : decode cL_root 9 = .ok (.lastore, 1) := by decide +kernel
theorem dL_root_10 : decode cL_root 10 = .ok (.goto 7, 3) := by decide +kernel
theorem dL_root_13 : decode cL_root 13 = .ok (.astore 4, 2) := by decide +kernel
theorem dL_root_15 : decode cL_root 15 = .ok (.iconst 1, 1) := by decide +kernel
theorem dL_root_16 : decode cL_root 16 = .ok (.ireturn, 1) := by decide +kernel
theorem dL_root_17 : decode cL_root 17 = .ok (.iconst 0, 1) := by decide +kernel
theorem dL_root_18 : decode cL_root 18 = .ok (.ireturn, 1) := by decide +kernel
theorem dL_often_0 : decode cL_often 0 = .ok (.aload_n 3, 1) := by decide +kernel
theorem dL_often_1 : decode cL_often 1 = .ok (.iconst 0, 1) := by decide +kernel
theorem dL_often_2 : decode cL_often 2 = .ok (.aload_n 0, 1) := by decide +kernel
theorem dL_often_3 : decode cL_often 3 = .ok (.iload_n 1, 1) := by decide +kernel
theorem dL_often_4 : decode cL_often 4 = .ok (.iload_n 2, 1) := by decide +kernel
theorem dL_often_5 : decode cL_often 5 = .ok (.invokevirtual 115, 3) := by decide +kernel
theorem dL_often_8 : decode cL_often 8 = .ok (.i2l, 1) := by decide +kernel
theorem dL_often_9 : decode cL_often 9 = .ok (.lastore, 1) := by decide +kernel
theorem dL_often_10 : decode cL_often 10 = .ok (.goto 11, 3) := by decide +kernel
theorem dL_often_13 : decode cL_often 13 = .ok (.astore 4, 2) := by decide +kernel
theorem dL_often_15 : decode cL_often 15 = .ok (.iconst 1, 1) := by decide +kernel
theorem dL_often_16 : decode cL_often 16 = .ok (.ireturn, 1) := by decide +kernel
theorem dL_often_17 : decode cL_often 17 = .ok (.astore 4, 2) := by decide +kernel
theorem dL_often_19 : decode cL_often 19 = .ok (.iconst 2, 1) := by decide +kernel
theorem dL_often_20 : decode cL_often 20 = .ok (.ireturn, 1) := by decide +kernel
theorem dL_often_21 : decode cL_often 21 = .ok (.iconst 0, 1) := by decide +kernel
theorem dL_often_22 : decode cL_often 22 = .ok (.ireturn, 1) := by decide +kernel
theorem dL_parts_0 : decode cL_parts 0 = .ok (.aload_n 3, 1) := by decide +kernel
theorem dL_parts_1 : decode cL_parts 1 = .ok (.iconst 0, 1) := by decide +kernel
theorem dL_parts_2 : decode cL_parts 2 = .ok (.aload_n 0, 1) := by decide +kernel
theorem dL_parts_3 : decode cL_parts 3 = .ok (.iload_n 1, 1) := by decide +kernel
theorem dL_parts_4 : decode cL_parts 4 = .ok (.iload_n 2, 1) := by decide +kernel
theorem dL_parts_5 : decode cL_parts 5 = .ok (.invokevirtual 118, 3) := by decide +kernel
theorem dL_parts_8 : decode cL_parts 8 = .ok (.i2l, 1) := by decide +kernel
theorem dL_parts_9 : decode cL_parts 9 = .ok (.lastore, 1) := by decide +kernel
theorem dL_parts_10 : decode cL_parts 10 = .ok (.goto 11, 3) := by decide +kernel
theorem dL_parts_13 : decode cL_parts 13 = .ok (.astore 4, 2) := by decide +kernel
theorem dL_parts_15 : decode cL_parts 15 = .ok (.iconst 1, 1) := by decide +kernel
theorem dL_parts_16 : decode cL_parts 16 = .ok (.ireturn, 1) := by decide +kernel
theorem dL_parts_17 : decode cL_parts 17 = .ok (.astore 4, 2) := by decide +kernel
theorem dL_parts_19 : decode cL_parts 19 = .ok (.iconst 2, 1) := by decide +kernel
theorem dL_parts_20 : decode cL_parts 20 = .ok (.ireturn, 1) := by decide +kernel
theorem dL_parts_21 : decode cL_parts 21 = .ok (.iconst 0, 1) := by decide +kernel
theorem dL_parts_22 : decode cL_parts 22 = .ok (.ireturn, 1) := by decide +kernel
theorem dL_span_0 : decode cL_span 0 = .ok (.aload_n 1, 1) := by decide +kernel
theorem dL_span_1 : decode cL_span 1 = .ok (.iconst 0, 1) := by decide +kernel
theorem dL_span_2 : decode cL_span 2 = .ok (.aload_n 0, 1) := by decide +kernel
theorem dL_span_3 : decode cL_span 3 = .ok (.invokevirtual 121, 3) := by decide +kernel
theorem dL_span_6 : decode cL_span 6 = .ok (.i2l, 1) := by decide +kernel
theorem dL_span_7 : decode cL_span 7 = .ok (.lastore, 1) := by decide +kernel
theorem dL_span_8 : decode cL_span 8 = .ok (.goto 6, 3) := by decide +kernel
theorem dL_span_11 : decode cL_span 11 = .ok (.astore_n 2, 1) := by decide +kernel
theorem dL_span_12 : decode cL_span 12 = .ok (.iconst 1, 1) := by decide +kernel
theorem dL_span_13 : decode cL_span 13 = .ok (.ireturn, 1) := by decide +kernel
theorem dL_span_14 : decode cL_span 14 = .ok (.iconst 0, 1) := by decide +kernel
theorem dL_span_15 : decode cL_span 15 = .ok (.ireturn, 1) := by decide +kernel
theorem dL_forth_0 : decode cL_forth 0 = .ok (.aload_n 2, 1) := by decide +kernel
theorem dL_forth_1 : decode cL_forth 1 = .ok (.iconst 0, 1) := by decide +kernel
theorem dL_forth_2 : decode cL_forth 2 = .ok (.aload_n 0, 1) := by decide +kernel
theorem dL_forth_3 : decode cL_forth 3 = .ok (.iload_n 1, 1) := by decide +kernel
theorem dL_forth_4 : decode cL_forth 4 = .ok (.invokevirtual 124, 3) := by decide +kernel
theorem dL_forth_7 : decode cL_forth 7 = .ok (.i2l, 1) := by decide +kernel
theorem dL_forth_8 : decode cL_forth 8 = .ok (.lastore, 1) := by decide +kernel
theorem dL_forth_9 : decode cL_forth 9 = .ok (.goto 9, 3) := by decide +kernel
theorem dL_forth_12 : decode cL_forth 12 = .ok (.astore_n 3, 1) := by decide +kernel
theorem dL_forth_13 : decode cL_forth 13 = .ok (.iconst 1, 1) := by decide +kernel
theorem dL_forth_14 : decode cL_forth 14 = .ok (.ireturn, 1) := by decide +kernel
theorem dL_forth_15 : decode cL_forth 15 = .ok (.astore_n 3, 1) := by decide +kernel
theorem dL_forth_16 : decode cL_forth 16 = .ok (.iconst 2, 1) := by decide +kernel
theorem dL_forth_17 : decode cL_forth 17 = .ok (.ireturn, 1) := by decide +kernel
theorem dL_forth_18 : decode cL_forth 18 = .ok (.iconst 0, 1) := by decide +kernel
theorem dL_forth_19 : decode cL_forth 19 = .ok (.ireturn, 1) := by decide +kernel
theorem dL_back_0 : decode cL_back 0 = .ok (.aload_n 1, 1) := by decide +kernel
theorem dL_back_1 : decode cL_back 1 = .ok (.iconst 0, 1) := by decide +kernel
theorem dL_back_2 : decode cL_back 2 = .ok (.aload_n 0, 1) := by decide +kernel
theorem dL_back_3 : decode cL_back 3 = .ok (.invokevirtual 127, 3) := by decide +kernel
theorem dL_back_6 : decode cL_back 6 = .ok (.i2l, 1) := by decide +kernel
theorem dL_back_7 : decode cL_back 7 = .ok (.lastore, 1) := by decide +kernel
theorem dL_back_8 : decode cL_back 8 = .ok (.goto 9, 3) := by decide +kernel
theorem dL_back_11 : decode cL_back 11 = .ok (.astore_n 2, 1) := by decide +kernel
theorem dL_back_12 : decode cL_back 12 = .ok (.iconst 1, 1) := by decide +kernel
theorem dL_back_13 : decode cL_back 13 = .ok (.ireturn, 1) := by decide +kernel
theorem dL_back_14 : decode cL_back 14 = .ok (.astore_n 2, 1) := by decide +kernel
theorem dL_back_15 : decode cL_back 15 = .ok (.iconst 2, 1) := by decide +kernel
theorem dL_back_16 : decode cL_back 16 = .ok (.ireturn, 1) := by decide +kernel
theorem dL_back_17 : decode cL_back 17 = .ok (.iconst 0, 1) := by decide +kernel
theorem dL_back_18 : decode cL_back 18 = .ok (.ireturn, 1) := by decide +kernel
theorem dL_told_0 : decode cL_told 0 = .ok (.aload_n 2, 1) := by decide +kernel
theorem dL_told_1 : decode cL_told 1 = .ok (.iconst 0, 1) := by decide +kernel
theorem dL_told_2 : decode cL_told 2 = .ok (.aload_n 0, 1) := by decide +kernel
theorem dL_told_3 : decode cL_told 3 = .ok (.iload_n 1, 1) := by decide +kernel
theorem dL_told_4 : decode cL_told 4 = .ok (.invokevirtual 130, 3) := by decide +kernel
theorem dL_told_7 : decode cL_told 7 = .ok (.i2l, 1) := by decide +kernel
theorem dL_told_8 : decode cL_told 8 = .ok (.lastore, 1) := by decide +kernel
theorem dL_told_9 : decode cL_told 9 = .ok (.goto 6, 3) := by decide +kernel
theorem dL_told_12 : decode cL_told 12 = .ok (.astore_n 3, 1) := by decide +kernel
theorem dL_told_13 : decode cL_told 13 = .ok (.iconst 1, 1) := by decide +kernel
theorem dL_told_14 : decode cL_told 14 = .ok (.ireturn, 1) := by decide +kernel
theorem dL_told_15 : decode cL_told 15 = .ok (.iconst 0, 1) := by decide +kernel
theorem dL_told_16 : decode cL_told 16 = .ok (.ireturn, 1) := by decide +kernel
theorem dL_law_0 : decode cL_law 0 = .ok (.new 8, 3) := by decide +kernel
theorem dL_law_3 : decode cL_law 3 = .ok (.dup, 1) := by decide +kernel
theorem dL_law_4 : decode cL_law 4 = .ok (.aload_n 0, 1) := by decide +kernel
theorem dL_law_5 : decode cL_law 5 = .ok (.iconst 0, 1) := by decide +kernel
theorem dL_law_6 : decode cL_law 6 = .ok (.invokestatic 133, 3) := by decide +kernel
theorem dL_law_9 : decode cL_law 9 = .ok (.aload_n 0, 1) := by decide +kernel
theorem dL_law_10 : decode cL_law 10 = .ok (.iconst 1, 1) := by decide +kernel
theorem dL_law_11 : decode cL_law 11 = .ok (.invokestatic 133, 3) := by decide +kernel
theorem dL_law_14 : decode cL_law 14 = .ok (.invokespecial 138, 3) := by decide +kernel
theorem dL_law_17 : decode cL_law 17 = .ok (.astore_n 1, 1) := by decide +kernel
theorem dL_law_18 : decode cL_law 18 = .ok (.new 141, 3) := by decide +kernel
theorem dL_law_21 : decode cL_law 21 = .ok (.dup, 1) := by decide +kernel
theorem dL_law_22 : decode cL_law 22 = .ok (.aload_n 0, 1) := by decide +kernel
theorem dL_law_23 : decode cL_law 23 = .ok (.iconst 0, 1) := by decide +kernel
theorem dL_law_24 : decode cL_law 24 = .ok (.invokestatic 133, 3) := by decide +kernel
theorem dL_law_27 : decode cL_law 27 = .ok (.aload_n 0, 1) := by decide +kernel
theorem dL_law_28 : decode cL_law 28 = .ok (.iconst 1, 1) := by decide +kernel
theorem dL_law_29 : decode cL_law 29 = .ok (.invokestatic 133, 3) := by decide +kernel
theorem dL_law_32 : decode cL_law 32 = .ok (.invokespecial 143, 3) := by decide +kernel
theorem dL_law_35 : decode cL_law 35 = .ok (.astore_n 2, 1) := by decide +kernel
theorem dL_law_36 : decode cL_law 36 = .ok (.iconst 1, 1) := by decide +kernel
theorem dL_law_37 : decode cL_law 37 = .ok (.newarray .long, 2) := by decide +kernel
theorem dL_law_39 : decode cL_law 39 = .ok (.astore_n 3, 1) := by decide +kernel
theorem dL_law_40 : decode cL_law 40 = .ok (.iconst 2, 1) := by decide +kernel
theorem dL_law_41 : decode cL_law 41 = .ok (.istore 4, 2) := by decide +kernel
theorem dL_law_43 : decode cL_law 43 = .ok (.iload 4, 2) := by decide +kernel
theorem dL_law_45 : decode cL_law 45 = .ok (.aload_n 0, 1) := by decide +kernel
theorem dL_law_46 : decode cL_law 46 = .ok (.arraylength, 1) := by decide +kernel
theorem dL_law_47 : decode cL_law 47 = .ok (.iconst 5, 1) := by decide +kernel
theorem dL_law_48 : decode cL_law 48 = .ok (.isub, 1) := by decide +kernel
theorem dL_law_49 : decode cL_law 49 = .ok (.if_icmp .gt 2456, 3) := by decide +kernel
theorem dL_law_52 : decode cL_law 52 = .ok (.aload_n 0, 1) := by decide +kernel
theorem dL_law_53 : decode cL_law 53 = .ok (.iload 4, 2) := by decide +kernel
theorem dL_law_55 : decode cL_law 55 = .ok (.iaload, 1) := by decide +kernel
theorem dL_law_56 : decode cL_law 56 = .ok (.bipush 63, 2) := by decide +kernel
theorem dL_law_58 : decode cL_law 58 = .ok (.iand, 1) := by decide +kernel
theorem dL_law_59 : decode cL_law 59 = .ok (.tableswitch 2440 0 37 #[165, 178, 191, 259, 327, 427, 483, 539, 595, 651, 664, 732, 800, 868, 936, 1016, 1108, 1176, 1232, 1288, 1344, 1400, 1456, 1500, 1544, 1600, 1668, 1736, 1804, 1872, 1968, 2036, 2104, 2172, 2240, 2284, 2340, 2384], 165) := by decide +kernel
theorem dL_law_224 : decode cL_law 224 = .ok (.aload_n 1, 1) := by decide +kernel
theorem dL_law_225 : decode cL_law 225 = .ok (.invokevirtual 144, 3) := by decide +kernel
theorem dL_law_228 : decode cL_law 228 = .ok (.aload_n 2, 1) := by decide +kernel
theorem dL_law_229 : decode cL_law 229 = .ok (.invokevirtual 147, 3) := by decide +kernel
theorem dL_law_232 : decode cL_law 232 = .ok (.if_icmp .eq 2267, 3) := by decide +kernel
theorem dL_law_235 : decode cL_law 235 = .ok (.iconst 0, 1) := by decide +kernel
theorem dL_law_236 : decode cL_law 236 = .ok (.ireturn, 1) := by decide +kernel
theorem dL_law_237 : decode cL_law 237 = .ok (.aload_n 1, 1) := by decide +kernel
theorem dL_law_238 : decode cL_law 238 = .ok (.invokevirtual 148, 3) := by decide +kernel
theorem dL_law_241 : decode cL_law 241 = .ok (.aload_n 2, 1) := by decide +kernel
theorem dL_law_242 : decode cL_law 242 = .ok (.invokevirtual 151, 3) := by decide +kernel
theorem dL_law_245 : decode cL_law 245 = .ok (.if_icmp .eq 2254, 3) := by decide +kernel
theorem dL_law_248 : decode cL_law 248 = .ok (.iconst 0, 1) := by decide +kernel
theorem dL_law_249 : decode cL_law 249 = .ok (.ireturn, 1) := by decide +kernel
theorem dL_law_250 : decode cL_law 250 = .ok (.aload_n 1, 1) := by decide +kernel
theorem dL_law_251 : decode cL_law 251 = .ok (.aload_n 0, 1) := by decide +kernel
theorem dL_law_252 : decode cL_law 252 = .ok (.iload 4, 2) := by decide +kernel
theorem dL_law_254 : decode cL_law 254 = .ok (.iconst 1, 1) := by decide +kernel
theorem dL_law_255 : decode cL_law 255 = .ok (.iadd, 1) := by decide +kernel
theorem dL_law_256 : decode cL_law 256 = .ok (.iaload, 1) := by decide +kernel
theorem dL_law_257 : decode cL_law 257 = .ok (.aload_n 0, 1) := by decide +kernel
theorem dL_law_258 : decode cL_law 258 = .ok (.iload 4, 2) := by decide +kernel
theorem dL_law_260 : decode cL_law 260 = .ok (.iconst 2, 1) := by decide +kernel
theorem dL_law_261 : decode cL_law 261 = .ok (.iadd, 1) := by decide +kernel
theorem dL_law_262 : decode cL_law 262 = .ok (.iaload, 1) := by decide +kernel
theorem dL_law_263 : decode cL_law 263 = .ok (.aload_n 3, 1) := by decide +kernel
theorem dL_law_264 : decode cL_law 264 = .ok (.invokestatic 152, 3) := by decide +kernel
theorem dL_law_267 : decode cL_law 267 = .ok (.istore 5, 2) := by decide +kernel
theorem dL_law_269 : decode cL_law 269 = .ok (.aload_n 2, 1) := by decide +kernel
theorem dL_law_270 : decode cL_law 270 = .ok (.aload_n 0, 1) := by decide +kernel
theorem dL_law_271 : decode cL_law 271 = .ok (.iload 4, 2) := by decide +kernel
theorem dL_law_273 : decode cL_law 273 = .ok (.iconst 1, 1) := by decide +kernel
theorem dL_law_274 : decode cL_law 274 = .ok (.iadd, 1) := by decide +kernel
theorem dL_law_275 : decode cL_law 275 = .ok (.iaload, 1) := by decide +kernel
theorem dL_law_276 : decode cL_law 276 = .ok (.aload_n 0, 1) := by decide +kernel
theorem dL_law_277 : decode cL_law 277 = .ok (.iload 4, 2) := by decide +kernel
theorem dL_law_279 : decode cL_law 279 = .ok (.iconst 2, 1) := by decide +kernel
theorem dL_law_280 : decode cL_law 280 = .ok (.iadd, 1) := by decide +kernel
theorem dL_law_281 : decode cL_law 281 = .ok (.iaload, 1) := by decide +kernel
theorem dL_law_282 : decode cL_law 282 = .ok (.invokevirtual 155, 3) := by decide +kernel
theorem dL_law_285 : decode cL_law 285 = .ok (.istore 6, 2) := by decide +kernel
theorem dL_law_287 : decode cL_law 287 = .ok (.aload_n 2, 1) := by decide +kernel
theorem dL_law_288 : decode cL_law 288 = .ok (.invokevirtual 156, 3) := by decide +kernel
theorem dL_law_291 : decode cL_law 291 = .ok (.iload 5, 2) := by decide +kernel
theorem dL_law_293 : decode cL_law 293 = .ok (.if_icmp .eq 5, 3) := by decide +kernel
theorem dL_law_296 : decode cL_law 296 = .ok (.iconst 0, 1) := by decide +kernel
theorem dL_law_297 : decode cL_law 297 = .ok (.ireturn, 1) := by decide +kernel
theorem dL_law_298 : decode cL_law 298 = .ok (.iload 5, 2) := by decide +kernel
theorem dL_law_300 : decode cL_law 300 = .ok (.ifCond .ne 15, 3) := by decide +kernel
theorem dL_law_303 : decode cL_law 303 = .ok (.aload_n 3, 1) := by decide +kernel
theorem dL_law_304 : decode cL_law 304 = .ok (.iconst 0, 1) := by decide +kernel
theorem dL_law_305 : decode cL_law 305 = .ok (.laload, 1) := by decide +kernel
theorem dL_law_306 : decode cL_law 306 = .ok (.iload 6, 2) := by decide +kernel
theorem dL_law_308 : decode cL_law 308 = .ok (.i2l, 1) := by decide +kernel
theorem dL_law_309 : decode cL_law 309 = .ok (.lcmp, 1) := by decide +kernel
theorem dL_law_310 : decode cL_law 310 = .ok (.ifCond .eq 5, 3) := by decide +kernel
theorem dL_law_313 : decode cL_law 313 = .ok (.iconst 0, 1) := by decide +kernel
theorem dL_law_314 : decode cL_law 314 = .ok (.ireturn, 1) := by decide +kernel
theorem dL_law_315 : decode cL_law 315 = .ok (.goto 2184, 3) := by decide +kernel
theorem dL_law_318 : decode cL_law 318 = .ok (.aload_n 1, 1) := by decide +kernel
theorem dL_law_319 : decode cL_law 319 = .ok (.aload_n 0, 1) := by decide +kernel
theorem dL_law_320 : decode cL_law 320 = .ok (.iload 4, 2) := by decide +kernel
theorem dL_law_322 : decode cL_law 322 = .ok (.iconst 1, 1) := by decide +kernel
theorem dL_law_323 : decode cL_law 323 = .ok (.iadd, 1) := by decide +kernel
theorem dL_law_324 : decode cL_law 324 = .ok (.iaload, 1) := by decide +kernel
theorem dL_law_325 : decode cL_law 325 = .ok (.aload_n 0, 1) := by decide +kernel
theorem dL_law_326 : decode cL_law 326 = .ok (.iload 4, 2) := by decide +kernel
theorem dL_law_328 : decode cL_law 328 = .ok (.iconst 2, 1) := by decide +kernel
theorem dL_law_329 : decode cL_law 329 = .ok (.iadd, 1) := by decide +kernel
theorem dL_law_330 : decode cL_law 330 = .ok (.iaload, 1) := by decide +kernel
theorem dL_law_331 : decode cL_law 331 = .ok (.aload_n 3, 1) := by decide +kernel
theorem dL_law_332 : decode cL_law 332 = .ok (.invokestatic 159, 3) := by decide +kernel
theorem dL_law_335 : decode cL_law 335 = .ok (.istore 5, 2) := by decide +kernel
theorem dL_law_337 : decode cL_law 337 = .ok (.aload_n 2, 1) := by decide +kernel
theorem dL_law_338 : decode cL_law 338 = .ok (.aload_n 0, 1) := by decide +kernel
theorem dL_law_339 : decode cL_law 339 = .ok (.iload 4, 2) := by decide +kernel
theorem dL_law_341 : decode cL_law 341 = .ok (.iconst 1, 1) := by decide +kernel
theorem dL_law_342 : decode cL_law 342 = .ok (.iadd, 1) := by decide +kernel
theorem dL_law_343 : decode cL_law 343 = .ok (.iaload, 1) := by decide +kernel
theorem dL_law_344 : decode cL_law 344 = .ok (.aload_n 0, 1) := by decide +kernel
theorem dL_law_345 : decode cL_law 345 = .ok (.iload 4, 2) := by decide +kernel
theorem dL_law_347 : decode cL_law 347 = .ok (.iconst 2, 1) := by decide +kernel
theorem dL_law_348 : decode cL_law 348 = .ok (.iadd, 1) := by decide +kernel
theorem dL_law_349 : decode cL_law 349 = .ok (.iaload, 1) := by decide +kernel
theorem dL_law_350 : decode cL_law 350 = .ok (.invokevirtual 161, 3) := by decide +kernel
theorem dL_law_353 : decode cL_law 353 = .ok (.istore 6, 2) := by decide +kernel
theorem dL_law_355 : decode cL_law 355 = .ok (.aload_n 2, 1) := by decide +kernel
theorem dL_law_356 : decode cL_law 356 = .ok (.invokevirtual 156, 3) := by decide +kernel
theorem dL_law_359 : decode cL_law 359 = .ok (.iload 5, 2) := by decide +kernel
theorem dL_law_361 : decode cL_law 361 = .ok (.if_icmp .eq 5, 3) := by decide +kernel
theorem dL_law_364 : decode cL_law 364 = .ok (.iconst 0, 1) := by decide +kernel
theorem dL_law_365 : decode cL_law 365 = .ok (.ireturn, 1) := by decide +kernel
theorem dL_law_366 : decode cL_law 366 = .ok (.iload 5, 2) := by decide +kernel
theorem dL_law_368 : decode cL_law 368 = .ok (.ifCond .ne 15, 3) := by decide +kernel
theorem dL_law_371 : decode cL_law 371 = .ok (.aload_n 3, 1) := by decide +kernel
theorem dL_law_372 : decode cL_law 372 = .ok (.iconst 0, 1) := by decide +kernel
theorem dL_law_373 : decode cL_law 373 = .ok (.laload, 1) := by decide +kernel
theorem dL_law_374 : decode cL_law 374 = .ok (.iload 6, 2) := by decide +kernel
theorem dL_law_376 : decode cL_law 376 = .ok (.i2l, 1) := by decide +kernel
theorem dL_law_377 : decode cL_law 377 = .ok (.lcmp, 1) := by decide +kernel
theorem dL_law_378 : decode cL_law 378 = .ok (.ifCond .eq 5, 3) := by decide +kernel
theorem dL_law_381 : decode cL_law 381 = .ok (.iconst 0, 1) := by decide +kernel
theorem dL_law_382 : decode cL_law 382 = .ok (.ireturn, 1) := by decide +kernel
theorem dL_law_383 : decode cL_law 383 = .ok (.goto 2116, 3) := by decide +kernel
theorem dL_law_386 : decode cL_law 386 = .ok (.aload_n 1, 1) := by decide +kernel
theorem dL_law_387 : decode cL_law 387 = .ok (.aload_n 0, 1) := by decide +kernel
theorem dL_law_388 : decode cL_law 388 = .ok (.iload 4, 2) := by decide +kernel
theorem dL_law_390 : decode cL_law 390 = .ok (.iconst 1, 1) := by decide +kernel
theorem dL_law_391 : decode cL_law 391 = .ok (.iadd, 1) := by decide +kernel
theorem dL_law_392 : decode cL_law 392 = .ok (.iaload, 1) := by decide +kernel
theorem dL_law_393 : decode cL_law 393 = .ok (.aload_n 0, 1) := by decide +kernel
theorem dL_law_394 : decode cL_law 394 = .ok (.iload 4, 2) := by decide +kernel
theorem dL_law_396 : decode cL_law 396 = .ok (.iconst 2, 1) := by decide +kernel
theorem dL_law_397 : decode cL_law 397 = .ok (.iadd, 1) := by decide +kernel
theorem dL_law_398 : decode cL_law 398 = .ok (.iaload, 1) := by decide +kernel
theorem dL_law_399 : decode cL_law 399 = .ok (.i2l, 1) := by decide +kernel
theorem dL_law_400 : decode cL_law 400 = .ok (.bipush 32, 2) := by decide +kernel
theorem dL_law_402 : decode cL_law 402 = .ok (.lshl, 1) := by decide +kernel
theorem dL_law_403 : decode cL_law 403 = .ok (.aload_n 0, 1) := by decide +kernel
theorem dL_law_404 : decode cL_law 404 = .ok (.iload 4, 2) := by decide +kernel
theorem dL_law_406 : decode cL_law 406 = .ok (.iconst 3, 1) := by decide +kernel
theorem dL_law_407 : decode cL_law 407 = .ok (.iadd, 1) := by decide +kernel
theorem dL_law_408 : decode cL_law 408 = .ok (.iaload, 1) := by decide +kernel
theorem dL_law_409 : decode cL_law 409 = .ok (.i2l, 1) := by decide +kernel
theorem dL_law_410 : decode cL_law 410 = .ok (.ldc2_w 162, 3) := by decide +kernel
theorem dL_law_413 : decode cL_law 413 = .ok (.land, 1) := by decide +kernel
theorem dL_law_414 : decode cL_law 414 = .ok (.lor, 1) := by decide +kernel
theorem dL_law_415 : decode cL_law 415 = .ok (.aload_n 3, 1) := by decide +kernel
theorem dL_law_416 : decode cL_law 416 = .ok (.invokestatic 164, 3) := by decide +kernel
theorem dL_law_419 : decode cL_law 419 = .ok (.istore 5, 2) := by decide +kernel
theorem dL_law_421 : decode cL_law 421 = .ok (.aload_n 2, 1) := by decide +kernel
theorem dL_law_422 : decode cL_law 422 = .ok (.aload_n 0, 1) := by decide +kernel
theorem dL_law_423 : decode cL_law 423 = .ok (.iload 4, 2) := by decide +kernel
theorem dL_law_425 : decode cL_law 425 = .ok (.iconst 1, 1) := by decide +kernel
theorem dL_law_426 : decode cL_law 426 = .ok (.iadd, 1) := by decide +kernel
theorem dL_law_427 : decode cL_law 427 = .ok (.iaload, 1) := by decide +kernel
theorem dL_law_428 : decode cL_law 428 = .ok (.aload_n 0, 1) := by decide +kernel
theorem dL_law_429 : decode cL_law 429 = .ok (.iload 4, 2) := by decide +kernel
theorem dL_law_431 : decode cL_law 431 = .ok (.iconst 2, 1) := by decide +kernel
theorem dL_law_432 : decode cL_law 432 = .ok (.iadd, 1) := by decide +kernel
theorem dL_law_433 : decode cL_law 433 = .ok (.iaload, 1) := by decide +kernel
theorem dL_law_434 : decode cL_law 434 = .ok (.i2l, 1) := by decide +kernel
theorem dL_law_435 : decode cL_law 435 = .ok (.bipush 32, 2) := by decide +kernel
theorem dL_law_437 : decode cL_law 437 = .ok (.lshl, 1) := by decide +kernel
theorem dL_law_438 : decode cL_law 438 = .ok (.aload_n 0, 1) := by decide +kernel
theorem dL_law_439 : decode cL_law 439 = .ok (.iload 4, 2) := by decide +kernel
theorem dL_law_441 : decode cL_law 441 = .ok (.iconst 3, 1) := by decide +kernel
theorem dL_law_442 : decode cL_law 442 = .ok (.iadd, 1) := by decide +kernel
theorem dL_law_443 : decode cL_law 443 = .ok (.iaload, 1) := by decide +kernel
theorem dL_law_444 : decode cL_law 444 = .ok (.i2l, 1) := by decide +kernel
theorem dL_law_445 : decode cL_law 445 = .ok (.ldc2_w 162, 3) := by decide +kernel
theorem dL_law_448 : decode cL_law 448 = .ok (.land, 1) := by decide +kernel
theorem dL_law_449 : decode cL_law 449 = .ok (.lor, 1) := by decide +kernel
theorem dL_law_450 : decode cL_law 450 = .ok (.invokevirtual 167, 3) := by decide +kernel
theorem dL_law_453 : decode cL_law 453 = .ok (.istore 6, 2) := by decide +kernel
theorem dL_law_455 : decode cL_law 455 = .ok (.aload_n 2, 1) := by decide +kernel
theorem dL_law_456 : decode cL_law 456 = .ok (.invokevirtual 156, 3) := by decide +kernel
theorem dL_law_459 : decode cL_law 459 = .ok (.iload 5, 2) := by decide +kernel
theorem dL_law_461 : decode cL_law 461 = .ok (.if_icmp .eq 5, 3) := by decide +kernel
theorem dL_law_464 : decode cL_law 464 = .ok (.iconst 0, 1) := by decide +kernel
theorem dL_law_465 : decode cL_law 465 = .ok (.ireturn, 1) := by decide +kernel
theorem dL_law_466 : decode cL_law 466 = .ok (.iload 5, 2) := by decide +kernel
theorem dL_law_468 : decode cL_law 468 = .ok (.ifCond .ne 15, 3) := by decide +kernel
theorem dL_law_471 : decode cL_law 471 = .ok (.aload_n 3, 1) := by decide +kernel
theorem dL_law_472 : decode cL_law 472 = .ok (.iconst 0, 1) := by decide +kernel
theorem dL_law_473 : decode cL_law 473 = .ok (.laload, 1) := by decide +kernel
theorem dL_law_474 : decode cL_law 474 = .ok (.iload 6, 2) := by decide +kernel
theorem dL_law_476 : decode cL_law 476 = .ok (.i2l, 1) := by decide +kernel
theorem dL_law_477 : decode cL_law 477 = .ok (.lcmp, 1) := by decide +kernel
theorem dL_law_478 : decode cL_law 478 = .ok (.ifCond .eq 5, 3) := by decide +kernel
theorem dL_law_481 : decode cL_law 481 = .ok (.iconst 0, 1) := by decide +kernel
theorem dL_law_482 : decode cL_law 482 = .ok (.ireturn, 1) := by decide +kernel
theorem dL_law_483 : decode cL_law 483 = .ok (.goto 2016, 3) := by decide +kernel
theorem dL_law_486 : decode cL_law 486 = .ok (.aload_n 1, 1) := by decide +kernel
theorem dL_law_487 : decode cL_law 487 = .ok (.aload_n 0, 1) := by decide +kernel
theorem dL_law_488 : decode cL_law 488 = .ok (.iload 4, 2) := by decide +kernel
theorem dL_law_490 : decode cL_law 490 = .ok (.iconst 1, 1) := by decide +kernel
theorem dL_law_491 : decode cL_law 491 = .ok (.iadd, 1) := by decide +kernel
theorem dL_law_492 : decode cL_law 492 = .ok (.iaload, 1) := by decide +kernel
theorem dL_law_493 : decode cL_law 493 = .ok (.aload_n 3, 1) := by decide +kernel
theorem dL_law_494 : decode cL_law 494 = .ok (.invokestatic 168, 3) := by decide +kernel
theorem dL_law_497 : decode cL_law 497 = .ok (.istore 5, 2) := by decide +kernel
theorem dL_law_499 : decode cL_law 499 = .ok (.aload_n 2, 1) := by decide +kernel
theorem dL_law_500 : decode cL_law 500 = .ok (.aload_n 0, 1) := by decide +kernel
theorem dL_law_501 : decode cL_law 501 = .ok (.iload 4, 2) := by decide +kernel
theorem dL_law_503 : decode cL_law 503 = .ok (.iconst 1, 1) := by decide +kernel
theorem dL_law_504 : decode cL_law 504 = .ok (.iadd, 1) := by decide +kernel
theorem dL_law_505 : decode cL_law 505 = .ok (.iaload, 1) := by decide +kernel
theorem dL_law_506 : decode cL_law 506 = .ok (.invokevirtual 171, 3) := by decide +kernel
theorem dL_law_509 : decode cL_law 509 = .ok (.istore 6, 2) := by decide +kernel
theorem dL_law_511 : decode cL_law 511 = .ok (.aload_n 2, 1) := by decide +kernel
theorem dL_law_512 : decode cL_law 512 = .ok (.invokevirtual 156, 3) := by decide +kernel
theorem dL_law_515 : decode cL_law 515 = .ok (.iload 5, 2) := by decide +kernel
theorem dL_law_517 : decode cL_law 517 = .ok (.if_icmp .eq 5, 3) := by decide +kernel
theorem dL_law_520 : decode cL_law 520 = .ok (.iconst 0, 1) := by decide +kernel
theorem dL_law_521 : decode cL_law 521 = .ok (.ireturn, 1) := by decide +kernel
theorem dL_law_522 : decode cL_law 522 = .ok (.iload 5, 2) := by decide +kernel
theorem dL_law_524 : decode cL_law 524 = .ok (.ifCond .ne 15, 3) := by decide +kernel
theorem dL_law_527 : decode cL_law 527 = .ok (.aload_n 3, 1) := by decide +kernel
theorem dL_law_528 : decode cL_law 528 = .ok (.iconst 0, 1) := by decide +kernel
theorem dL_law_529 : decode cL_law 529 = .ok (.laload, 1) := by decide +kernel
theorem dL_law_530 : decode cL_law 530 = .ok (.iload 6, 2) := by decide +kernel
theorem dL_law_532 : decode cL_law 532 = .ok (.i2l, 1) := by decide +kernel
theorem dL_law_533 : decode cL_law 533 = .ok (.lcmp, 1) := by decide +kernel
theorem dL_law_534 : decode cL_law 534 = .ok (.ifCond .eq 5, 3) := by decide +kernel
theorem dL_law_537 : decode cL_law 537 = .ok (.iconst 0, 1) := by decide +kernel
theorem dL_law_538 : decode cL_law 538 = .ok (.ireturn, 1) := by decide +kernel
theorem dL_law_539 : decode cL_law 539 = .ok (.goto 1960, 3) := by decide +kernel
theorem dL_law_542 : decode cL_law 542 = .ok (.aload_n 1, 1) := by decide +kernel
theorem dL_law_543 : decode cL_law 543 = .ok (.aload_n 0, 1) := by decide +kernel
theorem dL_law_544 : decode cL_law 544 = .ok (.iload 4, 2) := by decide +kernel
theorem dL_law_546 : decode cL_law 546 = .ok (.iconst 1, 1) := by decide +kernel
theorem dL_law_547 : decode cL_law 547 = .ok (.iadd, 1) := by decide +kernel
theorem dL_law_548 : decode cL_law 548 = .ok (.iaload, 1) := by decide +kernel
theorem dL_law_549 : decode cL_law 549 = .ok (.aload_n 3, 1) := by decide +kernel
theorem dL_law_550 : decode cL_law 550 = .ok (.invokestatic 172, 3) := by decide +kernel
theorem dL_law_553 : decode cL_law 553 = .ok (.istore 5, 2) := by decide +kernel
theorem dL_law_555 : decode cL_law 555 = .ok (.aload_n 2, 1) := by decide +kernel
theorem dL_law_556 : decode cL_law 556 = .ok (.aload_n 0, 1) := by decide +kernel
theorem dL_law_557 : decode cL_law 557 = .ok (.iload 4, 2) := by decide +kernel
theorem dL_law_559 : decode cL_law 559 = .ok (.iconst 1, 1) := by decide +kernel
theorem dL_law_560 : decode cL_law 560 = .ok (.iadd, 1) := by decide +kernel
theorem dL_law_561 : decode cL_law 561 = .ok (.iaload, 1) := by decide +kernel
theorem dL_law_562 : decode cL_law 562 = .ok (.invokevirtual 174, 3) := by decide +kernel
theorem dL_law_565 : decode cL_law 565 = .ok (.istore 6, 2) := by decide +kernel
theorem dL_law_567 : decode cL_law 567 = .ok (.aload_n 2, 1) := by decide +kernel
theorem dL_law_568 : decode cL_law 568 = .ok (.invokevirtual 156, 3) := by decide +kernel
theorem dL_law_571 : decode cL_law 571 = .ok (.iload 5, 2) := by decide +kernel
theorem dL_law_573 : decode cL_law 573 = .ok (.if_icmp .eq 5, 3) := by decide +kernel
theorem dL_law_576 : decode cL_law 576 = .ok (.iconst 0, 1) := by decide +kernel
theorem dL_law_577 : decode cL_law 577 = .ok (.ireturn, 1) := by decide +kernel
theorem dL_law_578 : decode cL_law 578 = .ok (.iload 5, 2) := by decide +kernel
theorem dL_law_580 : decode cL_law 580 = .ok (.ifCond .ne 15, 3) := by decide +kernel
theorem dL_law_583 : decode cL_law 583 = .ok (.aload_n 3, 1) := by decide +kernel
theorem dL_law_584 : decode cL_law 584 = .ok (.iconst 0, 1) := by decide +kernel
theorem dL_law_585 : decode cL_law 585 = .ok (.laload, 1) := by decide +kernel
theorem dL_law_586 : decode cL_law 586 = .ok (.iload 6, 2) := by decide +kernel
theorem dL_law_588 : decode cL_law 588 = .ok (.i2l, 1) := by decide +kernel
theorem dL_law_589 : decode cL_law 589 = .ok (.lcmp, 1) := by decide +kernel
theorem dL_law_590 : decode cL_law 590 = .ok (.ifCond .eq 5, 3) := by decide +kernel
theorem dL_law_593 : decode cL_law 593 = .ok (.iconst 0, 1) := by decide +kernel
theorem dL_law_594 : decode cL_law 594 = .ok (.ireturn, 1) := by decide +kernel
theorem dL_law_595 : decode cL_law 595 = .ok (.goto 1904, 3) := by decide +kernel
theorem dL_law_598 : decode cL_law 598 = .ok (.aload_n 1, 1) := by decide +kernel
theorem dL_law_599 : decode cL_law 599 = .ok (.aload_n 0, 1) := by decide +kernel
theorem dL_law_600 : decode cL_law 600 = .ok (.iload 4, 2) := by decide +kernel
theorem dL_law_602 : decode cL_law 602 = .ok (.iconst 1, 1) := by decide +kernel
theorem dL_law_603 : decode cL_law 603 = .ok (.iadd, 1) := by decide +kernel
theorem dL_law_604 : decode cL_law 604 = .ok (.iaload, 1) := by decide +kernel
theorem dL_law_605 : decode cL_law 605 = .ok (.aload_n 3, 1) := by decide +kernel
theorem dL_law_606 : decode cL_law 606 = .ok (.invokestatic 175, 3) := by decide +kernel
theorem dL_law_609 : decode cL_law 609 = .ok (.istore 5, 2) := by decide +kernel
theorem dL_law_611 : decode cL_law 611 = .ok (.aload_n 2, 1) := by decide +kernel
theorem dL_law_612 : decode cL_law 612 = .ok (.aload_n 0, 1) := by decide +kernel
theorem dL_law_613 : decode cL_law 613 = .ok (.iload 4, 2) := by decide +kernel
theorem dL_law_615 : decode cL_law 615 = .ok (.iconst 1, 1) := by decide +kernel
theorem dL_law_616 : decode cL_law 616 = .ok (.iadd, 1) := by decide +kernel
theorem dL_law_617 : decode cL_law 617 = .ok (.iaload, 1) := by decide +kernel
theorem dL_law_618 : decode cL_law 618 = .ok (.invokevirtual 177, 3) := by decide +kernel
theorem dL_law_621 : decode cL_law 621 = .ok (.istore 6, 2) := by decide +kernel
theorem dL_law_623 : decode cL_law 623 = .ok (.aload_n 2, 1) := by decide +kernel
theorem dL_law_624 : decode cL_law 624 = .ok (.invokevirtual 156, 3) := by decide +kernel
theorem dL_law_627 : decode cL_law 627 = .ok (.iload 5, 2) := by decide +kernel
theorem dL_law_629 : decode cL_law 629 = .ok (.if_icmp .eq 5, 3) := by decide +kernel
theorem dL_law_632 : decode cL_law 632 = .ok (.iconst 0, 1) := by decide +kernel
theorem dL_law_633 : decode cL_law 633 = .ok (.ireturn, 1) := by decide +kernel
theorem dL_law_634 : decode cL_law 634 = .ok (.iload 5, 2) := by decide +kernel
theorem dL_law_636 : decode cL_law 636 = .ok (.ifCond .ne 15, 3) := by decide +kernel
theorem dL_law_639 : decode cL_law 639 = .ok (.aload_n 3, 1) := by decide +kernel
theorem dL_law_640 : decode cL_law 640 = .ok (.iconst 0, 1) := by decide +kernel
theorem dL_law_641 : decode cL_law 641 = .ok (.laload, 1) := by decide +kernel
theorem dL_law_642 : decode cL_law 642 = .ok (.iload 6, 2) := by decide +kernel
theorem dL_law_644 : decode cL_law 644 = .ok (.i2l, 1) := by decide +kernel
theorem dL_law_645 : decode cL_law 645 = .ok (.lcmp, 1) := by decide +kernel
theorem dL_law_646 : decode cL_law 646 = .ok (.ifCond .eq 5, 3) := by decide +kernel
theorem dL_law_649 : decode cL_law 649 = .ok (.iconst 0, 1) := by decide +kernel
theorem dL_law_650 : decode cL_law 650 = .ok (.ireturn, 1) := by decide +kernel
theorem dL_law_651 : decode cL_law 651 = .ok (.goto 1848, 3) := by decide +kernel
theorem dL_law_654 : decode cL_law 654 = .ok (.aload_n 1, 1) := by decide +kernel
theorem dL_law_655 : decode cL_law 655 = .ok (.aload_n 0, 1) := by decide +kernel
theorem dL_law_656 : decode cL_law 656 = .ok (.iload 4, 2) := by decide +kernel
theorem dL_law_658 : decode cL_law 658 = .ok (.iconst 1, 1) := by decide +kernel
theorem dL_law_659 : decode cL_law 659 = .ok (.iadd, 1) := by decide +kernel
theorem dL_law_660 : decode cL_law 660 = .ok (.iaload, 1) := by decide +kernel
theorem dL_law_661 : decode cL_law 661 = .ok (.aload_n 3, 1) := by decide +kernel
theorem dL_law_662 : decode cL_law 662 = .ok (.invokestatic 178, 3) := by decide +kernel
theorem dL_law_665 : decode cL_law 665 = .ok (.istore 5, 2) := by decide +kernel
theorem dL_law_667 : decode cL_law 667 = .ok (.aload_n 2, 1) := by decide +kernel
theorem dL_law_668 : decode cL_law 668 = .ok (.aload_n 0, 1) := by decide +kernel
theorem dL_law_669 : decode cL_law 669 = .ok (.iload 4, 2) := by decide +kernel
theorem dL_law_671 : decode cL_law 671 = .ok (.iconst 1, 1) := by decide +kernel
theorem dL_law_672 : decode cL_law 672 = .ok (.iadd, 1) := by decide +kernel
theorem dL_law_673 : decode cL_law 673 = .ok (.iaload, 1) := by decide +kernel
theorem dL_law_674 : decode cL_law 674 = .ok (.invokevirtual 180, 3) := by decide +kernel
theorem dL_law_677 : decode cL_law 677 = .ok (.istore 6, 2) := by decide +kernel
theorem dL_law_679 : decode cL_law 679 = .ok (.aload_n 2, 1) := by decide +kernel
theorem dL_law_680 : decode cL_law 680 = .ok (.invokevirtual 156, 3) := by decide +kernel
theorem dL_law_683 : decode cL_law 683 = .ok (.iload 5, 2) := by decide +kernel
theorem dL_law_685 : decode cL_law 685 = .ok (.if_icmp .eq 5, 3) := by decide +kernel
theorem dL_law_688 : decode cL_law 688 = .ok (.iconst 0, 1) := by decide +kernel
theorem dL_law_689 : decode cL_law 689 = .ok (.ireturn, 1) := by decide +kernel
theorem dL_law_690 : decode cL_law 690 = .ok (.iload 5, 2) := by decide +kernel
theorem dL_law_692 : decode cL_law 692 = .ok (.ifCond .ne 15, 3) := by decide +kernel
theorem dL_law_695 : decode cL_law 695 = .ok (.aload_n 3, 1) := by decide +kernel
theorem dL_law_696 : decode cL_law 696 = .ok (.iconst 0, 1) := by decide +kernel
theorem dL_law_697 : decode cL_law 697 = .ok (.laload, 1) := by decide +kernel
theorem dL_law_698 : decode cL_law 698 = .ok (.iload 6, 2) := by decide +kernel
theorem dL_law_700 : decode cL_law 700 = .ok (.i2l, 1) := by decide +kernel
theorem dL_law_701 : decode cL_law 701 = .ok (.lcmp, 1) := by decide +kernel
theorem dL_law_702 : decode cL_law 702 = .ok (.ifCond .eq 5, 3) := by decide +kernel
theorem dL_law_705 : decode cL_law 705 = .ok (.iconst 0, 1) := by decide +kernel
theorem dL_law_706 : decode cL_law 706 = .ok (.ireturn, 1) := by decide +kernel
theorem dL_law_707 : decode cL_law 707 = .ok (.goto 1792, 3) := by decide +kernel
theorem dL_law_710 : decode cL_law 710 = .ok (.aload_n 1, 1) := by decide +kernel
theorem dL_law_711 : decode cL_law 711 = .ok (.invokevirtual 181, 3) := by decide +kernel
theorem dL_law_714 : decode cL_law 714 = .ok (.aload_n 2, 1) := by decide +kernel
theorem dL_law_715 : decode cL_law 715 = .ok (.invokevirtual 184, 3) := by decide +kernel
theorem dL_law_718 : decode cL_law 718 = .ok (.if_icmp .eq 1781, 3) := by decide +kernel
theorem dL_law_721 : decode cL_law 721 = .ok (.iconst 0, 1) := by decide +kernel
theorem dL_law_722 : decode cL_law 722 = .ok (.ireturn, 1) := by decide +kernel
theorem dL_law_723 : decode cL_law 723 = .ok (.aload_n 1, 1) := by decide +kernel
theorem dL_law_724 : decode cL_law 724 = .ok (.aload_n 0, 1) := by decide +kernel
theorem dL_law_725 : decode cL_law 725 = .ok (.iload 4, 2) := by decide +kernel
theorem dL_law_727 : decode cL_law 727 = .ok (.iconst 1, 1) := by decide +kernel
theorem dL_law_728 : decode cL_law 728 = .ok (.iadd, 1) := by decide +kernel
theorem dL_law_729 : decode cL_law 729 = .ok (.iaload, 1) := by decide +kernel
theorem dL_law_730 : decode cL_law 730 = .ok (.aload_n 0, 1) := by decide +kernel
theorem dL_law_731 : decode cL_law 731 = .ok (.iload 4, 2) := by decide +kernel
theorem dL_law_733 : decode cL_law 733 = .ok (.iconst 2, 1) := by decide +kernel
theorem dL_law_734 : decode cL_law 734 = .ok (.iadd, 1) := by decide +kernel
theorem dL_law_735 : decode cL_law 735 = .ok (.iaload, 1) := by decide +kernel
theorem dL_law_736 : decode cL_law 736 = .ok (.aload_n 3, 1) := by decide +kernel
theorem dL_law_737 : decode cL_law 737 = .ok (.invokestatic 185, 3) := by decide +kernel
theorem dL_law_740 : decode cL_law 740 = .ok (.istore 5, 2) := by decide +kernel
theorem dL_law_742 : decode cL_law 742 = .ok (.aload_n 2, 1) := by decide +kernel
theorem dL_law_743 : decode cL_law 743 = .ok (.aload_n 0, 1) := by decide +kernel
theorem dL_law_744 : decode cL_law 744 = .ok (.iload 4, 2) := by decide +kernel
theorem dL_law_746 : decode cL_law 746 = .ok (.iconst 1, 1) := by decide +kernel
theorem dL_law_747 : decode cL_law 747 = .ok (.iadd, 1) := by decide +kernel
theorem dL_law_748 : decode cL_law 748 = .ok (.iaload, 1) := by decide +kernel
theorem dL_law_749 : decode cL_law 749 = .ok (.aload_n 0, 1) := by decide +kernel
theorem dL_law_750 : decode cL_law 750 = .ok (.iload 4, 2) := by decide +kernel
theorem dL_law_752 : decode cL_law 752 = .ok (.iconst 2, 1) := by decide +kernel
theorem dL_law_753 : decode cL_law 753 = .ok (.iadd, 1) := by decide +kernel
theorem dL_law_754 : decode cL_law 754 = .ok (.iaload, 1) := by decide +kernel
theorem dL_law_755 : decode cL_law 755 = .ok (.invokevirtual 187, 3) := by decide +kernel
theorem dL_law_758 : decode cL_law 758 = .ok (.istore 6, 2) := by decide +kernel
theorem dL_law_760 : decode cL_law 760 = .ok (.aload_n 2, 1) := by decide +kernel
theorem dL_law_761 : decode cL_law 761 = .ok (.invokevirtual 156, 3) := by decide +kernel
theorem dL_law_764 : decode cL_law 764 = .ok (.iload 5, 2) := by decide +kernel
theorem dL_law_766 : decode cL_law 766 = .ok (.if_icmp .eq 5, 3) := by decide +kernel
theorem dL_law_769 : decode cL_law 769 = .ok (.iconst 0, 1) := by decide +kernel
theorem dL_law_770 : decode cL_law 770 = .ok (.ireturn, 1) := by decide +kernel
theorem dL_law_771 : decode cL_law 771 = .ok (.iload 5, 2) := by decide +kernel
theorem dL_law_773 : decode cL_law 773 = .ok (.ifCond .ne 15, 3) := by decide +kernel
theorem dL_law_776 : decode cL_law 776 = .ok (.aload_n 3, 1) := by decide +kernel
theorem dL_law_777 : decode cL_law 777 = .ok (.iconst 0, 1) := by decide +kernel
theorem dL_law_778 : decode cL_law 778 = .ok (.laload, 1) := by decide +kernel
theorem dL_law_779 : decode cL_law 779 = .ok (.iload 6, 2) := by decide +kernel
theorem dL_law_781 : decode cL_law 781 = .ok (.i2l, 1) := by decide +kernel
theorem dL_law_782 : decode cL_law 782 = .ok (.lcmp, 1) := by decide +kernel
theorem dL_law_783 : decode cL_law 783 = .ok (.ifCond .eq 5, 3) := by decide +kernel
theorem dL_law_786 : decode cL_law 786 = .ok (.iconst 0, 1) := by decide +kernel
theorem dL_law_787 : decode cL_law 787 = .ok (.ireturn, 1) := by decide +kernel
theorem dL_law_788 : decode cL_law 788 = .ok (.goto 1711, 3) := by decide +kernel
theorem dL_law_791 : decode cL_law 791 = .ok (.aload_n 1, 1) := by decide +kernel
theorem dL_law_792 : decode cL_law 792 = .ok (.aload_n 0, 1) := by decide +kernel
theorem dL_law_793 : decode cL_law 793 = .ok (.iload 4, 2) := by decide +kernel
theorem dL_law_795 : decode cL_law 795 = .ok (.iconst 1, 1) := by decide +kernel
theorem dL_law_796 : decode cL_law 796 = .ok (.iadd, 1) := by decide +kernel
theorem dL_law_797 : decode cL_law 797 = .ok (.iaload, 1) := by decide +kernel
theorem dL_law_798 : decode cL_law 798 = .ok (.aload_n 0, 1) := by decide +kernel
theorem dL_law_799 : decode cL_law 799 = .ok (.iload 4, 2) := by decide +kernel
theorem dL_law_801 : decode cL_law 801 = .ok (.iconst 2, 1) := by decide +kernel
theorem dL_law_802 : decode cL_law 802 = .ok (.iadd, 1) := by decide +kernel
theorem dL_law_803 : decode cL_law 803 = .ok (.iaload, 1) := by decide +kernel
theorem dL_law_804 : decode cL_law 804 = .ok (.aload_n 3, 1) := by decide +kernel
theorem dL_law_805 : decode cL_law 805 = .ok (.invokestatic 188, 3) := by decide +kernel
theorem dL_law_808 : decode cL_law 808 = .ok (.istore 5, 2) := by decide +kernel
theorem dL_law_810 : decode cL_law 810 = .ok (.aload_n 2, 1) := by decide +kernel
theorem dL_law_811 : decode cL_law 811 = .ok (.aload_n 0, 1) := by decide +kernel
theorem dL_law_812 : decode cL_law 812 = .ok (.iload 4, 2) := by decide +kernel
theorem dL_law_814 : decode cL_law 814 = .ok (.iconst 1, 1) := by decide +kernel
theorem dL_law_815 : decode cL_law 815 = .ok (.iadd, 1) := by decide +kernel
theorem dL_law_816 : decode cL_law 816 = .ok (.iaload, 1) := by decide +kernel
theorem dL_law_817 : decode cL_law 817 = .ok (.aload_n 0, 1) := by decide +kernel
theorem dL_law_818 : decode cL_law 818 = .ok (.iload 4, 2) := by decide +kernel
theorem dL_law_820 : decode cL_law 820 = .ok (.iconst 2, 1) := by decide +kernel
theorem dL_law_821 : decode cL_law 821 = .ok (.iadd, 1) := by decide +kernel
theorem dL_law_822 : decode cL_law 822 = .ok (.iaload, 1) := by decide +kernel
theorem dL_law_823 : decode cL_law 823 = .ok (.invokevirtual 190, 3) := by decide +kernel
theorem dL_law_826 : decode cL_law 826 = .ok (.istore 6, 2) := by decide +kernel
theorem dL_law_828 : decode cL_law 828 = .ok (.aload_n 2, 1) := by decide +kernel
theorem dL_law_829 : decode cL_law 829 = .ok (.invokevirtual 156, 3) := by decide +kernel
theorem dL_law_832 : decode cL_law 832 = .ok (.iload 5, 2) := by decide +kernel
theorem dL_law_834 : decode cL_law 834 = .ok (.if_icmp .eq 5, 3) := by decide +kernel
theorem dL_law_837 : decode cL_law 837 = .ok (.iconst 0, 1) := by decide +kernel
theorem dL_law_838 : decode cL_law 838 = .ok (.ireturn, 1) := by decide +kernel
theorem dL_law_839 : decode cL_law 839 = .ok (.iload 5, 2) := by decide +kernel
theorem dL_law_841 : decode cL_law 841 = .ok (.ifCond .ne 15, 3) := by decide +kernel
theorem dL_law_844 : decode cL_law 844 = .ok (.aload_n 3, 1) := by decide +kernel
theorem dL_law_845 : decode cL_law 845 = .ok (.iconst 0, 1) := by decide +kernel
theorem dL_law_846 : decode cL_law 846 = .ok (.laload, 1) := by decide +kernel
theorem dL_law_847 : decode cL_law 847 = .ok (.iload 6, 2) := by decide +kernel
theorem dL_law_849 : decode cL_law 849 = .ok (.i2l, 1) := by decide +kernel
theorem dL_law_850 : decode cL_law 850 = .ok (.lcmp, 1) := by decide +kernel
theorem dL_law_851 : decode cL_law 851 = .ok (.ifCond .eq 5, 3) := by decide +kernel
theorem dL_law_854 : decode cL_law 854 = .ok (.iconst 0, 1) := by decide +kernel
theorem dL_law_855 : decode cL_law 855 = .ok (.ireturn, 1) := by decide +kernel
theorem dL_law_856 : decode cL_law 856 = .ok (.goto 1643, 3) := by decide +kernel
theorem dL_law_859 : decode cL_law 859 = .ok (.aload_n 1, 1) := by decide +kernel
theorem dL_law_860 : decode cL_law 860 = .ok (.aload_n 0, 1) := by decide +kernel
theorem dL_law_861 : decode cL_law 861 = .ok (.iload 4, 2) := by decide +kernel
theorem dL_law_863 : decode cL_law 863 = .ok (.iconst 1, 1) := by decide +kernel
theorem dL_law_864 : decode cL_law 864 = .ok (.iadd, 1) := by decide +kernel
theorem dL_law_865 : decode cL_law 865 = .ok (.iaload, 1) := by decide +kernel
theorem dL_law_866 : decode cL_law 866 = .ok (.aload_n 0, 1) := by decide +kernel
theorem dL_law_867 : decode cL_law 867 = .ok (.iload 4, 2) := by decide +kernel
theorem dL_law_869 : decode cL_law 869 = .ok (.iconst 2, 1) := by decide +kernel
theorem dL_law_870 : decode cL_law 870 = .ok (.iadd, 1) := by decide +kernel
theorem dL_law_871 : decode cL_law 871 = .ok (.iaload, 1) := by decide +kernel
theorem dL_law_872 : decode cL_law 872 = .ok (.aload_n 3, 1) := by decide +kernel
theorem dL_law_873 : decode cL_law 873 = .ok (.invokestatic 191, 3) := by decide +kernel
theorem dL_law_876 : decode cL_law 876 = .ok (.istore 5, 2) := by decide +kernel
theorem dL_law_878 : decode cL_law 878 = .ok (.aload_n 2, 1) := by decide +kernel
theorem dL_law_879 : decode cL_law 879 = .ok (.aload_n 0, 1) := by decide +kernel
theorem dL_law_880 : decode cL_law 880 = .ok (.iload 4, 2) := by decide +kernel
theorem dL_law_882 : decode cL_law 882 = .ok (.iconst 1, 1) := by decide +kernel
theorem dL_law_883 : decode cL_law 883 = .ok (.iadd, 1) := by decide +kernel
theorem dL_law_884 : decode cL_law 884 = .ok (.iaload, 1) := by decide +kernel
theorem dL_law_885 : decode cL_law 885 = .ok (.aload_n 0, 1) := by decide +kernel
theorem dL_law_886 : decode cL_law 886 = .ok (.iload 4, 2) := by decide +kernel
theorem dL_law_888 : decode cL_law 888 = .ok (.iconst 2, 1) := by decide +kernel
theorem dL_law_889 : decode cL_law 889 = .ok (.iadd, 1) := by decide +kernel
theorem dL_law_890 : decode cL_law 890 = .ok (.iaload, 1) := by decide +kernel
theorem dL_law_891 : decode cL_law 891 = .ok (.invokevirtual 193, 3) := by decide +kernel
theorem dL_law_894 : decode cL_law 894 = .ok (.istore 6, 2) := by decide +kernel
theorem dL_law_896 : decode cL_law 896 = .ok (.aload_n 2, 1) := by decide +kernel
theorem dL_law_897 : decode cL_law 897 = .ok (.invokevirtual 156, 3) := by decide +kernel
theorem dL_law_900 : decode cL_law 900 = .ok (.iload 5, 2) := by decide +kernel
theorem dL_law_902 : decode cL_law 902 = .ok (.if_icmp .eq 5, 3) := by decide +kernel
theorem dL_law_905 : decode cL_law 905 = .ok (.iconst 0, 1) := by decide +kernel
theorem dL_law_906 : decode cL_law 906 = .ok (.ireturn, 1) := by decide +kernel
theorem dL_law_907 : decode cL_law 907 = .ok (.iload 5, 2) := by decide +kernel
theorem dL_law_909 : decode cL_law 909 = .ok (.ifCond .ne 15, 3) := by decide +kernel
theorem dL_law_912 : decode cL_law 912 = .ok (.aload_n 3, 1) := by decide +kernel
theorem dL_law_913 : decode cL_law 913 = .ok (.iconst 0, 1) := by decide +kernel
theorem dL_law_914 : decode cL_law 914 = .ok (.laload, 1) := by decide +kernel
theorem dL_law_915 : decode cL_law 915 = .ok (.iload 6, 2) := by decide +kernel
theorem dL_law_917 : decode cL_law 917 = .ok (.i2l, 1) := by decide +kernel
theorem dL_law_918 : decode cL_law 918 = .ok (.lcmp, 1) := by decide +kernel
theorem dL_law_919 : decode cL_law 919 = .ok (.ifCond .eq 5, 3) := by decide +kernel
theorem dL_law_922 : decode cL_law 922 = .ok (.iconst 0, 1) := by decide +kernel
theorem dL_law_923 : decode cL_law 923 = .ok (.ireturn, 1) := by decide +kernel
theorem dL_law_924 : decode cL_law 924 = .ok (.goto 1575, 3) := by decide +kernel
theorem dL_law_927 : decode cL_law 927 = .ok (.aload_n 1, 1) := by decide +kernel
theorem dL_law_928 : decode cL_law 928 = .ok (.aload_n 0, 1) := by decide +kernel
theorem dL_law_929 : decode cL_law 929 = .ok (.iload 4, 2) := by decide +kernel
theorem dL_law_931 : decode cL_law 931 = .ok (.iconst 1, 1) := by decide +kernel
theorem dL_law_932 : decode cL_law 932 = .ok (.iadd, 1) := by decide +kernel
theorem dL_law_933 : decode cL_law 933 = .ok (.iaload, 1) := by decide +kernel
theorem dL_law_934 : decode cL_law 934 = .ok (.aload_n 0, 1) := by decide +kernel
theorem dL_law_935 : decode cL_law 935 = .ok (.iload 4, 2) := by decide +kernel
theorem dL_law_937 : decode cL_law 937 = .ok (.iconst 2, 1) := by decide +kernel
theorem dL_law_938 : decode cL_law 938 = .ok (.iadd, 1) := by decide +kernel
theorem dL_law_939 : decode cL_law 939 = .ok (.iaload, 1) := by decide +kernel
theorem dL_law_940 : decode cL_law 940 = .ok (.aload_n 3, 1) := by decide +kernel
theorem dL_law_941 : decode cL_law 941 = .ok (.invokestatic 194, 3) := by decide +kernel
theorem dL_law_944 : decode cL_law 944 = .ok (.istore 5, 2) := by decide +kernel
theorem dL_law_946 : decode cL_law 946 = .ok (.aload_n 2, 1) := by decide +kernel
theorem dL_law_947 : decode cL_law 947 = .ok (.aload_n 0, 1) := by decide +kernel
theorem dL_law_948 : decode cL_law 948 = .ok (.iload 4, 2) := by decide +kernel
theorem dL_law_950 : decode cL_law 950 = .ok (.iconst 1, 1) := by decide +kernel
theorem dL_law_951 : decode cL_law 951 = .ok (.iadd, 1) := by decide +kernel
theorem dL_law_952 : decode cL_law 952 = .ok (.iaload, 1) := by decide +kernel
theorem dL_law_953 : decode cL_law 953 = .ok (.aload_n 0, 1) := by decide +kernel
theorem dL_law_954 : decode cL_law 954 = .ok (.iload 4, 2) := by decide +kernel
theorem dL_law_956 : decode cL_law 956 = .ok (.iconst 2, 1) := by decide +kernel
theorem dL_law_957 : decode cL_law 957 = .ok (.iadd, 1) := by decide +kernel
theorem dL_law_958 : decode cL_law 958 = .ok (.iaload, 1) := by decide +kernel
theorem dL_law_959 : decode cL_law 959 = .ok (.invokevirtual 196, 3) := by decide +kernel
theorem dL_law_962 : decode cL_law 962 = .ok (.istore 6, 2) := by decide +kernel
theorem dL_law_964 : decode cL_law 964 = .ok (.aload_n 2, 1) := by decide +kernel
theorem dL_law_965 : decode cL_law 965 = .ok (.invokevirtual 156, 3) := by decide +kernel
theorem dL_law_968 : decode cL_law 968 = .ok (.iload 5, 2) := by decide +kernel
theorem dL_law_970 : decode cL_law 970 = .ok (.if_icmp .eq 5, 3) := by decide +kernel
theorem dL_law_973 : decode cL_law 973 = .ok (.iconst 0, 1) := by decide +kernel
theorem dL_law_974 : decode cL_law 974 = .ok (.ireturn, 1) := by decide +kernel
theorem dL_law_975 : decode cL_law 975 = .ok (.iload 5, 2) := by decide +kernel
theorem dL_law_977 : decode cL_law 977 = .ok (.ifCond .ne 15, 3) := by decide +kernel
theorem dL_law_980 : decode cL_law 980 = .ok (.aload_n 3, 1) := by decide +kernel
theorem dL_law_981 : decode cL_law 981 = .ok (.iconst 0, 1) := by decide +kernel
theorem dL_law_982 : decode cL_law 982 = .ok (.laload, 1) := by decide +kernel
theorem dL_law_983 : decode cL_law 983 = .ok (.iload 6, 2) := by decide +kernel
theorem dL_law_985 : decode cL_law 985 = .ok (.i2l, 1) := by decide +kernel
theorem dL_law_986 : decode cL_law 986 = .ok (.lcmp, 1) := by decide +kernel
theorem dL_law_987 : decode cL_law 987 = .ok (.ifCond .eq 5, 3) := by decide +kernel
theorem dL_law_990 : decode cL_law 990 = .ok (.iconst 0, 1) := by decide +kernel
theorem dL_law_991 : decode cL_law 991 = .ok (.ireturn, 1) := by decide +kernel
theorem dL_law_992 : decode cL_law 992 = .ok (.goto 1507, 3) := by decide +kernel
theorem dL_law_995 : decode cL_law 995 = .ok (.aload_n 1, 1) := by decide +kernel
theorem dL_law_996 : decode cL_law 996 = .ok (.aload_n 0, 1) := by decide +kernel
theorem dL_law_997 : decode cL_law 997 = .ok (.iload 4, 2) := by decide +kernel
theorem dL_law_999 : decode cL_law 999 = .ok (.iconst 1, 1) := by decide +kernel
theorem dL_law_1000 : decode cL_law 1000 = .ok (.iadd, 1) := by decide +kernel
theorem dL_law_1001 : decode cL_law 1001 = .ok (.iaload, 1) := by decide +kernel
theorem dL_law_1002 : decode cL_law 1002 = .ok (.aload_n 0, 1) := by decide +kernel
theorem dL_law_1003 : decode cL_law 1003 = .ok (.iload 4, 2) := by decide +kernel
theorem dL_law_1005 : decode cL_law 1005 = .ok (.iconst 2, 1) := by decide +kernel
theorem dL_law_1006 : decode cL_law 1006 = .ok (.iadd, 1) := by decide +kernel
theorem dL_law_1007 : decode cL_law 1007 = .ok (.iaload, 1) := by decide +kernel
theorem dL_law_1008 : decode cL_law 1008 = .ok (.aload_n 0, 1) := by decide +kernel
theorem dL_law_1009 : decode cL_law 1009 = .ok (.iload 4, 2) := by decide +kernel
theorem dL_law_1011 : decode cL_law 1011 = .ok (.iconst 3, 1) := by decide +kernel
theorem dL_law_1012 : decode cL_law 1012 = .ok (.iadd, 1) := by decide +kernel
theorem dL_law_1013 : decode cL_law 1013 = .ok (.iaload, 1) := by decide +kernel
theorem dL_law_1014 : decode cL_law 1014 = .ok (.aload_n 3, 1) := by decide +kernel
theorem dL_law_1015 : decode cL_law 1015 = .ok (.invokestatic 197, 3) := by decide +kernel
theorem dL_law_1018 : decode cL_law 1018 = .ok (.istore 5, 2) := by decide +kernel
theorem dL_law_1020 : decode cL_law 1020 = .ok (.aload_n 2, 1) := by decide +kernel
theorem dL_law_1021 : decode cL_law 1021 = .ok (.aload_n 0, 1) := by decide +kernel
theorem dL_law_1022 : decode cL_law 1022 = .ok (.iload 4, 2) := by decide +kernel
theorem dL_law_1024 : decode cL_law 1024 = .ok (.iconst 1, 1) := by decide +kernel
theorem dL_law_1025 : decode cL_law 1025 = .ok (.iadd, 1) := by decide +kernel
theorem dL_law_1026 : decode cL_law 1026 = .ok (.iaload, 1) := by decide +kernel
theorem dL_law_1027 : decode cL_law 1027 = .ok (.aload_n 0, 1) := by decide +kernel
theorem dL_law_1028 : decode cL_law 1028 = .ok (.iload 4, 2) := by decide +kernel
theorem dL_law_1030 : decode cL_law 1030 = .ok (.iconst 2, 1) := by decide +kernel
theorem dL_law_1031 : decode cL_law 1031 = .ok (.iadd, 1) := by decide +kernel
theorem dL_law_1032 : decode cL_law 1032 = .ok (.iaload, 1) := by decide +kernel
theorem dL_law_1033 : decode cL_law 1033 = .ok (.aload_n 0, 1) := by decide +kernel
theorem dL_law_1034 : decode cL_law 1034 = .ok (.iload 4, 2) := by decide +kernel
theorem dL_law_1036 : decode cL_law 1036 = .ok (.iconst 3, 1) := by decide +kernel
theorem dL_law_1037 : decode cL_law 1037 = .ok (.iadd, 1) := by decide +kernel
theorem dL_law_1038 : decode cL_law 1038 = .ok (.iaload, 1) := by decide +kernel
theorem dL_law_1039 : decode cL_law 1039 = .ok (.invokevirtual 200, 3) := by decide +kernel
theorem dL_law_1042 : decode cL_law 1042 = .ok (.istore 6, 2) := by decide +kernel
theorem dL_law_1044 : decode cL_law 1044 = .ok (.aload_n 2, 1) := by decide +kernel
theorem dL_law_1045 : decode cL_law 1045 = .ok (.invokevirtual 156, 3) := by decide +kernel
theorem dL_law_1048 : decode cL_law 1048 = .ok (.iload 5, 2) := by decide +kernel
theorem dL_law_1050 : decode cL_law 1050 = .ok (.if_icmp .eq 5, 3) := by decide +kernel
theorem dL_law_1053 : decode cL_law 1053 = .ok (.iconst 0, 1) := by decide +kernel
theorem dL_law_1054 : decode cL_law 1054 = .ok (.ireturn, 1) := by decide +kernel
theorem dL_law_1055 : decode cL_law 1055 = .ok (.iload 5, 2) := by decide +kernel
theorem dL_law_1057 : decode cL_law 1057 = .ok (.ifCond .ne 15, 3) := by decide +kernel
theorem dL_law_1060 : decode cL_law 1060 = .ok (.aload_n 3, 1) := by decide +kernel
theorem dL_law_1061 : decode cL_law 1061 = .ok (.iconst 0, 1) := by decide +kernel
theorem dL_law_1062 : decode cL_law 1062 = .ok (.laload, 1) := by decide +kernel
theorem dL_law_1063 : decode cL_law 1063 = .ok (.iload 6, 2) := by decide +kernel
theorem dL_law_1065 : decode cL_law 1065 = .ok (.i2l, 1) := by decide +kernel
theorem dL_law_1066 : decode cL_law 1066 = .ok (.lcmp, 1) := by decide +kernel
theorem dL_law_1067 : decode cL_law 1067 = .ok (.ifCond .eq 5, 3) := by decide +kernel
theorem dL_law_1070 : decode cL_law 1070 = .ok (.iconst 0, 1) := by decide +kernel
theorem dL_law_1071 : decode cL_law 1071 = .ok (.ireturn, 1) := by decide +kernel
theorem dL_law_1072 : decode cL_law 1072 = .ok (.goto 1427, 3) := by decide +kernel
theorem dL_law_1075 : decode cL_law 1075 = .ok (.aload_n 1, 1) := by decide +kernel
theorem dL_law_1076 : decode cL_law 1076 = .ok (.aload_n 0, 1) := by decide +kernel
theorem dL_law_1077 : decode cL_law 1077 = .ok (.iload 4, 2) := by decide +kernel
theorem dL_law_1079 : decode cL_law 1079 = .ok (.iconst 1, 1) := by decide +kernel
theorem dL_law_1080 : decode cL_law 1080 = .ok (.iadd, 1) := by decide +kernel
theorem dL_law_1081 : decode cL_law 1081 = .ok (.iaload, 1) := by decide +kernel
theorem dL_law_1082 : decode cL_law 1082 = .ok (.aload_n 0, 1) := by decide +kernel
theorem dL_law_1083 : decode cL_law 1083 = .ok (.iload 4, 2) := by decide +kernel
theorem dL_law_1085 : decode cL_law 1085 = .ok (.iconst 2, 1) := by decide +kernel
theorem dL_law_1086 : decode cL_law 1086 = .ok (.iadd, 1) := by decide +kernel
theorem dL_law_1087 : decode cL_law 1087 = .ok (.iaload, 1) := by decide +kernel
theorem dL_law_1088 : decode cL_law 1088 = .ok (.aload_n 0, 1) := by decide +kernel
theorem dL_law_1089 : decode cL_law 1089 = .ok (.iload 4, 2) := by decide +kernel
theorem dL_law_1091 : decode cL_law 1091 = .ok (.iconst 3, 1) := by decide +kernel
theorem dL_law_1092 : decode cL_law 1092 = .ok (.iadd, 1) := by decide +kernel
theorem dL_law_1093 : decode cL_law 1093 = .ok (.iaload, 1) := by decide +kernel
theorem dL_law_1094 : decode cL_law 1094 = .ok (.aload_n 0, 1) := by decide +kernel
theorem dL_law_1095 : decode cL_law 1095 = .ok (.iload 4, 2) := by decide +kernel
theorem dL_law_1097 : decode cL_law 1097 = .ok (.iconst 4, 1) := by decide +kernel
theorem dL_law_1098 : decode cL_law 1098 = .ok (.iadd, 1) := by decide +kernel
theorem dL_law_1099 : decode cL_law 1099 = .ok (.iaload, 1) := by decide +kernel
theorem dL_law_1100 : decode cL_law 1100 = .ok (.aload_n 3, 1) := by decide +kernel
theorem dL_law_1101 : decode cL_law 1101 = .ok (.invokestatic 201, 3) := by decide +kernel
theorem dL_law_1104 : decode cL_law 1104 = .ok (.istore 5, 2) := by decide +kernel
theorem dL_law_1106 : decode cL_law 1106 = .ok (.aload_n 2, 1) := by decide +kernel
theorem dL_law_1107 : decode cL_law 1107 = .ok (.aload_n 0, 1) := by decide +kernel
theorem dL_law_1108 : decode cL_law 1108 = .ok (.iload 4, 2) := by decide +kernel
theorem dL_law_1110 : decode cL_law 1110 = .ok (.iconst 1, 1) := by decide +kernel
theorem dL_law_1111 : decode cL_law 1111 = .ok (.iadd, 1) := by decide +kernel
theorem dL_law_1112 : decode cL_law 1112 = .ok (.iaload, 1) := by decide +kernel
theorem dL_law_1113 : decode cL_law 1113 = .ok (.aload_n 0, 1) := by decide +kernel
theorem dL_law_1114 : decode cL_law 1114 = .ok (.iload 4, 2) := by decide +kernel
theorem dL_law_1116 : decode cL_law 1116 = .ok (.iconst 2, 1) := by decide +kernel
theorem dL_law_1117 : decode cL_law 1117 = .ok (.iadd, 1) := by decide +kernel
theorem dL_law_1118 : decode cL_law 1118 = .ok (.iaload, 1) := by decide +kernel
theorem dL_law_1119 : decode cL_law 1119 = .ok (.aload_n 0, 1) := by decide +kernel
theorem dL_law_1120 : decode cL_law 1120 = .ok (.iload 4, 2) := by decide +kernel
theorem dL_law_1122 : decode cL_law 1122 = .ok (.iconst 3, 1) := by decide +kernel
theorem dL_law_1123 : decode cL_law 1123 = .ok (.iadd, 1) := by decide +kernel
theorem dL_law_1124 : decode cL_law 1124 = .ok (.iaload, 1) := by decide +kernel
theorem dL_law_1125 : decode cL_law 1125 = .ok (.aload_n 0, 1) := by decide +kernel
theorem dL_law_1126 : decode cL_law 1126 = .ok (.iload 4, 2) := by decide +kernel
theorem dL_law_1128 : decode cL_law 1128 = .ok (.iconst 4, 1) := by decide +kernel
theorem dL_law_1129 : decode cL_law 1129 = .ok (.iadd, 1) := by decide +kernel
theorem dL_law_1130 : decode cL_law 1130 = .ok (.iaload, 1) := by decide +kernel
theorem dL_law_1131 : decode cL_law 1131 = .ok (.invokevirtual 204, 3) := by decide +kernel
theorem dL_law_1134 : decode cL_law 1134 = .ok (.istore 6, 2) := by decide +kernel
theorem dL_law_1136 : decode cL_law 1136 = .ok (.aload_n 2, 1) := by decide +kernel
theorem dL_law_1137 : decode cL_law 1137 = .ok (.invokevirtual 156, 3) := by decide +kernel
theorem dL_law_1140 : decode cL_law 1140 = .ok (.iload 5, 2) := by decide +kernel
theorem dL_law_1142 : decode cL_law 1142 = .ok (.if_icmp .eq 5, 3) := by decide +kernel
theorem dL_law_1145 : decode cL_law 1145 = .ok (.iconst 0, 1) := by decide +kernel
theorem dL_law_1146 : decode cL_law 1146 = .ok (.ireturn, 1) := by decide +kernel
theorem dL_law_1147 : decode cL_law 1147 = .ok (.iload 5, 2) := by decide +kernel
theorem dL_law_1149 : decode cL_law 1149 = .ok (.ifCond .ne 15, 3) := by decide +kernel
theorem dL_law_1152 : decode cL_law 1152 = .ok (.aload_n 3, 1) := by decide +kernel
theorem dL_law_1153 : decode cL_law 1153 = .ok (.iconst 0, 1) := by decide +kernel
theorem dL_law_1154 : decode cL_law 1154 = .ok (.laload, 1) := by decide +kernel
theorem dL_law_1155 : decode cL_law 1155 = .ok (.iload 6, 2) := by decide +kernel
theorem dL_law_1157 : decode cL_law 1157 = .ok (.i2l, 1) := by decide +kernel
theorem dL_law_1158 : decode cL_law 1158 = .ok (.lcmp, 1) := by decide +kernel
theorem dL_law_1159 : decode cL_law 1159 = .ok (.ifCond .eq 5, 3) := by decide +kernel
theorem dL_law_1162 : decode cL_law 1162 = .ok (.iconst 0, 1) := by decide +kernel
theorem dL_law_1163 : decode cL_law 1163 = .ok (.ireturn, 1) := by decide +kernel
theorem dL_law_1164 : decode cL_law 1164 = .ok (.goto 1335, 3) := by decide +kernel
theorem dL_law_1167 : decode cL_law 1167 = .ok (.aload_n 1, 1) := by decide +kernel
theorem dL_law_1168 : decode cL_law 1168 = .ok (.aload_n 0, 1) := by decide +kernel
theorem dL_law_1169 : decode cL_law 1169 = .ok (.iload 4, 2) := by decide +kernel
theorem dL_law_1171 : decode cL_law 1171 = .ok (.iconst 1, 1) := by decide +kernel
theorem dL_law_1172 : decode cL_law 1172 = .ok (.iadd, 1) := by decide +kernel
theorem dL_law_1173 : decode cL_law 1173 = .ok (.iaload, 1) := by decide +kernel
theorem dL_law_1174 : decode cL_law 1174 = .ok (.aload_n 0, 1) := by decide +kernel
theorem dL_law_1175 : decode cL_law 1175 = .ok (.iload 4, 2) := by decide +kernel
theorem dL_law_1177 : decode cL_law 1177 = .ok (.iconst 2, 1) := by decide +kernel
theorem dL_law_1178 : decode cL_law 1178 = .ok (.iadd, 1) := by decide +kernel
theorem dL_law_1179 : decode cL_law 1179 = .ok (.iaload, 1) := by decide +kernel
theorem dL_law_1180 : decode cL_law 1180 = .ok (.aload_n 3, 1) := by decide +kernel
theorem dL_law_1181 : decode cL_law 1181 = .ok (.invokestatic 205, 3) := by decide +kernel
theorem dL_law_1184 : decode cL_law 1184 = .ok (.istore 5, 2) := by decide +kernel
theorem dL_law_1186 : decode cL_law 1186 = .ok (.aload_n 2, 1) := by decide +kernel
theorem dL_law_1187 : decode cL_law 1187 = .ok (.aload_n 0, 1) := by decide +kernel
theorem dL_law_1188 : decode cL_law 1188 = .ok (.iload 4, 2) := by decide +kernel
theorem dL_law_1190 : decode cL_law 1190 = .ok (.iconst 1, 1) := by decide +kernel
theorem dL_law_1191 : decode cL_law 1191 = .ok (.iadd, 1) := by decide +kernel
theorem dL_law_1192 : decode cL_law 1192 = .ok (.iaload, 1) := by decide +kernel
theorem dL_law_1193 : decode cL_law 1193 = .ok (.aload_n 0, 1) := by decide +kernel
theorem dL_law_1194 : decode cL_law 1194 = .ok (.iload 4, 2) := by decide +kernel
theorem dL_law_1196 : decode cL_law 1196 = .ok (.iconst 2, 1) := by decide +kernel
theorem dL_law_1197 : decode cL_law 1197 = .ok (.iadd, 1) := by decide +kernel
theorem dL_law_1198 : decode cL_law 1198 = .ok (.iaload, 1) := by decide +kernel
theorem dL_law_1199 : decode cL_law 1199 = .ok (.invokevirtual 207, 3) := by decide +kernel
theorem dL_law_1202 : decode cL_law 1202 = .ok (.istore 6, 2) := by decide +kernel
theorem dL_law_1204 : decode cL_law 1204 = .ok (.aload_n 2, 1) := by decide +kernel
theorem dL_law_1205 : decode cL_law 1205 = .ok (.invokevirtual 156, 3) := by decide +kernel
theorem dL_law_1208 : decode cL_law 1208 = .ok (.iload 5, 2) := by decide +kernel
theorem dL_law_1210 : decode cL_law 1210 = .ok (.if_icmp .eq 5, 3) := by decide +kernel
theorem dL_law_1213 : decode cL_law 1213 = .ok (.iconst 0, 1) := by decide +kernel
theorem dL_law_1214 : decode cL_law 1214 = .ok (.ireturn, 1) := by decide +kernel
theorem dL_law_1215 : decode cL_law 1215 = .ok (.iload 5, 2) := by decide +kernel
theorem dL_law_1217 : decode cL_law 1217 = .ok (.ifCond .ne 15, 3) := by decide +kernel
theorem dL_law_1220 : decode cL_law 1220 = .ok (.aload_n 3, 1) := by decide +kernel
theorem dL_law_1221 : decode cL_law 1221 = .ok (.iconst 0, 1) := by decide +kernel
theorem dL_law_1222 : decode cL_law 1222 = .ok (.laload, 1) := by decide +kernel
theorem dL_law_1223 : decode cL_law 1223 = .ok (.iload 6, 2) := by decide +kernel
theorem dL_law_1225 : decode cL_law 1225 = .ok (.i2l, 1) := by decide +kernel
theorem dL_law_1226 : decode cL_law 1226 = .ok (.lcmp, 1) := by decide +kernel
theorem dL_law_1227 : decode cL_law 1227 = .ok (.ifCond .eq 5, 3) := by decide +kernel
theorem dL_law_1230 : decode cL_law 1230 = .ok (.iconst 0, 1) := by decide +kernel
theorem dL_law_1231 : decode cL_law 1231 = .ok (.ireturn, 1) := by decide +kernel
theorem dL_law_1232 : decode cL_law 1232 = .ok (.goto 1267, 3) := by decide +kernel
theorem dL_law_1235 : decode cL_law 1235 = .ok (.aload_n 1, 1) := by decide +kernel
theorem dL_law_1236 : decode cL_law 1236 = .ok (.aload_n 0, 1) := by decide +kernel
theorem dL_law_1237 : decode cL_law 1237 = .ok (.iload 4, 2) := by decide +kernel
theorem dL_law_1239 : decode cL_law 1239 = .ok (.iconst 1, 1) := by decide +kernel
theorem dL_law_1240 : decode cL_law 1240 = .ok (.iadd, 1) := by decide +kernel
theorem dL_law_1241 : decode cL_law 1241 = .ok (.iaload, 1) := by decide +kernel
theorem dL_law_1242 : decode cL_law 1242 = .ok (.aload_n 3, 1) := by decide +kernel
theorem dL_law_1243 : decode cL_law 1243 = .ok (.invokestatic 208, 3) := by decide +kernel
theorem dL_law_1246 : decode cL_law 1246 = .ok (.istore 5, 2) := by decide +kernel
theorem dL_law_1248 : decode cL_law 1248 = .ok (.aload_n 2, 1) := by decide +kernel
theorem dL_law_1249 : decode cL_law 1249 = .ok (.aload_n 0, 1) := by decide +kernel
theorem dL_law_1250 : decode cL_law 1250 = .ok (.iload 4, 2) := by decide +kernel
theorem dL_law_1252 : decode cL_law 1252 = .ok (.iconst 1, 1) := by decide +kernel
theorem dL_law_1253 : decode cL_law 1253 = .ok (.iadd, 1) := by decide +kernel
theorem dL_law_1254 : decode cL_law 1254 = .ok (.iaload, 1) := by decide +kernel
theorem dL_law_1255 : decode cL_law 1255 = .ok (.invokevirtual 210, 3) := by decide +kernel
theorem dL_law_1258 : decode cL_law 1258 = .ok (.istore 6, 2) := by decide +kernel
theorem dL_law_1260 : decode cL_law 1260 = .ok (.aload_n 2, 1) := by decide +kernel
theorem dL_law_1261 : decode cL_law 1261 = .ok (.invokevirtual 156, 3) := by decide +kernel
theorem dL_law_1264 : decode cL_law 1264 = .ok (.iload 5, 2) := by decide +kernel
theorem dL_law_1266 : decode cL_law 1266 = .ok (.if_icmp .eq 5, 3) := by decide +kernel
theorem dL_law_1269 : decode cL_law 1269 = .ok (.iconst 0, 1) := by decide +kernel
theorem dL_law_1270 : decode cL_law 1270 = .ok (.ireturn, 1) := by decide +kernel
theorem dL_law_1271 : decode cL_law 1271 = .ok (.iload 5, 2) := by decide +kernel
theorem dL_law_1273 : decode cL_law 1273 = .ok (.ifCond .ne 15, 3) := by decide +kernel
theorem dL_law_1276 : decode cL_law 1276 = .ok (.aload_n 3, 1) := by decide +kernel
theorem dL_law_1277 : decode cL_law 1277 = .ok (.iconst 0, 1) := by decide +kernel
theorem dL_law_1278 : decode cL_law 1278 = .ok (.laload, 1) := by decide +kernel
theorem dL_law_1279 : decode cL_law 1279 = .ok (.iload 6, 2) := by decide +kernel
theorem dL_law_1281 : decode cL_law 1281 = .ok (.i2l, 1) := by decide +kernel
theorem dL_law_1282 : decode cL_law 1282 = .ok (.lcmp, 1) := by decide +kernel
theorem dL_law_1283 : decode cL_law 1283 = .ok (.ifCond .eq 5, 3) := by decide +kernel
theorem dL_law_1286 : decode cL_law 1286 = .ok (.iconst 0, 1) := by decide +kernel
theorem dL_law_1287 : decode cL_law 1287 = .ok (.ireturn, 1) := by decide +kernel
theorem dL_law_1288 : decode cL_law 1288 = .ok (.goto 1211, 3) := by decide +kernel
theorem dL_law_1291 : decode cL_law 1291 = .ok (.aload_n 1, 1) := by decide +kernel
theorem dL_law_1292 : decode cL_law 1292 = .ok (.aload_n 0, 1) := by decide +kernel
theorem dL_law_1293 : decode cL_law 1293 = .ok (.iload 4, 2) := by decide +kernel
theorem dL_law_1295 : decode cL_law 1295 = .ok (.iconst 1, 1) := by decide +kernel
theorem dL_law_1296 : decode cL_law 1296 = .ok (.iadd, 1) := by decide +kernel
theorem dL_law_1297 : decode cL_law 1297 = .ok (.iaload, 1) := by decide +kernel
theorem dL_law_1298 : decode cL_law 1298 = .ok (.aload_n 3, 1) := by decide +kernel
theorem dL_law_1299 : decode cL_law 1299 = .ok (.invokestatic 211, 3) := by decide +kernel
theorem dL_law_1302 : decode cL_law 1302 = .ok (.istore 5, 2) := by decide +kernel
theorem dL_law_1304 : decode cL_law 1304 = .ok (.aload_n 2, 1) := by decide +kernel
theorem dL_law_1305 : decode cL_law 1305 = .ok (.aload_n 0, 1) := by decide +kernel
theorem dL_law_1306 : decode cL_law 1306 = .ok (.iload 4, 2) := by decide +kernel
theorem dL_law_1308 : decode cL_law 1308 = .ok (.iconst 1, 1) := by decide +kernel
theorem dL_law_1309 : decode cL_law 1309 = .ok (.iadd, 1) := by decide +kernel
theorem dL_law_1310 : decode cL_law 1310 = .ok (.iaload, 1) := by decide +kernel
theorem dL_law_1311 : decode cL_law 1311 = .ok (.invokevirtual 213, 3) := by decide +kernel
theorem dL_law_1314 : decode cL_law 1314 = .ok (.istore 6, 2) := by decide +kernel
theorem dL_law_1316 : decode cL_law 1316 = .ok (.aload_n 2, 1) := by decide +kernel
theorem dL_law_1317 : decode cL_law 1317 = .ok (.invokevirtual 156, 3) := by decide +kernel
theorem dL_law_1320 : decode cL_law 1320 = .ok (.iload 5, 2) := by decide +kernel
theorem dL_law_1322 : decode cL_law 1322 = .ok (.if_icmp .eq 5, 3) := by decide +kernel
theorem dL_law_1325 : decode cL_law 1325 = .ok (.iconst 0, 1) := by decide +kernel
theorem dL_law_1326 : decode cL_law 1326 = .ok (.ireturn, 1) := by decide +kernel
theorem dL_law_1327 : decode cL_law 1327 = .ok (.iload 5, 2) := by decide +kernel
theorem dL_law_1329 : decode cL_law 1329 = .ok (.ifCond .ne 15, 3) := by decide +kernel
theorem dL_law_1332 : decode cL_law 1332 = .ok (.aload_n 3, 1) := by decide +kernel
theorem dL_law_1333 : decode cL_law 1333 = .ok (.iconst 0, 1) := by decide +kernel
theorem dL_law_1334 : decode cL_law 1334 = .ok (.laload, 1) := by decide +kernel
theorem dL_law_1335 : decode cL_law 1335 = .ok (.iload 6, 2) := by decide +kernel
theorem dL_law_1337 : decode cL_law 1337 = .ok (.i2l, 1) := by decide +kernel
theorem dL_law_1338 : decode cL_law 1338 = .ok (.lcmp, 1) := by decide +kernel
theorem dL_law_1339 : decode cL_law 1339 = .ok (.ifCond .eq 5, 3) := by decide +kernel
theorem dL_law_1342 : decode cL_law 1342 = .ok (.iconst 0, 1) := by decide +kernel
theorem dL_law_1343 : decode cL_law 1343 = .ok (.ireturn, 1) := by decide +kernel
theorem dL_law_1344 : decode cL_law 1344 = .ok (.goto 1155, 3) := by decide +kernel
theorem dL_law_1347 : decode cL_law 1347 = .ok (.aload_n 1, 1) := by decide +kernel
theorem dL_law_1348 : decode cL_law 1348 = .ok (.aload_n 0, 1) := by decide +kernel
theorem dL_law_1349 : decode cL_law 1349 = .ok (.iload 4, 2) := by decide +kernel
theorem dL_law_1351 : decode cL_law 1351 = .ok (.iconst 1, 1) := by decide +kernel
theorem dL_law_1352 : decode cL_law 1352 = .ok (.iadd, 1) := by decide +kernel
theorem dL_law_1353 : decode cL_law 1353 = .ok (.iaload, 1) := by decide +kernel
theorem dL_law_1354 : decode cL_law 1354 = .ok (.aload_n 3, 1) := by decide +kernel
theorem dL_law_1355 : decode cL_law 1355 = .ok (.invokestatic 214, 3) := by decide +kernel
theorem dL_law_1358 : decode cL_law 1358 = .ok (.istore 5, 2) := by decide +kernel
theorem dL_law_1360 : decode cL_law 1360 = .ok (.aload_n 2, 1) := by decide +kernel
theorem dL_law_1361 : decode cL_law 1361 = .ok (.aload_n 0, 1) := by decide +kernel
theorem dL_law_1362 : decode cL_law 1362 = .ok (.iload 4, 2) := by decide +kernel
theorem dL_law_1364 : decode cL_law 1364 = .ok (.iconst 1, 1) := by decide +kernel
theorem dL_law_1365 : decode cL_law 1365 = .ok (.iadd, 1) := by decide +kernel
theorem dL_law_1366 : decode cL_law 1366 = .ok (.iaload, 1) := by decide +kernel
theorem dL_law_1367 : decode cL_law 1367 = .ok (.invokevirtual 216, 3) := by decide +kernel
theorem dL_law_1370 : decode cL_law 1370 = .ok (.istore 6, 2) := by decide +kernel
theorem dL_law_1372 : decode cL_law 1372 = .ok (.aload_n 2, 1) := by decide +kernel
theorem dL_law_1373 : decode cL_law 1373 = .ok (.invokevirtual 156, 3) := by decide +kernel
theorem dL_law_1376 : decode cL_law 1376 = .ok (.iload 5, 2) := by decide +kernel
theorem dL_law_1378 : decode cL_law 1378 = .ok (.if_icmp .eq 5, 3) := by decide +kernel
theorem dL_law_1381 : decode cL_law 1381 = .ok (.iconst 0, 1) := by decide +kernel
theorem dL_law_1382 : decode cL_law 1382 = .ok (.ireturn, 1) := by decide +kernel
theorem dL_law_1383 : decode cL_law 1383 = .ok (.iload 5, 2) := by decide +kernel
theorem dL_law_1385 : decode cL_law 1385 = .ok (.ifCond .ne 15, 3) := by decide +kernel
theorem dL_law_1388 : decode cL_law 1388 = .ok (.aload_n 3, 1) := by decide +kernel
theorem dL_law_1389 : decode cL_law 1389 = .ok (.iconst 0, 1) := by decide +kernel
theorem dL_law_1390 : decode cL_law 1390 = .ok (.laload, 1) := by decide +kernel
theorem dL_law_1391 : decode cL_law 1391 = .ok (.iload 6, 2) := by decide +kernel
theorem dL_law_1393 : decode cL_law 1393 = .ok (.i2l, 1) := by decide +kernel
theorem dL_law_1394 : decode cL_law 1394 = .ok (.lcmp, 1) := by decide +kernel
theorem dL_law_1395 : decode cL_law 1395 = .ok (.ifCond .eq 5, 3) := by decide +kernel
theorem dL_law_1398 : decode cL_law 1398 = .ok (.iconst 0, 1) := by decide +kernel
theorem dL_law_1399 : decode cL_law 1399 = .ok (.ireturn, 1) := by decide +kernel
theorem dL_law_1400 : decode cL_law 1400 = .ok (.goto 1099, 3) := by decide +kernel
theorem dL_law_1403 : decode cL_law 1403 = .ok (.aload_n 1, 1) := by decide +kernel
theorem dL_law_1404 : decode cL_law 1404 = .ok (.aload_n 0, 1) := by decide +kernel
theorem dL_law_1405 : decode cL_law 1405 = .ok (.iload 4, 2) := by decide +kernel
theorem dL_law_1407 : decode cL_law 1407 = .ok (.iconst 1, 1) := by decide +kernel
theorem dL_law_1408 : decode cL_law 1408 = .ok (.iadd, 1) := by decide +kernel
theorem dL_law_1409 : decode cL_law 1409 = .ok (.iaload, 1) := by decide +kernel
theorem dL_law_1410 : decode cL_law 1410 = .ok (.aload_n 3, 1) := by decide +kernel
theorem dL_law_1411 : decode cL_law 1411 = .ok (.invokestatic 217, 3) := by decide +kernel
theorem dL_law_1414 : decode cL_law 1414 = .ok (.istore 5, 2) := by decide +kernel
theorem dL_law_1416 : decode cL_law 1416 = .ok (.aload_n 2, 1) := by decide +kernel
theorem dL_law_1417 : decode cL_law 1417 = .ok (.aload_n 0, 1) := by decide +kernel
theorem dL_law_1418 : decode cL_law 1418 = .ok (.iload 4, 2) := by decide +kernel
theorem dL_law_1420 : decode cL_law 1420 = .ok (.iconst 1, 1) := by decide +kernel
theorem dL_law_1421 : decode cL_law 1421 = .ok (.iadd, 1) := by decide +kernel
theorem dL_law_1422 : decode cL_law 1422 = .ok (.iaload, 1) := by decide +kernel
theorem dL_law_1423 : decode cL_law 1423 = .ok (.invokevirtual 219, 3) := by decide +kernel
theorem dL_law_1426 : decode cL_law 1426 = .ok (.istore 6, 2) := by decide +kernel
theorem dL_law_1428 : decode cL_law 1428 = .ok (.aload_n 2, 1) := by decide +kernel
theorem dL_law_1429 : decode cL_law 1429 = .ok (.invokevirtual 156, 3) := by decide +kernel
theorem dL_law_1432 : decode cL_law 1432 = .ok (.iload 5, 2) := by decide +kernel
theorem dL_law_1434 : decode cL_law 1434 = .ok (.if_icmp .eq 5, 3) := by decide +kernel
theorem dL_law_1437 : decode cL_law 1437 = .ok (.iconst 0, 1) := by decide +kernel
theorem dL_law_1438 : decode cL_law 1438 = .ok (.ireturn, 1) := by decide +kernel
theorem dL_law_1439 : decode cL_law 1439 = .ok (.iload 5, 2) := by decide +kernel
theorem dL_law_1441 : decode cL_law 1441 = .ok (.ifCond .ne 15, 3) := by decide +kernel
theorem dL_law_1444 : decode cL_law 1444 = .ok (.aload_n 3, 1) := by decide +kernel
theorem dL_law_1445 : decode cL_law 1445 = .ok (.iconst 0, 1) := by decide +kernel
theorem dL_law_1446 : decode cL_law 1446 = .ok (.laload, 1) := by decide +kernel
theorem dL_law_1447 : decode cL_law 1447 = .ok (.iload 6, 2) := by decide +kernel
theorem dL_law_1449 : decode cL_law 1449 = .ok (.i2l, 1) := by decide +kernel
theorem dL_law_1450 : decode cL_law 1450 = .ok (.lcmp, 1) := by decide +kernel
theorem dL_law_1451 : decode cL_law 1451 = .ok (.ifCond .eq 5, 3) := by decide +kernel
theorem dL_law_1454 : decode cL_law 1454 = .ok (.iconst 0, 1) := by decide +kernel
theorem dL_law_1455 : decode cL_law 1455 = .ok (.ireturn, 1) := by decide +kernel
theorem dL_law_1456 : decode cL_law 1456 = .ok (.goto 1043, 3) := by decide +kernel
theorem dL_law_1459 : decode cL_law 1459 = .ok (.aload_n 1, 1) := by decide +kernel
theorem dL_law_1460 : decode cL_law 1460 = .ok (.aload_n 0, 1) := by decide +kernel
theorem dL_law_1461 : decode cL_law 1461 = .ok (.iload 4, 2) := by decide +kernel
theorem dL_law_1463 : decode cL_law 1463 = .ok (.iconst 1, 1) := by decide +kernel
theorem dL_law_1464 : decode cL_law 1464 = .ok (.iadd, 1) := by decide +kernel
theorem dL_law_1465 : decode cL_law 1465 = .ok (.iaload, 1) := by decide +kernel
theorem dL_law_1466 : decode cL_law 1466 = .ok (.aload_n 3, 1) := by decide +kernel
theorem dL_law_1467 : decode cL_law 1467 = .ok (.invokestatic 220, 3) := by decide +kernel
theorem dL_law_1470 : decode cL_law 1470 = .ok (.istore 5, 2) := by decide +kernel
theorem dL_law_1472 : decode cL_law 1472 = .ok (.aload_n 2, 1) := by decide +kernel
theorem dL_law_1473 : decode cL_law 1473 = .ok (.aload_n 0, 1) := by decide +kernel
theorem dL_law_1474 : decode cL_law 1474 = .ok (.iload 4, 2) := by decide +kernel
theorem dL_law_1476 : decode cL_law 1476 = .ok (.iconst 1, 1) := by decide +kernel
theorem dL_law_1477 : decode cL_law 1477 = .ok (.iadd, 1) := by decide +kernel
theorem dL_law_1478 : decode cL_law 1478 = .ok (.iaload, 1) := by decide +kernel
theorem dL_law_1479 : decode cL_law 1479 = .ok (.invokevirtual 222, 3) := by decide +kernel
theorem dL_law_1482 : decode cL_law 1482 = .ok (.istore 6, 2) := by decide +kernel
theorem dL_law_1484 : decode cL_law 1484 = .ok (.aload_n 2, 1) := by decide +kernel
theorem dL_law_1485 : decode cL_law 1485 = .ok (.invokevirtual 156, 3) := by decide +kernel
theorem dL_law_1488 : decode cL_law 1488 = .ok (.iload 5, 2) := by decide +kernel
theorem dL_law_1490 : decode cL_law 1490 = .ok (.if_icmp .eq 5, 3) := by decide +kernel
theorem dL_law_1493 : decode cL_law 1493 = .ok (.iconst 0, 1) := by decide +kernel
theorem dL_law_1494 : decode cL_law 1494 = .ok (.ireturn, 1) := by decide +kernel
theorem dL_law_1495 : decode cL_law 1495 = .ok (.iload 5, 2) := by decide +kernel
theorem dL_law_1497 : decode cL_law 1497 = .ok (.ifCond .ne 15, 3) := by decide +kernel
theorem dL_law_1500 : decode cL_law 1500 = .ok (.aload_n 3, 1) := by decide +kernel
theorem dL_law_1501 : decode cL_law 1501 = .ok (.iconst 0, 1) := by decide +kernel
theorem dL_law_1502 : decode cL_law 1502 = .ok (.laload, 1) := by decide +kernel
theorem dL_law_1503 : decode cL_law 1503 = .ok (.iload 6, 2) := by decide +kernel
theorem dL_law_1505 : decode cL_law 1505 = .ok (.i2l, 1) := by decide +kernel
theorem dL_law_1506 : decode cL_law 1506 = .ok (.lcmp, 1) := by decide +kernel
theorem dL_law_1507 : decode cL_law 1507 = .ok (.ifCond .eq 5, 3) := by decide +kernel
theorem dL_law_1510 : decode cL_law 1510 = .ok (.iconst 0, 1) := by decide +kernel
theorem dL_law_1511 : decode cL_law 1511 = .ok (.ireturn, 1) := by decide +kernel
theorem dL_law_1512 : decode cL_law 1512 = .ok (.goto 987, 3) := by decide +kernel
theorem dL_law_1515 : decode cL_law 1515 = .ok (.aload_n 1, 1) := by decide +kernel
theorem dL_law_1516 : decode cL_law 1516 = .ok (.aload_n 3, 1) := by decide +kernel
theorem dL_law_1517 : decode cL_law 1517 = .ok (.invokestatic 223, 3) := by decide +kernel
theorem dL_law_1520 : decode cL_law 1520 = .ok (.istore 5, 2) := by decide +kernel
theorem dL_law_1522 : decode cL_law 1522 = .ok (.aload_n 2, 1) := by decide +kernel
theorem dL_law_1523 : decode cL_law 1523 = .ok (.invokevirtual 226, 3) := by decide +kernel
theorem dL_law_1526 : decode cL_law 1526 = .ok (.istore 6, 2) := by decide +kernel
theorem dL_law_1528 : decode cL_law 1528 = .ok (.aload_n 2, 1) := by decide +kernel
theorem dL_law_1529 : decode cL_law 1529 = .ok (.invokevirtual 156, 3) := by decide +kernel
theorem dL_law_1532 : decode cL_law 1532 = .ok (.iload 5, 2) := by decide +kernel
theorem dL_law_1534 : decode cL_law 1534 = .ok (.if_icmp .eq 5, 3) := by decide +kernel
theorem dL_law_1537 : decode cL_law 1537 = .ok (.iconst 0, 1) := by decide +kernel
theorem dL_law_1538 : decode cL_law 1538 = .ok (.ireturn, 1) := by decide +kernel
theorem dL_law_1539 : decode cL_law 1539 = .ok (.iload 5, 2) := by decide +kernel
theorem dL_law_1541 : decode cL_law 1541 = .ok (.ifCond .ne 15, 3) := by decide +kernel
theorem dL_law_1544 : decode cL_law 1544 = .ok (.aload_n 3, 1) := by decide +kernel
theorem dL_law_1545 : decode cL_law 1545 = .ok (.iconst 0, 1) := by decide +kernel
theorem dL_law_1546 : decode cL_law 1546 = .ok (.laload, 1) := by decide +kernel
theorem dL_law_1547 : decode cL_law 1547 = .ok (.iload 6, 2) := by decide +kernel
theorem dL_law_1549 : decode cL_law 1549 = .ok (.i2l, 1) := by decide +kernel
theorem dL_law_1550 : decode cL_law 1550 = .ok (.lcmp, 1) := by decide +kernel
theorem dL_law_1551 : decode cL_law 1551 = .ok (.ifCond .eq 5, 3) := by decide +kernel
theorem dL_law_1554 : decode cL_law 1554 = .ok (.iconst 0, 1) := by decide +kernel
theorem dL_law_1555 : decode cL_law 1555 = .ok (.ireturn, 1) := by decide +kernel
theorem dL_law_1556 : decode cL_law 1556 = .ok (.goto 943, 3) := by decide +kernel
theorem dL_law_1559 : decode cL_law 1559 = .ok (.aload_n 1, 1) := by decide +kernel
theorem dL_law_1560 : decode cL_law 1560 = .ok (.aload_n 3, 1) := by decide +kernel
theorem dL_law_1561 : decode cL_law 1561 = .ok (.invokestatic 227, 3) := by decide +kernel
theorem dL_law_1564 : decode cL_law 1564 = .ok (.istore 5, 2) := by decide +kernel
theorem dL_law_1566 : decode cL_law 1566 = .ok (.aload_n 2, 1) := by decide +kernel
theorem dL_law_1567 : decode cL_law 1567 = .ok (.invokevirtual 229, 3) := by decide +kernel
theorem dL_law_1570 : decode cL_law 1570 = .ok (.istore 6, 2) := by decide +kernel
theorem dL_law_1572 : decode cL_law 1572 = .ok (.aload_n 2, 1) := by decide +kernel
theorem dL_law_1573 : decode cL_law 1573 = .ok (.invokevirtual 156, 3) := by decide +kernel
theorem dL_law_1576 : decode cL_law 1576 = .ok (.iload 5, 2) := by decide +kernel
theorem dL_law_1578 : decode cL_law 1578 = .ok (.if_icmp .eq 5, 3) := by decide +kernel
theorem dL_law_1581 : decode cL_law 1581 = .ok (.iconst 0, 1) := by decide +kernel
theorem dL_law_1582 : decode cL_law 1582 = .ok (.ireturn, 1) := by decide +kernel
theorem dL_law_1583 : decode cL_law 1583 = .ok (.iload 5, 2) := by decide +kernel
theorem dL_law_1585 : decode cL_law 1585 = .ok (.ifCond .ne 15, 3) := by decide +kernel
theorem dL_law_1588 : decode cL_law 1588 = .ok (.aload_n 3, 1) := by decide +kernel
theorem dL_law_1589 : decode cL_law 1589 = .ok (.iconst 0, 1) := by decide +kernel
theorem dL_law_1590 : decode cL_law 1590 = .ok (.laload, 1) := by decide +kernel
theorem dL_law_1591 : decode cL_law 1591 = .ok (.iload 6, 2) := by decide +kernel
theorem dL_law_1593 : decode cL_law 1593 = .ok (.i2l, 1) := by decide +kernel
theorem dL_law_1594 : decode cL_law 1594 = .ok (.lcmp, 1) := by decide +kernel
theorem dL_law_1595 : decode cL_law 1595 = .ok (.ifCond .eq 5, 3) := by decide +kernel
theorem dL_law_1598 : decode cL_law 1598 = .ok (.iconst 0, 1) := by decide +kernel
theorem dL_law_1599 : decode cL_law 1599 = .ok (.ireturn, 1) := by decide +kernel
theorem dL_law_1600 : decode cL_law 1600 = .ok (.goto 899, 3) := by decide +kernel
theorem dL_law_1603 : decode cL_law 1603 = .ok (.aload_n 1, 1) := by decide +kernel
theorem dL_law_1604 : decode cL_law 1604 = .ok (.aload_n 0, 1) := by decide +kernel
theorem dL_law_1605 : decode cL_law 1605 = .ok (.iload 4, 2) := by decide +kernel
theorem dL_law_1607 : decode cL_law 1607 = .ok (.iconst 1, 1) := by decide +kernel
theorem dL_law_1608 : decode cL_law 1608 = .ok (.iadd, 1) := by decide +kernel
theorem dL_law_1609 : decode cL_law 1609 = .ok (.iaload, 1) := by decide +kernel
theorem dL_law_1610 : decode cL_law 1610 = .ok (.aload_n 3, 1) := by decide +kernel
theorem dL_law_1611 : decode cL_law 1611 = .ok (.invokestatic 230, 3) := by decide +kernel
theorem dL_law_1614 : decode cL_law 1614 = .ok (.istore 5, 2) := by decide +kernel
theorem dL_law_1616 : decode cL_law 1616 = .ok (.aload_n 2, 1) := by decide +kernel
theorem dL_law_1617 : decode cL_law 1617 = .ok (.aload_n 0, 1) := by decide +kernel
theorem dL_law_1618 : decode cL_law 1618 = .ok (.iload 4, 2) := by decide +kernel
theorem dL_law_1620 : decode cL_law 1620 = .ok (.iconst 1, 1) := by decide +kernel
theorem dL_law_1621 : decode cL_law 1621 = .ok (.iadd, 1) := by decide +kernel
theorem dL_law_1622 : decode cL_law 1622 = .ok (.iaload, 1) := by decide +kernel
theorem dL_law_1623 : decode cL_law 1623 = .ok (.invokevirtual 232, 3) := by decide +kernel
theorem dL_law_1626 : decode cL_law 1626 = .ok (.istore 6, 2) := by decide +kernel
theorem dL_law_1628 : decode cL_law 1628 = .ok (.aload_n 2, 1) := by decide +kernel
theorem dL_law_1629 : decode cL_law 1629 = .ok (.invokevirtual 156, 3) := by decide +kernel
theorem dL_law_1632 : decode cL_law 1632 = .ok (.iload 5, 2) := by decide +kernel
theorem dL_law_1634 : decode cL_law 1634 = .ok (.if_icmp .eq 5, 3) := by decide +kernel
theorem dL_law_1637 : decode cL_law 1637 = .ok (.iconst 0, 1) := by decide +kernel
theorem dL_law_1638 : decode cL_law 1638 = .ok (.ireturn, 1) := by decide +kernel
theorem dL_law_1639 : decode cL_law 1639 = .ok (.iload 5, 2) := by decide +kernel
theorem dL_law_1641 : decode cL_law 1641 = .ok (.ifCond .ne 15, 3) := by decide +kernel
theorem dL_law_1644 : decode cL_law 1644 = .ok (.aload_n 3, 1) := by decide +kernel
theorem dL_law_1645 : decode cL_law 1645 = .ok (.iconst 0, 1) := by decide +kernel
theorem dL_law_1646 : decode cL_law 1646 = .ok (.laload, 1) := by decide +kernel
theorem dL_law_1647 : decode cL_law 1647 = .ok (.iload 6, 2) := by decide +kernel
theorem dL_law_1649 : decode cL_law 1649 = .ok (.i2l, 1) := by decide +kernel
theorem dL_law_1650 : decode cL_law 1650 = .ok (.lcmp, 1) := by decide +kernel
theorem dL_law_1651 : decode cL_law 1651 = .ok (.ifCond .eq 5, 3) := by decide +kernel
theorem dL_law_1654 : decode cL_law 1654 = .ok (.iconst 0, 1) := by decide +kernel
theorem dL_law_1655 : decode cL_law 1655 = .ok (.ireturn, 1) := by decide +kernel
theorem dL_law_1656 : decode cL_law 1656 = .ok (.goto 843, 3) := by decide +kernel
theorem dL_law_1659 : decode cL_law 1659 = .ok (.aload_n 1, 1) := by decide +kernel
theorem dL_law_1660 : decode cL_law 1660 = .ok (.aload_n 0, 1) := by decide +kernel
theorem dL_law_1661 : decode cL_law 1661 = .ok (.iload 4, 2) := by decide +kernel
theorem dL_law_1663 : decode cL_law 1663 = .ok (.iconst 1, 1) := by decide +kernel
theorem dL_law_1664 : decode cL_law 1664 = .ok (.iadd, 1) := by decide +kernel
theorem dL_law_1665 : decode cL_law 1665 = .ok (.iaload, 1) := by decide +kernel
theorem dL_law_1666 : decode cL_law 1666 = .ok (.aload_n 0, 1) := by decide +kernel
theorem dL_law_1667 : decode cL_law 1667 = .ok (.iload 4, 2) := by decide +kernel
theorem dL_law_1669 : decode cL_law 1669 = .ok (.iconst 2, 1) := by decide +kernel
theorem dL_law_1670 : decode cL_law 1670 = .ok (.iadd, 1) := by decide +kernel
theorem dL_law_1671 : decode cL_law 1671 = .ok (.iaload, 1) := by decide +kernel
theorem dL_law_1672 : decode cL_law 1672 = .ok (.aload_n 3, 1) := by decide +kernel
theorem dL_law_1673 : decode cL_law 1673 = .ok (.invokestatic 233, 3) := by decide +kernel
theorem dL_law_1676 : decode cL_law 1676 = .ok (.istore 5, 2) := by decide +kernel
theorem dL_law_1678 : decode cL_law 1678 = .ok (.aload_n 2, 1) := by decide +kernel
theorem dL_law_1679 : decode cL_law 1679 = .ok (.aload_n 0, 1) := by decide +kernel
theorem dL_law_1680 : decode cL_law 1680 = .ok (.iload 4, 2) := by decide +kernel
theorem dL_law_1682 : decode cL_law 1682 = .ok (.iconst 1, 1) := by decide +kernel
theorem dL_law_1683 : decode cL_law 1683 = .ok (.iadd, 1) := by decide +kernel
theorem dL_law_1684 : decode cL_law 1684 = .ok (.iaload, 1) := by decide +kernel
theorem dL_law_1685 : decode cL_law 1685 = .ok (.aload_n 0, 1) := by decide +kernel
theorem dL_law_1686 : decode cL_law 1686 = .ok (.iload 4, 2) := by decide +kernel
theorem dL_law_1688 : decode cL_law 1688 = .ok (.iconst 2, 1) := by decide +kernel
theorem dL_law_1689 : decode cL_law 1689 = .ok (.iadd, 1) := by decide +kernel
theorem dL_law_1690 : decode cL_law 1690 = .ok (.iaload, 1) := by decide +kernel
theorem dL_law_1691 : decode cL_law 1691 = .ok (.invokevirtual 235, 3) := by decide +kernel
theorem dL_law_1694 : decode cL_law 1694 = .ok (.istore 6, 2) := by decide +kernel
theorem dL_law_1696 : decode cL_law 1696 = .ok (.aload_n 2, 1) := by decide +kernel
theorem dL_law_1697 : decode cL_law 1697 = .ok (.invokevirtual 156, 3) := by decide +kernel
theorem dL_law_1700 : decode cL_law 1700 = .ok (.iload 5, 2) := by decide +kernel
theorem dL_law_1702 : decode cL_law 1702 = .ok (.if_icmp .eq 5, 3) := by decide +kernel
theorem dL_law_1705 : decode cL_law 1705 = .ok (.iconst 0, 1) := by decide +kernel
theorem dL_law_1706 : decode cL_law 1706 = .ok (.ireturn, 1) := by decide +kernel
theorem dL_law_1707 : decode cL_law 1707 = .ok (.iload 5, 2) := by decide +kernel
theorem dL_law_1709 : decode cL_law 1709 = .ok (.ifCond .ne 15, 3) := by decide +kernel
theorem dL_law_1712 : decode cL_law 1712 = .ok (.aload_n 3, 1) := by decide +kernel
theorem dL_law_1713 : decode cL_law 1713 = .ok (.iconst 0, 1) := by decide +kernel
theorem dL_law_1714 : decode cL_law 1714 = .ok (.laload, 1) := by decide +kernel
theorem dL_law_1715 : decode cL_law 1715 = .ok (.iload 6, 2) := by decide +kernel
theorem dL_law_1717 : decode cL_law 1717 = .ok (.i2l, 1) := by decide +kernel
theorem dL_law_1718 : decode cL_law 1718 = .ok (.lcmp, 1) := by decide +kernel
theorem dL_law_1719 : decode cL_law 1719 = .ok (.ifCond .eq 5, 3) := by decide +kernel
theorem dL_law_1722 : decode cL_law 1722 = .ok (.iconst 0, 1) := by decide +kernel
theorem dL_law_1723 : decode cL_law 1723 = .ok (.ireturn, 1) := by decide +kernel
theorem dL_law_1724 : decode cL_law 1724 = .ok (.goto 775, 3) := by decide +kernel
theorem dL_law_1727 : decode cL_law 1727 = .ok (.aload_n 1, 1) := by decide +kernel
theorem dL_law_1728 : decode cL_law 1728 = .ok (.aload_n 0, 1) := by decide +kernel
theorem dL_law_1729 : decode cL_law 1729 = .ok (.iload 4, 2) := by decide +kernel
theorem dL_law_1731 : decode cL_law 1731 = .ok (.iconst 1, 1) := by decide +kernel
theorem dL_law_1732 : decode cL_law 1732 = .ok (.iadd, 1) := by decide +kernel
theorem dL_law_1733 : decode cL_law 1733 = .ok (.iaload, 1) := by decide +kernel
theorem dL_law_1734 : decode cL_law 1734 = .ok (.aload_n 0, 1) := by decide +kernel
theorem dL_law_1735 : decode cL_law 1735 = .ok (.iload 4, 2) := by decide +kernel
theorem dL_law_1737 : decode cL_law 1737 = .ok (.iconst 2, 1) := by decide +kernel
theorem dL_law_1738 : decode cL_law 1738 = .ok (.iadd, 1) := by decide +kernel
theorem dL_law_1739 : decode cL_law 1739 = .ok (.iaload, 1) := by decide +kernel
theorem dL_law_1740 : decode cL_law 1740 = .ok (.aload_n 3, 1) := by decide +kernel
theorem dL_law_1741 : decode cL_law 1741 = .ok (.invokestatic 236, 3) := by decide +kernel
theorem dL_law_1744 : decode cL_law 1744 = .ok (.istore 5, 2) := by decide +kernel
theorem dL_law_1746 : decode cL_law 1746 = .ok (.aload_n 2, 1) := by decide +kernel
theorem dL_law_1747 : decode cL_law 1747 = .ok (.aload_n 0, 1) := by decide +kernel
theorem dL_law_1748 : decode cL_law 1748 = .ok (.iload 4, 2) := by decide +kernel
theorem dL_law_1750 : decode cL_law 1750 = .ok (.iconst 1, 1) := by decide +kernel
theorem dL_law_1751 : decode cL_law 1751 = .ok (.iadd, 1) := by decide +kernel
theorem dL_law_1752 : decode cL_law 1752 = .ok (.iaload, 1) := by decide +kernel
theorem dL_law_1753 : decode cL_law 1753 = .ok (.aload_n 0, 1) := by decide +kernel
theorem dL_law_1754 : decode cL_law 1754 = .ok (.iload 4, 2) := by decide +kernel
theorem dL_law_1756 : decode cL_law 1756 = .ok (.iconst 2, 1) := by decide +kernel
theorem dL_law_1757 : decode cL_law 1757 = .ok (.iadd, 1) := by decide +kernel
theorem dL_law_1758 : decode cL_law 1758 = .ok (.iaload, 1) := by decide +kernel
theorem dL_law_1759 : decode cL_law 1759 = .ok (.invokevirtual 238, 3) := by decide +kernel
theorem dL_law_1762 : decode cL_law 1762 = .ok (.istore 6, 2) := by decide +kernel
theorem dL_law_1764 : decode cL_law 1764 = .ok (.aload_n 2, 1) := by decide +kernel
theorem dL_law_1765 : decode cL_law 1765 = .ok (.invokevirtual 156, 3) := by decide +kernel
theorem dL_law_1768 : decode cL_law 1768 = .ok (.iload 5, 2) := by decide +kernel
theorem dL_law_1770 : decode cL_law 1770 = .ok (.if_icmp .eq 5, 3) := by decide +kernel
theorem dL_law_1773 : decode cL_law 1773 = .ok (.iconst 0, 1) := by decide +kernel
theorem dL_law_1774 : decode cL_law 1774 = .ok (.ireturn, 1) := by decide +kernel
theorem dL_law_1775 : decode cL_law 1775 = .ok (.iload 5, 2) := by decide +kernel
theorem dL_law_1777 : decode cL_law 1777 = .ok (.ifCond .ne 15, 3) := by decide +kernel
theorem dL_law_1780 : decode cL_law 1780 = .ok (.aload_n 3, 1) := by decide +kernel
theorem dL_law_1781 : decode cL_law 1781 = .ok (.iconst 0, 1) := by decide +kernel
theorem dL_law_1782 : decode cL_law 1782 = .ok (.laload, 1) := by decide +kernel
theorem dL_law_1783 : decode cL_law 1783 = .ok (.iload 6, 2) := by decide +kernel
theorem dL_law_1785 : decode cL_law 1785 = .ok (.i2l, 1) := by decide +kernel
theorem dL_law_1786 : decode cL_law 1786 = .ok (.lcmp, 1) := by decide +kernel
theorem dL_law_1787 : decode cL_law 1787 = .ok (.ifCond .eq 5, 3) := by decide +kernel
theorem dL_law_1790 : decode cL_law 1790 = .ok (.iconst 0, 1) := by decide +kernel
theorem dL_law_1791 : decode cL_law 1791 = .ok (.ireturn, 1) := by decide +kernel
theorem dL_law_1792 : decode cL_law 1792 = .ok (.goto 707, 3) := by decide +kernel
theorem dL_law_1795 : decode cL_law 1795 = .ok (.aload_n 1, 1) := by decide +kernel
theorem dL_law_1796 : decode cL_law 1796 = .ok (.aload_n 0, 1) := by decide +kernel
theorem dL_law_1797 : decode cL_law 1797 = .ok (.iload 4, 2) := by decide +kernel
theorem dL_law_1799 : decode cL_law 1799 = .ok (.iconst 1, 1) := by decide +kernel
theorem dL_law_1800 : decode cL_law 1800 = .ok (.iadd, 1) := by decide +kernel
theorem dL_law_1801 : decode cL_law 1801 = .ok (.iaload, 1) := by decide +kernel
theorem dL_law_1802 : decode cL_law 1802 = .ok (.aload_n 0, 1) := by decide +kernel
theorem dL_law_1803 : decode cL_law 1803 = .ok (.iload 4, 2) := by decide +kernel
theorem dL_law_1805 : decode cL_law 1805 = .ok (.iconst 2, 1) := by decide +kernel
theorem dL_law_1806 : decode cL_law 1806 = .ok (.iadd, 1) := by decide +kernel
theorem dL_law_1807 : decode cL_law 1807 = .ok (.iaload, 1) := by decide +kernel
theorem dL_law_1808 : decode cL_law 1808 = .ok (.aload_n 3, 1) := by decide +kernel
theorem dL_law_1809 : decode cL_law 1809 = .ok (.invokestatic 239, 3) := by decide +kernel
theorem dL_law_1812 : decode cL_law 1812 = .ok (.istore 5, 2) := by decide +kernel
theorem dL_law_1814 : decode cL_law 1814 = .ok (.aload_n 2, 1) := by decide +kernel
theorem dL_law_1815 : decode cL_law 1815 = .ok (.aload_n 0, 1) := by decide +kernel
theorem dL_law_1816 : decode cL_law 1816 = .ok (.iload 4, 2) := by decide +kernel
theorem dL_law_1818 : decode cL_law 1818 = .ok (.iconst 1, 1) := by decide +kernel
theorem dL_law_1819 : decode cL_law 1819 = .ok (.iadd, 1) := by decide +kernel
theorem dL_law_1820 : decode cL_law 1820 = .ok (.iaload, 1) := by decide +kernel
theorem dL_law_1821 : decode cL_law 1821 = .ok (.aload_n 0, 1) := by decide +kernel
theorem dL_law_1822 : decode cL_law 1822 = .ok (.iload 4, 2) := by decide +kernel
theorem dL_law_1824 : decode cL_law 1824 = .ok (.iconst 2, 1) := by decide +kernel
theorem dL_law_1825 : decode cL_law 1825 = .ok (.iadd, 1) := by decide +kernel
theorem dL_law_1826 : decode cL_law 1826 = .ok (.iaload, 1) := by decide +kernel
theorem dL_law_1827 : decode cL_law 1827 = .ok (.invokevirtual 241, 3) := by decide +kernel
theorem dL_law_1830 : decode cL_law 1830 = .ok (.istore 6, 2) := by decide +kernel
theorem dL_law_1832 : decode cL_law 1832 = .ok (.aload_n 2, 1) := by decide +kernel
theorem dL_law_1833 : decode cL_law 1833 = .ok (.invokevirtual 156, 3) := by decide +kernel
theorem dL_law_1836 : decode cL_law 1836 = .ok (.iload 5, 2) := by decide +kernel
theorem dL_law_1838 : decode cL_law 1838 = .ok (.if_icmp .eq 5, 3) := by decide +kernel
theorem dL_law_1841 : decode cL_law 1841 = .ok (.iconst 0, 1) := by decide +kernel
theorem dL_law_1842 : decode cL_law 1842 = .ok (.ireturn, 1) := by decide +kernel
theorem dL_law_1843 : decode cL_law 1843 = .ok (.iload 5, 2) := by decide +kernel
theorem dL_law_1845 : decode cL_law 1845 = .ok (.ifCond .ne 15, 3) := by decide +kernel
theorem dL_law_1848 : decode cL_law 1848 = .ok (.aload_n 3, 1) := by decide +kernel
theorem dL_law_1849 : decode cL_law 1849 = .ok (.iconst 0, 1) := by decide +kernel
theorem dL_law_1850 : decode cL_law 1850 = .ok (.laload, 1) := by decide +kernel
theorem dL_law_1851 : decode cL_law 1851 = .ok (.iload 6, 2) := by decide +kernel
theorem dL_law_1853 : decode cL_law 1853 = .ok (.i2l, 1) := by decide +kernel
theorem dL_law_1854 : decode cL_law 1854 = .ok (.lcmp, 1) := by decide +kernel
theorem dL_law_1855 : decode cL_law 1855 = .ok (.ifCond .eq 5, 3) := by decide +kernel
theorem dL_law_1858 : decode cL_law 1858 = .ok (.iconst 0, 1) := by decide +kernel
theorem dL_law_1859 : decode cL_law 1859 = .ok (.ireturn, 1) := by decide +kernel
theorem dL_law_1860 : decode cL_law 1860 = .ok (.goto 639, 3) := by decide +kernel
theorem dL_law_1863 : decode cL_law 1863 = .ok (.aload_n 1, 1) := by decide +kernel
theorem dL_law_1864 : decode cL_law 1864 = .ok (.aload_n 0, 1) := by decide +kernel
theorem dL_law_1865 : decode cL_law 1865 = .ok (.iload 4, 2) := by decide +kernel
theorem dL_law_1867 : decode cL_law 1867 = .ok (.iconst 1, 1) := by decide +kernel
theorem dL_law_1868 : decode cL_law 1868 = .ok (.iadd, 1) := by decide +kernel
theorem dL_law_1869 : decode cL_law 1869 = .ok (.iaload, 1) := by decide +kernel
theorem dL_law_1870 : decode cL_law 1870 = .ok (.aload_n 0, 1) := by decide +kernel
theorem dL_law_1871 : decode cL_law 1871 = .ok (.iload 4, 2) := by decide +kernel
theorem dL_law_1873 : decode cL_law 1873 = .ok (.iconst 2, 1) := by decide +kernel
theorem dL_law_1874 : decode cL_law 1874 = .ok (.iadd, 1) := by decide +kernel
theorem dL_law_1875 : decode cL_law 1875 = .ok (.iaload, 1) := by decide +kernel
theorem dL_law_1876 : decode cL_law 1876 = .ok (.aload_n 3, 1) := by decide +kernel
theorem dL_law_1877 : decode cL_law 1877 = .ok (.invokestatic 242, 3) := by decide +kernel
theorem dL_law_1880 : decode cL_law 1880 = .ok (.istore 5, 2) := by decide +kernel
theorem dL_law_1882 : decode cL_law 1882 = .ok (.aload_n 2, 1) := by decide +kernel
theorem dL_law_1883 : decode cL_law 1883 = .ok (.aload_n 0, 1) := by decide +kernel
theorem dL_law_1884 : decode cL_law 1884 = .ok (.iload 4, 2) := by decide +kernel
theorem dL_law_1886 : decode cL_law 1886 = .ok (.iconst 1, 1) := by decide +kernel
theorem dL_law_1887 : decode cL_law 1887 = .ok (.iadd, 1) := by decide +kernel
theorem dL_law_1888 : decode cL_law 1888 = .ok (.iaload, 1) := by decide +kernel
theorem dL_law_1889 : decode cL_law 1889 = .ok (.aload_n 0, 1) := by decide +kernel
theorem dL_law_1890 : decode cL_law 1890 = .ok (.iload 4, 2) := by decide +kernel
theorem dL_law_1892 : decode cL_law 1892 = .ok (.iconst 2, 1) := by decide +kernel
theorem dL_law_1893 : decode cL_law 1893 = .ok (.iadd, 1) := by decide +kernel
theorem dL_law_1894 : decode cL_law 1894 = .ok (.iaload, 1) := by decide +kernel
theorem dL_law_1895 : decode cL_law 1895 = .ok (.invokevirtual 244, 3) := by decide +kernel
theorem dL_law_1898 : decode cL_law 1898 = .ok (.istore 6, 2) := by decide +kernel
theorem dL_law_1900 : decode cL_law 1900 = .ok (.aload_n 2, 1) := by decide +kernel
theorem dL_law_1901 : decode cL_law 1901 = .ok (.invokevirtual 156, 3) := by decide +kernel
theorem dL_law_1904 : decode cL_law 1904 = .ok (.iload 5, 2) := by decide +kernel
theorem dL_law_1906 : decode cL_law 1906 = .ok (.if_icmp .eq 5, 3) := by decide +kernel
theorem dL_law_1909 : decode cL_law 1909 = .ok (.iconst 0, 1) := by decide +kernel
theorem dL_law_1910 : decode cL_law 1910 = .ok (.ireturn, 1) := by decide +kernel
theorem dL_law_1911 : decode cL_law 1911 = .ok (.iload 5, 2) := by decide +kernel
theorem dL_law_1913 : decode cL_law 1913 = .ok (.ifCond .ne 15, 3) := by decide +kernel
theorem dL_law_1916 : decode cL_law 1916 = .ok (.aload_n 3, 1) := by decide +kernel
theorem dL_law_1917 : decode cL_law 1917 = .ok (.iconst 0, 1) := by decide +kernel
theorem dL_law_1918 : decode cL_law 1918 = .ok (.laload, 1) := by decide +kernel
theorem dL_law_1919 : decode cL_law 1919 = .ok (.iload 6, 2) := by decide +kernel
theorem dL_law_1921 : decode cL_law 1921 = .ok (.i2l, 1) := by decide +kernel
theorem dL_law_1922 : decode cL_law 1922 = .ok (.lcmp, 1) := by decide +kernel
theorem dL_law_1923 : decode cL_law 1923 = .ok (.ifCond .eq 5, 3) := by decide +kernel
theorem dL_law_1926 : decode cL_law 1926 = .ok (.iconst 0, 1) := by decide +kernel
theorem dL_law_1927 : decode cL_law 1927 = .ok (.ireturn, 1) := by decide +kernel
theorem dL_law_1928 : decode cL_law 1928 = .ok (.goto 571, 3) := by decide +kernel
theorem dL_law_1931 : decode cL_law 1931 = .ok (.aload_n 1, 1) := by decide +kernel
theorem dL_law_1932 : decode cL_law 1932 = .ok (.aload_n 0, 1) := by decide +kernel
theorem dL_law_1933 : decode cL_law 1933 = .ok (.iload 4, 2) := by decide +kernel
theorem dL_law_1935 : decode cL_law 1935 = .ok (.iconst 1, 1) := by decide +kernel
theorem dL_law_1936 : decode cL_law 1936 = .ok (.iadd, 1) := by decide +kernel
theorem dL_law_1937 : decode cL_law 1937 = .ok (.iaload, 1) := by decide +kernel
theorem dL_law_1938 : decode cL_law 1938 = .ok (.aload_n 0, 1) := by decide +kernel
theorem dL_law_1939 : decode cL_law 1939 = .ok (.iload 4, 2) := by decide +kernel
theorem dL_law_1941 : decode cL_law 1941 = .ok (.iconst 2, 1) := by decide +kernel
theorem dL_law_1942 : decode cL_law 1942 = .ok (.iadd, 1) := by decide +kernel
theorem dL_law_1943 : decode cL_law 1943 = .ok (.iaload, 1) := by decide +kernel
theorem dL_law_1944 : decode cL_law 1944 = .ok (.aload_n 0, 1) := by decide +kernel
theorem dL_law_1945 : decode cL_law 1945 = .ok (.iload 4, 2) := by decide +kernel
theorem dL_law_1947 : decode cL_law 1947 = .ok (.iconst 3, 1) := by decide +kernel
theorem dL_law_1948 : decode cL_law 1948 = .ok (.iadd, 1) := by decide +kernel
theorem dL_law_1949 : decode cL_law 1949 = .ok (.iaload, 1) := by decide +kernel
theorem dL_law_1950 : decode cL_law 1950 = .ok (.ifCond .eq 7, 3) := by decide +kernel
theorem dL_law_1953 : decode cL_law 1953 = .ok (.iconst 1, 1) := by decide +kernel
theorem dL_law_1954 : decode cL_law 1954 = .ok (.goto 4, 3) := by decide +kernel
theorem dL_law_1957 : decode cL_law 1957 = .ok (.iconst 0, 1) := by decide +kernel
theorem dL_law_1958 : decode cL_law 1958 = .ok (.aload_n 3, 1) := by decide +kernel
theorem dL_law_1959 : decode cL_law 1959 = .ok (.invokestatic 245, 3) := by decide +kernel
theorem dL_law_1962 : decode cL_law 1962 = .ok (.istore 5, 2) := by decide +kernel
theorem dL_law_1964 : decode cL_law 1964 = .ok (.aload_n 2, 1) := by decide +kernel
theorem dL_law_1965 : decode cL_law 1965 = .ok (.aload_n 0, 1) := by decide +kernel
theorem dL_law_1966 : decode cL_law 1966 = .ok (.iload 4, 2) := by decide +kernel
theorem dL_law_1968 : decode cL_law 1968 = .ok (.iconst 1, 1) := by decide +kernel
theorem dL_law_1969 : decode cL_law 1969 = .ok (.iadd, 1) := by decide +kernel
theorem dL_law_1970 : decode cL_law 1970 = .ok (.iaload, 1) := by decide +kernel
theorem dL_law_1971 : decode cL_law 1971 = .ok (.aload_n 0, 1) := by decide +kernel
theorem dL_law_1972 : decode cL_law 1972 = .ok (.iload 4, 2) := by decide +kernel
theorem dL_law_1974 : decode cL_law 1974 = .ok (.iconst 2, 1) := by decide +kernel
theorem dL_law_1975 : decode cL_law 1975 = .ok (.iadd, 1) := by decide +kernel
theorem dL_law_1976 : decode cL_law 1976 = .ok (.iaload, 1) := by decide +kernel
theorem dL_law_1977 : decode cL_law 1977 = .ok (.aload_n 0, 1) := by decide +kernel
theorem dL_law_1978 : decode cL_law 1978 = .ok (.iload 4, 2) := by decide +kernel
theorem dL_law_1980 : decode cL_law 1980 = .ok (.iconst 3, 1) := by decide +kernel
theorem dL_law_1981 : decode cL_law 1981 = .ok (.iadd, 1) := by decide +kernel
theorem dL_law_1982 : decode cL_law 1982 = .ok (.iaload, 1) := by decide +kernel
theorem dL_law_1983 : decode cL_law 1983 = .ok (.ifCond .eq 7, 3) := by decide +kernel
theorem dL_law_1986 : decode cL_law 1986 = .ok (.iconst 1, 1) := by decide +kernel
theorem dL_law_1987 : decode cL_law 1987 = .ok (.goto 4, 3) := by decide +kernel
theorem dL_law_1990 : decode cL_law 1990 = .ok (.iconst 0, 1) := by decide +kernel
theorem dL_law_1991 : decode cL_law 1991 = .ok (.invokevirtual 248, 3) := by decide +kernel
theorem dL_law_1994 : decode cL_law 1994 = .ok (.istore 6, 2) := by decide +kernel
theorem dL_law_1996 : decode cL_law 1996 = .ok (.aload_n 2, 1) := by decide +kernel
theorem dL_law_1997 : decode cL_law 1997 = .ok (.invokevirtual 156, 3) := by decide +kernel
theorem dL_law_2000 : decode cL_law 2000 = .ok (.iload 5, 2) := by decide +kernel
theorem dL_law_2002 : decode cL_law 2002 = .ok (.if_icmp .eq 5, 3) := by decide +kernel
theorem dL_law_2005 : decode cL_law 2005 = .ok (.iconst 0, 1) := by decide +kernel
theorem dL_law_2006 : decode cL_law 2006 = .ok (.ireturn, 1) := by decide +kernel
theorem dL_law_2007 : decode cL_law 2007 = .ok (.iload 5, 2) := by decide +kernel
theorem dL_law_2009 : decode cL_law 2009 = .ok (.ifCond .ne 15, 3) := by decide +kernel
theorem dL_law_2012 : decode cL_law 2012 = .ok (.aload_n 3, 1) := by decide +kernel
theorem dL_law_2013 : decode cL_law 2013 = .ok (.iconst 0, 1) := by decide +kernel
theorem dL_law_2014 : decode cL_law 2014 = .ok (.laload, 1) := by decide +kernel
theorem dL_law_2015 : decode cL_law 2015 = .ok (.iload 6, 2) := by decide +kernel
theorem dL_law_2017 : decode cL_law 2017 = .ok (.i2l, 1) := by decide +kernel
theorem dL_law_2018 : decode cL_law 2018 = .ok (.lcmp, 1) := by decide +kernel
theorem dL_law_2019 : decode cL_law 2019 = .ok (.ifCond .eq 5, 3) := by decide +kernel
theorem dL_law_2022 : decode cL_law 2022 = .ok (.iconst 0, 1) := by decide +kernel
theorem dL_law_2023 : decode cL_law 2023 = .ok (.ireturn, 1) := by decide +kernel
theorem dL_law_2024 : decode cL_law 2024 = .ok (.goto 475, 3) := by decide +kernel
theorem dL_law_2027 : decode cL_law 2027 = .ok (.aload_n 1, 1) := by decide +kernel
theorem dL_law_2028 : decode cL_law 2028 = .ok (.aload_n 0, 1) := by decide +kernel
theorem dL_law_2029 : decode cL_law 2029 = .ok (.iload 4, 2) := by decide +kernel
theorem dL_law_2031 : decode cL_law 2031 = .ok (.iconst 1, 1) := by decide +kernel
theorem dL_law_2032 : decode cL_law 2032 = .ok (.iadd, 1) := by decide +kernel
theorem dL_law_2033 : decode cL_law 2033 = .ok (.iaload, 1) := by decide +kernel
theorem dL_law_2034 : decode cL_law 2034 = .ok (.aload_n 0, 1) := by decide +kernel
theorem dL_law_2035 : decode cL_law 2035 = .ok (.iload 4, 2) := by decide +kernel
theorem dL_law_2037 : decode cL_law 2037 = .ok (.iconst 2, 1) := by decide +kernel
theorem dL_law_2038 : decode cL_law 2038 = .ok (.iadd, 1) := by decide +kernel
theorem dL_law_2039 : decode cL_law 2039 = .ok (.iaload, 1) := by decide +kernel
theorem dL_law_2040 : decode cL_law 2040 = .ok (.aload_n 3, 1) := by decide +kernel
theorem dL_law_2041 : decode cL_law 2041 = .ok (.invokestatic 249, 3) := by decide +kernel
theorem dL_law_2044 : decode cL_law 2044 = .ok (.istore 5, 2) := by decide +kernel
theorem dL_law_2046 : decode cL_law 2046 = .ok (.aload_n 2, 1) := by decide +kernel
theorem dL_law_2047 : decode cL_law 2047 = .ok (.aload_n 0, 1) := by decide +kernel
theorem dL_law_2048 : decode cL_law 2048 = .ok (.iload 4, 2) := by decide +kernel
theorem dL_law_2050 : decode cL_law 2050 = .ok (.iconst 1, 1) := by decide +kernel
theorem dL_law_2051 : decode cL_law 2051 = .ok (.iadd, 1) := by decide +kernel
theorem dL_law_2052 : decode cL_law 2052 = .ok (.iaload, 1) := by decide +kernel
theorem dL_law_2053 : decode cL_law 2053 = .ok (.aload_n 0, 1) := by decide +kernel
theorem dL_law_2054 : decode cL_law 2054 = .ok (.iload 4, 2) := by decide +kernel
theorem dL_law_2056 : decode cL_law 2056 = .ok (.iconst 2, 1) := by decide +kernel
theorem dL_law_2057 : decode cL_law 2057 = .ok (.iadd, 1) := by decide +kernel
theorem dL_law_2058 : decode cL_law 2058 = .ok (.iaload, 1) := by decide +kernel
theorem dL_law_2059 : decode cL_law 2059 = .ok (.invokevirtual 251, 3) := by decide +kernel
theorem dL_law_2062 : decode cL_law 2062 = .ok (.istore 6, 2) := by decide +kernel
theorem dL_law_2064 : decode cL_law 2064 = .ok (.aload_n 2, 1) := by decide +kernel
theorem dL_law_2065 : decode cL_law 2065 = .ok (.invokevirtual 156, 3) := by decide +kernel
theorem dL_law_2068 : decode cL_law 2068 = .ok (.iload 5, 2) := by decide +kernel
theorem dL_law_2070 : decode cL_law 2070 = .ok (.if_icmp .eq 5, 3) := by decide +kernel
theorem dL_law_2073 : decode cL_law 2073 = .ok (.iconst 0, 1) := by decide +kernel
theorem dL_law_2074 : decode cL_law 2074 = .ok (.ireturn, 1) := by decide +kernel
theorem dL_law_2075 : decode cL_law 2075 = .ok (.iload 5, 2) := by decide +kernel
theorem dL_law_2077 : decode cL_law 2077 = .ok (.ifCond .ne 15, 3) := by decide +kernel
theorem dL_law_2080 : decode cL_law 2080 = .ok (.aload_n 3, 1) := by decide +kernel
theorem dL_law_2081 : decode cL_law 2081 = .ok (.iconst 0, 1) := by decide +kernel
theorem dL_law_2082 : decode cL_law 2082 = .ok (.laload, 1) := by decide +kernel
theorem dL_law_2083 : decode cL_law 2083 = .ok (.iload 6, 2) := by decide +kernel
theorem dL_law_2085 : decode cL_law 2085 = .ok (.i2l, 1) := by decide +kernel
theorem dL_law_2086 : decode cL_law 2086 = .ok (.lcmp, 1) := by decide +kernel
theorem dL_law_2087 : decode cL_law 2087 = .ok (.ifCond .eq 5, 3) := by decide +kernel
theorem dL_law_2090 : decode cL_law 2090 = .ok (.iconst 0, 1) := by decide +kernel
theorem dL_law_2091 : decode cL_law 2091 = .ok (.ireturn, 1) := by decide +kernel
theorem dL_law_2092 : decode cL_law 2092 = .ok (.goto 407, 3) := by decide +kernel
theorem dL_law_2095 : decode cL_law 2095 = .ok (.aload_n 1, 1) := by decide +kernel
theorem dL_law_2096 : decode cL_law 2096 = .ok (.aload_n 0, 1) := by decide +kernel
theorem dL_law_2097 : decode cL_law 2097 = .ok (.iload 4, 2) := by decide +kernel
theorem dL_law_2099 : decode cL_law 2099 = .ok (.iconst 1, 1) := by decide +kernel
theorem dL_law_2100 : decode cL_law 2100 = .ok (.iadd, 1) := by decide +kernel
theorem dL_law_2101 : decode cL_law 2101 = .ok (.iaload, 1) := by decide +kernel
theorem dL_law_2102 : decode cL_law 2102 = .ok (.aload_n 0, 1) := by decide +kernel
theorem dL_law_2103 : decode cL_law 2103 = .ok (.iload 4, 2) := by decide +kernel
theorem dL_law_2105 : decode cL_law 2105 = .ok (.iconst 2, 1) := by decide +kernel
theorem dL_law_2106 : decode cL_law 2106 = .ok (.iadd, 1) := by decide +kernel
theorem dL_law_2107 : decode cL_law 2107 = .ok (.iaload, 1) := by decide +kernel
theorem dL_law_2108 : decode cL_law 2108 = .ok (.aload_n 3, 1) := by decide +kernel
theorem dL_law_2109 : decode cL_law 2109 = .ok (.invokestatic 252, 3) := by decide +kernel
theorem dL_law_2112 : decode cL_law 2112 = .ok (.istore 5, 2) := by decide +kernel
theorem dL_law_2114 : decode cL_law 2114 = .ok (.aload_n 2, 1) := by decide +kernel
theorem dL_law_2115 : decode cL_law 2115 = .ok (.aload_n 0, 1) := by decide +kernel
theorem dL_law_2116 : decode cL_law 2116 = .ok (.iload 4, 2) := by decide +kernel
theorem dL_law_2118 : decode cL_law 2118 = .ok (.iconst 1, 1) := by decide +kernel
theorem dL_law_2119 : decode cL_law 2119 = .ok (.iadd, 1) := by decide +kernel
theorem dL_law_2120 : decode cL_law 2120 = .ok (.iaload, 1) := by decide +kernel
theorem dL_law_2121 : decode cL_law 2121 = .ok (.aload_n 0, 1) := by decide +kernel
theorem dL_law_2122 : decode cL_law 2122 = .ok (.iload 4, 2) := by decide +kernel
theorem dL_law_2124 : decode cL_law 2124 = .ok (.iconst 2, 1) := by decide +kernel
theorem dL_law_2125 : decode cL_law 2125 = .ok (.iadd, 1) := by decide +kernel
theorem dL_law_2126 : decode cL_law 2126 = .ok (.iaload, 1) := by decide +kernel
theorem dL_law_2127 : decode cL_law 2127 = .ok (.invokevirtual 254, 3) := by decide +kernel
theorem dL_law_2130 : decode cL_law 2130 = .ok (.istore 6, 2) := by decide +kernel
theorem dL_law_2132 : decode cL_law 2132 = .ok (.aload_n 2, 1) := by decide +kernel
theorem dL_law_2133 : decode cL_law 2133 = .ok (.invokevirtual 156, 3) := by decide +kernel
theorem dL_law_2136 : decode cL_law 2136 = .ok (.iload 5, 2) := by decide +kernel
theorem dL_law_2138 : decode cL_law 2138 = .ok (.if_icmp .eq 5, 3) := by decide +kernel
theorem dL_law_2141 : decode cL_law 2141 = .ok (.iconst 0, 1) := by decide +kernel
theorem dL_law_2142 : decode cL_law 2142 = .ok (.ireturn, 1) := by decide +kernel
theorem dL_law_2143 : decode cL_law 2143 = .ok (.iload 5, 2) := by decide +kernel
theorem dL_law_2145 : decode cL_law 2145 = .ok (.ifCond .ne 15, 3) := by decide +kernel
theorem dL_law_2148 : decode cL_law 2148 = .ok (.aload_n 3, 1) := by decide +kernel
theorem dL_law_2149 : decode cL_law 2149 = .ok (.iconst 0, 1) := by decide +kernel
theorem dL_law_2150 : decode cL_law 2150 = .ok (.laload, 1) := by decide +kernel
theorem dL_law_2151 : decode cL_law 2151 = .ok (.iload 6, 2) := by decide +kernel
theorem dL_law_2153 : decode cL_law 2153 = .ok (.i2l, 1) := by decide +kernel
theorem dL_law_2154 : decode cL_law 2154 = .ok (.lcmp, 1) := by decide +kernel
theorem dL_law_2155 : decode cL_law 2155 = .ok (.ifCond .eq 5, 3) := by decide +kernel
theorem dL_law_2158 : decode cL_law 2158 = .ok (.iconst 0, 1) := by decide +kernel
theorem dL_law_2159 : decode cL_law 2159 = .ok (.ireturn, 1) := by decide +kernel
theorem dL_law_2160 : decode cL_law 2160 = .ok (.goto 339, 3) := by decide +kernel
theorem dL_law_2163 : decode cL_law 2163 = .ok (.aload_n 1, 1) := by decide +kernel
theorem dL_law_2164 : decode cL_law 2164 = .ok (.aload_n 0, 1) := by decide +kernel
theorem dL_law_2165 : decode cL_law 2165 = .ok (.iload 4, 2) := by decide +kernel
theorem dL_law_2167 : decode cL_law 2167 = .ok (.iconst 1, 1) := by decide +kernel
theorem dL_law_2168 : decode cL_law 2168 = .ok (.iadd, 1) := by decide +kernel
theorem dL_law_2169 : decode cL_law 2169 = .ok (.iaload, 1) := by decide +kernel
theorem dL_law_2170 : decode cL_law 2170 = .ok (.aload_n 0, 1) := by decide +kernel
theorem dL_law_2171 : decode cL_law 2171 = .ok (.iload 4, 2) := by decide +kernel
theorem dL_law_2173 : decode cL_law 2173 = .ok (.iconst 2, 1) := by decide +kernel
theorem dL_law_2174 : decode cL_law 2174 = .ok (.iadd, 1) := by decide +kernel
theorem dL_law_2175 : decode cL_law 2175 = .ok (.iaload, 1) := by decide +kernel
theorem dL_law_2176 : decode cL_law 2176 = .ok (.aload_n 3, 1) := by decide +kernel
theorem dL_law_2177 : decode cL_law 2177 = .ok (.invokestatic 255, 3) := by decide +kernel
theorem dL_law_2180 : decode cL_law 2180 = .ok (.istore 5, 2) := by decide +kernel
theorem dL_law_2182 : decode cL_law 2182 = .ok (.aload_n 2, 1) := by decide +kernel
theorem dL_law_2183 : decode cL_law 2183 = .ok (.aload_n 0, 1) := by decide +kernel
theorem dL_law_2184 : decode cL_law 2184 = .ok (.iload 4, 2) := by decide +kernel
theorem dL_law_2186 : decode cL_law 2186 = .ok (.iconst 1, 1) := by decide +kernel
theorem dL_law_2187 : decode cL_law 2187 = .ok (.iadd, 1) := by decide +kernel
theorem dL_law_2188 : decode cL_law 2188 = .ok (.iaload, 1) := by decide +kernel
theorem dL_law_2189 : decode cL_law 2189 = .ok (.aload_n 0, 1) := by decide +kernel
theorem dL_law_2190 : decode cL_law 2190 = .ok (.iload 4, 2) := by decide +kernel
theorem dL_law_2192 : decode cL_law 2192 = .ok (.iconst 2, 1) := by decide +kernel
theorem dL_law_2193 : decode cL_law 2193 = .ok (.iadd, 1) := by decide +kernel
theorem dL_law_2194 : decode cL_law 2194 = .ok (.iaload, 1) := by decide +kernel
theorem dL_law_2195 : decode cL_law 2195 = .ok (.invokevirtual 257, 3) := by decide +kernel
theorem dL_law_2198 : decode cL_law 2198 = .ok (.istore 6, 2) := by decide +kernel
theorem dL_law_2200 : decode cL_law 2200 = .ok (.aload_n 2, 1) := by decide +kernel
theorem dL_law_2201 : decode cL_law 2201 = .ok (.invokevirtual 156, 3) := by decide +kernel
theorem dL_law_2204 : decode cL_law 2204 = .ok (.iload 5, 2) := by decide +kernel
theorem dL_law_2206 : decode cL_law 2206 = .ok (.if_icmp .eq 5, 3) := by decide +kernel
theorem dL_law_2209 : decode cL_law 2209 = .ok (.iconst 0, 1) := by decide +kernel
theorem dL_law_2210 : decode cL_law 2210 = .ok (.ireturn, 1) := by decide +kernel
theorem dL_law_2211 : decode cL_law 2211 = .ok (.iload 5, 2) := by decide +kernel
theorem dL_law_2213 : decode cL_law 2213 = .ok (.ifCond .ne 15, 3) := by decide +kernel
theorem dL_law_2216 : decode cL_law 2216 = .ok (.aload_n 3, 1) := by decide +kernel
theorem dL_law_2217 : decode cL_law 2217 = .ok (.iconst 0, 1) := by decide +kernel
theorem dL_law_2218 : decode cL_law 2218 = .ok (.laload, 1) := by decide +kernel
theorem dL_law_2219 : decode cL_law 2219 = .ok (.iload 6, 2) := by decide +kernel
theorem dL_law_2221 : decode cL_law 2221 = .ok (.i2l, 1) := by decide +kernel
theorem dL_law_2222 : decode cL_law 2222 = .ok (.lcmp, 1) := by decide +kernel
theorem dL_law_2223 : decode cL_law 2223 = .ok (.ifCond .eq 5, 3) := by decide +kernel
theorem dL_law_2226 : decode cL_law 2226 = .ok (.iconst 0, 1) := by decide +kernel
theorem dL_law_2227 : decode cL_law 2227 = .ok (.ireturn, 1) := by decide +kernel
theorem dL_law_2228 : decode cL_law 2228 = .ok (.goto 271, 3) := by decide +kernel
theorem dL_law_2231 : decode cL_law 2231 = .ok (.aload_n 1, 1) := by decide +kernel
theorem dL_law_2232 : decode cL_law 2232 = .ok (.aload_n 0, 1) := by decide +kernel
theorem dL_law_2233 : decode cL_law 2233 = .ok (.iload 4, 2) := by decide +kernel
theorem dL_law_2235 : decode cL_law 2235 = .ok (.iconst 1, 1) := by decide +kernel
theorem dL_law_2236 : decode cL_law 2236 = .ok (.iadd, 1) := by decide +kernel
theorem dL_law_2237 : decode cL_law 2237 = .ok (.iaload, 1) := by decide +kernel
theorem dL_law_2238 : decode cL_law 2238 = .ok (.aload_n 0, 1) := by decide +kernel
theorem dL_law_2239 : decode cL_law 2239 = .ok (.iload 4, 2) := by decide +kernel
theorem dL_law_2241 : decode cL_law 2241 = .ok (.iconst 2, 1) := by decide +kernel
theorem dL_law_2242 : decode cL_law 2242 = .ok (.iadd, 1) := by decide +kernel
theorem dL_law_2243 : decode cL_law 2243 = .ok (.iaload, 1) := by decide +kernel
theorem dL_law_2244 : decode cL_law 2244 = .ok (.aload_n 3, 1) := by decide +kernel
theorem dL_law_2245 : decode cL_law 2245 = .ok (.invokestatic 258, 3) := by decide +kernel
theorem dL_law_2248 : decode cL_law 2248 = .ok (.istore 5, 2) := by decide +kernel
theorem dL_law_2250 : decode cL_law 2250 = .ok (.aload_n 2, 1) := by decide +kernel
theorem dL_law_2251 : decode cL_law 2251 = .ok (.aload_n 0, 1) := by decide +kernel
theorem dL_law_2252 : decode cL_law 2252 = .ok (.iload 4, 2) := by decide +kernel
theorem dL_law_2254 : decode cL_law 2254 = .ok (.iconst 1, 1) := by decide +kernel
theorem dL_law_2255 : decode cL_law 2255 = .ok (.iadd, 1) := by decide +kernel
theorem dL_law_2256 : decode cL_law 2256 = .ok (.iaload, 1) := by decide +kernel
theorem dL_law_2257 : decode cL_law 2257 = .ok (.aload_n 0, 1) := by decide +kernel
theorem dL_law_2258 : decode cL_law 2258 = .ok (.iload 4, 2) := by decide +kernel
theorem dL_law_2260 : decode cL_law 2260 = .ok (.iconst 2, 1) := by decide +kernel
theorem dL_law_2261 : decode cL_law 2261 = .ok (.iadd, 1) := by decide +kernel
theorem dL_law_2262 : decode cL_law 2262 = .ok (.iaload, 1) := by decide +kernel
theorem dL_law_2263 : decode cL_law 2263 = .ok (.invokevirtual 260, 3) := by decide +kernel
theorem dL_law_2266 : decode cL_law 2266 = .ok (.istore 6, 2) := by decide +kernel
theorem dL_law_2268 : decode cL_law 2268 = .ok (.aload_n 2, 1) := by decide +kernel
theorem dL_law_2269 : decode cL_law 2269 = .ok (.invokevirtual 156, 3) := by decide +kernel
theorem dL_law_2272 : decode cL_law 2272 = .ok (.iload 5, 2) := by decide +kernel
theorem dL_law_2274 : decode cL_law 2274 = .ok (.if_icmp .eq 5, 3) := by decide +kernel
theorem dL_law_2277 : decode cL_law 2277 = .ok (.iconst 0, 1) := by decide +kernel
theorem dL_law_2278 : decode cL_law 2278 = .ok (.ireturn, 1) := by decide +kernel
theorem dL_law_2279 : decode cL_law 2279 = .ok (.iload 5, 2) := by decide +kernel
theorem dL_law_2281 : decode cL_law 2281 = .ok (.ifCond .ne 15, 3) := by decide +kernel
theorem dL_law_2284 : decode cL_law 2284 = .ok (.aload_n 3, 1) := by decide +kernel
theorem dL_law_2285 : decode cL_law 2285 = .ok (.iconst 0, 1) := by decide +kernel
theorem dL_law_2286 : decode cL_law 2286 = .ok (.laload, 1) := by decide +kernel
theorem dL_law_2287 : decode cL_law 2287 = .ok (.iload 6, 2) := by decide +kernel
theorem dL_law_2289 : decode cL_law 2289 = .ok (.i2l, 1) := by decide +kernel
theorem dL_law_2290 : decode cL_law 2290 = .ok (.lcmp, 1) := by decide +kernel
theorem dL_law_2291 : decode cL_law 2291 = .ok (.ifCond .eq 5, 3) := by decide +kernel
theorem dL_law_2294 : decode cL_law 2294 = .ok (.iconst 0, 1) := by decide +kernel
theorem dL_law_2295 : decode cL_law 2295 = .ok (.ireturn, 1) := by decide +kernel
theorem dL_law_2296 : decode cL_law 2296 = .ok (.goto 203, 3) := by decide +kernel
theorem dL_law_2299 : decode cL_law 2299 = .ok (.aload_n 1, 1) := by decide +kernel
theorem dL_law_2300 : decode cL_law 2300 = .ok (.aload_n 3, 1) := by decide +kernel
theorem dL_law_2301 : decode cL_law 2301 = .ok (.invokestatic 261, 3) := by decide +kernel
theorem dL_law_2304 : decode cL_law 2304 = .ok (.istore 5, 2) := by decide +kernel
theorem dL_law_2306 : decode cL_law 2306 = .ok (.aload_n 2, 1) := by decide +kernel
theorem dL_law_2307 : decode cL_law 2307 = .ok (.invokevirtual 263, 3) := by decide +kernel
theorem dL_law_2310 : decode cL_law 2310 = .ok (.istore 6, 2) := by decide +kernel
theorem dL_law_2312 : decode cL_law 2312 = .ok (.aload_n 2, 1) := by decide +kernel
theorem dL_law_2313 : decode cL_law 2313 = .ok (.invokevirtual 156, 3) := by decide +kernel
theorem dL_law_2316 : decode cL_law 2316 = .ok (.iload 5, 2) := by decide +kernel
theorem dL_law_2318 : decode cL_law 2318 = .ok (.if_icmp .eq 5, 3) := by decide +kernel
theorem dL_law_2321 : decode cL_law 2321 = .ok (.iconst 0, 1) := by decide +kernel
theorem dL_law_2322 : decode cL_law 2322 = .ok (.ireturn, 1) := by decide +kernel
theorem dL_law_2323 : decode cL_law 2323 = .ok (.iload 5, 2) := by decide +kernel
theorem dL_law_2325 : decode cL_law 2325 = .ok (.ifCond .ne 15, 3) := by decide +kernel
theorem dL_law_2328 : decode cL_law 2328 = .ok (.aload_n 3, 1) := by decide +kernel
theorem dL_law_2329 : decode cL_law 2329 = .ok (.iconst 0, 1) := by decide +kernel
theorem dL_law_2330 : decode cL_law 2330 = .ok (.laload, 1) := by decide +kernel
theorem dL_law_2331 : decode cL_law 2331 = .ok (.iload 6, 2) := by decide +kernel
theorem dL_law_2333 : decode cL_law 2333 = .ok (.i2l, 1) := by decide +kernel
theorem dL_law_2334 : decode cL_law 2334 = .ok (.lcmp, 1) := by decide +kernel
theorem dL_law_2335 : decode cL_law 2335 = .ok (.ifCond .eq 5, 3) := by decide +kernel
theorem dL_law_2338 : decode cL_law 2338 = .ok (.iconst 0, 1) := by decide +kernel
theorem dL_law_2339 : decode cL_law 2339 = .ok (.ireturn, 1) := by decide +kernel
theorem dL_law_2340 : decode cL_law 2340 = .ok (.goto 159, 3) := by decide +kernel
theorem dL_law_2343 : decode cL_law 2343 = .ok (.aload_n 1, 1) := by decide +kernel
theorem dL_law_2344 : decode cL_law 2344 = .ok (.aload_n 0, 1) := by decide +kernel
theorem dL_law_2345 : decode cL_law 2345 = .ok (.iload 4, 2) := by decide +kernel
theorem dL_law_2347 : decode cL_law 2347 = .ok (.iconst 1, 1) := by decide +kernel
theorem dL_law_2348 : decode cL_law 2348 = .ok (.iadd, 1) := by decide +kernel
theorem dL_law_2349 : decode cL_law 2349 = .ok (.iaload, 1) := by decide +kernel
theorem dL_law_2350 : decode cL_law 2350 = .ok (.aload_n 3, 1) := by decide +kernel
theorem dL_law_2351 : decode cL_law 2351 = .ok (.invokestatic 264, 3) := by decide +kernel
theorem dL_law_2354 : decode cL_law 2354 = .ok (.istore 5, 2) := by decide +kernel
theorem dL_law_2356 : decode cL_law 2356 = .ok (.aload_n 2, 1) := by decide +kernel
theorem dL_law_2357 : decode cL_law 2357 = .ok (.aload_n 0, 1) := by decide +kernel
theorem dL_law_2358 : decode cL_law 2358 = .ok (.iload 4, 2) := by decide +kernel
theorem dL_law_2360 : decode cL_law 2360 = .ok (.iconst 1, 1) := by decide +kernel
theorem dL_law_2361 : decode cL_law 2361 = .ok (.iadd, 1) := by decide +kernel
theorem dL_law_2362 : decode cL_law 2362 = .ok (.iaload, 1) := by decide +kernel
theorem dL_law_2363 : decode cL_law 2363 = .ok (.invokevirtual 266, 3) := by decide +kernel
theorem dL_law_2366 : decode cL_law 2366 = .ok (.istore 6, 2) := by decide +kernel
theorem dL_law_2368 : decode cL_law 2368 = .ok (.aload_n 2, 1) := by decide +kernel
theorem dL_law_2369 : decode cL_law 2369 = .ok (.invokevirtual 156, 3) := by decide +kernel
theorem dL_law_2372 : decode cL_law 2372 = .ok (.iload 5, 2) := by decide +kernel
theorem dL_law_2374 : decode cL_law 2374 = .ok (.if_icmp .eq 5, 3) := by decide +kernel
theorem dL_law_2377 : decode cL_law 2377 = .ok (.iconst 0, 1) := by decide +kernel
theorem dL_law_2378 : decode cL_law 2378 = .ok (.ireturn, 1) := by decide +kernel
theorem dL_law_2379 : decode cL_law 2379 = .ok (.iload 5, 2) := by decide +kernel
theorem dL_law_2381 : decode cL_law 2381 = .ok (.ifCond .ne 15, 3) := by decide +kernel
theorem dL_law_2384 : decode cL_law 2384 = .ok (.aload_n 3, 1) := by decide +kernel
theorem dL_law_2385 : decode cL_law 2385 = .ok (.iconst 0, 1) := by decide +kernel
theorem dL_law_2386 : decode cL_law 2386 = .ok (.laload, 1) := by decide +kernel
theorem dL_law_2387 : decode cL_law 2387 = .ok (.iload 6, 2) := by decide +kernel
theorem dL_law_2389 : decode cL_law 2389 = .ok (.i2l, 1) := by decide +kernel
theorem dL_law_2390 : decode cL_law 2390 = .ok (.lcmp, 1) := by decide +kernel
theorem dL_law_2391 : decode cL_law 2391 = .ok (.ifCond .eq 5, 3) := by decide +kernel
theorem dL_law_2394 : decode cL_law 2394 = .ok (.iconst 0, 1) := by decide +kernel
theorem dL_law_2395 : decode cL_law 2395 = .ok (.ireturn, 1) := by decide +kernel
theorem dL_law_2396 : decode cL_law 2396 = .ok (.goto 103, 3) := by decide +kernel
theorem dL_law_2399 : decode cL_law 2399 = .ok (.aload_n 1, 1) := by decide +kernel
theorem dL_law_2400 : decode cL_law 2400 = .ok (.aload_n 3, 1) := by decide +kernel
theorem dL_law_2401 : decode cL_law 2401 = .ok (.invokestatic 267, 3) := by decide +kernel
theorem dL_law_2404 : decode cL_law 2404 = .ok (.istore 5, 2) := by decide +kernel
theorem dL_law_2406 : decode cL_law 2406 = .ok (.aload_n 2, 1) := by decide +kernel
theorem dL_law_2407 : decode cL_law 2407 = .ok (.invokevirtual 269, 3) := by decide +kernel
theorem dL_law_2410 : decode cL_law 2410 = .ok (.istore 6, 2) := by decide +kernel
theorem dL_law_2412 : decode cL_law 2412 = .ok (.aload_n 2, 1) := by decide +kernel
theorem dL_law_2413 : decode cL_law 2413 = .ok (.invokevirtual 156, 3) := by decide +kernel
theorem dL_law_2416 : decode cL_law 2416 = .ok (.iload 5, 2) := by decide +kernel
theorem dL_law_2418 : decode cL_law 2418 = .ok (.if_icmp .eq 5, 3) := by decide +kernel
theorem dL_law_2421 : decode cL_law 2421 = .ok (.iconst 0, 1) := by decide +kernel
theorem dL_law_2422 : decode cL_law 2422 = .ok (.ireturn, 1) := by decide +kernel
theorem dL_law_2423 : decode cL_law 2423 = .ok (.iload 5, 2) := by decide +kernel
theorem dL_law_2425 : decode cL_law 2425 = .ok (.ifCond .ne 15, 3) := by decide +kernel
theorem dL_law_2428 : decode cL_law 2428 = .ok (.aload_n 3, 1) := by decide +kernel
theorem dL_law_2429 : decode cL_law 2429 = .ok (.iconst 0, 1) := by decide +kernel
theorem dL_law_2430 : decode cL_law 2430 = .ok (.laload, 1) := by decide +kernel
theorem dL_law_2431 : decode cL_law 2431 = .ok (.iload 6, 2) := by decide +kernel
theorem dL_law_2433 : decode cL_law 2433 = .ok (.i2l, 1) := by decide +kernel
theorem dL_law_2434 : decode cL_law 2434 = .ok (.lcmp, 1) := by decide +kernel
theorem dL_law_2435 : decode cL_law 2435 = .ok (.ifCond .eq 5, 3) := by decide +kernel
theorem dL_law_2438 : decode cL_law 2438 = .ok (.iconst 0, 1) := by decide +kernel
theorem dL_law_2439 : decode cL_law 2439 = .ok (.ireturn, 1) := by decide +kernel
theorem dL_law_2440 : decode cL_law 2440 = .ok (.goto 59, 3) := by decide +kernel
theorem dL_law_2443 : decode cL_law 2443 = .ok (.aload_n 1, 1) := by decide +kernel
theorem dL_law_2444 : decode cL_law 2444 = .ok (.aload_n 0, 1) := by decide +kernel
theorem dL_law_2445 : decode cL_law 2445 = .ok (.iload 4, 2) := by decide +kernel
theorem dL_law_2447 : decode cL_law 2447 = .ok (.iconst 1, 1) := by decide +kernel
theorem dL_law_2448 : decode cL_law 2448 = .ok (.iadd, 1) := by decide +kernel
theorem dL_law_2449 : decode cL_law 2449 = .ok (.iaload, 1) := by decide +kernel
theorem dL_law_2450 : decode cL_law 2450 = .ok (.aload_n 3, 1) := by decide +kernel
theorem dL_law_2451 : decode cL_law 2451 = .ok (.invokestatic 270, 3) := by decide +kernel
theorem dL_law_2454 : decode cL_law 2454 = .ok (.istore 5, 2) := by decide +kernel
theorem dL_law_2456 : decode cL_law 2456 = .ok (.aload_n 2, 1) := by decide +kernel
theorem dL_law_2457 : decode cL_law 2457 = .ok (.aload_n 0, 1) := by decide +kernel
theorem dL_law_2458 : decode cL_law 2458 = .ok (.iload 4, 2) := by decide +kernel
theorem dL_law_2460 : decode cL_law 2460 = .ok (.iconst 1, 1) := by decide +kernel
theorem dL_law_2461 : decode cL_law 2461 = .ok (.iadd, 1) := by decide +kernel
theorem dL_law_2462 : decode cL_law 2462 = .ok (.iaload, 1) := by decide +kernel
theorem dL_law_2463 : decode cL_law 2463 = .ok (.invokevirtual 272, 3) := by decide +kernel
theorem dL_law_2466 : decode cL_law 2466 = .ok (.istore 6, 2) := by decide +kernel
theorem dL_law_2468 : decode cL_law 2468 = .ok (.aload_n 2, 1) := by decide +kernel
theorem dL_law_2469 : decode cL_law 2469 = .ok (.invokevirtual 156, 3) := by decide +kernel
theorem dL_law_2472 : decode cL_law 2472 = .ok (.iload 5, 2) := by decide +kernel
theorem dL_law_2474 : decode cL_law 2474 = .ok (.if_icmp .eq 5, 3) := by decide +kernel
theorem dL_law_2477 : decode cL_law 2477 = .ok (.iconst 0, 1) := by decide +kernel
theorem dL_law_2478 : decode cL_law 2478 = .ok (.ireturn, 1) := by decide +kernel
theorem dL_law_2479 : decode cL_law 2479 = .ok (.iload 5, 2) := by decide +kernel
theorem dL_law_2481 : decode cL_law 2481 = .ok (.ifCond .ne 15, 3) := by decide +kernel
theorem dL_law_2484 : decode cL_law 2484 = .ok (.aload_n 3, 1) := by decide +kernel
theorem dL_law_2485 : decode cL_law 2485 = .ok (.iconst 0, 1) := by decide +kernel
theorem dL_law_2486 : decode cL_law 2486 = .ok (.laload, 1) := by decide +kernel
theorem dL_law_2487 : decode cL_law 2487 = .ok (.iload 6, 2) := by decide +kernel
theorem dL_law_2489 : decode cL_law 2489 = .ok (.i2l, 1) := by decide +kernel
theorem dL_law_2490 : decode cL_law 2490 = .ok (.lcmp, 1) := by decide +kernel
theorem dL_law_2491 : decode cL_law 2491 = .ok (.ifCond .eq 5, 3) := by decide +kernel
theorem dL_law_2494 : decode cL_law 2494 = .ok (.iconst 0, 1) := by decide +kernel
theorem dL_law_2495 : decode cL_law 2495 = .ok (.ireturn, 1) := by decide +kernel
theorem dL_law_2496 : decode cL_law 2496 = .ok (.goto 3, 3) := by decide +kernel
theorem dL_law_2499 : decode cL_law 2499 = .ok (.iinc 4 5, 3) := by decide +kernel
theorem dL_law_2502 : decode cL_law 2502 = .ok (.goto (-2459), 3) := by decide +kernel
theorem dL_law_2505 : decode cL_law 2505 = .ok (.iconst 1, 1) := by decide +kernel
theorem dL_law_2506 : decode cL_law 2506 = .ok (.ireturn, 1) := by decide +kernel
