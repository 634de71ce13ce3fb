theorem dX9_parts_32 : decode cX9_parts 32 = .ok (.ifCond .ge 5, 3) := by decide +kernel
theorem dX9_parts_35 : decode cX9_parts 35 = .ok (.iconst (-1), 1) := by decide +kernel
theorem dX9_parts_36 : decode cX9_parts 36 = .ok (.ireturn, 1) := by decide +kernel
theorem dX9_parts_37 : decode cX9_parts 37 = .ok (.aload_n 3, 1) := by decide +kernel
theorem dX9_parts_38 : decode cX9_parts 38 = .ok (.getfield 313, 3) := by decide +kernel
theorem dX9_parts_41 : decode cX9_parts 41 = .ok (.astore 4, 2) := by decide +kernel
theorem dX9_parts_43 : decode cX9_parts 43 = .ok (.aload 4, 2) := by decide +kernel
theorem dX9_parts_45 : decode cX9_parts 45 = .ok (.ifnonnull 25, 3) := by decide +kernel
theorem dX9_parts_48 : decode cX9_parts 48 = .ok (.bipush 65, 2) := by decide +kernel
theorem dX9_parts_50 : decode cX9_parts 50 = .ok (.newarray .int, 2) := by decide +kernel
theorem dX9_parts_52 : decode cX9_parts 52 = .ok (.astore 4, 2) := by decide +kernel
theorem dX9_parts_54 : decode cX9_parts 54 = .ok (.aload_n 0, 1) := by decide +kernel
theorem dX9_parts_55 : decode cX9_parts 55 = .ok (.getfield 89, 3) := by decide +kernel
theorem dX9_parts_58 : decode cX9_parts 58 = .ok (.aload_n 3, 1) := by decide +kernel
theorem dX9_parts_59 : decode cX9_parts 59 = .ok (.aload 4, 2) := by decide +kernel
theorem dX9_parts_61 : decode cX9_parts 61 = .ok (.invokevirtual 316, 3) := by decide +kernel
theorem dX9_parts_64 : decode cX9_parts 64 = .ok (.aload_n 3, 1) := by decide +kernel
theorem dX9_parts_65 : decode cX9_parts 65 = .ok (.aload 4, 2) := by decide +kernel
theorem dX9_parts_67 : decode cX9_parts 67 = .ok (.putfield 313, 3) := by decide +kernel
theorem dX9_parts_70 : decode cX9_parts 70 = .ok (.aload 4, 2) := by decide +kernel
theorem dX9_parts_72 : decode cX9_parts 72 = .ok (.iload_n 2, 1) := by decide +kernel
theorem dX9_parts_73 : decode cX9_parts 73 = .ok (.iaload, 1) := by decide +kernel
theorem dX9_parts_74 : decode cX9_parts 74 = .ok (.ireturn, 1) := by decide +kernel
theorem dX9_span_0 : decode cX9_span 0 = .ok (.aload_n 0, 1) := by decide +kernel
theorem dX9_span_1 : decode cX9_span 1 = .ok (.getfield 135, 3) := by decide +kernel
theorem dX9_span_4 : decode cX9_span 4 = .ok (.bipush 6, 2) := by decide +kernel
theorem dX9_span_6 : decode cX9_span 6 = .ok (.if_icmp .gt 10, 3) := by decide +kernel
theorem dX9_span_9 : decode cX9_span 9 = .ok (.aload_n 0, 1) := by decide +kernel
theorem dX9_span_10 : decode cX9_span 10 = .ok (.invokevirtual 320, 3) := by decide +kernel
theorem dX9_span_13 : decode cX9_span 13 = .ok (.ifCond .eq 14, 3) := by decide +kernel
theorem dX9_span_16 : decode cX9_span 16 = .ok (.new 163, 3) := by decide +kernel
theorem dX9_span_19 : decode cX9_span 19 = .ok (.dup, 1) := by decide +kernel
theorem dX9_span_20 : decode cX9_span 20 = .ok (.ldc_w 324, 3) := by decide +kernel
theorem dX9_span_23 : decode cX9_span 23 = .ok (.invokespecial 167, 3) := by decide +kernel
theorem dX9_span_26 : decode cX9_span 26 = .ok (.athrow, 1) := by decide +kernel
theorem dX9_span_27 : decode cX9_span 27 = .ok (.aload_n 0, 1) := by decide +kernel
theorem dX9_span_28 : decode cX9_span 28 = .ok (.iconst 1, 1) := by decide +kernel
theorem dX9_span_29 : decode cX9_span 29 = .ok (.aload_n 0, 1) := by decide +kernel
theorem dX9_span_30 : decode cX9_span 30 = .ok (.getfield 135, 3) := by decide +kernel
theorem dX9_span_33 : decode cX9_span 33 = .ok (.ishl, 1) := by decide +kernel
theorem dX9_span_34 : decode cX9_span 34 = .ok (.putfield 326, 3) := by decide +kernel
theorem dX9_span_37 : decode cX9_span 37 = .ok (.iconst 0, 1) := by decide +kernel
theorem dX9_span_38 : decode cX9_span 38 = .ok (.istore_n 1, 1) := by decide +kernel
theorem dX9_span_39 : decode cX9_span 39 = .ok (.iload_n 1, 1) := by decide +kernel
theorem dX9_span_40 : decode cX9_span 40 = .ok (.aload_n 0, 1) := by decide +kernel
theorem dX9_span_41 : decode cX9_span 41 = .ok (.getfield 326, 3) := by decide +kernel
theorem dX9_span_44 : decode cX9_span 44 = .ok (.if_icmp .ge 24, 3) := by decide +kernel
theorem dX9_span_47 : decode cX9_span 47 = .ok (.aload_n 0, 1) := by decide +kernel
theorem dX9_span_48 : decode cX9_span 48 = .ok (.getfield 35, 3) := by decide +kernel
theorem dX9_span_51 : decode cX9_span 51 = .ok (.iload_n 1, 1) := by decide +kernel
theorem dX9_span_52 : decode cX9_span 52 = .ok (.aload_n 0, 1) := by decide +kernel
theorem dX9_span_53 : decode cX9_span 53 = .ok (.iload_n 1, 1) := by decide +kernel
theorem dX9_span_54 : decode cX9_span 54 = .ok (.aload_n 0, 1) := by decide +kernel
theorem dX9_span_55 : decode cX9_span 55 = .ok (.getfield 135, 3) := by decide +kernel
theorem dX9_span_58 : decode cX9_span 58 = .ok (.invokevirtual 329, 3) := by decide +kernel
theorem dX9_span_61 : decode cX9_span 61 = .ok (.iastore, 1) := by decide +kernel
theorem dX9_span_62 : decode cX9_span 62 = .ok (.iinc 1 1, 3) := by decide +kernel
theorem dX9_span_65 : decode cX9_span 65 = .ok (.goto (-26), 3) := by decide +kernel
theorem dX9_span_68 : decode cX9_span 68 = .ok (.aload_n 0, 1) := by decide +kernel
theorem dX9_span_69 : decode cX9_span 69 = .ok (.iconst 0, 1) := by decide +kernel
theorem dX9_span_70 : decode cX9_span 70 = .ok (.putfield 135, 3) := by decide +kernel
theorem dX9_span_73 : decode cX9_span 73 = .ok (.aload_n 0, 1) := by decide +kernel
theorem dX9_span_74 : decode cX9_span 74 = .ok (.getfield 326, 3) := by decide +kernel
theorem dX9_span_77 : decode cX9_span 77 = .ok (.ireturn, 1) := by decide +kernel
theorem dX9_forth_0 : decode cX9_forth 0 = .ok (.aload_n 0, 1) := by decide +kernel
theorem dX9_forth_1 : decode cX9_forth 1 = .ok (.iload_n 1, 1) := by decide +kernel
theorem dX9_forth_2 : decode cX9_forth 2 = .ok (.invokevirtual 257, 3) := by decide +kernel
theorem dX9_forth_5 : decode cX9_forth 5 = .ok (.astore_n 2, 1) := by decide +kernel
theorem dX9_forth_6 : decode cX9_forth 6 = .ok (.aload_n 0, 1) := by decide +kernel
theorem dX9_forth_7 : decode cX9_forth 7 = .ok (.invokevirtual 332, 3) := by decide +kernel
theorem dX9_forth_10 : decode cX9_forth 10 = .ok (.iconst 0, 1) := by decide +kernel
theorem dX9_forth_11 : decode cX9_forth 11 = .ok (.istore_n 3, 1) := by decide +kernel
theorem dX9_forth_12 : decode cX9_forth 12 = .ok (.iload_n 3, 1) := by decide +kernel
theorem dX9_forth_13 : decode cX9_forth 13 = .ok (.aload_n 0, 1) := by decide +kernel
theorem dX9_forth_14 : decode cX9_forth 14 = .ok (.getfield 326, 3) := by decide +kernel
theorem dX9_forth_17 : decode cX9_forth 17 = .ok (.if_icmp .ge 26, 3) := by decide +kernel
theorem dX9_forth_20 : decode cX9_forth 20 = .ok (.aload_n 0, 1) := by decide +kernel
theorem dX9_forth_21 : decode cX9_forth 21 = .ok (.getfield 21, 3) := by decide +kernel
theorem dX9_forth_24 : decode cX9_forth 24 = .ok (.iload_n 3, 1) := by decide +kernel
theorem dX9_forth_25 : decode cX9_forth 25 = .ok (.aload_n 0, 1) := by decide +kernel
theorem dX9_forth_26 : decode cX9_forth 26 = .ok (.aload_n 2, 1) := by decide +kernel
theorem dX9_forth_27 : decode cX9_forth 27 = .ok (.aload_n 0, 1) := by decide +kernel
theorem dX9_forth_28 : decode cX9_forth 28 = .ok (.getfield 35, 3) := by decide +kernel
theorem dX9_forth_31 : decode cX9_forth 31 = .ok (.iload_n 3, 1) := by decide +kernel
theorem dX9_forth_32 : decode cX9_forth 32 = .ok (.iaload, 1) := by decide +kernel
theorem dX9_forth_33 : decode cX9_forth 33 = .ok (.invokevirtual 269, 3) := by decide +kernel
theorem dX9_forth_36 : decode cX9_forth 36 = .ok (.iastore, 1) := by decide +kernel
theorem dX9_forth_37 : decode cX9_forth 37 = .ok (.iinc 3 1, 3) := by decide +kernel
theorem dX9_forth_40 : decode cX9_forth 40 = .ok (.goto (-28), 3) := by decide +kernel
theorem dX9_forth_43 : decode cX9_forth 43 = .ok (.aload_n 0, 1) := by decide +kernel
theorem dX9_forth_44 : decode cX9_forth 44 = .ok (.aload_n 0, 1) := by decide +kernel
theorem dX9_forth_45 : decode cX9_forth 45 = .ok (.getfield 326, 3) := by decide +kernel
theorem dX9_forth_48 : decode cX9_forth 48 = .ok (.putfield 135, 3) := by decide +kernel
theorem dX9_forth_51 : decode cX9_forth 51 = .ok (.aload_n 0, 1) := by decide +kernel
theorem dX9_forth_52 : decode cX9_forth 52 = .ok (.getfield 135, 3) := by decide +kernel
theorem dX9_forth_55 : decode cX9_forth 55 = .ok (.ireturn, 1) := by decide +kernel
theorem dX9_back_0 : decode cX9_back 0 = .ok (.aload_n 0, 1) := by decide +kernel
theorem dX9_back_1 : decode cX9_back 1 = .ok (.invokevirtual 332, 3) := by decide +kernel
theorem dX9_back_4 : decode cX9_back 4 = .ok (.aload_n 0, 1) := by decide +kernel
theorem dX9_back_5 : decode cX9_back 5 = .ok (.getfield 135, 3) := by decide +kernel
theorem dX9_back_8 : decode cX9_back 8 = .ok (.aload_n 0, 1) := by decide +kernel
theorem dX9_back_9 : decode cX9_back 9 = .ok (.getfield 326, 3) := by decide +kernel
theorem dX9_back_12 : decode cX9_back 12 = .ok (.if_icmp .eq 14, 3) := by decide +kernel
theorem dX9_back_15 : decode cX9_back 15 = .ok (.new 163, 3) := by decide +kernel
theorem dX9_back_18 : decode cX9_back 18 = .ok (.dup, 1) := by decide +kernel
theorem dX9_back_19 : decode cX9_back 19 = .ok (.ldc_w 335, 3) := by decide +kernel
theorem dX9_back_22 : decode cX9_back 22 = .ok (.invokespecial 167, 3) := by decide +kernel
theorem dX9_back_25 : decode cX9_back 25 = .ok (.athrow, 1) := by decide +kernel
theorem dX9_back_26 : decode cX9_back 26 = .ok (.aload_n 0, 1) := by decide +kernel
theorem dX9_back_27 : decode cX9_back 27 = .ok (.invokevirtual 237, 3) := by decide +kernel
theorem dX9_back_30 : decode cX9_back 30 = .ok (.iconst 0, 1) := by decide +kernel
theorem dX9_back_31 : decode cX9_back 31 = .ok (.istore_n 1, 1) := by decide +kernel
theorem dX9_back_32 : decode cX9_back 32 = .ok (.iload_n 1, 1) := by decide +kernel
theorem dX9_back_33 : decode cX9_back 33 = .ok (.aload_n 0, 1) := by decide +kernel
theorem dX9_back_34 : decode cX9_back 34 = .ok (.getfield 326, 3) := by decide +kernel
theorem dX9_back_37 : decode cX9_back 37 = .ok (.if_icmp .ge 29, 3) := by decide +kernel
theorem dX9_back_40 : decode cX9_back 40 = .ok (.aload_n 0, 1) := by decide +kernel
theorem dX9_back_41 : decode cX9_back 41 = .ok (.getfield 73, 3) := by decide +kernel
theorem dX9_back_44 : decode cX9_back 44 = .ok (.iload_n 1, 1) := by decide +kernel
theorem dX9_back_45 : decode cX9_back 45 = .ok (.aload_n 0, 1) := by decide +kernel
theorem dX9_back_46 : decode cX9_back 46 = .ok (.getfield 35, 3) := by decide +kernel
theorem dX9_back_49 : decode cX9_back 49 = .ok (.iload_n 1, 1) := by decide +kernel
theorem dX9_back_50 : decode cX9_back 50 = .ok (.iaload, 1) := by decide +kernel
theorem dX9_back_51 : decode cX9_back 51 = .ok (.aload_n 0, 1) := by decide +kernel
theorem dX9_back_52 : decode cX9_back 52 = .ok (.getfield 21, 3) := by decide +kernel
theorem dX9_back_55 : decode cX9_back 55 = .ok (.iload_n 1, 1) := by decide +kernel
theorem dX9_back_56 : decode cX9_back 56 = .ok (.iaload, 1) := by decide +kernel
theorem dX9_back_57 : decode cX9_back 57 = .ok (.invokevirtual 249, 3) := by decide +kernel
theorem dX9_back_60 : decode cX9_back 60 = .ok (.iinc 1 1, 3) := by decide +kernel
theorem dX9_back_63 : decode cX9_back 63 = .ok (.goto (-31), 3) := by decide +kernel
theorem dX9_back_66 : decode cX9_back 66 = .ok (.aload_n 0, 1) := by decide +kernel
theorem dX9_back_67 : decode cX9_back 67 = .ok (.getfield 73, 3) := by decide +kernel
theorem dX9_back_70 : decode cX9_back 70 = .ok (.aload_n 0, 1) := by decide +kernel
theorem dX9_back_71 : decode cX9_back 71 = .ok (.getfield 326, 3) := by decide +kernel
theorem dX9_back_74 : decode cX9_back 74 = .ok (.aload_n 0, 1) := by decide +kernel
theorem dX9_back_75 : decode cX9_back 75 = .ok (.getfield 14, 3) := by decide +kernel
theorem dX9_back_78 : decode cX9_back 78 = .ok (.invokevirtual 253, 3) := by decide +kernel
theorem dX9_back_81 : decode cX9_back 81 = .ok (.aload_n 0, 1) := by decide +kernel
theorem dX9_back_82 : decode cX9_back 82 = .ok (.iconst 0, 1) := by decide +kernel
theorem dX9_back_83 : decode cX9_back 83 = .ok (.putfield 135, 3) := by decide +kernel
theorem dX9_back_86 : decode cX9_back 86 = .ok (.aload_n 0, 1) := by decide +kernel
theorem dX9_back_87 : decode cX9_back 87 = .ok (.aload_n 0, 1) := by decide +kernel
theorem dX9_back_88 : decode cX9_back 88 = .ok (.getfield 14, 3) := by decide +kernel
theorem dX9_back_91 : decode cX9_back 91 = .ok (.invokevirtual 243, 3) := by decide +kernel
theorem dX9_back_94 : decode cX9_back 94 = .ok (.ireturn, 1) := by decide +kernel
theorem dX9_told_0 : decode cX9_told 0 = .ok (.iload_n 1, 1) := by decide +kernel
theorem dX9_told_1 : decode cX9_told 1 = .ok (.tableswitch 51 0 3 #[31, 36, 41, 46], 31) := by decide +kernel
theorem dX9_told_32 : decode cX9_told 32 = .ok (.aload_n 0, 1) := by decide +kernel
theorem dX9_told_33 : decode cX9_told 33 = .ok (.getfield 135, 3) := by decide +kernel
theorem dX9_told_36 : decode cX9_told 36 = .ok (.ireturn, 1) := by decide +kernel
theorem dX9_told_37 : decode cX9_told 37 = .ok (.aload_n 0, 1) := by decide +kernel
theorem dX9_told_38 : decode cX9_told 38 = .ok (.getfield 337, 3) := by decide +kernel
theorem dX9_told_41 : decode cX9_told 41 = .ok (.ireturn, 1) := by decide +kernel
theorem dX9_told_42 : decode cX9_told 42 = .ok (.aload_n 0, 1) := by decide +kernel
theorem dX9_told_43 : decode cX9_told 43 = .ok (.getfield 340, 3) := by decide +kernel
theorem dX9_told_46 : decode cX9_told 46 = .ok (.ireturn, 1) := by decide +kernel
theorem dX9_told_47 : decode cX9_told 47 = .ok (.aload_n 0, 1) := by decide +kernel
theorem dX9_told_48 : decode cX9_told 48 = .ok (.getfield 326, 3) := by decide +kernel
theorem dX9_told_51 : decode cX9_told 51 = .ok (.ireturn, 1) := by decide +kernel
theorem dX9_told_52 : decode cX9_told 52 = .ok (.new 180, 3) := by decide +kernel
theorem dX9_told_55 : decode cX9_told 55 = .ok (.dup, 1) := by decide +kernel
theorem dX9_told_56 : decode cX9_told 56 = .ok (.ldc_w 343, 3) := by decide +kernel
theorem dX9_told_59 : decode cX9_told 59 = .ok (.invokespecial 184, 3) := by decide +kernel
theorem dX9_told_62 : decode cX9_told 62 = .ok (.athrow, 1) := by decide +kernel
theorem dX9_needMember_0 : decode cX9_needMember 0 = .ok (.iload_n 1, 1) := by decide +kernel
theorem dX9_needMember_1 : decode cX9_needMember 1 = .ok (.ifCond .lt 14, 3) := by decide +kernel
theorem dX9_needMember_4 : decode cX9_needMember 4 = .ok (.iload_n 1, 1) := by decide +kernel
theorem dX9_needMember_5 : decode cX9_needMember 5 = .ok (.aload_n 0, 1) := by decide +kernel
theorem dX9_needMember_6 : decode cX9_needMember 6 = .ok (.getfield 43, 3) := by decide +kernel
theorem dX9_needMember_9 : decode cX9_needMember 9 = .ok (.getfield 301, 3) := by decide +kernel
theorem dX9_needMember_12 : decode cX9_needMember 12 = .ok (.if_icmp .lt 14, 3) := by decide +kernel
theorem dX9_needMember_15 : decode cX9_needMember 15 = .ok (.new 180, 3) := by decide +kernel
theorem dX9_needMember_18 : decode cX9_needMember 18 = .ok (.dup, 1) := by decide +kernel
theorem dX9_needMember_19 : decode cX9_needMember 19 = .ok (.ldc_w 345, 3) := by decide +kernel
theorem dX9_needMember_22 : decode cX9_needMember 22 = .ok (.invokespecial 184, 3) := by decide +kernel
theorem dX9_needMember_25 : decode cX9_needMember 25 = .ok (.athrow, 1) := by decide +kernel
theorem dX9_needMember_26 : decode cX9_needMember 26 = .ok (.return_, 1) := by decide +kernel
theorem dX9_needSides_0 : decode cX9_needSides 0 = .ok (.iload_n 0, 1) := by decide +kernel
theorem dX9_needSides_1 : decode cX9_needSides 1 = .ok (.iconst 1, 1) := by decide +kernel
theorem dX9_needSides_2 : decode cX9_needSides 2 = .ok (.if_icmp .lt 20, 3) := by decide +kernel
theorem dX9_needSides_5 : decode cX9_needSides 5 = .ok (.iload_n 0, 1) := by decide +kernel
theorem dX9_needSides_6 : decode cX9_needSides 6 = .ok (.bipush 8, 2) := by decide +kernel
theorem dX9_needSides_8 : decode cX9_needSides 8 = .ok (.if_icmp .gt 14, 3) := by decide +kernel
theorem dX9_needSides_11 : decode cX9_needSides 11 = .ok (.iload_n 1, 1) := by decide +kernel
theorem dX9_needSides_12 : decode cX9_needSides 12 = .ok (.iconst 1, 1) := by decide +kernel
theorem dX9_needSides_13 : decode cX9_needSides 13 = .ok (.if_icmp .lt 9, 3) := by decide +kernel
theorem dX9_needSides_16 : decode cX9_needSides 16 = .ok (.iload_n 1, 1) := by decide +kernel
theorem dX9_needSides_17 : decode cX9_needSides 17 = .ok (.bipush 8, 2) := by decide +kernel
theorem dX9_needSides_19 : decode cX9_needSides 19 = .ok (.if_icmp .le 14, 3) := by decide +kernel
theorem dX9_needSides_22 : decode cX9_needSides 22 = .ok (.new 180, 3) := by decide +kernel
theorem dX9_needSides_25 : decode cX9_needSides 25 = .ok (.dup, 1) := by decide +kernel
theorem dX9_needSides_26 : decode cX9_needSides 26 = .ok (.ldc_w 347, 3) := by decide +kernel
theorem dX9_needSides_29 : decode cX9_needSides 29 = .ok (.invokespecial 184, 3) := by decide +kernel
theorem dX9_needSides_32 : decode cX9_needSides 32 = .ok (.athrow, 1) := by decide +kernel
theorem dX9_needSides_33 : decode cX9_needSides 33 = .ok (.return_, 1) := by decide +kernel
theorem dX9_needSquare_0 : decode cX9_needSquare 0 = .ok (.aload_n 0, 1) := by decide +kernel
theorem dX9_needSquare_1 : decode cX9_needSquare 1 = .ok (.getfield 185, 3) := by decide +kernel
theorem dX9_needSquare_4 : decode cX9_needSquare 4 = .ok (.aload_n 0, 1) := by decide +kernel
theorem dX9_needSquare_5 : decode cX9_needSquare 5 = .ok (.getfield 188, 3) := by decide +kernel
theorem dX9_needSquare_8 : decode cX9_needSquare 8 = .ok (.if_icmp .eq 14, 3) := by decide +kernel
theorem dX9_needSquare_11 : decode cX9_needSquare 11 = .ok (.new 163, 3) := by decide +kernel
theorem dX9_needSquare_14 : decode cX9_needSquare 14 = .ok (.dup, 1) := by decide +kernel
theorem dX9_needSquare_15 : decode cX9_needSquare 15 = .ok (.ldc_w 349, 3) := by decide +kernel
theorem dX9_needSquare_18 : decode cX9_needSquare 18 = .ok (.invokespecial 167, 3) := by decide +kernel
theorem dX9_needSquare_21 : decode cX9_needSquare 21 = .ok (.athrow, 1) := by decide +kernel
theorem dX9_needSquare_22 : decode cX9_needSquare 22 = .ok (.return_, 1) := by decide +kernel
theorem dX9_needMatrixRoom_0 : decode cX9_needMatrixRoom 0 = .ok (.aload_n 0, 1) := by decide +kernel
theorem dX9_needMatrixRoom_1 : decode cX9_needMatrixRoom 1 = .ok (.getfield 337, 3) := by decide +kernel
theorem dX9_needMatrixRoom_4 : decode cX9_needMatrixRoom 4 = .ok (.bipush 40, 2) := by decide +kernel
theorem dX9_needMatrixRoom_6 : decode cX9_needMatrixRoom 6 = .ok (.if_icmp .lt 14, 3) := by decide +kernel
theorem dX9_needMatrixRoom_9 : decode cX9_needMatrixRoom 9 = .ok (.new 138, 3) := by decide +kernel
theorem dX9_needMatrixRoom_12 : decode cX9_needMatrixRoom 12 = .ok (.dup, 1) := by decide +kernel
theorem dX9_needMatrixRoom_13 : decode cX9_needMatrixRoom 13 = .ok (.ldc_w 351, 3) := by decide +kernel
theorem dX9_needMatrixRoom_16 : decode cX9_needMatrixRoom 16 = .ok (.invokespecial 142, 3) := by decide +kernel
theorem dX9_needMatrixRoom_19 : decode cX9_needMatrixRoom 19 = .ok (.athrow, 1) := by decide +kernel
theorem dX9_needMatrixRoom_20 : decode cX9_needMatrixRoom 20 = .ok (.return_, 1) := by decide +kernel
theorem dX9_needPolynomialRoom_0 : decode cX9_needPolynomialRoom 0 = .ok (.aload_n 0, 1) := by decide +kernel
theorem dX9_needPolynomialRoom_1 : decode cX9_needPolynomialRoom 1 = .ok (.getfield 340, 3) := by decide +kernel
theorem dX9_needPolynomialRoom_4 : decode cX9_needPolynomialRoom 4 = .ok (.bipush 40, 2) := by decide +kernel
theorem dX9_needPolynomialRoom_6 : decode cX9_needPolynomialRoom 6 = .ok (.if_icmp .lt 14, 3) := by decide +kernel
theorem dX9_needPolynomialRoom_9 : decode cX9_needPolynomialRoom 9 = .ok (.new 138, 3) := by decide +kernel
theorem dX9_needPolynomialRoom_12 : decode cX9_needPolynomialRoom 12 = .ok (.dup, 1) := by decide +kernel
theorem dX9_needPolynomialRoom_13 : decode cX9_needPolynomialRoom 13 = .ok (.ldc_w 353, 3) := by decide +kernel
theorem dX9_needPolynomialRoom_16 : decode cX9_needPolynomialRoom 16 = .ok (.invokespecial 142, 3) := by decide +kernel
theorem dX9_needPolynomialRoom_19 : decode cX9_needPolynomialRoom 19 = .ok (.athrow, 1) := by decide +kernel
theorem dX9_needPolynomialRoom_20 : decode cX9_needPolynomialRoom 20 = .ok (.return_, 1) := by decide +kernel
theorem dX9_needSpan_0 : decode cX9_needSpan 0 = .ok (.aload_n 0, 1) := by decide +kernel
theorem dX9_needSpan_1 : decode cX9_needSpan 1 = .ok (.getfield 326, 3) := by decide +kernel
theorem dX9_needSpan_4 : decode cX9_needSpan 4 = .ok (.ifCond .ne 14, 3) := by decide +kernel
theorem dX9_needSpan_7 : decode cX9_needSpan 7 = .ok (.new 163, 3) := by decide +kernel
theorem dX9_needSpan_10 : decode cX9_needSpan 10 = .ok (.dup, 1) := by decide +kernel
theorem dX9_needSpan_11 : decode cX9_needSpan 11 = .ok (.ldc_w 355, 3) := by decide +kernel
theorem dX9_needSpan_14 : decode cX9_needSpan 14 = .ok (.invokespecial 167, 3) := by decide +kernel
theorem dX9_needSpan_17 : decode cX9_needSpan 17 = .ok (.athrow, 1) := by decide +kernel
theorem dX9_needSpan_18 : decode cX9_needSpan 18 = .ok (.return_, 1) := by decide +kernel
theorem dX9_matrixAt_0 : decode cX9_matrixAt 0 = .ok (.iload_n 1, 1) := by decide +kernel
theorem dX9_matrixAt_1 : decode cX9_matrixAt 1 = .ok (.ifCond .lt 20, 3) := by decide +kernel
theorem dX9_matrixAt_4 : decode cX9_matrixAt 4 = .ok (.iload_n 1, 1) := by decide +kernel
theorem dX9_matrixAt_5 : decode cX9_matrixAt 5 = .ok (.aload_n 0, 1) := by decide +kernel
theorem dX9_matrixAt_6 : decode cX9_matrixAt 6 = .ok (.getfield 337, 3) := by decide +kernel
theorem dX9_matrixAt_9 : decode cX9_matrixAt 9 = .ok (.if_icmp .ge 12, 3) := by decide +kernel
theorem dX9_matrixAt_12 : decode cX9_matrixAt 12 = .ok (.aload_n 0, 1) := by decide +kernel
theorem dX9_matrixAt_13 : decode cX9_matrixAt 13 = .ok (.getfield 27, 3) := by decide +kernel
theorem dX9_matrixAt_16 : decode cX9_matrixAt 16 = .ok (.iload_n 1, 1) := by decide +kernel
theorem dX9_matrixAt_17 : decode cX9_matrixAt 17 = .ok (.aaload, 1) := by decide +kernel
theorem dX9_matrixAt_18 : decode cX9_matrixAt 18 = .ok (.goto 4, 3) := by decide +kernel
theorem dX9_matrixAt_21 : decode cX9_matrixAt 21 = .ok (.aconst_null, 1) := by decide +kernel
theorem dX9_matrixAt_22 : decode cX9_matrixAt 22 = .ok (.astore_n 2, 1) := by decide +kernel
theorem dX9_matrixAt_23 : decode cX9_matrixAt 23 = .ok (.aload_n 2, 1) := by decide +kernel
theorem dX9_matrixAt_24 : decode cX9_matrixAt 24 = .ok (.ifnonnull 14, 3) := by decide +kernel
theorem dX9_matrixAt_27 : decode cX9_matrixAt 27 = .ok (.new 143, 3) := by decide +kernel
theorem dX9_matrixAt_30 : decode cX9_matrixAt 30 = .ok (.dup, 1) := by decide +kernel
theorem dX9_matrixAt_31 : decode cX9_matrixAt 31 = .ok (.ldc_w 357, 3) := by decide +kernel
theorem dX9_matrixAt_34 : decode cX9_matrixAt 34 = .ok (.invokespecial 147, 3) := by decide +kernel
theorem dX9_matrixAt_37 : decode cX9_matrixAt 37 = .ok (.athrow, 1) := by decide +kernel
theorem dX9_matrixAt_38 : decode cX9_matrixAt 38 = .ok (.aload_n 2, 1) := by decide +kernel
theorem dX9_matrixAt_39 : decode cX9_matrixAt 39 = .ok (.areturn, 1) := by decide +kernel
theorem dX9_placeIn_0 : decode cX9_placeIn 0 = .ok (.iload_n 1, 1) := by decide +kernel
theorem dX9_placeIn_1 : decode cX9_placeIn 1 = .ok (.ifCond .lt 23, 3) := by decide +kernel
theorem dX9_placeIn_4 : decode cX9_placeIn 4 = .ok (.iload_n 1, 1) := by decide +kernel
theorem dX9_placeIn_5 : decode cX9_placeIn 5 = .ok (.aload_n 0, 1) := by decide +kernel
theorem dX9_placeIn_6 : decode cX9_placeIn 6 = .ok (.getfield 185, 3) := by decide +kernel
theorem dX9_placeIn_9 : decode cX9_placeIn 9 = .ok (.if_icmp .ge 15, 3) := by decide +kernel
theorem dX9_placeIn_12 : decode cX9_placeIn 12 = .ok (.iload_n 2, 1) := by decide +kernel
theorem dX9_placeIn_13 : decode cX9_placeIn 13 = .ok (.ifCond .lt 11, 3) := by decide +kernel
theorem dX9_placeIn_16 : decode cX9_placeIn 16 = .ok (.iload_n 2, 1) := by decide +kernel
theorem dX9_placeIn_17 : decode cX9_placeIn 17 = .ok (.aload_n 0, 1) := by decide +kernel
theorem dX9_placeIn_18 : decode cX9_placeIn 18 = .ok (.getfield 188, 3) := by decide +kernel
theorem dX9_placeIn_21 : decode cX9_placeIn 21 = .ok (.if_icmp .lt 14, 3) := by decide +kernel
theorem dX9_placeIn_24 : decode cX9_placeIn 24 = .ok (.new 143, 3) := by decide +kernel
theorem dX9_placeIn_27 : decode cX9_placeIn 27 = .ok (.dup, 1) := by decide +kernel
theorem dX9_placeIn_28 : decode cX9_placeIn 28 = .ok (.ldc_w 359, 3) := by decide +kernel
theorem dX9_placeIn_31 : decode cX9_placeIn 31 = .ok (.invokespecial 147, 3) := by decide +kernel
theorem dX9_placeIn_34 : decode cX9_placeIn 34 = .ok (.athrow, 1) := by decide +kernel
theorem dX9_placeIn_35 : decode cX9_placeIn 35 = .ok (.iload_n 1, 1) := by decide +kernel
theorem dX9_placeIn_36 : decode cX9_placeIn 36 = .ok (.aload_n 0, 1) := by decide +kernel
theorem dX9_placeIn_37 : decode cX9_placeIn 37 = .ok (.getfield 188, 3) := by decide +kernel
theorem dX9_placeIn_40 : decode cX9_placeIn 40 = .ok (.imul, 1) := by decide +kernel
theorem dX9_placeIn_41 : decode cX9_placeIn 41 = .ok (.iload_n 2, 1) := by decide +kernel
theorem dX9_placeIn_42 : decode cX9_placeIn 42 = .ok (.iadd, 1) := by decide +kernel
theorem dX9_placeIn_43 : decode cX9_placeIn 43 = .ok (.ireturn, 1) := by decide +kernel
theorem dX9_polynomialAt_0 : decode cX9_polynomialAt 0 = .ok (.iload_n 1, 1) := by decide +kernel
theorem dX9_polynomialAt_1 : decode cX9_polynomialAt 1 = .ok (.ifCond .lt 20, 3) := by decide +kernel
theorem dX9_polynomialAt_4 : decode cX9_polynomialAt 4 = .ok (.iload_n 1, 1) := by decide +kernel
theorem dX9_polynomialAt_5 : decode cX9_polynomialAt 5 = .ok (.aload_n 0, 1) := by decide +kernel
theorem dX9_polynomialAt_6 : decode cX9_polynomialAt 6 = .ok (.getfield 340, 3) := by decide +kernel
theorem dX9_polynomialAt_9 : decode cX9_polynomialAt 9 = .ok (.if_icmp .ge 12, 3) := by decide +kernel
theorem dX9_polynomialAt_12 : decode cX9_polynomialAt 12 = .ok (.aload_n 0, 1) := by decide +kernel
theorem dX9_polynomialAt_13 : decode cX9_polynomialAt 13 = .ok (.getfield 31, 3) := by decide +kernel
theorem dX9_polynomialAt_16 : decode cX9_polynomialAt 16 = .ok (.iload_n 1, 1) := by decide +kernel
theorem dX9_polynomialAt_17 : decode cX9_polynomialAt 17 = .ok (.aaload, 1) := by decide +kernel
theorem dX9_polynomialAt_18 : decode cX9_polynomialAt 18 = .ok (.goto 4, 3) := by decide +kernel
theorem dX9_polynomialAt_21 : decode cX9_polynomialAt 21 = .ok (.aconst_null, 1) := by decide +kernel
theorem dX9_polynomialAt_22 : decode cX9_polynomialAt 22 = .ok (.astore_n 2, 1) := by decide +kernel
theorem dX9_polynomialAt_23 : decode cX9_polynomialAt 23 = .ok (.aload_n 2, 1) := by decide +kernel
theorem dX9_polynomialAt_24 : decode cX9_polynomialAt 24 = .ok (.ifnonnull 14, 3) := by decide +kernel
theorem dX9_polynomialAt_27 : decode cX9_polynomialAt 27 = .ok (.new 143, 3) := by decide +kernel
theorem dX9_polynomialAt_30 : decode cX9_polynomialAt 30 = .ok (.dup, 1) := by decide +kernel
theorem dX9_polynomialAt_31 : decode cX9_polynomialAt 31 = .ok (.ldc_w 361, 3) := by decide +kernel
theorem dX9_polynomialAt_34 : decode cX9_polynomialAt 34 = .ok (.invokespecial 147, 3) := by decide +kernel
theorem dX9_polynomialAt_37 : decode cX9_polynomialAt 37 = .ok (.athrow, 1) := by decide +kernel
theorem dX9_polynomialAt_38 : decode cX9_polynomialAt 38 = .ok (.aload_n 2, 1) := by decide +kernel
theorem dX9_polynomialAt_39 : decode cX9_polynomialAt 39 = .ok (.areturn, 1) := by decide +kernel
theorem dX9_keepMatrix_0 : decode cX9_keepMatrix 0 = .ok (.aload_n 0, 1) := by decide +kernel
theorem dX9_keepMatrix_1 : decode cX9_keepMatrix 1 = .ok (.getfield 337, 3) := by decide +kernel
theorem dX9_keepMatrix_4 : decode cX9_keepMatrix 4 = .ok (.istore_n 2, 1) := by decide +kernel
theorem dX9_keepMatrix_5 : decode cX9_keepMatrix 5 = .ok (.aload_n 0, 1) := by decide +kernel
theorem dX9_keepMatrix_6 : decode cX9_keepMatrix 6 = .ok (.getfield 27, 3) := by decide +kernel
theorem dX9_keepMatrix_9 : decode cX9_keepMatrix 9 = .ok (.iload_n 2, 1) := by decide +kernel
theorem dX9_keepMatrix_10 : decode cX9_keepMatrix 10 = .ok (.aload_n 1, 1) := by decide +kernel
theorem dX9_keepMatrix_11 : decode cX9_keepMatrix 11 = .ok (.aastore, 1) := by decide +kernel
theorem dX9_keepMatrix_12 : decode cX9_keepMatrix 12 = .ok (.aload_n 0, 1) := by decide +kernel
theorem dX9_keepMatrix_13 : decode cX9_keepMatrix 13 = .ok (.dup, 1) := by decide +kernel
theorem dX9_keepMatrix_14 : decode cX9_keepMatrix 14 = .ok (.getfield 337, 3) := by decide +kernel
theorem dX9_keepMatrix_17 : decode cX9_keepMatrix 17 = .ok (.iconst 1, 1) := by decide +kernel
theorem dX9_keepMatrix_18 : decode cX9_keepMatrix 18 = .ok (.iadd, 1) := by decide +kernel
theorem dX9_keepMatrix_19 : decode cX9_keepMatrix 19 = .ok (.putfield 337, 3) := by decide +kernel
theorem dX9_keepMatrix_22 : decode cX9_keepMatrix 22 = .ok (.iload_n 2, 1) := by decide +kernel
theorem dX9_keepMatrix_23 : decode cX9_keepMatrix 23 = .ok (.ireturn, 1) := by decide +kernel
theorem dX9_keepPolynomial_0 : decode cX9_keepPolynomial 0 = .ok (.new 9, 3) := by decide +kernel
theorem dX9_keepPolynomial_3 : decode cX9_keepPolynomial 3 = .ok (.dup, 1) := by decide +kernel
theorem dX9_keepPolynomial_4 : decode cX9_keepPolynomial 4 = .ok (.bipush 65, 2) := by decide +kernel
theorem dX9_keepPolynomial_6 : decode cX9_keepPolynomial 6 = .ok (.invokespecial 11, 3) := by decide +kernel
theorem dX9_keepPolynomial_9 : decode cX9_keepPolynomial 9 = .ok (.astore_n 2, 1) := by decide +kernel
theorem dX9_keepPolynomial_10 : decode cX9_keepPolynomial 10 = .ok (.aload_n 2, 1) := by decide +kernel
theorem dX9_keepPolynomial_11 : decode cX9_keepPolynomial 11 = .ok (.aload_n 1, 1) := by decide +kernel
theorem dX9_keepPolynomial_12 : decode cX9_keepPolynomial 12 = .ok (.invokevirtual 273, 3) := by decide +kernel
theorem dX9_keepPolynomial_15 : decode cX9_keepPolynomial 15 = .ok (.aload_n 0, 1) := by decide +kernel
theorem dX9_keepPolynomial_16 : decode cX9_keepPolynomial 16 = .ok (.getfield 340, 3) := by decide +kernel
theorem dX9_keepPolynomial_19 : decode cX9_keepPolynomial 19 = .ok (.istore_n 3, 1) := by decide +kernel
theorem dX9_keepPolynomial_20 : decode cX9_keepPolynomial 20 = .ok (.aload_n 0, 1) := by decide +kernel
theorem dX9_keepPolynomial_21 : decode cX9_keepPolynomial 21 = .ok (.getfield 31, 3) := by decide +kernel
theorem dX9_keepPolynomial_24 : decode cX9_keepPolynomial 24 = .ok (.iload_n 3, 1) := by decide +kernel
theorem dX9_keepPolynomial_25 : decode cX9_keepPolynomial 25 = .ok (.aload_n 2, 1) := by decide +kernel
theorem dX9_keepPolynomial_26 : decode cX9_keepPolynomial 26 = .ok (.aastore, 1) := by decide +kernel
theorem dX9_keepPolynomial_27 : decode cX9_keepPolynomial 27 = .ok (.aload_n 0, 1) := by decide +kernel
theorem dX9_keepPolynomial_28 : decode cX9_keepPolynomial 28 = .ok (.dup, 1) := by decide +kernel
theorem dX9_keepPolynomial_29 : decode cX9_keepPolynomial 29 = .ok (.getfield 340, 3) := by decide +kernel
theorem dX9_keepPolynomial_32 : decode cX9_keepPolynomial 32 = .ok (.iconst 1, 1) := by decide +kernel
theorem dX9_keepPolynomial_33 : decode cX9_keepPolynomial 33 = .ok (.iadd, 1) := by decide +kernel
theorem dX9_keepPolynomial_34 : decode cX9_keepPolynomial 34 = .ok (.putfield 340, 3) := by decide +kernel
theorem dX9_keepPolynomial_37 : decode cX9_keepPolynomial 37 = .ok (.iload_n 3, 1) := by decide +kernel
theorem dX9_keepPolynomial_38 : decode cX9_keepPolynomial 38 = .ok (.ireturn, 1) := by decide +kernel
theorem dX9_hasAlike_0 : decode cX9_hasAlike 0 = .ok (.iconst 0, 1) := by decide +kernel
theorem dX9_hasAlike_1 : decode cX9_hasAlike 1 = .ok (.istore_n 2, 1) := by decide +kernel
theorem dX9_hasAlike_2 : decode cX9_hasAlike 2 = .ok (.iload_n 2, 1) := by decide +kernel
theorem dX9_hasAlike_3 : decode cX9_hasAlike 3 = .ok (.aload_n 0, 1) := by decide +kernel
theorem dX9_hasAlike_4 : decode cX9_hasAlike 4 = .ok (.getfield 135, 3) := by decide +kernel
theorem dX9_hasAlike_7 : decode cX9_hasAlike 7 = .ok (.if_icmp .ge 41, 3) := by decide +kernel
theorem dX9_hasAlike_10 : decode cX9_hasAlike 10 = .ok (.iconst 0, 1) := by decide +kernel
theorem dX9_hasAlike_11 : decode cX9_hasAlike 11 = .ok (.istore_n 3, 1) := by decide +kernel
theorem dX9_hasAlike_12 : decode cX9_hasAlike 12 = .ok (.iload_n 3, 1) := by decide +kernel
theorem dX9_hasAlike_13 : decode cX9_hasAlike 13 = .ok (.iload_n 2, 1) := by decide +kernel
theorem dX9_hasAlike_14 : decode cX9_hasAlike 14 = .ok (.if_icmp .ge 27, 3) := by decide +kernel
theorem dX9_hasAlike_17 : decode cX9_hasAlike 17 = .ok (.aload_n 0, 1) := by decide +kernel
theorem dX9_hasAlike_18 : decode cX9_hasAlike 18 = .ok (.getfield 21, 3) := by decide +kernel
theorem dX9_hasAlike_21 : decode cX9_hasAlike 21 = .ok (.iload_n 2, 1) := by decide +kernel
theorem dX9_hasAlike_22 : decode cX9_hasAlike 22 = .ok (.iaload, 1) := by decide +kernel
theorem dX9_hasAlike_23 : decode cX9_hasAlike 23 = .ok (.aload_n 0, 1) := by decide +kernel
theorem dX9_hasAlike_24 : decode cX9_hasAlike 24 = .ok (.getfield 21, 3) := by decide +kernel
theorem dX9_hasAlike_27 : decode cX9_hasAlike 27 = .ok (.iload_n 3, 1) := by decide +kernel
theorem dX9_hasAlike_28 : decode cX9_hasAlike 28 = .ok (.iaload, 1) := by decide +kernel
theorem dX9_hasAlike_29 : decode cX9_hasAlike 29 = .ok (.if_icmp .ne 5, 3) := by decide +kernel
theorem dX9_hasAlike_32 : decode cX9_hasAlike 32 = .ok (.iconst 1, 1) := by decide +kernel
theorem dX9_hasAlike_33 : decode cX9_hasAlike 33 = .ok (.ireturn, 1) := by decide +kernel
theorem dX9_hasAlike_34 : decode cX9_hasAlike 34 = .ok (.iload_n 3, 1) := by decide +kernel
theorem dX9_hasAlike_35 : decode cX9_hasAlike 35 = .ok (.iload_n 1, 1) := by decide +kernel
theorem dX9_hasAlike_36 : decode cX9_hasAlike 36 = .ok (.iadd, 1) := by decide +kernel
theorem dX9_hasAlike_37 : decode cX9_hasAlike 37 = .ok (.istore_n 3, 1) := by decide +kernel
theorem dX9_hasAlike_38 : decode cX9_hasAlike 38 = .ok (.goto (-26), 3) := by decide +kernel
theorem dX9_hasAlike_41 : decode cX9_hasAlike 41 = .ok (.iload_n 2, 1) := by decide +kernel
theorem dX9_hasAlike_42 : decode cX9_hasAlike 42 = .ok (.iload_n 1, 1) := by decide +kernel
theorem dX9_hasAlike_43 : decode cX9_hasAlike 43 = .ok (.iadd, 1) := by decide +kernel
theorem dX9_hasAlike_44 : decode cX9_hasAlike 44 = .ok (.istore_n 2, 1) := by decide +kernel
theorem dX9_hasAlike_45 : decode cX9_hasAlike 45 = .ok (.goto (-43), 3) := by decide +kernel
theorem dX9_hasAlike_48 : decode cX9_hasAlike 48 = .ok (.iconst 0, 1) := by decide +kernel
theorem dX9_hasAlike_49 : decode cX9_hasAlike 49 = .ok (.ireturn, 1) := by decide +kernel
theorem dX9_hasXorOfAhead_0 : decode cX9_hasXorOfAhead 0 = .ok (.iconst 0, 1) := by decide +kernel
theorem dX9_hasXorOfAhead_1 : decode cX9_hasXorOfAhead 1 = .ok (.istore_n 1, 1) := by decide +kernel
theorem dX9_hasXorOfAhead_2 : decode cX9_hasXorOfAhead 2 = .ok (.iload_n 1, 1) := by decide +kernel
theorem dX9_hasXorOfAhead_3 : decode cX9_hasXorOfAhead 3 = .ok (.aload_n 0, 1) := by decide +kernel
theorem dX9_hasXorOfAhead_4 : decode cX9_hasXorOfAhead 4 = .ok (.getfield 135, 3) := by decide +kernel
theorem dX9_hasXorOfAhead_7 : decode cX9_hasXorOfAhead 7 = .ok (.if_icmp .ge 41, 3) := by decide +kernel
theorem dX9_hasXorOfAhead_10 : decode cX9_hasXorOfAhead 10 = .ok (.iconst 0, 1) := by decide +kernel
theorem dX9_hasXorOfAhead_11 : decode cX9_hasXorOfAhead 11 = .ok (.istore_n 2, 1) := by decide +kernel
theorem dX9_hasXorOfAhead_12 : decode cX9_hasXorOfAhead 12 = .ok (.iload_n 2, 1) := by decide +kernel
theorem dX9_hasXorOfAhead_13 : decode cX9_hasXorOfAhead 13 = .ok (.iconst 1, 1) := by decide +kernel
theorem dX9_hasXorOfAhead_14 : decode cX9_hasXorOfAhead 14 = .ok (.iload_n 1, 1) := by decide +kernel
theorem dX9_hasXorOfAhead_15 : decode cX9_hasXorOfAhead 15 = .ok (.ishl, 1) := by decide +kernel
theorem dX9_hasXorOfAhead_16 : decode cX9_hasXorOfAhead 16 = .ok (.if_icmp .ge 26, 3) := by decide +kernel
theorem dX9_hasXorOfAhead_19 : decode cX9_hasXorOfAhead 19 = .ok (.aload_n 0, 1) := by decide +kernel
theorem dX9_hasXorOfAhead_20 : decode cX9_hasXorOfAhead 20 = .ok (.iload_n 2, 1) := by decide +kernel
theorem dX9_hasXorOfAhead_21 : decode cX9_hasXorOfAhead 21 = .ok (.iload_n 1, 1) := by decide +kernel
theorem dX9_hasXorOfAhead_22 : decode cX9_hasXorOfAhead 22 = .ok (.invokevirtual 329, 3) := by decide +kernel
theorem dX9_hasXorOfAhead_25 : decode cX9_hasXorOfAhead 25 = .ok (.aload_n 0, 1) := by decide +kernel
theorem dX9_hasXorOfAhead_26 : decode cX9_hasXorOfAhead 26 = .ok (.getfield 21, 3) := by decide +kernel
theorem dX9_hasXorOfAhead_29 : decode cX9_hasXorOfAhead 29 = .ok (.iload_n 1, 1) := by decide +kernel
theorem dX9_hasXorOfAhead_30 : decode cX9_hasXorOfAhead 30 = .ok (.iaload, 1) := by decide +kernel
theorem dX9_hasXorOfAhead_31 : decode cX9_hasXorOfAhead 31 = .ok (.if_icmp .ne 5, 3) := by decide +kernel
theorem dX9_hasXorOfAhead_34 : decode cX9_hasXorOfAhead 34 = .ok (.iconst 1, 1) := by decide +kernel
theorem dX9_hasXorOfAhead_35 : decode cX9_hasXorOfAhead 35 = .ok (.ireturn, 1) := by decide +kernel
theorem dX9_hasXorOfAhead_36 : decode cX9_hasXorOfAhead 36 = .ok (.iinc 2 1, 3) := by decide +kernel
theorem dX9_hasXorOfAhead_39 : decode cX9_hasXorOfAhead 39 = .ok (.goto (-27), 3) := by decide +kernel
theorem dX9_hasXorOfAhead_42 : decode cX9_hasXorOfAhead 42 = .ok (.iinc 1 1, 3) := by decide +kernel
theorem dX9_hasXorOfAhead_45 : decode cX9_hasXorOfAhead 45 = .ok (.goto (-43), 3) := by decide +kernel
theorem dX9_hasXorOfAhead_48 : decode cX9_hasXorOfAhead 48 = .ok (.iconst 0, 1) := by decide +kernel
theorem dX9_hasXorOfAhead_49 : decode cX9_hasXorOfAhead 49 = .ok (.ireturn, 1) := by decide +kernel
theorem dX9_xorOfChosen_0 : decode cX9_xorOfChosen 0 = .ok (.iconst 0, 1) := by decide +kernel
theorem dX9_xorOfChosen_1 : decode cX9_xorOfChosen 1 = .ok (.istore_n 3, 1) := by decide +kernel
theorem dX9_xorOfChosen_2 : decode cX9_xorOfChosen 2 = .ok (.iconst 0, 1) := by decide +kernel
theorem dX9_xorOfChosen_3 : decode cX9_xorOfChosen 3 = .ok (.istore 4, 2) := by decide +kernel
theorem dX9_xorOfChosen_5 : decode cX9_xorOfChosen 5 = .ok (.iload 4, 2) := by decide +kernel
theorem dX9_xorOfChosen_7 : decode cX9_xorOfChosen 7 = .ok (.iload_n 2, 1) := by decide +kernel
theorem dX9_xorOfChosen_8 : decode cX9_xorOfChosen 8 = .ok (.if_icmp .ge 28, 3) := by decide +kernel
theorem dX9_xorOfChosen_11 : decode cX9_xorOfChosen 11 = .ok (.iload_n 1, 1) := by decide +kernel
theorem dX9_xorOfChosen_12 : decode cX9_xorOfChosen 12 = .ok (.iload 4, 2) := by decide +kernel
theorem dX9_xorOfChosen_14 : decode cX9_xorOfChosen 14 = .ok (.ishr, 1) := by decide +kernel
theorem dX9_xorOfChosen_15 : decode cX9_xorOfChosen 15 = .ok (.iconst 1, 1) := by decide +kernel
theorem dX9_xorOfChosen_16 : decode cX9_xorOfChosen 16 = .ok (.iand, 1) := by decide +kernel
theorem dX9_xorOfChosen_17 : decode cX9_xorOfChosen 17 = .ok (.ifCond .eq 13, 3) := by decide +kernel
theorem dX9_xorOfChosen_20 : decode cX9_xorOfChosen 20 = .ok (.iload_n 3, 1) := by decide +kernel
theorem dX9_xorOfChosen_21 : decode cX9_xorOfChosen 21 = .ok (.aload_n 0, 1) := by decide +kernel
theorem dX9_xorOfChosen_22 : decode cX9_xorOfChosen 22 = .ok (.getfield 21, 3) := by decide +kernel
theorem dX9_xorOfChosen_25 : decode cX9_xorOfChosen 25 = .ok (.iload 4, 2) := by decide +kernel
theorem dX9_xorOfChosen_27 : decode cX9_xorOfChosen 27 = .ok (.iaload, 1) := by decide +kernel
theorem dX9_xorOfChosen_28 : decode cX9_xorOfChosen 28 = .ok (.ixor, 1) := by decide +kernel
theorem dX9_xorOfChosen_29 : decode cX9_xorOfChosen 29 = .ok (.istore_n 3, 1) := by decide +kernel
theorem dX9_xorOfChosen_30 : decode cX9_xorOfChosen 30 = .ok (.iinc 4 1, 3) := by decide +kernel
theorem dX9_xorOfChosen_33 : decode cX9_xorOfChosen 33 = .ok (.goto (-28), 3) := by decide +kernel
theorem dX9_xorOfChosen_36 : decode cX9_xorOfChosen 36 = .ok (.iload_n 3, 1) := by decide +kernel
theorem dX9_xorOfChosen_37 : decode cX9_xorOfChosen 37 = .ok (.ireturn, 1) := by decide +kernel
theorem dX9_valueOf_0 : decode cX9_valueOf 0 = .ok (.iconst 0, 1) := by decide +kernel
theorem dX9_valueOf_1 : decode cX9_valueOf 1 = .ok (.istore_n 3, 1) := by decide +kernel
theorem dX9_valueOf_2 : decode cX9_valueOf 2 = .ok (.aload_n 1, 1) := by decide +kernel
theorem dX9_valueOf_3 : decode cX9_valueOf 3 = .ok (.getfield 261, 3) := by decide +kernel
theorem dX9_valueOf_6 : decode cX9_valueOf 6 = .ok (.istore 4, 2) := by decide +kernel
theorem dX9_valueOf_8 : decode cX9_valueOf 8 = .ok (.iload 4, 2) := by decide +kernel
theorem dX9_valueOf_10 : decode cX9_valueOf 10 = .ok (.ifCond .lt 27, 3) := by decide +kernel
theorem dX9_valueOf_13 : decode cX9_valueOf 13 = .ok (.aload_n 0, 1) := by decide +kernel
theorem dX9_valueOf_14 : decode cX9_valueOf 14 = .ok (.getfield 43, 3) := by decide +kernel
theorem dX9_valueOf_17 : decode cX9_valueOf 17 = .ok (.iload_n 3, 1) := by decide +kernel
theorem dX9_valueOf_18 : decode cX9_valueOf 18 = .ok (.iload_n 2, 1) := by decide +kernel
theorem dX9_valueOf_19 : decode cX9_valueOf 19 = .ok (.invokevirtual 103, 3) := by decide +kernel
theorem dX9_valueOf_22 : decode cX9_valueOf 22 = .ok (.aload_n 1, 1) := by decide +kernel
theorem dX9_valueOf_23 : decode cX9_valueOf 23 = .ok (.getfield 266, 3) := by decide +kernel
theorem dX9_valueOf_26 : decode cX9_valueOf 26 = .ok (.iload 4, 2) := by decide +kernel
theorem dX9_valueOf_28 : decode cX9_valueOf 28 = .ok (.iaload, 1) := by decide +kernel
theorem dX9_valueOf_29 : decode cX9_valueOf 29 = .ok (.ixor, 1) := by decide +kernel
theorem dX9_valueOf_30 : decode cX9_valueOf 30 = .ok (.istore_n 3, 1) := by decide +kernel
theorem dX9_valueOf_31 : decode cX9_valueOf 31 = .ok (.iinc 4 (-1), 3) := by decide +kernel
theorem dX9_valueOf_34 : decode cX9_valueOf 34 = .ok (.goto (-26), 3) := by decide +kernel
theorem dX9_valueOf_37 : decode cX9_valueOf 37 = .ok (.iload_n 3, 1) := by decide +kernel
theorem dX9_valueOf_38 : decode cX9_valueOf 38 = .ok (.ireturn, 1) := by decide +kernel
theorem dX10_thrown_0 : decode cX10_thrown 0 = .ok (.aload_n 0, 1) := by decide +kernel
theorem dX10_thrown_1 : decode cX10_thrown 1 = .ok (.getfield 1, 3) := by decide +kernel
theorem dX10_thrown_4 : decode cX10_thrown 4 = .ok (.ireturn, 1) := by decide +kernel
theorem dX10_fail_0 : decode cX10_fail 0 = .ok (.aload_n 0, 1) := by decide +kernel
theorem dX10_fail_1 : decode cX10_fail 1 = .ok (.iload_n 1, 1) := by decide +kernel
theorem dX10_fail_2 : decode cX10_fail 2 = .ok (.putfield 1, 3) := by decide +kernel
theorem dX10_fail_5 : decode cX10_fail 5 = .ok (.iconst 0, 1) := by decide +kernel
theorem dX10_fail_6 : decode cX10_fail 6 = .ok (.ireturn, 1) := by decide +kernel
theorem dX10_init_0 : decode cX10_init 0 = .ok (.aload_n 0, 1) := by decide +kernel
theorem dX10_init_1 : decode cX10_init 1 = .ok (.invokespecial 7, 3) := by decide +kernel
theorem dX10_init_4 : decode cX10_init 4 = .ok (.aload_n 0, 1) := by decide +kernel
theorem dX10_init_5 : decode cX10_init 5 = .ok (.sipush 130, 3) := by decide +kernel
theorem dX10_init_8 : decode cX10_init 8 = .ok (.newarray .int, 2) := by decide +kernel
theorem dX10_init_10 : decode cX10_init 10 = .ok (.putfield 13, 3) := by decide +kernel
theorem dX10_init_13 : decode cX10_init 13 = .ok (.aload_n 0, 1) := by decide +kernel
theorem dX10_init_14 : decode cX10_init 14 = .ok (.bipush 40, 2) := by decide +kernel
theorem dX10_init_16 : decode cX10_init 16 = .ok (.newarray .int, 2) := by decide +kernel
theorem dX10_init_18 : decode cX10_init 18 = .ok (.putfield 17, 3) := by decide +kernel
theorem dX10_init_21 : decode cX10_init 21 = .ok (.aload_n 0, 1) := by decide +kernel
theorem dX10_init_22 : decode cX10_init 22 = .ok (.bipush 40, 2) := by decide +kernel
theorem dX10_init_24 : decode cX10_init 24 = .ok (.newarray .int, 2) := by decide +kernel
theorem dX10_init_26 : decode cX10_init 26 = .ok (.putfield 20, 3) := by decide +kernel
theorem dX10_init_29 : decode cX10_init 29 = .ok (.aload_n 0, 1) := by decide +kernel
theorem dX10_init_30 : decode cX10_init 30 = .ok (.sipush 2560, 3) := by decide +kernel
theorem dX10_init_33 : decode cX10_init 33 = .ok (.newarray .int, 2) := by decide +kernel
theorem dX10_init_35 : decode cX10_init 35 = .ok (.putfield 23, 3) := by decide +kernel
theorem dX10_init_38 : decode cX10_init 38 = .ok (.aload_n 0, 1) := by decide +kernel
theorem dX10_init_39 : decode cX10_init 39 = .ok (.ldc 26, 2) := by decide +kernel
theorem dX10_init_41 : decode cX10_init 41 = .ok (.newarray .int, 2) := by decide +kernel
theorem dX10_init_43 : decode cX10_init 43 = .ok (.putfield 27, 3) := by decide +kernel
theorem dX10_init_46 : decode cX10_init 46 = .ok (.aload_n 0, 1) := by decide +kernel
theorem dX10_init_47 : decode cX10_init 47 = .ok (.bipush 72, 2) := by decide +kernel
theorem dX10_init_49 : decode cX10_init 49 = .ok (.newarray .int, 2) := by decide +kernel
theorem dX10_init_51 : decode cX10_init 51 = .ok (.putfield 30, 3) := by decide +kernel
theorem dX10_init_54 : decode cX10_init 54 = .ok (.aload_n 0, 1) := by decide +kernel
theorem dX10_init_55 : decode cX10_init 55 = .ok (.bipush 8, 2) := by decide +kernel
theorem dX10_init_57 : decode cX10_init 57 = .ok (.newarray .int, 2) := by decide +kernel
theorem dX10_init_59 : decode cX10_init 59 = .ok (.putfield 33, 3) := by decide +kernel
theorem dX10_init_62 : decode cX10_init 62 = .ok (.aload_n 0, 1) := by decide +kernel
theorem dX10_init_63 : decode cX10_init 63 = .ok (.bipush 40, 2) := by decide +kernel
theorem dX10_init_65 : decode cX10_init 65 = .ok (.newarray .int, 2) := by decide +kernel
theorem dX10_init_67 : decode cX10_init 67 = .ok (.putfield 36, 3) := by decide +kernel
theorem dX10_init_70 : decode cX10_init 70 = .ok (.aload_n 0, 1) := by decide +kernel
theorem dX10_init_71 : decode cX10_init 71 = .ok (.sipush 2600, 3) := by decide +kernel
theorem dX10_init_74 : decode cX10_init 74 = .ok (.newarray .int, 2) := by decide +kernel
theorem dX10_init_76 : decode cX10_init 76 = .ok (.putfield 39, 3) := by decide +kernel
theorem dX10_init_79 : decode cX10_init 79 = .ok (.aload_n 0, 1) := by decide +kernel
theorem dX10_init_80 : decode cX10_init 80 = .ok (.sipush 200, 3) := by decide +kernel
theorem dX10_init_83 : decode cX10_init 83 = .ok (.newarray .int, 2) := by decide +kernel
theorem dX10_init_85 : decode cX10_init 85 = .ok (.putfield 42, 3) := by decide +kernel
theorem dX10_init_88 : decode cX10_init 88 = .ok (.aload_n 0, 1) := by decide +kernel
theorem dX10_init_89 : decode cX10_init 89 = .ok (.sipush 200, 3) := by decide +kernel
theorem dX10_init_92 : decode cX10_init 92 = .ok (.newarray .int, 2) := by decide +kernel
theorem dX10_init_94 : decode cX10_init 94 = .ok (.putfield 45, 3) := by decide +kernel
theorem dX10_init_97 : decode cX10_init 97 = .ok (.aload_n 0, 1) := by decide +kernel
theorem dX10_init_98 : decode cX10_init 98 = .ok (.sipush 200, 3) := by decide +kernel
theorem dX10_init_101 : decode cX10_init 101 = .ok (.newarray .int, 2) := by decide +kernel
theorem dX10_init_103 : decode cX10_init 103 = .ok (.putfield 48, 3) := by decide +kernel
theorem dX10_init_106 : decode cX10_init 106 = .ok (.aload_n 0, 1) := by decide +kernel
theorem dX10_init_107 : decode cX10_init 107 = .ok (.sipush 200, 3) := by decide +kernel
theorem dX10_init_110 : decode cX10_init 110 = .ok (.newarray .int, 2) := by decide +kernel
theorem dX10_init_112 : decode cX10_init 112 = .ok (.putfield 51, 3) := by decide +kernel
theorem dX10_init_115 : decode cX10_init 115 = .ok (.aload_n 0, 1) := by decide +kernel
theorem dX10_init_116 : decode cX10_init 116 = .ok (.iconst (-1), 1) := by decide +kernel
theorem dX10_init_117 : decode cX10_init 117 = .ok (.putfield 54, 3) := by decide +kernel
theorem dX10_init_120 : decode cX10_init 120 = .ok (.aload_n 0, 1) := by decide +kernel
theorem dX10_init_121 : decode cX10_init 121 = .ok (.bipush 64, 2) := by decide +kernel
theorem dX10_init_123 : decode cX10_init 123 = .ok (.newarray .int, 2) := by decide +kernel
theorem dX10_init_125 : decode cX10_init 125 = .ok (.putfield 57, 3) := by decide +kernel
theorem dX10_init_128 : decode cX10_init 128 = .ok (.aload_n 0, 1) := by decide +kernel
theorem dX10_init_129 : decode cX10_init 129 = .ok (.iconst (-1), 1) := by decide +kernel
theorem dX10_init_130 : decode cX10_init 130 = .ok (.putfield 60, 3) := by decide +kernel
theorem dX10_init_133 : decode cX10_init 133 = .ok (.aload_n 0, 1) := by decide +kernel
theorem dX10_init_134 : decode cX10_init 134 = .ok (.bipush 65, 2) := by decide +kernel
theorem dX10_init_136 : decode cX10_init 136 = .ok (.newarray .int, 2) := by decide +kernel
theorem dX10_init_138 : decode cX10_init 138 = .ok (.putfield 63, 3) := by decide +kernel
theorem dX10_init_141 : decode cX10_init 141 = .ok (.aload_n 0, 1) := by decide +kernel
theorem dX10_init_142 : decode cX10_init 142 = .ok (.sipush 200, 3) := by decide +kernel
theorem dX10_init_145 : decode cX10_init 145 = .ok (.newarray .int, 2) := by decide +kernel
theorem dX10_init_147 : decode cX10_init 147 = .ok (.putfield 66, 3) := by decide +kernel
theorem dX10_init_150 : decode cX10_init 150 = .ok (.aload_n 0, 1) := by decide +kernel
theorem dX10_init_151 : decode cX10_init 151 = .ok (.sipush 200, 3) := by decide +kernel
theorem dX10_init_154 : decode cX10_init 154 = .ok (.newarray .int, 2) := by decide +kernel
theorem dX10_init_156 : decode cX10_init 156 = .ok (.putfield 69, 3) := by decide +kernel
theorem dX10_init_159 : decode cX10_init 159 = .ok (.aload_n 0, 1) := by decide +kernel
theorem dX10_init_160 : decode cX10_init 160 = .ok (.bipush 64, 2) := by decide +kernel
theorem dX10_init_162 : decode cX10_init 162 = .ok (.newarray .int, 2) := by decide +kernel
theorem dX10_init_164 : decode cX10_init 164 = .ok (.putfield 72, 3) := by decide +kernel
theorem dX10_init_167 : decode cX10_init 167 = .ok (.aload_n 0, 1) := by decide +kernel
theorem dX10_init_168 : decode cX10_init 168 = .ok (.iload_n 1, 1) := by decide +kernel
theorem dX10_init_169 : decode cX10_init 169 = .ok (.bipush 16, 2) := by decide +kernel
theorem dX10_init_171 : decode cX10_init 171 = .ok (.if_icmp .ne 8, 3) := by decide +kernel
theorem dX10_init_174 : decode cX10_init 174 = .ok (.bipush 16, 2) := by decide +kernel
theorem dX10_init_176 : decode cX10_init 176 = .ok (.goto 5, 3) := by decide +kernel
theorem dX10_init_179 : decode cX10_init 179 = .ok (.bipush 8, 2) := by decide +kernel
theorem dX10_init_181 : decode cX10_init 181 = .ok (.putfield 75, 3) := by decide +kernel
theorem dX10_init_184 : decode cX10_init 184 = .ok (.aload_n 0, 1) := by decide +kernel
theorem dX10_init_185 : decode cX10_init 185 = .ok (.iconst 1, 1) := by decide +kernel
theorem dX10_init_186 : decode cX10_init 186 = .ok (.aload_n 0, 1) := by decide +kernel
theorem dX10_init_187 : decode cX10_init 187 = .ok (.getfield 75, 3) := by decide +kernel
theorem dX10_init_190 : decode cX10_init 190 = .ok (.ishl, 1) := by decide +kernel
theorem dX10_init_191 : decode cX10_init 191 = .ok (.putfield 78, 3) := by decide +kernel
theorem dX10_init_194 : decode cX10_init 194 = .ok (.aload_n 0, 1) := by decide +kernel
theorem dX10_init_195 : decode cX10_init 195 = .ok (.iload_n 2, 1) := by decide +kernel
theorem dX10_init_196 : decode cX10_init 196 = .ok (.aload_n 0, 1) := by decide +kernel
theorem dX10_init_197 : decode cX10_init 197 = .ok (.getfield 78, 3) := by decide +kernel
theorem dX10_init_200 : decode cX10_init 200 = .ok (.iconst 1, 1) := by decide +kernel
theorem dX10_init_201 : decode cX10_init 201 = .ok (.isub, 1) := by decide +kernel
theorem dX10_init_202 : decode cX10_init 202 = .ok (.iand, 1) := by decide +kernel
theorem dX10_init_203 : decode cX10_init 203 = .ok (.putfield 81, 3) := by decide +kernel
theorem dX10_init_206 : decode cX10_init 206 = .ok (.aload_n 0, 1) := by decide +kernel
theorem dX10_init_207 : decode cX10_init 207 = .ok (.aload_n 0, 1) := by decide +kernel
theorem dX10_init_208 : decode cX10_init 208 = .ok (.getfield 78, 3) := by decide +kernel
theorem dX10_init_211 : decode cX10_init 211 = .ok (.aload_n 0, 1) := by decide +kernel
theorem dX10_init_212 : decode cX10_init 212 = .ok (.getfield 81, 3) := by decide +kernel
theorem dX10_init_215 : decode cX10_init 215 = .ok (.ior, 1) := by decide +kernel
theorem dX10_init_216 : decode cX10_init 216 = .ok (.invokevirtual 84, 3) := by decide +kernel
theorem dX10_init_219 : decode cX10_init 219 = .ok (.ifCond .ne 23, 3) := by decide +kernel
theorem dX10_init_222 : decode cX10_init 222 = .ok (.aload_n 0, 1) := by decide +kernel
theorem dX10_init_223 : decode cX10_init 223 = .ok (.aload_n 0, 1) := by decide +kernel
theorem dX10_init_224 : decode cX10_init 224 = .ok (.getfield 81, 3) := by decide +kernel
theorem dX10_init_227 : decode cX10_init 227 = .ok (.iconst 1, 1) := by decide +kernel
theorem dX10_init_228 : decode cX10_init 228 = .ok (.iadd, 1) := by decide +kernel
theorem dX10_init_229 : decode cX10_init 229 = .ok (.aload_n 0, 1) := by decide +kernel
theorem dX10_init_230 : decode cX10_init 230 = .ok (.getfield 78, 3) := by decide +kernel
theorem dX10_init_233 : decode cX10_init 233 = .ok (.iconst 1, 1) := by decide +kernel
theorem dX10_init_234 : decode cX10_init 234 = .ok (.isub, 1) := by decide +kernel
theorem dX10_init_235 : decode cX10_init 235 = .ok (.iand, 1) := by decide +kernel
theorem dX10_init_236 : decode cX10_init 236 = .ok (.putfield 81, 3) := by decide +kernel
theorem dX10_init_239 : decode cX10_init 239 = .ok (.goto (-33), 3) := by decide +kernel
theorem dX10_init_242 : decode cX10_init 242 = .ok (.aload_n 0, 1) := by decide +kernel
theorem dX10_init_243 : decode cX10_init 243 = .ok (.iconst 2, 1) := by decide +kernel
theorem dX10_init_244 : decode cX10_init 244 = .ok (.putfield 88, 3) := by decide +kernel
theorem dX10_init_247 : decode cX10_init 247 = .ok (.aload_n 0, 1) := by decide +kernel
theorem dX10_init_248 : decode cX10_init 248 = .ok (.aload_n 0, 1) := by decide +kernel
theorem dX10_init_249 : decode cX10_init 249 = .ok (.getfield 88, 3) := by decide +kernel
theorem dX10_init_252 : decode cX10_init 252 = .ok (.invokevirtual 91, 3) := by decide +kernel
theorem dX10_init_255 : decode cX10_init 255 = .ok (.aload_n 0, 1) := by decide +kernel
theorem dX10_init_256 : decode cX10_init 256 = .ok (.getfield 78, 3) := by decide +kernel
theorem dX10_init_259 : decode cX10_init 259 = .ok (.iconst 1, 1) := by decide +kernel
theorem dX10_init_260 : decode cX10_init 260 = .ok (.isub, 1) := by decide +kernel
theorem dX10_init_261 : decode cX10_init 261 = .ok (.if_icmp .eq 16, 3) := by decide +kernel
theorem dX10_init_264 : decode cX10_init 264 = .ok (.aload_n 0, 1) := by decide +kernel
theorem dX10_init_265 : decode cX10_init 265 = .ok (.dup, 1) := by decide +kernel
theorem dX10_init_266 : decode cX10_init 266 = .ok (.getfield 88, 3) := by decide +kernel
theorem dX10_init_269 : decode cX10_init 269 = .ok (.iconst 1, 1) := by decide +kernel
theorem dX10_init_270 : decode cX10_init 270 = .ok (.iadd, 1) := by decide +kernel
theorem dX10_init_271 : decode cX10_init 271 = .ok (.putfield 88, 3) := by decide +kernel
theorem dX10_init_274 : decode cX10_init 274 = .ok (.goto (-27), 3) := by decide +kernel
theorem dX10_init_277 : decode cX10_init 277 = .ok (.return_, 1) := by decide +kernel
theorem dX10_isPrime_0 : decode cX10_isPrime 0 = .ok (.iconst 1, 1) := by decide +kernel
theorem dX10_isPrime_1 : decode cX10_isPrime 1 = .ok (.istore_n 2, 1) := by decide +kernel
theorem dX10_isPrime_2 : decode cX10_isPrime 2 = .ok (.iconst 2, 1) := by decide +kernel
theorem dX10_isPrime_3 : decode cX10_isPrime 3 = .ok (.istore_n 3, 1) := by decide +kernel
theorem dX10_isPrime_4 : decode cX10_isPrime 4 = .ok (.iload_n 3, 1) := by decide +kernel
theorem dX10_isPrime_5 : decode cX10_isPrime 5 = .ok (.iconst 2, 1) := by decide +kernel
theorem dX10_isPrime_6 : decode cX10_isPrime 6 = .ok (.aload_n 0, 1) := by decide +kernel
theorem dX10_isPrime_7 : decode cX10_isPrime 7 = .ok (.getfield 75, 3) := by decide +kernel
theorem dX10_isPrime_10 : decode cX10_isPrime 10 = .ok (.iconst 2, 1) := by decide +kernel
theorem dX10_isPrime_11 : decode cX10_isPrime 11 = .ok (.idiv, 1) := by decide +kernel
theorem dX10_isPrime_12 : decode cX10_isPrime 12 = .ok (.ishl, 1) := by decide +kernel
theorem dX10_isPrime_13 : decode cX10_isPrime 13 = .ok (.if_icmp .ge 27, 3) := by decide +kernel
theorem dX10_isPrime_16 : decode cX10_isPrime 16 = .ok (.iload_n 2, 1) := by decide +kernel
theorem dX10_isPrime_17 : decode cX10_isPrime 17 = .ok (.ifCond .eq 23, 3) := by decide +kernel
theorem dX10_isPrime_20 : decode cX10_isPrime 20 = .ok (.iload_n 1, 1) := by decide +kernel
theorem dX10_isPrime_21 : decode cX10_isPrime 21 = .ok (.iload_n 3, 1) := by decide +kernel
theorem dX10_isPrime_22 : decode cX10_isPrime 22 = .ok (.invokestatic 95, 3) := by decide +kernel
theorem dX10_isPrime_25 : decode cX10_isPrime 25 = .ok (.ifCond .eq 7, 3) := by decide +kernel
theorem dX10_isPrime_28 : decode cX10_isPrime 28 = .ok (.iconst 1, 1) := by decide +kernel
theorem dX10_isPrime_29 : decode cX10_isPrime 29 = .ok (.goto 4, 3) := by decide +kernel
theorem dX10_isPrime_32 : decode cX10_isPrime 32 = .ok (.iconst 0, 1) := by decide +kernel
theorem dX10_isPrime_33 : decode cX10_isPrime 33 = .ok (.istore_n 2, 1) := by decide +kernel
theorem dX10_isPrime_34 : decode cX10_isPrime 34 = .ok (.iinc 3 1, 3) := by decide +kernel
theorem dX10_isPrime_37 : decode cX10_isPrime 37 = .ok (.goto (-33), 3) := by decide +kernel
theorem dX10_isPrime_40 : decode cX10_isPrime 40 = .ok (.iload_n 2, 1) := by decide +kernel
theorem dX10_isPrime_41 : decode cX10_isPrime 41 = .ok (.ireturn, 1) := by decide +kernel
theorem dX10_degreeOf_0 : decode cX10_degreeOf 0 = .ok (.iconst (-1), 1) := by decide +kernel
theorem dX10_degreeOf_1 : decode cX10_degreeOf 1 = .ok (.istore_n 1, 1) := by decide +kernel
theorem dX10_degreeOf_2 : decode cX10_degreeOf 2 = .ok (.iconst 0, 1) := by decide +kernel
theorem dX10_degreeOf_3 : decode cX10_degreeOf 3 = .ok (.istore_n 2, 1) := by decide +kernel
theorem dX10_degreeOf_4 : decode cX10_degreeOf 4 = .ok (.iload_n 2, 1) := by decide +kernel
theorem dX10_degreeOf_5 : decode cX10_degreeOf 5 = .ok (.bipush 31, 2) := by decide +kernel
theorem dX10_degreeOf_7 : decode cX10_degreeOf 7 = .ok (.if_icmp .ge 20, 3) := by decide +kernel
theorem dX10_degreeOf_10 : decode cX10_degreeOf 10 = .ok (.iload_n 0, 1) := by decide +kernel
theorem dX10_degreeOf_11 : decode cX10_degreeOf 11 = .ok (.iload_n 2, 1) := by decide +kernel
theorem dX10_degreeOf_12 : decode cX10_degreeOf 12 = .ok (.ishr, 1) := by decide +kernel
theorem dX10_degreeOf_13 : decode cX10_degreeOf 13 = .ok (.iconst 1, 1) := by decide +kernel
theorem dX10_degreeOf_14 : decode cX10_degreeOf 14 = .ok (.iand, 1) := by decide +kernel
theorem dX10_degreeOf_15 : decode cX10_degreeOf 15 = .ok (.iconst 1, 1) := by decide +kernel
theorem dX10_degreeOf_16 : decode cX10_degreeOf 16 = .ok (.if_icmp .ne 5, 3) := by decide +kernel
theorem dX10_degreeOf_19 : decode cX10_degreeOf 19 = .ok (.iload_n 2, 1) := by decide +kernel
theorem dX10_degreeOf_20 : decode cX10_degreeOf 20 = .ok (.istore_n 1, 1) := by decide +kernel
theorem dX10_degreeOf_21 : decode cX10_degreeOf 21 = .ok (.iinc 2 1, 3) := by decide +kernel
theorem dX10_degreeOf_24 : decode cX10_degreeOf 24 = .ok (.goto (-20), 3) := by decide +kernel
theorem dX10_degreeOf_27 : decode cX10_degreeOf 27 = .ok (.iload_n 1, 1) := by decide +kernel
theorem dX10_degreeOf_28 : decode cX10_degreeOf 28 = .ok (.ireturn, 1) := by decide +kernel
theorem dX10_restOf_0 : decode cX10_restOf 0 = .ok (.iload_n 0, 1) := by decide +kernel
theorem dX10_restOf_1 : decode cX10_restOf 1 = .ok (.istore_n 2, 1) := by decide +kernel
theorem dX10_restOf_2 : decode cX10_restOf 2 = .ok (.iload_n 1, 1) := by decide +kernel
theorem dX10_restOf_3 : decode cX10_restOf 3 = .ok (.invokestatic 99, 3) := by decide +kernel
theorem dX10_restOf_6 : decode cX10_restOf 6 = .ok (.istore_n 3, 1) := by decide +kernel
theorem dX10_restOf_7 : decode cX10_restOf 7 = .ok (.bipush 16, 2) := by decide +kernel
theorem dX10_restOf_9 : decode cX10_restOf 9 = .ok (.istore 4, 2) := by decide +kernel
theorem dX10_restOf_11 : decode cX10_restOf 11 = .ok (.iload 4, 2) := by decide +kernel
theorem dX10_restOf_13 : decode cX10_restOf 13 = .ok (.iload_n 3, 1) := by decide +kernel
theorem dX10_restOf_14 : decode cX10_restOf 14 = .ok (.if_icmp .lt 28, 3) := by decide +kernel
theorem dX10_restOf_17 : decode cX10_restOf 17 = .ok (.iload_n 2, 1) := by decide +kernel
theorem dX10_restOf_18 : decode cX10_restOf 18 = .ok (.iload 4, 2) := by decide +kernel
theorem dX10_restOf_20 : decode cX10_restOf 20 = .ok (.ishr, 1) := by decide +kernel
theorem dX10_restOf_21 : decode cX10_restOf 21 = .ok (.iconst 1, 1) := by decide +kernel
theorem dX10_restOf_22 : decode cX10_restOf 22 = .ok (.iand, 1) := by decide +kernel
theorem dX10_restOf_23 : decode cX10_restOf 23 = .ok (.iconst 1, 1) := by decide +kernel
theorem dX10_restOf_24 : decode cX10_restOf 24 = .ok (.if_icmp .ne 12, 3) := by decide +kernel
theorem dX10_restOf_27 : decode cX10_restOf 27 = .ok (.iload_n 2, 1) := by decide +kernel
theorem dX10_restOf_28 : decode cX10_restOf 28 = .ok (.iload_n 1, 1) := by decide +kernel
theorem dX10_restOf_29 : decode cX10_restOf 29 = .ok (.iload 4, 2) := by decide +kernel
theorem dX10_restOf_31 : decode cX10_restOf 31 = .ok (.iload_n 3, 1) := by decide +kernel
theorem dX10_restOf_32 : decode cX10_restOf 32 = .ok (.isub, 1) := by decide +kernel
theorem dX10_restOf_33 : decode cX10_restOf 33 = .ok (.ishl, 1) := by decide +kernel
theorem dX10_restOf_34 : decode cX10_restOf 34 = .ok (.ixor, 1) := by decide +kernel
theorem dX10_restOf_35 : decode cX10_restOf 35 = .ok (.istore_n 2, 1) := by decide +kernel
theorem dX10_restOf_36 : decode cX10_restOf 36 = .ok (.iinc 4 (-1), 3) := by decide +kernel
theorem dX10_restOf_39 : decode cX10_restOf 39 = .ok (.goto (-28), 3) := by decide +kernel
theorem dX10_restOf_42 : decode cX10_restOf 42 = .ok (.iload_n 2, 1) := by decide +kernel
theorem dX10_restOf_43 : decode cX10_restOf 43 = .ok (.ireturn, 1) := by decide +kernel
theorem dX10_isMember_0 : decode cX10_isMember 0 = .ok (.iload_n 1, 1) := by decide +kernel
theorem dX10_isMember_1 : decode cX10_isMember 1 = .ok (.ifCond .lt 15, 3) := by decide +kernel
theorem dX10_isMember_4 : decode cX10_isMember 4 = .ok (.iload_n 1, 1) := by decide +kernel
theorem dX10_isMember_5 : decode cX10_isMember 5 = .ok (.aload_n 0, 1) := by decide +kernel
theorem dX10_isMember_6 : decode cX10_isMember 6 = .ok (.getfield 78, 3) := by decide +kernel
theorem dX10_isMember_9 : decode cX10_isMember 9 = .ok (.if_icmp .ge 7, 3) := by decide +kernel
theorem dX10_isMember_12 : decode cX10_isMember 12 = .ok (.iconst 1, 1) := by decide +kernel
theorem dX10_isMember_13 : decode cX10_isMember 13 = .ok (.goto 4, 3) := by decide +kernel
theorem dX10_isMember_16 : decode cX10_isMember 16 = .ok (.iconst 0, 1) := by decide +kernel
theorem dX10_isMember_17 : decode cX10_isMember 17 = .ok (.ireturn, 1) := by decide +kernel
theorem dX10_mul_0 : decode cX10_mul 0 = .ok (.iconst 0, 1) := by decide +kernel
theorem dX10_mul_1 : decode cX10_mul 1 = .ok (.istore_n 3, 1) := by decide +kernel
theorem dX10_mul_2 : decode cX10_mul 2 = .ok (.iload_n 1, 1) := by decide +kernel
theorem dX10_mul_3 : decode cX10_mul 3 = .ok (.istore 4, 2) := by decide +kernel
theorem dX10_mul_5 : decode cX10_mul 5 = .ok (.iload_n 2, 1) := by decide +kernel
theorem dX10_mul_6 : decode cX10_mul 6 = .ok (.istore 5, 2) := by decide +kernel
theorem dX10_mul_8 : decode cX10_mul 8 = .ok (.iload 5, 2) := by decide +kernel
theorem dX10_mul_10 : decode cX10_mul 10 = .ok (.ifCond .le 55, 3) := by decide +kernel
theorem dX10_mul_13 : decode cX10_mul 13 = .ok (.iload 5, 2) := by decide +kernel
theorem dX10_mul_15 : decode cX10_mul 15 = .ok (.iconst 1, 1) := by decide +kernel
theorem dX10_mul_16 : decode cX10_mul 16 = .ok (.iand, 1) := by decide +kernel
theorem dX10_mul_17 : decode cX10_mul 17 = .ok (.iconst 1, 1) := by decide +kernel
theorem dX10_mul_18 : decode cX10_mul 18 = .ok (.if_icmp .ne 8, 3) := by decide +kernel
theorem dX10_mul_21 : decode cX10_mul 21 = .ok (.iload_n 3, 1) := by decide +kernel
theorem dX10_mul_22 : decode cX10_mul 22 = .ok (.iload 4, 2) := by decide +kernel
theorem dX10_mul_24 : decode cX10_mul 24 = .ok (.ixor, 1) := by decide +kernel
theorem dX10_mul_25 : decode cX10_mul 25 = .ok (.istore_n 3, 1) := by decide +kernel
theorem dX10_mul_26 : decode cX10_mul 26 = .ok (.iload 4, 2) := by decide +kernel
theorem dX10_mul_28 : decode cX10_mul 28 = .ok (.iconst 1, 1) := by decide +kernel
theorem dX10_mul_29 : decode cX10_mul 29 = .ok (.ishl, 1) := by decide +kernel
theorem dX10_mul_30 : decode cX10_mul 30 = .ok (.istore 4, 2) := by decide +kernel
theorem dX10_mul_32 : decode cX10_mul 32 = .ok (.iload 4, 2) := by decide +kernel
theorem dX10_mul_34 : decode cX10_mul 34 = .ok (.aload_n 0, 1) := by decide +kernel
theorem dX10_mul_35 : decode cX10_mul 35 = .ok (.getfield 78, 3) := by decide +kernel
theorem dX10_mul_38 : decode cX10_mul 38 = .ok (.iand, 1) := by decide +kernel
theorem dX10_mul_39 : decode cX10_mul 39 = .ok (.ifCond .eq 17, 3) := by decide +kernel
theorem dX10_mul_42 : decode cX10_mul 42 = .ok (.iload 4, 2) := by decide +kernel
theorem dX10_mul_44 : decode cX10_mul 44 = .ok (.aload_n 0, 1) := by decide +kernel
theorem dX10_mul_45 : decode cX10_mul 45 = .ok (.getfield 78, 3) := by decide +kernel
theorem dX10_mul_48 : decode cX10_mul 48 = .ok (.aload_n 0, 1) := by decide +kernel
theorem dX10_mul_49 : decode cX10_mul 49 = .ok (.getfield 81, 3) := by decide +kernel
theorem dX10_mul_52 : decode cX10_mul 52 = .ok (.ior, 1) := by decide +kernel
theorem dX10_mul_53 : decode cX10_mul 53 = .ok (.ixor, 1) := by decide +kernel
theorem dX10_mul_54 : decode cX10_mul 54 = .ok (.istore 4, 2) := by decide +kernel
theorem dX10_mul_56 : decode cX10_mul 56 = .ok (.iload 5, 2) := by decide +kernel
theorem dX10_mul_58 : decode cX10_mul 58 = .ok (.iconst 1, 1) := by decide +kernel
theorem dX10_mul_59 : decode cX10_mul 59 = .ok (.ishr, 1) := by decide +kernel
theorem dX10_mul_60 : decode cX10_mul 60 = .ok (.istore 5, 2) := by decide +kernel
theorem dX10_mul_62 : decode cX10_mul 62 = .ok (.goto (-54), 3) := by decide +kernel
theorem dX10_mul_65 : decode cX10_mul 65 = .ok (.iload_n 3, 1) := by decide +kernel
theorem dX10_mul_66 : decode cX10_mul 66 = .ok (.ireturn, 1) := by decide +kernel
theorem dX10_raised_0 : decode cX10_raised 0 = .ok (.iconst 1, 1) := by decide +kernel
theorem dX10_raised_1 : decode cX10_raised 1 = .ok (.istore_n 3, 1) := by decide +kernel
theorem dX10_raised_2 : decode cX10_raised 2 = .ok (.iload_n 1, 1) := by decide +kernel
theorem dX10_raised_3 : decode cX10_raised 3 = .ok (.istore 4, 2) := by decide +kernel
theorem dX10_raised_5 : decode cX10_raised 5 = .ok (.iload_n 2, 1) := by decide +kernel
theorem dX10_raised_6 : decode cX10_raised 6 = .ok (.istore 5, 2) := by decide +kernel
theorem dX10_raised_8 : decode cX10_raised 8 = .ok (.iload 5, 2) := by decide +kernel
theorem dX10_raised_10 : decode cX10_raised 10 = .ok (.ifCond .le 38, 3) := by decide +kernel
theorem dX10_raised_13 : decode cX10_raised 13 = .ok (.iload 5, 2) := by decide +kernel
theorem dX10_raised_15 : decode cX10_raised 15 = .ok (.iconst 1, 1) := by decide +kernel
theorem dX10_raised_16 : decode cX10_raised 16 = .ok (.iand, 1) := by decide +kernel
theorem dX10_raised_17 : decode cX10_raised 17 = .ok (.iconst 1, 1) := by decide +kernel
theorem dX10_raised_18 : decode cX10_raised 18 = .ok (.if_icmp .ne 11, 3) := by decide +kernel
theorem dX10_raised_21 : decode cX10_raised 21 = .ok (.aload_n 0, 1) := by decide +kernel
theorem dX10_raised_22 : decode cX10_raised 22 = .ok (.iload_n 3, 1) := by decide +kernel
theorem dX10_raised_23 : decode cX10_raised 23 = .ok (.iload 4, 2) := by decide +kernel
theorem dX10_raised_25 : decode cX10_raised 25 = .ok (.invokevirtual 102, 3) := by decide +kernel
theorem dX10_raised_28 : decode cX10_raised 28 = .ok (.istore_n 3, 1) := by decide +kernel
theorem dX10_raised_29 : decode cX10_raised 29 = .ok (.aload_n 0, 1) := by decide +kernel
theorem dX10_raised_30 : decode cX10_raised 30 = .ok (.iload 4, 2) := by decide +kernel
theorem dX10_raised_32 : decode cX10_raised 32 = .ok (.iload 4, 2) := by decide +kernel
theorem dX10_raised_34 : decode cX10_raised 34 = .ok (.invokevirtual 102, 3) := by decide +kernel
theorem dX10_raised_37 : decode cX10_raised 37 = .ok (.istore 4, 2) := by decide +kernel
theorem dX10_raised_39 : decode cX10_raised 39 = .ok (.iload 5, 2) := by decide +kernel
theorem dX10_raised_41 : decode cX10_raised 41 = .ok (.iconst 1, 1) := by decide +kernel
theorem dX10_raised_42 : decode cX10_raised 42 = .ok (.ishr, 1) := by decide +kernel
theorem dX10_raised_43 : decode cX10_raised 43 = .ok (.istore 5, 2) := by decide +kernel
theorem dX10_raised_45 : decode cX10_raised 45 = .ok (.goto (-37), 3) := by decide +kernel
theorem dX10_raised_48 : decode cX10_raised 48 = .ok (.iload_n 3, 1) := by decide +kernel
theorem dX10_raised_49 : decode cX10_raised 49 = .ok (.ireturn, 1) := by decide +kernel
theorem dX10_inverse_0 : decode cX10_inverse 0 = .ok (.aload_n 0, 1) := by decide +kernel
theorem dX10_inverse_1 : decode cX10_inverse 1 = .ok (.iload_n 1, 1) := by decide +kernel
theorem dX10_inverse_2 : decode cX10_inverse 2 = .ok (.aload_n 0, 1) := by decide +kernel
theorem dX10_inverse_3 : decode cX10_inverse 3 = .ok (.getfield 78, 3) := by decide +kernel
theorem dX10_inverse_6 : decode cX10_inverse 6 = .ok (.iconst 2, 1) := by decide +kernel
theorem dX10_inverse_7 : decode cX10_inverse 7 = .ok (.isub, 1) := by decide +kernel
theorem dX10_inverse_8 : decode cX10_inverse 8 = .ok (.invokevirtual 105, 3) := by decide +kernel
theorem dX10_inverse_11 : decode cX10_inverse 11 = .ok (.ireturn, 1) := by decide +kernel
theorem dX10_factor_0 : decode cX10_factor 0 = .ok (.iload_n 0, 1) := by decide +kernel
theorem dX10_factor_1 : decode cX10_factor 1 = .ok (.ifCond .ne 7, 3) := by decide +kernel
theorem dX10_factor_4 : decode cX10_factor 4 = .ok (.iconst 3, 1) := by decide +kernel
theorem dX10_factor_5 : decode cX10_factor 5 = .ok (.goto 25, 3) := by decide +kernel
theorem dX10_factor_8 : decode cX10_factor 8 = .ok (.iload_n 0, 1) := by decide +kernel
theorem dX10_factor_9 : decode cX10_factor 9 = .ok (.iconst 1, 1) := by decide +kernel
theorem dX10_factor_10 : decode cX10_factor 10 = .ok (.if_icmp .ne 7, 3) := by decide +kernel
theorem dX10_factor_13 : decode cX10_factor 13 = .ok (.iconst 5, 1) := by decide +kernel
theorem dX10_factor_14 : decode cX10_factor 14 = .ok (.goto 16, 3) := by decide +kernel
theorem dX10_factor_17 : decode cX10_factor 17 = .ok (.iload_n 0, 1) := by decide +kernel
theorem dX10_factor_18 : decode cX10_factor 18 = .ok (.iconst 2, 1) := by decide +kernel
theorem dX10_factor_19 : decode cX10_factor 19 = .ok (.if_icmp .ne 8, 3) := by decide +kernel
theorem dX10_factor_22 : decode cX10_factor 22 = .ok (.bipush 17, 2) := by decide +kernel
theorem dX10_factor_24 : decode cX10_factor 24 = .ok (.goto 6, 3) := by decide +kernel
theorem dX10_factor_27 : decode cX10_factor 27 = .ok (.sipush 257, 3) := by decide +kernel
theorem dX10_factor_30 : decode cX10_factor 30 = .ok (.ireturn, 1) := by decide +kernel
theorem dX10_factors_0 : decode cX10_factors 0 = .ok (.aload_n 0, 1) := by decide +kernel
theorem dX10_factors_1 : decode cX10_factors 1 = .ok (.getfield 75, 3) := by decide +kernel
theorem dX10_factors_4 : decode cX10_factors 4 = .ok (.bipush 8, 2) := by decide +kernel
theorem dX10_factors_6 : decode cX10_factors 6 = .ok (.if_icmp .ne 7, 3) := by decide +kernel
theorem dX10_factors_9 : decode cX10_factors 9 = .ok (.iconst 3, 1) := by decide +kernel
theorem dX10_factors_10 : decode cX10_factors 10 = .ok (.goto 4, 3) := by decide +kernel
theorem dX10_factors_13 : decode cX10_factors 13 = .ok (.iconst 4, 1) := by decide +kernel
theorem dX10_factors_14 : decode cX10_factors 14 = .ok (.ireturn, 1) := by decide +kernel
theorem dX10_orderOf_0 : decode cX10_orderOf 0 = .ok (.aload_n 0, 1) := by decide +kernel
theorem dX10_orderOf_1 : decode cX10_orderOf 1 = .ok (.getfield 78, 3) := by decide +kernel
theorem dX10_orderOf_4 : decode cX10_orderOf 4 = .ok (.iconst 1, 1) := by decide +kernel
theorem dX10_orderOf_5 : decode cX10_orderOf 5 = .ok (.isub, 1) := by decide +kernel
theorem dX10_orderOf_6 : decode cX10_orderOf 6 = .ok (.istore_n 2, 1) := by decide +kernel
theorem dX10_orderOf_7 : decode cX10_orderOf 7 = .ok (.iconst 0, 1) := by decide +kernel
theorem dX10_orderOf_8 : decode cX10_orderOf 8 = .ok (.istore_n 3, 1) := by decide +kernel
theorem dX10_orderOf_9 : decode cX10_orderOf 9 = .ok (.iload_n 3, 1) := by decide +kernel
theorem dX10_orderOf_10 : decode cX10_orderOf 10 = .ok (.aload_n 0, 1) := by decide +kernel
theorem dX10_orderOf_11 : decode cX10_orderOf 11 = .ok (.invokevirtual 108, 3) := by decide +kernel
theorem dX10_orderOf_14 : decode cX10_orderOf 14 = .ok (.if_icmp .ge 31, 3) := by decide +kernel
theorem dX10_orderOf_17 : decode cX10_orderOf 17 = .ok (.aload_n 0, 1) := by decide +kernel
theorem dX10_orderOf_18 : decode cX10_orderOf 18 = .ok (.iload_n 1, 1) := by decide +kernel
theorem dX10_orderOf_19 : decode cX10_orderOf 19 = .ok (.iload_n 2, 1) := by decide +kernel
theorem dX10_orderOf_20 : decode cX10_orderOf 20 = .ok (.iload_n 3, 1) := by decide +kernel
theorem dX10_orderOf_21 : decode cX10_orderOf 21 = .ok (.invokestatic 112, 3) := by decide +kernel
theorem dX10_orderOf_24 : decode cX10_orderOf 24 = .ok (.idiv, 1) := by decide +kernel
theorem dX10_orderOf_25 : decode cX10_orderOf 25 = .ok (.invokevirtual 105, 3) := by decide +kernel
theorem dX10_orderOf_28 : decode cX10_orderOf 28 = .ok (.iconst 1, 1) := by decide +kernel
theorem dX10_orderOf_29 : decode cX10_orderOf 29 = .ok (.if_icmp .ne 10, 3) := by decide +kernel
theorem dX10_orderOf_32 : decode cX10_orderOf 32 = .ok (.iload_n 2, 1) := by decide +kernel
theorem dX10_orderOf_33 : decode cX10_orderOf 33 = .ok (.iload_n 3, 1) := by decide +kernel
theorem dX10_orderOf_34 : decode cX10_orderOf 34 = .ok (.invokestatic 112, 3) := by decide +kernel
theorem dX10_orderOf_37 : decode cX10_orderOf 37 = .ok (.idiv, 1) := by decide +kernel
theorem dX10_orderOf_38 : decode cX10_orderOf 38 = .ok (.istore_n 2, 1) := by decide +kernel
theorem dX10_orderOf_39 : decode cX10_orderOf 39 = .ok (.iinc 3 1, 3) := by decide +kernel
theorem dX10_orderOf_42 : decode cX10_orderOf 42 = .ok (.goto (-33), 3) := by decide +kernel
theorem dX10_orderOf_45 : decode cX10_orderOf 45 = .ok (.iload_n 2, 1) := by decide +kernel
theorem dX10_orderOf_46 : decode cX10_orderOf 46 = .ok (.ireturn, 1) := by decide +kernel
theorem dX10_poly_0 : decode cX10_poly 0 = .ok (.aload_n 0, 1) := by decide +kernel
theorem dX10_poly_1 : decode cX10_poly 1 = .ok (.iconst 0, 1) := by decide +kernel
theorem dX10_poly_2 : decode cX10_poly 2 = .ok (.putfield 1, 3) := by decide +kernel
theorem dX10_poly_5 : decode cX10_poly 5 = .ok (.aload_n 0, 1) := by decide +kernel
theorem dX10_poly_6 : decode cX10_poly 6 = .ok (.getfield 81, 3) := by decide +kernel
theorem dX10_poly_9 : decode cX10_poly 9 = .ok (.ireturn, 1) := by decide +kernel
theorem dX10_generator_0 : decode cX10_generator 0 = .ok (.aload_n 0, 1) := by decide +kernel
theorem dX10_generator_1 : decode cX10_generator 1 = .ok (.iconst 0, 1) := by decide +kernel
theorem dX10_generator_2 : decode cX10_generator 2 = .ok (.putfield 1, 3) := by decide +kernel
theorem dX10_generator_5 : decode cX10_generator 5 = .ok (.aload_n 0, 1) := by decide +kernel
theorem dX10_generator_6 : decode cX10_generator 6 = .ok (.getfield 88, 3) := by decide +kernel
theorem dX10_generator_9 : decode cX10_generator 9 = .ok (.ireturn, 1) := by decide +kernel
theorem dX10_product_0 : decode cX10_product 0 = .ok (.aload_n 0, 1) := by decide +kernel
theorem dX10_product_1 : decode cX10_product 1 = .ok (.iconst 0, 1) := by decide +kernel
theorem dX10_product_2 : decode cX10_product 2 = .ok (.putfield 1, 3) := by decide +kernel
theorem dX10_product_5 : decode cX10_product 5 = .ok (.aload_n 0, 1) := by decide +kernel
theorem dX10_product_6 : decode cX10_product 6 = .ok (.iload_n 1, 1) := by decide +kernel
theorem dX10_product_7 : decode cX10_product 7 = .ok (.invokevirtual 115, 3) := by decide +kernel
theorem dX10_product_10 : decode cX10_product 10 = .ok (.ifCond .eq 20, 3) := by decide +kernel
theorem dX10_product_13 : decode cX10_product 13 = .ok (.aload_n 0, 1) := by decide +kernel
theorem dX10_product_14 : decode cX10_product 14 = .ok (.iload_n 2, 1) := by decide +kernel
theorem dX10_product_15 : decode cX10_product 15 = .ok (.invokevirtual 115, 3) := by decide +kernel
theorem dX10_product_18 : decode cX10_product 18 = .ok (.ifCond .eq 12, 3) := by decide +kernel
theorem dX10_product_21 : decode cX10_product 21 = .ok (.aload_n 0, 1) := by decide +kernel
theorem dX10_product_22 : decode cX10_product 22 = .ok (.iload_n 1, 1) := by decide +kernel
theorem dX10_product_23 : decode cX10_product 23 = .ok (.iload_n 2, 1) := by decide +kernel
theorem dX10_product_24 : decode cX10_product 24 = .ok (.invokevirtual 102, 3) := by decide +kernel
theorem dX10_product_27 : decode cX10_product 27 = .ok (.goto 8, 3) := by decide +kernel
theorem dX10_product_30 : decode cX10_product 30 = .ok (.aload_n 0, 1) := by decide +kernel
theorem dX10_product_31 : decode cX10_product 31 = .ok (.iconst 1, 1) := by decide +kernel
theorem dX10_product_32 : decode cX10_product 32 = .ok (.invokevirtual 118, 3) := by decide +kernel
theorem dX10_product_35 : decode cX10_product 35 = .ok (.ireturn, 1) := by decide +kernel
theorem dX10_quotient_0 : decode cX10_quotient 0 = .ok (.aload_n 0, 1) := by decide +kernel
theorem dX10_quotient_1 : decode cX10_quotient 1 = .ok (.iconst 0, 1) := by decide +kernel
theorem dX10_quotient_2 : decode cX10_quotient 2 = .ok (.putfield 1, 3) := by decide +kernel
theorem dX10_quotient_5 : decode cX10_quotient 5 = .ok (.aload_n 0, 1) := by decide +kernel
theorem dX10_quotient_6 : decode cX10_quotient 6 = .ok (.iload_n 1, 1) := by decide +kernel
theorem dX10_quotient_7 : decode cX10_quotient 7 = .ok (.invokevirtual 115, 3) := by decide +kernel
theorem dX10_quotient_10 : decode cX10_quotient 10 = .ok (.ifCond .eq 11, 3) := by decide +kernel
theorem dX10_quotient_13 : decode cX10_quotient 13 = .ok (.aload_n 0, 1) := by decide +kernel
theorem dX10_quotient_14 : decode cX10_quotient 14 = .ok (.iload_n 2, 1) := by decide +kernel
theorem dX10_quotient_15 : decode cX10_quotient 15 = .ok (.invokevirtual 115, 3) := by decide +kernel
theorem dX10_quotient_18 : decode cX10_quotient 18 = .ok (.ifCond .ne 9, 3) := by decide +kernel
theorem dX10_quotient_21 : decode cX10_quotient 21 = .ok (.aload_n 0, 1) := by decide +kernel
theorem dX10_quotient_22 : decode cX10_quotient 22 = .ok (.iconst 1, 1) := by decide +kernel
theorem dX10_quotient_23 : decode cX10_quotient 23 = .ok (.invokevirtual 118, 3) := by decide +kernel
theorem dX10_quotient_26 : decode cX10_quotient 26 = .ok (.ireturn, 1) := by decide +kernel
theorem dX10_quotient_27 : decode cX10_quotient 27 = .ok (.iload_n 2, 1) := by decide +kernel
theorem dX10_quotient_28 : decode cX10_quotient 28 = .ok (.ifCond .ne 11, 3) := by decide +kernel
theorem dX10_quotient_31 : decode cX10_quotient 31 = .ok (.aload_n 0, 1) := by decide +kernel
theorem dX10_quotient_32 : decode cX10_quotient 32 = .ok (.iconst 2, 1) := by decide +kernel
theorem dX10_quotient_33 : decode cX10_quotient 33 = .ok (.invokevirtual 118, 3) := by decide +kernel
theorem dX10_quotient_36 : decode cX10_quotient 36 = .ok (.goto 13, 3) := by decide +kernel
theorem dX10_quotient_39 : decode cX10_quotient 39 = .ok (.aload_n 0, 1) := by decide +kernel
theorem dX10_quotient_40 : decode cX10_quotient 40 = .ok (.iload_n 1, 1) := by decide +kernel
theorem dX10_quotient_41 : decode cX10_quotient 41 = .ok (.aload_n 0, 1) := by decide +kernel
theorem dX10_quotient_42 : decode cX10_quotient 42 = .ok (.iload_n 2, 1) := by decide +kernel
theorem dX10_quotient_43 : decode cX10_quotient 43 = .ok (.invokevirtual 121, 3) := by decide +kernel
theorem dX10_quotient_46 : decode cX10_quotient 46 = .ok (.invokevirtual 102, 3) := by decide +kernel
theorem dX10_quotient_49 : decode cX10_quotient 49 = .ok (.ireturn, 1) := by decide +kernel
theorem dX10_power_0 : decode cX10_power 0 = .ok (.aload_n 0, 1) := by decide +kernel
theorem dX10_power_1 : decode cX10_power 1 = .ok (.iconst 0, 1) := by decide +kernel
theorem dX10_power_2 : decode cX10_power 2 = .ok (.putfield 1, 3) := by decide +kernel
theorem dX10_power_5 : decode cX10_power 5 = .ok (.aload_n 0, 1) := by decide +kernel
theorem dX10_power_6 : decode cX10_power 6 = .ok (.iload_n 1, 1) := by decide +kernel
theorem dX10_power_7 : decode cX10_power 7 = .ok (.invokevirtual 115, 3) := by decide +kernel
theorem dX10_power_10 : decode cX10_power 10 = .ok (.ifCond .ne 9, 3) := by decide +kernel
theorem dX10_power_13 : decode cX10_power 13 = .ok (.aload_n 0, 1) := by decide +kernel
theorem dX10_power_14 : decode cX10_power 14 = .ok (.iconst 1, 1) := by decide +kernel
theorem dX10_power_15 : decode cX10_power 15 = .ok (.invokevirtual 118, 3) := by decide +kernel
theorem dX10_power_18 : decode cX10_power 18 = .ok (.ireturn, 1) := by decide +kernel
theorem dX10_power_19 : decode cX10_power 19 = .ok (.iload_n 1, 1) := by decide +kernel
theorem dX10_power_20 : decode cX10_power 20 = .ok (.ifCond .ne 29, 3) := by decide +kernel
theorem dX10_power_23 : decode cX10_power 23 = .ok (.lload_n 2, 1) := by decide +kernel
theorem dX10_power_24 : decode cX10_power 24 = .ok (.lconst 0, 1) := by decide +kernel
theorem dX10_power_25 : decode cX10_power 25 = .ok (.lcmp, 1) := by decide +kernel
theorem dX10_power_26 : decode cX10_power 26 = .ok (.ifCond .ge 11, 3) := by decide +kernel
theorem dX10_power_29 : decode cX10_power 29 = .ok (.aload_n 0, 1) := by decide +kernel
theorem dX10_power_30 : decode cX10_power 30 = .ok (.iconst 2, 1) := by decide +kernel
theorem dX10_power_31 : decode cX10_power 31 = .ok (.invokevirtual 118, 3) := by decide +kernel
theorem dX10_power_34 : decode cX10_power 34 = .ok (.goto 14, 3) := by decide +kernel
theorem dX10_power_37 : decode cX10_power 37 = .ok (.lload_n 2, 1) := by decide +kernel
theorem dX10_power_38 : decode cX10_power 38 = .ok (.lconst 0, 1) := by decide +kernel
theorem dX10_power_39 : decode cX10_power 39 = .ok (.lcmp, 1) := by decide +kernel
theorem dX10_power_40 : decode cX10_power 40 = .ok (.ifCond .ne 7, 3) := by decide +kernel
theorem dX10_power_43 : decode cX10_power 43 = .ok (.iconst 1, 1) := by decide +kernel
theorem dX10_power_44 : decode cX10_power 44 = .ok (.goto 4, 3) := by decide +kernel
theorem dX10_power_47 : decode cX10_power 47 = .ok (.iconst 0, 1) := by decide +kernel
theorem dX10_power_48 : decode cX10_power 48 = .ok (.ireturn, 1) := by decide +kernel
theorem dX10_power_49 : decode cX10_power 49 = .ok (.lload_n 2, 1) := by decide +kernel
theorem dX10_power_50 : decode cX10_power 50 = .ok (.aload_n 0, 1) := by decide +kernel
theorem dX10_power_51 : decode cX10_power 51 = .ok (.getfield 78, 3) := by decide +kernel
theorem dX10_power_54 : decode cX10_power 54 = .ok (.iconst 1, 1) := by decide +kernel
theorem dX10_power_55 : decode cX10_power 55 = .ok (.isub, 1) := by decide +kernel
theorem dX10_power_56 : decode cX10_power 56 = .ok (.i2l, 1) := by decide +kernel
theorem dX10_power_57 : decode cX10_power 57 = .ok (.lrem, 1) := by decide +kernel
theorem dX10_power_58 : decode cX10_power 58 = .ok (.lstore 4, 2) := by decide +kernel
theorem dX10_power_60 : decode cX10_power 60 = .ok (.aload_n 0, 1) := by decide +kernel
theorem dX10_power_61 : decode cX10_power 61 = .ok (.iload_n 1, 1) := by decide +kernel
theorem dX10_power_62 : decode cX10_power 62 = .ok (.lload 4, 2) := by decide +kernel
theorem dX10_power_64 : decode cX10_power 64 = .ok (.lconst 0, 1) := by decide +kernel
theorem dX10_power_65 : decode cX10_power 65 = .ok (.lcmp, 1) := by decide +kernel
theorem dX10_power_66 : decode cX10_power 66 = .ok (.ifCond .ge 16, 3) := by decide +kernel
theorem dX10_power_69 : decode cX10_power 69 = .ok (.lload 4, 2) := by decide +kernel
theorem dX10_power_71 : decode cX10_power 71 = .ok (.aload_n 0, 1) := by decide +kernel
theorem dX10_power_72 : decode cX10_power 72 = .ok (.getfield 78, 3) := by decide +kernel
theorem dX10_power_75 : decode cX10_power 75 = .ok (.i2l, 1) := by decide +kernel
theorem dX10_power_76 : decode cX10_power 76 = .ok (.ladd, 1) := by decide +kernel
theorem dX10_power_77 : decode cX10_power 77 = .ok (.lconst 1, 1) := by decide +kernel
theorem dX10_power_78 : decode cX10_power 78 = .ok (.lsub, 1) := by decide +kernel
theorem dX10_power_79 : decode cX10_power 79 = .ok (.goto 5, 3) := by decide +kernel
theorem dX10_power_82 : decode cX10_power 82 = .ok (.lload 4, 2) := by decide +kernel
theorem dX10_power_84 : decode cX10_power 84 = .ok (.l2i, 1) := by decide +kernel
theorem dX10_power_85 : decode cX10_power 85 = .ok (.invokevirtual 105, 3) := by decide +kernel
theorem dX10_power_88 : decode cX10_power 88 = .ok (.ireturn, 1) := by decide +kernel
theorem dX10_log_0 : decode cX10_log 0 = .ok (.aload_n 0, 1) := by decide +kernel
theorem dX10_log_1 : decode cX10_log 1 = .ok (.iconst 0, 1) := by decide +kernel
theorem dX10_log_2 : decode cX10_log 2 = .ok (.putfield 1, 3) := by decide +kernel
theorem dX10_log_5 : decode cX10_log 5 = .ok (.aload_n 0, 1) := by decide +kernel
theorem dX10_log_6 : decode cX10_log 6 = .ok (.iload_n 1, 1) := by decide +kernel
theorem dX10_log_7 : decode cX10_log 7 = .ok (.invokevirtual 115, 3) := by decide +kernel
theorem dX10_log_10 : decode cX10_log 10 = .ok (.ifCond .ne 9, 3) := by decide +kernel
theorem dX10_log_13 : decode cX10_log 13 = .ok (.aload_n 0, 1) := by decide +kernel
theorem dX10_log_14 : decode cX10_log 14 = .ok (.iconst 1, 1) := by decide +kernel
theorem dX10_log_15 : decode cX10_log 15 = .ok (.invokevirtual 118, 3) := by decide +kernel
theorem dX10_log_18 : decode cX10_log 18 = .ok (.ireturn, 1) := by decide +kernel
theorem dX10_log_19 : decode cX10_log 19 = .ok (.iload_n 1, 1) := by decide +kernel
theorem dX10_log_20 : decode cX10_log 20 = .ok (.ifCond .ne 9, 3) := by decide +kernel
theorem dX10_log_23 : decode cX10_log 23 = .ok (.aload_n 0, 1) := by decide +kernel
theorem dX10_log_24 : decode cX10_log 24 = .ok (.iconst 2, 1) := by decide +kernel
theorem dX10_log_25 : decode cX10_log 25 = .ok (.invokevirtual 118, 3) := by decide +kernel
theorem dX10_log_28 : decode cX10_log 28 = .ok (.ireturn, 1) := by decide +kernel
theorem dX10_log_29 : decode cX10_log 29 = .ok (.aload_n 0, 1) := by decide +kernel
theorem dX10_log_30 : decode cX10_log 30 = .ok (.getfield 78, 3) := by decide +kernel
theorem dX10_log_33 : decode cX10_log 33 = .ok (.iconst 1, 1) := by decide +kernel
theorem dX10_log_34 : decode cX10_log 34 = .ok (.isub, 1) := by decide +kernel
theorem dX10_log_35 : decode cX10_log 35 = .ok (.istore_n 2, 1) := by decide +kernel
theorem dX10_log_36 : decode cX10_log 36 = .ok (.iconst 0, 1) := by decide +kernel
theorem dX10_log_37 : decode cX10_log 37 = .ok (.istore_n 3, 1) := by decide +kernel
theorem dX10_log_38 : decode cX10_log 38 = .ok (.iconst 1, 1) := by decide +kernel
theorem dX10_log_39 : decode cX10_log 39 = .ok (.istore 4, 2) := by decide +kernel
theorem dX10_log_41 : decode cX10_log 41 = .ok (.iconst 0, 1) := by decide +kernel
theorem dX10_log_42 : decode cX10_log 42 = .ok (.istore 5, 2) := by decide +kernel
theorem dX10_log_44 : decode cX10_log 44 = .ok (.iload 5, 2) := by decide +kernel
theorem dX10_log_46 : decode cX10_log 46 = .ok (.aload_n 0, 1) := by decide +kernel
theorem dX10_log_47 : decode cX10_log 47 = .ok (.invokevirtual 108, 3) := by decide +kernel
theorem dX10_log_50 : decode cX10_log 50 = .ok (.if_icmp .ge 94, 3) := by decide +kernel
theorem dX10_log_53 : decode cX10_log 53 = .ok (.iload 5, 2) := by decide +kernel
theorem dX10_log_55 : decode cX10_log 55 = .ok (.invokestatic 112, 3) := by decide +kernel
theorem dX10_log_58 : decode cX10_log 58 = .ok (.istore 6, 2) := by decide +kernel
theorem dX10_log_60 : decode cX10_log 60 = .ok (.aload_n 0, 1) := by decide +kernel
theorem dX10_log_61 : decode cX10_log 61 = .ok (.iload_n 1, 1) := by decide +kernel
theorem dX10_log_62 : decode cX10_log 62 = .ok (.iload_n 2, 1) := by decide +kernel
theorem dX10_log_63 : decode cX10_log 63 = .ok (.iload 6, 2) := by decide +kernel
theorem dX10_log_65 : decode cX10_log 65 = .ok (.idiv, 1) := by decide +kernel
theorem dX10_log_66 : decode cX10_log 66 = .ok (.invokevirtual 105, 3) := by decide +kernel
theorem dX10_log_69 : decode cX10_log 69 = .ok (.istore 7, 2) := by decide +kernel
theorem dX10_log_71 : decode cX10_log 71 = .ok (.aload_n 0, 1) := by decide +kernel
theorem dX10_log_72 : decode cX10_log 72 = .ok (.aload_n 0, 1) := by decide +kernel
theorem dX10_log_73 : decode cX10_log 73 = .ok (.getfield 88, 3) := by decide +kernel
theorem dX10_log_76 : decode cX10_log 76 = .ok (.iload_n 2, 1) := by decide +kernel
theorem dX10_log_77 : decode cX10_log 77 = .ok (.iload 6, 2) := by decide +kernel
theorem dX10_log_79 : decode cX10_log 79 = .ok (.idiv, 1) := by decide +kernel
theorem dX10_log_80 : decode cX10_log 80 = .ok (.invokevirtual 105, 3) := by decide +kernel
theorem dX10_log_83 : decode cX10_log 83 = .ok (.istore 8, 2) := by decide +kernel
theorem dX10_log_85 : decode cX10_log 85 = .ok (.iconst 0, 1) := by decide +kernel
theorem dX10_log_86 : decode cX10_log 86 = .ok (.istore 9, 2) := by decide +kernel
theorem dX10_log_88 : decode cX10_log 88 = .ok (.iconst 1, 1) := by decide +kernel
theorem dX10_log_89 : decode cX10_log 89 = .ok (.istore 10, 2) := by decide +kernel
theorem dX10_log_91 : decode cX10_log 91 = .ok (.iload 10, 2) := by decide +kernel
theorem dX10_log_93 : decode cX10_log 93 = .ok (.iload 7, 2) := by decide +kernel
theorem dX10_log_95 : decode cX10_log 95 = .ok (.if_icmp .eq 19, 3) := by decide +kernel
theorem dX10_log_98 : decode cX10_log 98 = .ok (.aload_n 0, 1) := by decide +kernel
theorem dX10_log_99 : decode cX10_log 99 = .ok (.iload 10, 2) := by decide +kernel
theorem dX10_log_101 : decode cX10_log 101 = .ok (.iload 8, 2) := by decide +kernel
theorem dX10_log_103 : decode cX10_log 103 = .ok (.invokevirtual 102, 3) := by decide +kernel
theorem dX10_log_106 : decode cX10_log 106 = .ok (.istore 10, 2) := by decide +kernel
theorem dX10_log_108 : decode cX10_log 108 = .ok (.iinc 9 1, 3) := by decide +kernel
theorem dX10_log_111 : decode cX10_log 111 = .ok (.goto (-20), 3) := by decide +kernel
theorem dX10_log_114 : decode cX10_log 114 = .ok (.iload_n 3, 1) := by decide +kernel
theorem dX10_log_115 : decode cX10_log 115 = .ok (.iload 6, 2) := by decide +kernel
theorem dX10_log_117 : decode cX10_log 117 = .ok (.irem, 1) := by decide +kernel
theorem dX10_log_118 : decode cX10_log 118 = .ok (.iload 9, 2) := by decide +kernel
theorem dX10_log_120 : decode cX10_log 120 = .ok (.if_icmp .eq 11, 3) := by decide +kernel
theorem dX10_log_123 : decode cX10_log 123 = .ok (.iload_n 3, 1) := by decide +kernel
theorem dX10_log_124 : decode cX10_log 124 = .ok (.iload 4, 2) := by decide +kernel
theorem dX10_log_126 : decode cX10_log 126 = .ok (.iadd, 1) := by decide +kernel
theorem dX10_log_127 : decode cX10_log 127 = .ok (.istore_n 3, 1) := by decide +kernel
theorem dX10_log_128 : decode cX10_log 128 = .ok (.goto (-14), 3) := by decide +kernel
theorem dX10_log_131 : decode cX10_log 131 = .ok (.iload 4, 2) := by decide +kernel
theorem dX10_log_133 : decode cX10_log 133 = .ok (.iload 6, 2) := by decide +kernel
theorem dX10_log_135 : decode cX10_log 135 = .ok (.imul, 1) := by decide +kernel
theorem dX10_log_136 : decode cX10_log 136 = .ok (.istore 4, 2) := by decide +kernel
theorem dX10_log_138 : decode cX10_log 138 = .ok (.iinc 5 1, 3) := by decide +kernel
theorem dX10_log_141 : decode cX10_log 141 = .ok (.goto (-97), 3) := by decide +kernel
theorem dX10_log_144 : decode cX10_log 144 = .ok (.iload_n 3, 1) := by decide +kernel
theorem dX10_log_145 : decode cX10_log 145 = .ok (.ireturn, 1) := by decide +kernel
theorem dX10_order_0 : decode cX10_order 0 = .ok (.aload_n 0, 1) := by decide +kernel
theorem dX10_order_1 : decode cX10_order 1 = .ok (.iconst 0, 1) := by decide +kernel
theorem dX10_order_2 : decode cX10_order 2 = .ok (.putfield 1, 3) := by decide +kernel
theorem dX10_order_5 : decode cX10_order 5 = .ok (.aload_n 0, 1) := by decide +kernel
theorem dX10_order_6 : decode cX10_order 6 = .ok (.iload_n 1, 1) := by decide +kernel
theorem dX10_order_7 : decode cX10_order 7 = .ok (.invokevirtual 115, 3) := by decide +kernel
theorem dX10_order_10 : decode cX10_order 10 = .ok (.ifCond .ne 9, 3) := by decide +kernel
theorem dX10_order_13 : decode cX10_order 13 = .ok (.aload_n 0, 1) := by decide +kernel
theorem dX10_order_14 : decode cX10_order 14 = .ok (.iconst 1, 1) := by decide +kernel
theorem dX10_order_15 : decode cX10_order 15 = .ok (.invokevirtual 118, 3) := by decide +kernel
theorem dX10_order_18 : decode cX10_order 18 = .ok (.ireturn, 1) := by decide +kernel
theorem dX10_order_19 : decode cX10_order 19 = .ok (.iload_n 1, 1) := by decide +kernel
theorem dX10_order_20 : decode cX10_order 20 = .ok (.ifCond .ne 7, 3) := by decide +kernel
theorem dX10_order_23 : decode cX10_order 23 = .ok (.iconst 0, 1) := by decide +kernel
theorem dX10_order_24 : decode cX10_order 24 = .ok (.goto 8, 3) := by decide +kernel
theorem dX10_order_27 : decode cX10_order 27 = .ok (.aload_n 0, 1) := by decide +kernel
theorem dX10_order_28 : decode cX10_order 28 = .ok (.iload_n 1, 1) := by decide +kernel
theorem dX10_order_29 : decode cX10_order 29 = .ok (.invokevirtual 91, 3) := by decide +kernel
theorem dX10_order_32 : decode cX10_order 32 = .ok (.ireturn, 1) := by decide +kernel
theorem dX10_put_0 : decode cX10_put 0 = .ok (.aload_n 0, 1) := by decide +kernel
theorem dX10_put_1 : decode cX10_put 1 = .ok (.iconst 0, 1) := by decide +kernel
theorem dX10_put_2 : decode cX10_put 2 = .ok (.putfield 1, 3) := by decide +kernel
theorem dX10_put_5 : decode cX10_put 5 = .ok (.aload_n 0, 1) := by decide +kernel
theorem dX10_put_6 : decode cX10_put 6 = .ok (.iload_n 1, 1) := by decide +kernel
theorem dX10_put_7 : decode cX10_put 7 = .ok (.invokevirtual 115, 3) := by decide +kernel
theorem dX10_put_10 : decode cX10_put 10 = .ok (.ifCond .ne 9, 3) := by decide +kernel
theorem dX10_put_13 : decode cX10_put 13 = .ok (.aload_n 0, 1) := by decide +kernel
theorem dX10_put_14 : decode cX10_put 14 = .ok (.iconst 1, 1) := by decide +kernel
theorem dX10_put_15 : decode cX10_put 15 = .ok (.invokevirtual 118, 3) := by decide +kernel
theorem dX10_put_18 : decode cX10_put 18 = .ok (.ireturn, 1) := by decide +kernel
theorem dX10_put_19 : decode cX10_put 19 = .ok (.aload_n 0, 1) := by decide +kernel
theorem dX10_put_20 : decode cX10_put 20 = .ok (.getfield 124, 3) := by decide +kernel
theorem dX10_put_23 : decode cX10_put 23 = .ok (.sipush 130, 3) := by decide +kernel
theorem dX10_put_26 : decode cX10_put 26 = .ok (.if_icmp .ne 9, 3) := by decide +kernel
theorem dX10_put_29 : decode cX10_put 29 = .ok (.aload_n 0, 1) := by decide +kernel
theorem dX10_put_30 : decode cX10_put 30 = .ok (.iconst 2, 1) := by decide +kernel
theorem dX10_put_31 : decode cX10_put 31 = .ok (.invokevirtual 118, 3) := by decide +kernel
theorem dX10_put_34 : decode cX10_put 34 = .ok (.ireturn, 1) := by decide +kernel
theorem dX10_put_35 : decode cX10_put 35 = .ok (.aload_n 0, 1) := by decide +kernel
theorem dX10_put_36 : decode cX10_put 36 = .ok (.getfield 13, 3) := by decide +kernel
theorem dX10_put_39 : decode cX10_put 39 = .ok (.aload_n 0, 1) := by decide +kernel
theorem dX10_put_40 : decode cX10_put 40 = .ok (.getfield 124, 3) := by decide +kernel
theorem dX10_put_43 : decode cX10_put 43 = .ok (.iload_n 1, 1) := by decide +kernel
theorem dX10_put_44 : decode cX10_put 44 = .ok (.iastore, 1) := by decide +kernel
theorem dX10_put_45 : decode cX10_put 45 = .ok (.aload_n 0, 1) := by decide +kernel
theorem dX10_put_46 : decode cX10_put 46 = .ok (.dup, 1) := by decide +kernel
theorem dX10_put_47 : decode cX10_put 47 = .ok (.getfield 124, 3) := by decide +kernel
theorem dX10_put_50 : decode cX10_put 50 = .ok (.iconst 1, 1) := by decide +kernel
theorem dX10_put_51 : decode cX10_put 51 = .ok (.iadd, 1) := by decide +kernel
theorem dX10_put_52 : decode cX10_put 52 = .ok (.putfield 124, 3) := by decide +kernel
theorem dX10_put_55 : decode cX10_put 55 = .ok (.aload_n 0, 1) := by decide +kernel
theorem dX10_put_56 : decode cX10_put 56 = .ok (.getfield 124, 3) := by decide +kernel
theorem dX10_put_59 : decode cX10_put 59 = .ok (.ireturn, 1) := by decide +kernel
theorem dX10_row_0 : decode cX10_row 0 = .ok (.aload_n 0, 1) := by decide +kernel
theorem dX10_row_1 : decode cX10_row 1 = .ok (.iconst 0, 1) := by decide +kernel
theorem dX10_row_2 : decode cX10_row 2 = .ok (.putfield 1, 3) := by decide +kernel
theorem dX10_row_5 : decode cX10_row 5 = .ok (.iload_n 1, 1) := by decide +kernel
theorem dX10_row_6 : decode cX10_row 6 = .ok (.ifCond .ge 11, 3) := by decide +kernel
theorem dX10_row_9 : decode cX10_row 9 = .ok (.aload_n 0, 1) := by decide +kernel
theorem dX10_row_10 : decode cX10_row 10 = .ok (.iconst 1, 1) := by decide +kernel
theorem dX10_row_11 : decode cX10_row 11 = .ok (.invokevirtual 118, 3) := by decide +kernel
theorem dX10_row_14 : decode cX10_row 14 = .ok (.goto 21, 3) := by decide +kernel
theorem dX10_row_17 : decode cX10_row 17 = .ok (.iload_n 1, 1) := by decide +kernel
theorem dX10_row_18 : decode cX10_row 18 = .ok (.aload_n 0, 1) := by decide +kernel
theorem dX10_row_19 : decode cX10_row 19 = .ok (.getfield 124, 3) := by decide +kernel
theorem dX10_row_22 : decode cX10_row 22 = .ok (.if_icmp .ge 12, 3) := by decide +kernel
theorem dX10_row_25 : decode cX10_row 25 = .ok (.aload_n 0, 1) := by decide +kernel
theorem dX10_row_26 : decode cX10_row 26 = .ok (.getfield 13, 3) := by decide +kernel
theorem dX10_row_29 : decode cX10_row 29 = .ok (.iload_n 1, 1) := by decide +kernel
theorem dX10_row_30 : decode cX10_row 30 = .ok (.iaload, 1) := by decide +kernel
theorem dX10_row_31 : decode cX10_row 31 = .ok (.goto 4, 3) := by decide +kernel
theorem dX10_row_34 : decode cX10_row 34 = .ok (.iconst (-1), 1) := by decide +kernel
theorem dX10_row_35 : decode cX10_row 35 = .ok (.ireturn, 1) := by decide +kernel
theorem dX10_drop_0 : decode cX10_drop 0 = .ok (.aload_n 0, 1) := by decide +kernel
theorem dX10_drop_1 : decode cX10_drop 1 = .ok (.iconst 0, 1) := by decide +kernel
theorem dX10_drop_2 : decode cX10_drop 2 = .ok (.putfield 1, 3) := by decide +kernel
theorem dX10_drop_5 : decode cX10_drop 5 = .ok (.aload_n 0, 1) := by decide +kernel
theorem dX10_drop_6 : decode cX10_drop 6 = .ok (.getfield 124, 3) := by decide +kernel
theorem dX10_drop_9 : decode cX10_drop 9 = .ok (.istore_n 1, 1) := by decide +kernel
theorem dX10_drop_10 : decode cX10_drop 10 = .ok (.aload_n 0, 1) := by decide +kernel
theorem dX10_drop_11 : decode cX10_drop 11 = .ok (.iconst 0, 1) := by decide +kernel
theorem dX10_drop_12 : decode cX10_drop 12 = .ok (.putfield 124, 3) := by decide +kernel
theorem dX10_drop_15 : decode cX10_drop 15 = .ok (.iload_n 1, 1) := by decide +kernel
theorem dX10_drop_16 : decode cX10_drop 16 = .ok (.ireturn, 1) := by decide +kernel
theorem dX10_hasAlike_0 : decode cX10_hasAlike 0 = .ok (.iconst 0, 1) := by decide +kernel
theorem dX10_hasAlike_1 : decode cX10_hasAlike 1 = .ok (.istore_n 3, 1) := by decide +kernel
theorem dX10_hasAlike_2 : decode cX10_hasAlike 2 = .ok (.iload_n 1, 1) := by decide +kernel
theorem dX10_hasAlike_3 : decode cX10_hasAlike 3 = .ok (.istore 4, 2) := by decide +kernel
theorem dX10_hasAlike_5 : decode cX10_hasAlike 5 = .ok (.iload 4, 2) := by decide +kernel
theorem dX10_hasAlike_7 : decode cX10_hasAlike 7 = .ok (.aload_n 0, 1) := by decide +kernel
theorem dX10_hasAlike_8 : decode cX10_hasAlike 8 = .ok (.getfield 124, 3) := by decide +kernel
theorem dX10_hasAlike_11 : decode cX10_hasAlike 11 = .ok (.if_icmp .ge 56, 3) := by decide +kernel
theorem dX10_hasAlike_14 : decode cX10_hasAlike 14 = .ok (.iload_n 1, 1) := by decide +kernel
theorem dX10_hasAlike_15 : decode cX10_hasAlike 15 = .ok (.istore 5, 2) := by decide +kernel
theorem dX10_hasAlike_17 : decode cX10_hasAlike 17 = .ok (.iload 5, 2) := by decide +kernel
theorem dX10_hasAlike_19 : decode cX10_hasAlike 19 = .ok (.iload 4, 2) := by decide +kernel
theorem dX10_hasAlike_21 : decode cX10_hasAlike 21 = .ok (.if_icmp .ge 37, 3) := by decide +kernel
theorem dX10_hasAlike_24 : decode cX10_hasAlike 24 = .ok (.iload_n 3, 1) := by decide +kernel
theorem dX10_hasAlike_25 : decode cX10_hasAlike 25 = .ok (.aload_n 0, 1) := by decide +kernel
theorem dX10_hasAlike_26 : decode cX10_hasAlike 26 = .ok (.getfield 13, 3) := by decide +kernel
theorem dX10_hasAlike_29 : decode cX10_hasAlike 29 = .ok (.iload 4, 2) := by decide +kernel
theorem dX10_hasAlike_31 : decode cX10_hasAlike 31 = .ok (.iaload, 1) := by decide +kernel
theorem dX10_hasAlike_32 : decode cX10_hasAlike 32 = .ok (.aload_n 0, 1) := by decide +kernel
theorem dX10_hasAlike_33 : decode cX10_hasAlike 33 = .ok (.getfield 13, 3) := by decide +kernel
theorem dX10_hasAlike_36 : decode cX10_hasAlike 36 = .ok (.iload 5, 2) := by decide +kernel
theorem dX10_hasAlike_38 : decode cX10_hasAlike 38 = .ok (.iaload, 1) := by decide +kernel
theorem dX10_hasAlike_39 : decode cX10_hasAlike 39 = .ok (.if_icmp .ne 7, 3) := by decide +kernel
theorem dX10_hasAlike_42 : decode cX10_hasAlike 42 = .ok (.iconst 1, 1) := by decide +kernel
theorem dX10_hasAlike_43 : decode cX10_hasAlike 43 = .ok (.goto 4, 3) := by decide +kernel
theorem dX10_hasAlike_46 : decode cX10_hasAlike 46 = .ok (.iconst 0, 1) := by decide +kernel
theorem dX10_hasAlike_47 : decode cX10_hasAlike 47 = .ok (.ior, 1) := by decide +kernel
theorem dX10_hasAlike_48 : decode cX10_hasAlike 48 = .ok (.istore_n 3, 1) := by decide +kernel
theorem dX10_hasAlike_49 : decode cX10_hasAlike 49 = .ok (.iload 5, 2) := by decide +kernel
theorem dX10_hasAlike_51 : decode cX10_hasAlike 51 = .ok (.iload_n 2, 1) := by decide +kernel
theorem dX10_hasAlike_52 : decode cX10_hasAlike 52 = .ok (.iadd, 1) := by decide +kernel
theorem dX10_hasAlike_53 : decode cX10_hasAlike 53 = .ok (.istore 5, 2) := by decide +kernel
theorem dX10_hasAlike_55 : decode cX10_hasAlike 55 = .ok (.goto (-38), 3) := by decide +kernel
theorem dX10_hasAlike_58 : decode cX10_hasAlike 58 = .ok (.iload 4, 2) := by decide +kernel
theorem dX10_hasAlike_60 : decode cX10_hasAlike 60 = .ok (.iload_n 2, 1) := by decide +kernel
theorem dX10_hasAlike_61 : decode cX10_hasAlike 61 = .ok (.iadd, 1) := by decide +kernel
theorem dX10_hasAlike_62 : decode cX10_hasAlike 62 = .ok (.istore 4, 2) := by decide +kernel
theorem dX10_hasAlike_64 : decode cX10_hasAlike 64 = .ok (.goto (-59), 3) := by decide +kernel
theorem dX10_hasAlike_67 : decode cX10_hasAlike 67 = .ok (.iload_n 3, 1) := by decide +kernel
theorem dX10_hasAlike_68 : decode cX10_hasAlike 68 = .ok (.ireturn, 1) := by decide +kernel
theorem dX10_isSize_0 : decode cX10_isSize 0 = .ok (.iload_n 0, 1) := by decide +kernel
theorem dX10_isSize_1 : decode cX10_isSize 1 = .ok (.iconst 1, 1) := by decide +kernel
theorem dX10_isSize_2 : decode cX10_isSize 2 = .ok (.if_icmp .lt 13, 3) := by decide +kernel
theorem dX10_isSize_5 : decode cX10_isSize 5 = .ok (.iload_n 0, 1) := by decide +kernel
theorem dX10_isSize_6 : decode cX10_isSize 6 = .ok (.bipush 8, 2) := by decide +kernel
theorem dX10_isSize_8 : decode cX10_isSize 8 = .ok (.if_icmp .gt 7, 3) := by decide +kernel
theorem dX10_isSize_11 : decode cX10_isSize 11 = .ok (.iconst 1, 1) := by decide +kernel
theorem dX10_isSize_12 : decode cX10_isSize 12 = .ok (.goto 4, 3) := by decide +kernel
theorem dX10_isSize_15 : decode cX10_isSize 15 = .ok (.iconst 0, 1) := by decide +kernel
theorem dX10_isSize_16 : decode cX10_isSize 16 = .ok (.ireturn, 1) := by decide +kernel
theorem dX10_isMatrix_0 : decode cX10_isMatrix 0 = .ok (.iload_n 1, 1) := by decide +kernel
theorem dX10_isMatrix_1 : decode cX10_isMatrix 1 = .ok (.ifCond .lt 15, 3) := by decide +kernel
theorem dX10_isMatrix_4 : decode cX10_isMatrix 4 = .ok (.iload_n 1, 1) := by decide +kernel
theorem dX10_isMatrix_5 : decode cX10_isMatrix 5 = .ok (.aload_n 0, 1) := by decide +kernel
theorem dX10_isMatrix_6 : decode cX10_isMatrix 6 = .ok (.getfield 127, 3) := by decide +kernel
theorem dX10_isMatrix_9 : decode cX10_isMatrix 9 = .ok (.if_icmp .ge 7, 3) := by decide +kernel
theorem dX10_isMatrix_12 : decode cX10_isMatrix 12 = .ok (.iconst 1, 1) := by decide +kernel
theorem dX10_isMatrix_13 : decode cX10_isMatrix 13 = .ok (.goto 4, 3) := by decide +kernel
theorem dX10_isMatrix_16 : decode cX10_isMatrix 16 = .ok (.iconst 0, 1) := by decide +kernel
theorem dX10_isMatrix_17 : decode cX10_isMatrix 17 = .ok (.ireturn, 1) := by decide +kernel
theorem dX10_at_0 : decode cX10_at 0 = .ok (.bipush 64, 2) := by decide +kernel
theorem dX10_at_2 : decode cX10_at 2 = .ok (.iload_n 1, 1) := by decide +kernel
theorem dX10_at_3 : decode cX10_at 3 = .ok (.imul, 1) := by decide +kernel
theorem dX10_at_4 : decode cX10_at 4 = .ok (.bipush 8, 2) := by decide +kernel
theorem dX10_at_6 : decode cX10_at 6 = .ok (.iload_n 2, 1) := by decide +kernel
theorem dX10_at_7 : decode cX10_at 7 = .ok (.imul, 1) := by decide +kernel
theorem dX10_at_8 : decode cX10_at 8 = .ok (.iadd, 1) := by decide +kernel
theorem dX10_at_9 : decode cX10_at 9 = .ok (.iload_n 3, 1) := by decide +kernel
theorem dX10_at_10 : decode cX10_at 10 = .ok (.iadd, 1) := by decide +kernel
theorem dX10_at_11 : decode cX10_at 11 = .ok (.ireturn, 1) := by decide +kernel
theorem dX10_made_0 : decode cX10_made 0 = .ok (.aload_n 0, 1) := by decide +kernel
theorem dX10_made_1 : decode cX10_made 1 = .ok (.getfield 17, 3) := by decide +kernel
theorem dX10_made_4 : decode cX10_made 4 = .ok (.aload_n 0, 1) := by decide +kernel
theorem dX10_made_5 : decode cX10_made 5 = .ok (.getfield 127, 3) := by decide +kernel
theorem dX10_made_8 : decode cX10_made 8 = .ok (.iload_n 1, 1) := by decide +kernel
theorem dX10_made_9 : decode cX10_made 9 = .ok (.iastore, 1) := by decide +kernel
theorem dX10_made_10 : decode cX10_made 10 = .ok (.aload_n 0, 1) := by decide +kernel
theorem dX10_made_11 : decode cX10_made 11 = .ok (.getfield 20, 3) := by decide +kernel
theorem dX10_made_14 : decode cX10_made 14 = .ok (.aload_n 0, 1) := by decide +kernel
theorem dX10_made_15 : decode cX10_made 15 = .ok (.getfield 127, 3) := by decide +kernel
theorem dX10_made_18 : decode cX10_made 18 = .ok (.iload_n 2, 1) := by decide +kernel
theorem dX10_made_19 : decode cX10_made 19 = .ok (.iastore, 1) := by decide +kernel
theorem dX10_made_20 : decode cX10_made 20 = .ok (.iconst 0, 1) := by decide +kernel
theorem dX10_made_21 : decode cX10_made 21 = .ok (.istore_n 3, 1) := by decide +kernel
theorem dX10_made_22 : decode cX10_made 22 = .ok (.iload_n 3, 1) := by decide +kernel
theorem dX10_made_23 : decode cX10_made 23 = .ok (.bipush 64, 2) := by decide +kernel
theorem dX10_made_25 : decode cX10_made 25 = .ok (.if_icmp .ge 24, 3) := by decide +kernel
theorem dX10_made_28 : decode cX10_made 28 = .ok (.aload_n 0, 1) := by decide +kernel
theorem dX10_made_29 : decode cX10_made 29 = .ok (.getfield 23, 3) := by decide +kernel
theorem dX10_made_32 : decode cX10_made 32 = .ok (.bipush 64, 2) := by decide +kernel
theorem dX10_made_34 : decode cX10_made 34 = .ok (.aload_n 0, 1) := by decide +kernel
theorem dX10_made_35 : decode cX10_made 35 = .ok (.getfield 127, 3) := by decide +kernel
theorem dX10_made_38 : decode cX10_made 38 = .ok (.imul, 1) := by decide +kernel
theorem dX10_made_39 : decode cX10_made 39 = .ok (.iload_n 3, 1) := by decide +kernel
theorem dX10_made_40 : decode cX10_made 40 = .ok (.iadd, 1) := by decide +kernel
theorem dX10_made_41 : decode cX10_made 41 = .ok (.iconst 0, 1) := by decide +kernel
theorem dX10_made_42 : decode cX10_made 42 = .ok (.iastore, 1) := by decide +kernel
theorem dX10_made_43 : decode cX10_made 43 = .ok (.iinc 3 1, 3) := by decide +kernel
theorem dX10_made_46 : decode cX10_made 46 = .ok (.goto (-24), 3) := by decide +kernel
theorem dX10_made_49 : decode cX10_made 49 = .ok (.aload_n 0, 1) := by decide +kernel
theorem dX10_made_50 : decode cX10_made 50 = .ok (.dup, 1) := by decide +kernel
theorem dX10_made_51 : decode cX10_made 51 = .ok (.getfield 127, 3) := by decide +kernel
theorem dX10_made_54 : decode cX10_made 54 = .ok (.iconst 1, 1) := by decide +kernel
theorem dX10_made_55 : decode cX10_made 55 = .ok (.iadd, 1) := by decide +kernel
theorem dX10_made_56 : decode cX10_made 56 = .ok (.putfield 127, 3) := by decide +kernel
theorem dX10_made_59 : decode cX10_made 59 = .ok (.aload_n 0, 1) := by decide +kernel
theorem dX10_made_60 : decode cX10_made 60 = .ok (.getfield 127, 3) := by decide +kernel
theorem dX10_made_63 : decode cX10_made 63 = .ok (.iconst 1, 1) := by decide +kernel
theorem dX10_made_64 : decode cX10_made 64 = .ok (.isub, 1) := by decide +kernel
theorem dX10_made_65 : decode cX10_made 65 = .ok (.ireturn, 1) := by decide +kernel
theorem dX10_matrix_0 : decode cX10_matrix 0 = .ok (.aload_n 0, 1) := by decide +kernel
theorem dX10_matrix_1 : decode cX10_matrix 1 = .ok (.iconst 0, 1) := by decide +kernel
theorem dX10_matrix_2 : decode cX10_matrix 2 = .ok (.putfield 1, 3) := by decide +kernel
theorem dX10_matrix_5 : decode cX10_matrix 5 = .ok (.iload_n 1, 1) := by decide +kernel
theorem dX10_matrix_6 : decode cX10_matrix 6 = .ok (.invokestatic 130, 3) := by decide +kernel
theorem dX10_matrix_9 : decode cX10_matrix 9 = .ok (.ifCond .eq 10, 3) := by decide +kernel
theorem dX10_matrix_12 : decode cX10_matrix 12 = .ok (.iload_n 2, 1) := by decide +kernel
theorem dX10_matrix_13 : decode cX10_matrix 13 = .ok (.invokestatic 130, 3) := by decide +kernel
theorem dX10_matrix_16 : decode cX10_matrix 16 = .ok (.ifCond .ne 9, 3) := by decide +kernel
theorem dX10_matrix_19 : decode cX10_matrix 19 = .ok (.aload_n 0, 1) := by decide +kernel
theorem dX10_matrix_20 : decode cX10_matrix 20 = .ok (.iconst 1, 1) := by decide +kernel
theorem dX10_matrix_21 : decode cX10_matrix 21 = .ok (.invokevirtual 118, 3) := by decide +kernel
theorem dX10_matrix_24 : decode cX10_matrix 24 = .ok (.ireturn, 1) := by decide +kernel
theorem dX10_matrix_25 : decode cX10_matrix 25 = .ok (.aload_n 0, 1) := by decide +kernel
theorem dX10_matrix_26 : decode cX10_matrix 26 = .ok (.getfield 127, 3) := by decide +kernel
theorem dX10_matrix_29 : decode cX10_matrix 29 = .ok (.bipush 40, 2) := by decide +kernel
theorem dX10_matrix_31 : decode cX10_matrix 31 = .ok (.if_icmp .ne 11, 3) := by decide +kernel
theorem dX10_matrix_34 : decode cX10_matrix 34 = .ok (.aload_n 0, 1) := by decide +kernel
theorem dX10_matrix_35 : decode cX10_matrix 35 = .ok (.iconst 2, 1) := by decide +kernel
theorem dX10_matrix_36 : decode cX10_matrix 36 = .ok (.invokevirtual 118, 3) := by decide +kernel
theorem dX10_matrix_39 : decode cX10_matrix 39 = .ok (.goto 9, 3) := by decide +kernel
theorem dX10_matrix_42 : decode cX10_matrix 42 = .ok (.aload_n 0, 1) := by decide +kernel
theorem dX10_matrix_43 : decode cX10_matrix 43 = .ok (.iload_n 1, 1) := by decide +kernel
theorem dX10_matrix_44 : decode cX10_matrix 44 = .ok (.iload_n 2, 1) := by decide +kernel
theorem dX10_matrix_45 : decode cX10_matrix 45 = .ok (.invokevirtual 133, 3) := by decide +kernel
theorem dX10_matrix_48 : decode cX10_matrix 48 = .ok (.ireturn, 1) := by decide +kernel
theorem dX10_powers_0 : decode cX10_powers 0 = .ok (.aload_n 0, 1) := by decide +kernel
theorem dX10_powers_1 : decode cX10_powers 1 = .ok (.iconst 0, 1) := by decide +kernel
theorem dX10_powers_2 : decode cX10_powers 2 = .ok (.putfield 1, 3) := by decide +kernel
theorem dX10_powers_5 : decode cX10_powers 5 = .ok (.iload_n 1, 1) := by decide +kernel
theorem dX10_powers_6 : decode cX10_powers 6 = .ok (.invokestatic 130, 3) := by decide +kernel
theorem dX10_powers_9 : decode cX10_powers 9 = .ok (.ifCond .eq 10, 3) := by decide +kernel
theorem dX10_powers_12 : decode cX10_powers 12 = .ok (.iload_n 2, 1) := by decide +kernel
theorem dX10_powers_13 : decode cX10_powers 13 = .ok (.invokestatic 130, 3) := by decide +kernel
theorem dX10_powers_16 : decode cX10_powers 16 = .ok (.ifCond .ne 9, 3) := by decide +kernel
theorem dX10_powers_19 : decode cX10_powers 19 = .ok (.aload_n 0, 1) := by decide +kernel
theorem dX10_powers_20 : decode cX10_powers 20 = .ok (.iconst 1, 1) := by decide +kernel
theorem dX10_powers_21 : decode cX10_powers 21 = .ok (.invokevirtual 118, 3) := by decide +kernel
theorem dX10_powers_24 : decode cX10_powers 24 = .ok (.ireturn, 1) := by decide +kernel
theorem dX10_powers_25 : decode cX10_powers 25 = .ok (.aload_n 0, 1) := by decide +kernel
theorem dX10_powers_26 : decode cX10_powers 26 = .ok (.getfield 124, 3) := by decide +kernel
theorem dX10_powers_29 : decode cX10_powers 29 = .ok (.iload_n 1, 1) := by decide +kernel
theorem dX10_powers_30 : decode cX10_powers 30 = .ok (.if_icmp .ne 12, 3) := by decide +kernel
theorem dX10_powers_33 : decode cX10_powers 33 = .ok (.aload_n 0, 1) := by decide +kernel
theorem dX10_powers_34 : decode cX10_powers 34 = .ok (.iconst 0, 1) := by decide +kernel
theorem dX10_powers_35 : decode cX10_powers 35 = .ok (.iconst 1, 1) := by decide +kernel
theorem dX10_powers_36 : decode cX10_powers 36 = .ok (.invokevirtual 136, 3) := by decide +kernel
theorem dX10_powers_39 : decode cX10_powers 39 = .ok (.ifCond .eq 9, 3) := by decide +kernel
theorem dX10_powers_42 : decode cX10_powers 42 = .ok (.aload_n 0, 1) := by decide +kernel
theorem dX10_powers_43 : decode cX10_powers 43 = .ok (.iconst 2, 1) := by decide +kernel
theorem dX10_powers_44 : decode cX10_powers 44 = .ok (.invokevirtual 118, 3) := by decide +kernel
theorem dX10_powers_47 : decode cX10_powers 47 = .ok (.ireturn, 1) := by decide +kernel
theorem dX10_powers_48 : decode cX10_powers 48 = .ok (.aload_n 0, 1) := by decide +kernel
theorem dX10_powers_49 : decode cX10_powers 49 = .ok (.getfield 127, 3) := by decide +kernel
theorem dX10_powers_52 : decode cX10_powers 52 = .ok (.bipush 40, 2) := by decide +kernel
theorem dX10_powers_54 : decode cX10_powers 54 = .ok (.if_icmp .ne 9, 3) := by decide +kernel
theorem dX10_powers_57 : decode cX10_powers 57 = .ok (.aload_n 0, 1) := by decide +kernel
theorem dX10_powers_58 : decode cX10_powers 58 = .ok (.iconst 3, 1) := by decide +kernel
theorem dX10_powers_59 : decode cX10_powers 59 = .ok (.invokevirtual 118, 3) := by decide +kernel
theorem dX10_powers_62 : decode cX10_powers 62 = .ok (.ireturn, 1) := by decide +kernel
theorem dX10_powers_63 : decode cX10_powers 63 = .ok (.aload_n 0, 1) := by decide +kernel
theorem dX10_powers_64 : decode cX10_powers 64 = .ok (.iload_n 1, 1) := by decide +kernel
theorem dX10_powers_65 : decode cX10_powers 65 = .ok (.iload_n 2, 1) := by decide +kernel
theorem dX10_powers_66 : decode cX10_powers 66 = .ok (.invokevirtual 133, 3) := by decide +kernel
theorem dX10_powers_69 : decode cX10_powers 69 = .ok (.istore_n 3, 1) := by decide +kernel
theorem dX10_powers_70 : decode cX10_powers 70 = .ok (.iconst 0, 1) := by decide +kernel
theorem dX10_powers_71 : decode cX10_powers 71 = .ok (.istore 4, 2) := by decide +kernel
theorem dX10_powers_73 : decode cX10_powers 73 = .ok (.iload 4, 2) := by decide +kernel
theorem dX10_powers_75 : decode cX10_powers 75 = .ok (.iload_n 1, 1) := by decide +kernel
theorem dX10_powers_76 : decode cX10_powers 76 = .ok (.if_icmp .ge 74, 3) := by decide +kernel
theorem dX10_powers_79 : decode cX10_powers 79 = .ok (.iconst 0, 1) := by decide +kernel
theorem dX10_powers_80 : decode cX10_powers 80 = .ok (.istore 5, 2) := by decide +kernel
theorem dX10_powers_82 : decode cX10_powers 82 = .ok (.iload 5, 2) := by decide +kernel
theorem dX10_powers_84 : decode cX10_powers 84 = .ok (.iload_n 2, 1) := by decide +kernel
theorem dX10_powers_85 : decode cX10_powers 85 = .ok (.if_icmp .ge 59, 3) := by decide +kernel
theorem dX10_powers_88 : decode cX10_powers 88 = .ok (.aload_n 0, 1) := by decide +kernel
theorem dX10_powers_89 : decode cX10_powers 89 = .ok (.getfield 23, 3) := by decide +kernel
theorem dX10_powers_92 : decode cX10_powers 92 = .ok (.aload_n 0, 1) := by decide +kernel
theorem dX10_powers_93 : decode cX10_powers 93 = .ok (.iload_n 3, 1) := by decide +kernel
theorem dX10_powers_94 : decode cX10_powers 94 = .ok (.iload 4, 2) := by decide +kernel
theorem dX10_powers_96 : decode cX10_powers 96 = .ok (.iload 5, 2) := by decide +kernel
theorem dX10_powers_98 : decode cX10_powers 98 = .ok (.invokevirtual 140, 3) := by decide +kernel
theorem dX10_powers_101 : decode cX10_powers 101 = .ok (.iload 5, 2) := by decide +kernel
theorem dX10_powers_103 : decode cX10_powers 103 = .ok (.ifCond .ne 7, 3) := by decide +kernel
theorem dX10_powers_106 : decode cX10_powers 106 = .ok (.iconst 1, 1) := by decide +kernel
theorem dX10_powers_107 : decode cX10_powers 107 = .ok (.goto 30, 3) := by decide +kernel
theorem dX10_powers_110 : decode cX10_powers 110 = .ok (.aload_n 0, 1) := by decide +kernel
theorem dX10_powers_111 : decode cX10_powers 111 = .ok (.aload_n 0, 1) := by decide +kernel
theorem dX10_powers_112 : decode cX10_powers 112 = .ok (.getfield 23, 3) := by decide +kernel
theorem dX10_powers_115 : decode cX10_powers 115 = .ok (.aload_n 0, 1) := by decide +kernel
theorem dX10_powers_116 : decode cX10_powers 116 = .ok (.iload_n 3, 1) := by decide +kernel
theorem dX10_powers_117 : decode cX10_powers 117 = .ok (.iload 4, 2) := by decide +kernel
theorem dX10_powers_119 : decode cX10_powers 119 = .ok (.iload 5, 2) := by decide +kernel
theorem dX10_powers_121 : decode cX10_powers 121 = .ok (.iconst 1, 1) := by decide +kernel
theorem dX10_powers_122 : decode cX10_powers 122 = .ok (.isub, 1) := by decide +kernel
theorem dX10_powers_123 : decode cX10_powers 123 = .ok (.invokevirtual 140, 3) := by decide +kernel
theorem dX10_powers_126 : decode cX10_powers 126 = .ok (.iaload, 1) := by decide +kernel
theorem dX10_powers_127 : decode cX10_powers 127 = .ok (.aload_n 0, 1) := by decide +kernel
theorem dX10_powers_128 : decode cX10_powers 128 = .ok (.getfield 13, 3) := by decide +kernel
theorem dX10_powers_131 : decode cX10_powers 131 = .ok (.iload 4, 2) := by decide +kernel
theorem dX10_powers_133 : decode cX10_powers 133 = .ok (.iaload, 1) := by decide +kernel
theorem dX10_powers_134 : decode cX10_powers 134 = .ok (.invokevirtual 102, 3) := by decide +kernel
theorem dX10_powers_137 : decode cX10_powers 137 = .ok (.iastore, 1) := by decide +kernel
theorem dX10_powers_138 : decode cX10_powers 138 = .ok (.iinc 5 1, 3) := by decide +kernel
theorem dX10_powers_141 : decode cX10_powers 141 = .ok (.goto (-59), 3) := by decide +kernel
theorem dX10_powers_144 : decode cX10_powers 144 = .ok (.iinc 4 1, 3) := by decide +kernel
theorem dX10_powers_147 : decode cX10_powers 147 = .ok (.goto (-74), 3) := by decide +kernel
theorem dX10_powers_150 : decode cX10_powers 150 = .ok (.aload_n 0, 1) := by decide +kernel
theorem dX10_powers_151 : decode cX10_powers 151 = .ok (.iconst 0, 1) := by decide +kernel
theorem dX10_powers_152 : decode cX10_powers 152 = .ok (.putfield 124, 3) := by decide +kernel
theorem dX10_powers_155 : decode cX10_powers 155 = .ok (.iload_n 3, 1) := by decide +kernel
theorem dX10_powers_156 : decode cX10_powers 156 = .ok (.ireturn, 1) := by decide +kernel
theorem dX10_sums_0 : decode cX10_sums 0 = .ok (.aload_n 0, 1) := by decide +kernel
theorem dX10_sums_1 : decode cX10_sums 1 = .ok (.iconst 0, 1) := by decide +kernel
theorem dX10_sums_2 : decode cX10_sums 2 = .ok (.putfield 1, 3) := by decide +kernel
theorem dX10_sums_5 : decode cX10_sums 5 = .ok (.iload_n 1, 1) := by decide +kernel
theorem dX10_sums_6 : decode cX10_sums 6 = .ok (.invokestatic 130, 3) := by decide +kernel
theorem dX10_sums_9 : decode cX10_sums 9 = .ok (.ifCond .eq 10, 3) := by decide +kernel
theorem dX10_sums_12 : decode cX10_sums 12 = .ok (.iload_n 2, 1) := by decide +kernel
theorem dX10_sums_13 : decode cX10_sums 13 = .ok (.invokestatic 130, 3) := by decide +kernel
theorem dX10_sums_16 : decode cX10_sums 16 = .ok (.ifCond .ne 9, 3) := by decide +kernel
theorem dX10_sums_19 : decode cX10_sums 19 = .ok (.aload_n 0, 1) := by decide +kernel
theorem dX10_sums_20 : decode cX10_sums 20 = .ok (.iconst 1, 1) := by decide +kernel
theorem dX10_sums_21 : decode cX10_sums 21 = .ok (.invokevirtual 118, 3) := by decide +kernel
theorem dX10_sums_24 : decode cX10_sums 24 = .ok (.ireturn, 1) := by decide +kernel
theorem dX10_sums_25 : decode cX10_sums 25 = .ok (.aload_n 0, 1) := by decide +kernel
theorem dX10_sums_26 : decode cX10_sums 26 = .ok (.getfield 124, 3) := by decide +kernel
theorem dX10_sums_29 : decode cX10_sums 29 = .ok (.iload_n 1, 1) := by decide +kernel
theorem dX10_sums_30 : decode cX10_sums 30 = .ok (.iload_n 2, 1) := by decide +kernel
theorem dX10_sums_31 : decode cX10_sums 31 = .ok (.iadd, 1) := by decide +kernel
theorem dX10_sums_32 : decode cX10_sums 32 = .ok (.if_icmp .ne 12, 3) := by decide +kernel
theorem dX10_sums_35 : decode cX10_sums 35 = .ok (.aload_n 0, 1) := by decide +kernel
theorem dX10_sums_36 : decode cX10_sums 36 = .ok (.iconst 0, 1) := by decide +kernel
theorem dX10_sums_37 : decode cX10_sums 37 = .ok (.iconst 1, 1) := by decide +kernel
theorem dX10_sums_38 : decode cX10_sums 38 = .ok (.invokevirtual 136, 3) := by decide +kernel
theorem dX10_sums_41 : decode cX10_sums 41 = .ok (.ifCond .eq 9, 3) := by decide +kernel
theorem dX10_sums_44 : decode cX10_sums 44 = .ok (.aload_n 0, 1) := by decide +kernel
theorem dX10_sums_45 : decode cX10_sums 45 = .ok (.iconst 2, 1) := by decide +kernel
theorem dX10_sums_46 : decode cX10_sums 46 = .ok (.invokevirtual 118, 3) := by decide +kernel
theorem dX10_sums_49 : decode cX10_sums 49 = .ok (.ireturn, 1) := by decide +kernel
theorem dX10_sums_50 : decode cX10_sums 50 = .ok (.aload_n 0, 1) := by decide +kernel
theorem dX10_sums_51 : decode cX10_sums 51 = .ok (.getfield 127, 3) := by decide +kernel
theorem dX10_sums_54 : decode cX10_sums 54 = .ok (.bipush 40, 2) := by decide +kernel
theorem dX10_sums_56 : decode cX10_sums 56 = .ok (.if_icmp .ne 9, 3) := by decide +kernel
theorem dX10_sums_59 : decode cX10_sums 59 = .ok (.aload_n 0, 1) := by decide +kernel
theorem dX10_sums_60 : decode cX10_sums 60 = .ok (.iconst 3, 1) := by decide +kernel
theorem dX10_sums_61 : decode cX10_sums 61 = .ok (.invokevirtual 118, 3) := by decide +kernel
theorem dX10_sums_64 : decode cX10_sums 64 = .ok (.ireturn, 1) := by decide +kernel
theorem dX10_sums_65 : decode cX10_sums 65 = .ok (.aload_n 0, 1) := by decide +kernel
theorem dX10_sums_66 : decode cX10_sums 66 = .ok (.iload_n 1, 1) := by decide +kernel
theorem dX10_sums_67 : decode cX10_sums 67 = .ok (.iload_n 2, 1) := by decide +kernel
theorem dX10_sums_68 : decode cX10_sums 68 = .ok (.invokevirtual 133, 3) := by decide +kernel
theorem dX10_sums_71 : decode cX10_sums 71 = .ok (.istore_n 3, 1) := by decide +kernel
theorem dX10_sums_72 : decode cX10_sums 72 = .ok (.iconst 0, 1) := by decide +kernel
theorem dX10_sums_73 : decode cX10_sums 73 = .ok (.istore 4, 2) := by decide +kernel
theorem dX10_sums_75 : decode cX10_sums 75 = .ok (.iload 4, 2) := by decide +kernel
theorem dX10_sums_77 : decode cX10_sums 77 = .ok (.iload_n 1, 1) := by decide +kernel
theorem dX10_sums_78 : decode cX10_sums 78 = .ok (.if_icmp .ge 59, 3) := by decide +kernel
theorem dX10_sums_81 : decode cX10_sums 81 = .ok (.iconst 0, 1) := by decide +kernel
theorem dX10_sums_82 : decode cX10_sums 82 = .ok (.istore 5, 2) := by decide +kernel
theorem dX10_sums_84 : decode cX10_sums 84 = .ok (.iload 5, 2) := by decide +kernel
theorem dX10_sums_86 : decode cX10_sums 86 = .ok (.iload_n 2, 1) := by decide +kernel
theorem dX10_sums_87 : decode cX10_sums 87 = .ok (.if_icmp .ge 44, 3) := by decide +kernel
theorem dX10_sums_90 : decode cX10_sums 90 = .ok (.aload_n 0, 1) := by decide +kernel
theorem dX10_sums_91 : decode cX10_sums 91 = .ok (.getfield 23, 3) := by decide +kernel
theorem dX10_sums_94 : decode cX10_sums 94 = .ok (.aload_n 0, 1) := by decide +kernel
theorem dX10_sums_95 : decode cX10_sums 95 = .ok (.iload_n 3, 1) := by decide +kernel
theorem dX10_sums_96 : decode cX10_sums 96 = .ok (.iload 4, 2) := by decide +kernel
theorem dX10_sums_98 : decode cX10_sums 98 = .ok (.iload 5, 2) := by decide +kernel
theorem dX10_sums_100 : decode cX10_sums 100 = .ok (.invokevirtual 140, 3) := by decide +kernel
theorem dX10_sums_103 : decode cX10_sums 103 = .ok (.aload_n 0, 1) := by decide +kernel
theorem dX10_sums_104 : decode cX10_sums 104 = .ok (.aload_n 0, 1) := by decide +kernel
theorem dX10_sums_105 : decode cX10_sums 105 = .ok (.getfield 13, 3) := by decide +kernel
theorem dX10_sums_108 : decode cX10_sums 108 = .ok (.iload 4, 2) := by decide +kernel
theorem dX10_sums_110 : decode cX10_sums 110 = .ok (.iaload, 1) := by decide +kernel
theorem dX10_sums_111 : decode cX10_sums 111 = .ok (.aload_n 0, 1) := by decide +kernel
theorem dX10_sums_112 : decode cX10_sums 112 = .ok (.getfield 13, 3) := by decide +kernel
theorem dX10_sums_115 : decode cX10_sums 115 = .ok (.iload_n 1, 1) := by decide +kernel
theorem dX10_sums_116 : decode cX10_sums 116 = .ok (.iload 5, 2) := by decide +kernel
theorem dX10_sums_118 : decode cX10_sums 118 = .ok (.iadd, 1) := by decide +kernel
theorem dX10_sums_119 : decode cX10_sums 119 = .ok (.iaload, 1) := by decide +kernel
theorem dX10_sums_120 : decode cX10_sums 120 = .ok (.ixor, 1) := by decide +kernel
theorem dX10_sums_121 : decode cX10_sums 121 = .ok (.invokevirtual 121, 3) := by decide +kernel
theorem dX10_sums_124 : decode cX10_sums 124 = .ok (.iastore, 1) := by decide +kernel
theorem dX10_sums_125 : decode cX10_sums 125 = .ok (.iinc 5 1, 3) := by decide +kernel
theorem dX10_sums_128 : decode cX10_sums 128 = .ok (.goto (-44), 3) := by decide +kernel
theorem dX10_sums_131 : decode cX10_sums 131 = .ok (.iinc 4 1, 3) := by decide +kernel
theorem dX10_sums_134 : decode cX10_sums 134 = .ok (.goto (-59), 3) := by decide +kernel
theorem dX10_sums_137 : decode cX10_sums 137 = .ok (.aload_n 0, 1) := by decide +kernel
theorem dX10_sums_138 : decode cX10_sums 138 = .ok (.iconst 0, 1) := by decide +kernel
theorem dX10_sums_139 : decode cX10_sums 139 = .ok (.putfield 124, 3) := by decide +kernel
theorem dX10_sums_142 : decode cX10_sums 142 = .ok (.iload_n 3, 1) := by decide +kernel
theorem dX10_sums_143 : decode cX10_sums 143 = .ok (.ireturn, 1) := by decide +kernel
theorem dX10_size_0 : decode cX10_size 0 = .ok (.aload_n 0, 1) := by decide +kernel
theorem dX10_size_1 : decode cX10_size 1 = .ok (.iconst 0, 1) := by decide +kernel
theorem dX10_size_2 : decode cX10_size 2 = .ok (.putfield 1, 3) := by decide +kernel
theorem dX10_size_5 : decode cX10_size 5 = .ok (.aload_n 0, 1) := by decide +kernel
theorem dX10_size_6 : decode cX10_size 6 = .ok (.iload_n 1, 1) := by decide +kernel
theorem dX10_size_7 : decode cX10_size 7 = .ok (.invokevirtual 144, 3) := by decide +kernel
theorem dX10_size_10 : decode cX10_size 10 = .ok (.ifCond .ne 9, 3) := by decide +kernel
theorem dX10_size_13 : decode cX10_size 13 = .ok (.aload_n 0, 1) := by decide +kernel
theorem dX10_size_14 : decode cX10_size 14 = .ok (.iconst 1, 1) := by decide +kernel
theorem dX10_size_15 : decode cX10_size 15 = .ok (.invokevirtual 118, 3) := by decide +kernel
theorem dX10_size_18 : decode cX10_size 18 = .ok (.ireturn, 1) := by decide +kernel
theorem dX10_size_19 : decode cX10_size 19 = .ok (.iload_n 2, 1) := by decide +kernel
theorem dX10_size_20 : decode cX10_size 20 = .ok (.ifCond .ne 12, 3) := by decide +kernel
theorem dX10_size_23 : decode cX10_size 23 = .ok (.aload_n 0, 1) := by decide +kernel
theorem dX10_size_24 : decode cX10_size 24 = .ok (.getfield 17, 3) := by decide +kernel
theorem dX10_size_27 : decode cX10_size 27 = .ok (.iload_n 1, 1) := by decide +kernel
theorem dX10_size_28 : decode cX10_size 28 = .ok (.iaload, 1) := by decide +kernel
theorem dX10_size_29 : decode cX10_size 29 = .ok (.goto 22, 3) := by decide +kernel
theorem dX10_size_32 : decode cX10_size 32 = .ok (.iload_n 2, 1) := by decide +kernel
theorem dX10_size_33 : decode cX10_size 33 = .ok (.iconst 1, 1) := by decide +kernel
theorem dX10_size_34 : decode cX10_size 34 = .ok (.if_icmp .ne 12, 3) := by decide +kernel
theorem dX10_size_37 : decode cX10_size 37 = .ok (.aload_n 0, 1) := by decide +kernel
theorem dX10_size_38 : decode cX10_size 38 = .ok (.getfield 20, 3) := by decide +kernel
theorem dX10_size_41 : decode cX10_size 41 = .ok (.iload_n 1, 1) := by decide +kernel
theorem dX10_size_42 : decode cX10_size 42 = .ok (.iaload, 1) := by decide +kernel
theorem dX10_size_43 : decode cX10_size 43 = .ok (.goto 8, 3) := by decide +kernel
theorem dX10_size_46 : decode cX10_size 46 = .ok (.aload_n 0, 1) := by decide +kernel
theorem dX10_size_47 : decode cX10_size 47 = .ok (.iconst 2, 1) := by decide +kernel
theorem dX10_size_48 : decode cX10_size 48 = .ok (.invokevirtual 118, 3) := by decide +kernel
theorem dX10_size_51 : decode cX10_size 51 = .ok (.ireturn, 1) := by decide +kernel
theorem dX10_isCell_0 : decode cX10_isCell 0 = .ok (.aload_n 0, 1) := by decide +kernel
theorem dX10_isCell_1 : decode cX10_isCell 1 = .ok (.iload_n 1, 1) := by decide +kernel
theorem dX10_isCell_2 : decode cX10_isCell 2 = .ok (.invokevirtual 144, 3) := by decide +kernel
theorem dX10_isCell_5 : decode cX10_isCell 5 = .ok (.ifCond .eq 35, 3) := by decide +kernel
theorem dX10_isCell_8 : decode cX10_isCell 8 = .ok (.iload_n 2, 1) := by decide +kernel
theorem dX10_isCell_9 : decode cX10_isCell 9 = .ok (.ifCond .lt 31, 3) := by decide +kernel
theorem dX10_isCell_12 : decode cX10_isCell 12 = .ok (.iload_n 3, 1) := by decide +kernel
theorem dX10_isCell_13 : decode cX10_isCell 13 = .ok (.ifCond .lt 27, 3) := by decide +kernel
theorem dX10_isCell_16 : decode cX10_isCell 16 = .ok (.iload_n 2, 1) := by decide +kernel
theorem dX10_isCell_17 : decode cX10_isCell 17 = .ok (.aload_n 0, 1) := by decide +kernel
theorem dX10_isCell_18 : decode cX10_isCell 18 = .ok (.getfield 17, 3) := by decide +kernel
theorem dX10_isCell_21 : decode cX10_isCell 21 = .ok (.iload_n 1, 1) := by decide +kernel
theorem dX10_isCell_22 : decode cX10_isCell 22 = .ok (.iaload, 1) := by decide +kernel
theorem dX10_isCell_23 : decode cX10_isCell 23 = .ok (.if_icmp .ge 17, 3) := by decide +kernel
theorem dX10_isCell_26 : decode cX10_isCell 26 = .ok (.iload_n 3, 1) := by decide +kernel
theorem dX10_isCell_27 : decode cX10_isCell 27 = .ok (.aload_n 0, 1) := by decide +kernel
theorem dX10_isCell_28 : decode cX10_isCell 28 = .ok (.getfield 20, 3) := by decide +kernel
theorem dX10_isCell_31 : decode cX10_isCell 31 = .ok (.iload_n 1, 1) := by decide +kernel
theorem dX10_isCell_32 : decode cX10_isCell 32 = .ok (.iaload, 1) := by decide +kernel
theorem dX10_isCell_33 : decode cX10_isCell 33 = .ok (.if_icmp .ge 7, 3) := by decide +kernel
theorem dX10_isCell_36 : decode cX10_isCell 36 = .ok (.iconst 1, 1) := by decide +kernel
theorem dX10_isCell_37 : decode cX10_isCell 37 = .ok (.goto 4, 3) := by decide +kernel
theorem dX10_isCell_40 : decode cX10_isCell 40 = .ok (.iconst 0, 1) := by decide +kernel
theorem dX10_isCell_41 : decode cX10_isCell 41 = .ok (.ireturn, 1) := by decide +kernel
theorem dX10_cell_0 : decode cX10_cell 0 = .ok (.aload_n 0, 1) := by decide +kernel
theorem dX10_cell_1 : decode cX10_cell 1 = .ok (.iconst 0, 1) := by decide +kernel
theorem dX10_cell_2 : decode cX10_cell 2 = .ok (.putfield 1, 3) := by decide +kernel
theorem dX10_cell_5 : decode cX10_cell 5 = .ok (.aload_n 0, 1) := by decide +kernel
theorem dX10_cell_6 : decode cX10_cell 6 = .ok (.iload_n 1, 1) := by decide +kernel
theorem dX10_cell_7 : decode cX10_cell 7 = .ok (.iload_n 2, 1) := by decide +kernel
theorem dX10_cell_8 : decode cX10_cell 8 = .ok (.iload_n 3, 1) := by decide +kernel
theorem dX10_cell_9 : decode cX10_cell 9 = .ok (.invokevirtual 147, 3) := by decide +kernel
theorem dX10_cell_12 : decode cX10_cell 12 = .ok (.ifCond .eq 18, 3) := by decide +kernel
theorem dX10_cell_15 : decode cX10_cell 15 = .ok (.aload_n 0, 1) := by decide +kernel
theorem dX10_cell_16 : decode cX10_cell 16 = .ok (.getfield 23, 3) := by decide +kernel
theorem dX10_cell_19 : decode cX10_cell 19 = .ok (.aload_n 0, 1) := by decide +kernel
theorem dX10_cell_20 : decode cX10_cell 20 = .ok (.iload_n 1, 1) := by decide +kernel
theorem dX10_cell_21 : decode cX10_cell 21 = .ok (.iload_n 2, 1) := by decide +kernel
theorem dX10_cell_22 : decode cX10_cell 22 = .ok (.iload_n 3, 1) := by decide +kernel
theorem dX10_cell_23 : decode cX10_cell 23 = .ok (.invokevirtual 140, 3) := by decide +kernel
theorem dX10_cell_26 : decode cX10_cell 26 = .ok (.iaload, 1) := by decide +kernel
theorem dX10_cell_27 : decode cX10_cell 27 = .ok (.goto 8, 3) := by decide +kernel
theorem dX10_cell_30 : decode cX10_cell 30 = .ok (.aload_n 0, 1) := by decide +kernel
theorem dX10_cell_31 : decode cX10_cell 31 = .ok (.iconst 1, 1) := by decide +kernel
theorem dX10_cell_32 : decode cX10_cell 32 = .ok (.invokevirtual 118, 3) := by decide +kernel
theorem dX10_cell_35 : decode cX10_cell 35 = .ok (.ireturn, 1) := by decide +kernel
theorem dX10_set_0 : decode cX10_set 0 = .ok (.aload_n 0, 1) := by decide +kernel
theorem dX10_set_1 : decode cX10_set 1 = .ok (.iconst 0, 1) := by decide +kernel
theorem dX10_set_2 : decode cX10_set 2 = .ok (.putfield 1, 3) := by decide +kernel
theorem dX10_set_5 : decode cX10_set 5 = .ok (.aload_n 0, 1) := by decide +kernel
theorem dX10_set_6 : decode cX10_set 6 = .ok (.iload_n 1, 1) := by decide +kernel
theorem dX10_set_7 : decode cX10_set 7 = .ok (.iload_n 2, 1) := by decide +kernel
theorem dX10_set_8 : decode cX10_set 8 = .ok (.iload_n 3, 1) := by decide +kernel
theorem dX10_set_9 : decode cX10_set 9 = .ok (.invokevirtual 147, 3) := by decide +kernel
theorem dX10_set_12 : decode cX10_set 12 = .ok (.ifCond .ne 9, 3) := by decide +kernel
theorem dX10_set_15 : decode cX10_set 15 = .ok (.aload_n 0, 1) := by decide +kernel
theorem dX10_set_16 : decode cX10_set 16 = .ok (.iconst 1, 1) := by decide +kernel
theorem dX10_set_17 : decode cX10_set 17 = .ok (.invokevirtual 118, 3) := by decide +kernel
theorem dX10_set_20 : decode cX10_set 20 = .ok (.ireturn, 1) := by decide +kernel
theorem dX10_set_21 : decode cX10_set 21 = .ok (.aload_n 0, 1) := by decide +kernel
theorem dX10_set_22 : decode cX10_set 22 = .ok (.iload 4, 2) := by decide +kernel
theorem dX10_set_24 : decode cX10_set 24 = .ok (.invokevirtual 115, 3) := by decide +kernel
theorem dX10_set_27 : decode cX10_set 27 = .ok (.ifCond .ne 9, 3) := by decide +kernel
theorem dX10_set_30 : decode cX10_set 30 = .ok (.aload_n 0, 1) := by decide +kernel
theorem dX10_set_31 : decode cX10_set 31 = .ok (.iconst 2, 1) := by decide +kernel
theorem dX10_set_32 : decode cX10_set 32 = .ok (.invokevirtual 118, 3) := by decide +kernel
theorem dX10_set_35 : decode cX10_set 35 = .ok (.ireturn, 1) := by decide +kernel
theorem dX10_set_36 : decode cX10_set 36 = .ok (.aload_n 0, 1) := by decide +kernel
theorem dX10_set_37 : decode cX10_set 37 = .ok (.getfield 23, 3) := by decide +kernel
theorem dX10_set_40 : decode cX10_set 40 = .ok (.aload_n 0, 1) := by decide +kernel
theorem dX10_set_41 : decode cX10_set 41 = .ok (.iload_n 1, 1) := by decide +kernel
theorem dX10_set_42 : decode cX10_set 42 = .ok (.iload_n 2, 1) := by decide +kernel
theorem dX10_set_43 : decode cX10_set 43 = .ok (.iload_n 3, 1) := by decide +kernel
theorem dX10_set_44 : decode cX10_set 44 = .ok (.invokevirtual 140, 3) := by decide +kernel
theorem dX10_set_47 : decode cX10_set 47 = .ok (.iaload, 1) := by decide +kernel
theorem dX10_set_48 : decode cX10_set 48 = .ok (.istore 5, 2) := by decide +kernel
theorem dX10_set_50 : decode cX10_set 50 = .ok (.aload_n 0, 1) := by decide +kernel
theorem dX10_set_51 : decode cX10_set 51 = .ok (.getfield 23, 3) := by decide +kernel
theorem dX10_set_54 : decode cX10_set 54 = .ok (.aload_n 0, 1) := by decide +kernel
theorem dX10_set_55 : decode cX10_set 55 = .ok (.iload_n 1, 1) := by decide +kernel
theorem dX10_set_56 : decode cX10_set 56 = .ok (.iload_n 2, 1) := by decide +kernel
theorem dX10_set_57 : decode cX10_set 57 = .ok (.iload_n 3, 1) := by decide +kernel
theorem dX10_set_58 : decode cX10_set 58 = .ok (.invokevirtual 140, 3) := by decide +kernel
theorem dX10_set_61 : decode cX10_set 61 = .ok (.iload 4, 2) := by decide +kernel
theorem dX10_set_63 : decode cX10_set 63 = .ok (.iastore, 1) := by decide +kernel
theorem dX10_set_64 : decode cX10_set 64 = .ok (.iload 5, 2) := by decide +kernel
theorem dX10_set_66 : decode cX10_set 66 = .ok (.ireturn, 1) := by decide +kernel
theorem dX10_times_0 : decode cX10_times 0 = .ok (.aload_n 0, 1) := by decide +kernel
theorem dX10_times_1 : decode cX10_times 1 = .ok (.iconst 0, 1) := by decide +kernel
theorem dX10_times_2 : decode cX10_times 2 = .ok (.putfield 1, 3) := by decide +kernel
theorem dX10_times_5 : decode cX10_times 5 = .ok (.aload_n 0, 1) := by decide +kernel
theorem dX10_times_6 : decode cX10_times 6 = .ok (.iload_n 1, 1) := by decide +kernel
theorem dX10_times_7 : decode cX10_times 7 = .ok (.invokevirtual 144, 3) := by decide +kernel
theorem dX10_times_10 : decode cX10_times 10 = .ok (.ifCond .eq 11, 3) := by decide +kernel
theorem dX10_times_13 : decode cX10_times 13 = .ok (.aload_n 0, 1) := by decide +kernel
theorem dX10_times_14 : decode cX10_times 14 = .ok (.iload_n 2, 1) := by decide +kernel
theorem dX10_times_15 : decode cX10_times 15 = .ok (.invokevirtual 144, 3) := by decide +kernel
theorem dX10_times_18 : decode cX10_times 18 = .ok (.ifCond .ne 9, 3) := by decide +kernel
theorem dX10_times_21 : decode cX10_times 21 = .ok (.aload_n 0, 1) := by decide +kernel
theorem dX10_times_22 : decode cX10_times 22 = .ok (.iconst 1, 1) := by decide +kernel
theorem dX10_times_23 : decode cX10_times 23 = .ok (.invokevirtual 118, 3) := by decide +kernel
theorem dX10_times_26 : decode cX10_times 26 = .ok (.ireturn, 1) := by decide +kernel
theorem dX10_times_27 : decode cX10_times 27 = .ok (.aload_n 0, 1) := by decide +kernel
theorem dX10_times_28 : decode cX10_times 28 = .ok (.getfield 20, 3) := by decide +kernel
theorem dX10_times_31 : decode cX10_times 31 = .ok (.iload_n 1, 1) := by decide +kernel
theorem dX10_times_32 : decode cX10_times 32 = .ok (.iaload, 1) := by decide +kernel
theorem dX10_times_33 : decode cX10_times 33 = .ok (.aload_n 0, 1) := by decide +kernel
theorem dX10_times_34 : decode cX10_times 34 = .ok (.getfield 17, 3) := by decide +kernel
theorem dX10_times_37 : decode cX10_times 37 = .ok (.iload_n 2, 1) := by decide +kernel
theorem dX10_times_38 : decode cX10_times 38 = .ok (.iaload, 1) := by decide +kernel
theorem dX10_times_39 : decode cX10_times 39 = .ok (.if_icmp .eq 9, 3) := by decide +kernel
theorem dX10_times_42 : decode cX10_times 42 = .ok (.aload_n 0, 1) := by decide +kernel
theorem dX10_times_43 : decode cX10_times 43 = .ok (.iconst 2, 1) := by decide +kernel
theorem dX10_times_44 : decode cX10_times 44 = .ok (.invokevirtual 118, 3) := by decide +kernel
theorem dX10_times_47 : decode cX10_times 47 = .ok (.ireturn, 1) := by decide +kernel
theorem dX10_times_48 : decode cX10_times 48 = .ok (.aload_n 0, 1) := by decide +kernel
theorem dX10_times_49 : decode cX10_times 49 = .ok (.getfield 127, 3) := by decide +kernel
theorem dX10_times_52 : decode cX10_times 52 = .ok (.bipush 40, 2) := by decide +kernel
theorem dX10_times_54 : decode cX10_times 54 = .ok (.if_icmp .ne 9, 3) := by decide +kernel
theorem dX10_times_57 : decode cX10_times 57 = .ok (.aload_n 0, 1) := by decide +kernel
theorem dX10_times_58 : decode cX10_times 58 = .ok (.iconst 3, 1) := by decide +kernel
theorem dX10_times_59 : decode cX10_times 59 = .ok (.invokevirtual 118, 3) := by decide +kernel
theorem dX10_times_62 : decode cX10_times 62 = .ok (.ireturn, 1) := by decide +kernel
theorem dX10_times_63 : decode cX10_times 63 = .ok (.aload_n 0, 1) := by decide +kernel
theorem dX10_times_64 : decode cX10_times 64 = .ok (.aload_n 0, 1) := by decide +kernel
theorem dX10_times_65 : decode cX10_times 65 = .ok (.getfield 17, 3) := by decide +kernel
theorem dX10_times_68 : decode cX10_times 68 = .ok (.iload_n 1, 1) := by decide +kernel
theorem dX10_times_69 : decode cX10_times 69 = .ok (.iaload, 1) := by decide +kernel
theorem dX10_times_70 : decode cX10_times 70 = .ok (.aload_n 0, 1) := by decide +kernel
theorem dX10_times_71 : decode cX10_times 71 = .ok (.getfield 20, 3) := by decide +kernel
theorem dX10_times_74 : decode cX10_times 74 = .ok (.iload_n 2, 1) := by decide +kernel
theorem dX10_times_75 : decode cX10_times 75 = .ok (.iaload, 1) := by decide +kernel
theorem dX10_times_76 : decode cX10_times 76 = .ok (.invokevirtual 133, 3) := by decide +kernel
theorem dX10_times_79 : decode cX10_times 79 = .ok (.istore_n 3, 1) := by decide +kernel
theorem dX10_times_80 : decode cX10_times 80 = .ok (.iconst 0, 1) := by decide +kernel
theorem dX10_times_81 : decode cX10_times 81 = .ok (.istore 4, 2) := by decide +kernel
theorem dX10_times_83 : decode cX10_times 83 = .ok (.iload 4, 2) := by decide +kernel
theorem dX10_times_85 : decode cX10_times 85 = .ok (.aload_n 0, 1) := by decide +kernel
theorem dX10_times_86 : decode cX10_times 86 = .ok (.getfield 17, 3) := by decide +kernel
theorem dX10_times_89 : decode cX10_times 89 = .ok (.iload_n 1, 1) := by decide +kernel
theorem dX10_times_90 : decode cX10_times 90 = .ok (.iaload, 1) := by decide +kernel
theorem dX10_times_91 : decode cX10_times 91 = .ok (.if_icmp .ge 105, 3) := by decide +kernel
theorem dX10_times_94 : decode cX10_times 94 = .ok (.iconst 0, 1) := by decide +kernel
theorem dX10_times_95 : decode cX10_times 95 = .ok (.istore 5, 2) := by decide +kernel
theorem dX10_times_97 : decode cX10_times 97 = .ok (.iload 5, 2) := by decide +kernel
theorem dX10_times_99 : decode cX10_times 99 = .ok (.aload_n 0, 1) := by decide +kernel
theorem dX10_times_100 : decode cX10_times 100 = .ok (.getfield 20, 3) := by decide +kernel
theorem dX10_times_103 : decode cX10_times 103 = .ok (.iload_n 2, 1) := by decide +kernel
theorem dX10_times_104 : decode cX10_times 104 = .ok (.iaload, 1) := by decide +kernel
theorem dX10_times_105 : decode cX10_times 105 = .ok (.if_icmp .ge 85, 3) := by decide +kernel
theorem dX10_times_108 : decode cX10_times 108 = .ok (.iconst 0, 1) := by decide +kernel
theorem dX10_times_109 : decode cX10_times 109 = .ok (.istore 6, 2) := by decide +kernel
theorem dX10_times_111 : decode cX10_times 111 = .ok (.iconst 0, 1) := by decide +kernel
theorem dX10_times_112 : decode cX10_times 112 = .ok (.istore 7, 2) := by decide +kernel
theorem dX10_times_114 : decode cX10_times 114 = .ok (.iload 7, 2) := by decide +kernel
theorem dX10_times_116 : decode cX10_times 116 = .ok (.aload_n 0, 1) := by decide +kernel
theorem dX10_times_117 : decode cX10_times 117 = .ok (.getfield 20, 3) := by decide +kernel
theorem dX10_times_120 : decode cX10_times 120 = .ok (.iload_n 1, 1) := by decide +kernel
theorem dX10_times_121 : decode cX10_times 121 = .ok (.iaload, 1) := by decide +kernel
theorem dX10_times_122 : decode cX10_times 122 = .ok (.if_icmp .ge 46, 3) := by decide +kernel
theorem dX10_times_125 : decode cX10_times 125 = .ok (.iload 6, 2) := by decide +kernel
theorem dX10_times_127 : decode cX10_times 127 = .ok (.aload_n 0, 1) := by decide +kernel
theorem dX10_times_128 : decode cX10_times 128 = .ok (.aload_n 0, 1) := by decide +kernel
theorem dX10_times_129 : decode cX10_times 129 = .ok (.getfield 23, 3) := by decide +kernel
theorem dX10_times_132 : decode cX10_times 132 = .ok (.aload_n 0, 1) := by decide +kernel
theorem dX10_times_133 : decode cX10_times 133 = .ok (.iload_n 1, 1) := by decide +kernel
theorem dX10_times_134 : decode cX10_times 134 = .ok (.iload 4, 2) := by decide +kernel
theorem dX10_times_136 : decode cX10_times 136 = .ok (.iload 7, 2) := by decide +kernel
theorem dX10_times_138 : decode cX10_times 138 = .ok (.invokevirtual 140, 3) := by decide +kernel
theorem dX10_times_141 : decode cX10_times 141 = .ok (.iaload, 1) := by decide +kernel
theorem dX10_times_142 : decode cX10_times 142 = .ok (.aload_n 0, 1) := by decide +kernel
theorem dX10_times_143 : decode cX10_times 143 = .ok (.getfield 23, 3) := by decide +kernel
theorem dX10_times_146 : decode cX10_times 146 = .ok (.aload_n 0, 1) := by decide +kernel
theorem dX10_times_147 : decode cX10_times 147 = .ok (.iload_n 2, 1) := by decide +kernel
theorem dX10_times_148 : decode cX10_times 148 = .ok (.iload 7, 2) := by decide +kernel
theorem dX10_times_150 : decode cX10_times 150 = .ok (.iload 5, 2) := by decide +kernel
theorem dX10_times_152 : decode cX10_times 152 = .ok (.invokevirtual 140, 3) := by decide +kernel
theorem dX10_times_155 : decode cX10_times 155 = .ok (.iaload, 1) := by decide +kernel
theorem dX10_times_156 : decode cX10_times 156 = .ok (.invokevirtual 102, 3) := by decide +kernel
theorem dX10_times_159 : decode cX10_times 159 = .ok (.ixor, 1) := by decide +kernel
theorem dX10_times_160 : decode cX10_times 160 = .ok (.istore 6, 2) := by decide +kernel
theorem dX10_times_162 : decode cX10_times 162 = .ok (.iinc 7 1, 3) := by decide +kernel
theorem dX10_times_165 : decode cX10_times 165 = .ok (.goto (-51), 3) := by decide +kernel
theorem dX10_times_168 : decode cX10_times 168 = .ok (.aload_n 0, 1) := by decide +kernel
theorem dX10_times_169 : decode cX10_times 169 = .ok (.getfield 23, 3) := by decide +kernel
theorem dX10_times_172 : decode cX10_times 172 = .ok (.aload_n 0, 1) := by decide +kernel
theorem dX10_times_173 : decode cX10_times 173 = .ok (.iload_n 3, 1) := by decide +kernel
theorem dX10_times_174 : decode cX10_times 174 = .ok (.iload 4, 2) := by decide +kernel
theorem dX10_times_176 : decode cX10_times 176 = .ok (.iload 5, 2) := by decide +kernel
theorem dX10_times_178 : decode cX10_times 178 = .ok (.invokevirtual 140, 3) := by decide +kernel
theorem dX10_times_181 : decode cX10_times 181 = .ok (.iload 6, 2) := by decide +kernel
theorem dX10_times_183 : decode cX10_times 183 = .ok (.iastore, 1) := by decide +kernel
theorem dX10_times_184 : decode cX10_times 184 = .ok (.iinc 5 1, 3) := by decide +kernel
theorem dX10_times_187 : decode cX10_times 187 = .ok (.goto (-90), 3) := by decide +kernel
theorem dX10_times_190 : decode cX10_times 190 = .ok (.iinc 4 1, 3) := by decide +kernel
theorem dX10_times_193 : decode cX10_times 193 = .ok (.goto (-110), 3) := by decide +kernel
theorem dX10_times_196 : decode cX10_times 196 = .ok (.iload_n 3, 1) := by decide +kernel
theorem dX10_times_197 : decode cX10_times 197 = .ok (.ireturn, 1) := by decide +kernel
theorem dX10_bitsOf_0 : decode cX10_bitsOf 0 = .ok (.iconst 0, 1) := by decide +kernel
theorem dX10_bitsOf_1 : decode cX10_bitsOf 1 = .ok (.istore_n 1, 1) := by decide +kernel
theorem dX10_bitsOf_2 : decode cX10_bitsOf 2 = .ok (.iconst 0, 1) := by decide +kernel
theorem dX10_bitsOf_3 : decode cX10_bitsOf 3 = .ok (.istore_n 2, 1) := by decide +kernel
theorem dX10_bitsOf_4 : decode cX10_bitsOf 4 = .ok (.iload_n 2, 1) := by decide +kernel
theorem dX10_bitsOf_5 : decode cX10_bitsOf 5 = .ok (.bipush 8, 2) := by decide +kernel
theorem dX10_bitsOf_7 : decode cX10_bitsOf 7 = .ok (.if_icmp .ge 17, 3) := by decide +kernel
theorem dX10_bitsOf_10 : decode cX10_bitsOf 10 = .ok (.iload_n 1, 1) := by decide +kernel
theorem dX10_bitsOf_11 : decode cX10_bitsOf 11 = .ok (.iload_n 0, 1) := by decide +kernel
theorem dX10_bitsOf_12 : decode cX10_bitsOf 12 = .ok (.iload_n 2, 1) := by decide +kernel
theorem dX10_bitsOf_13 : decode cX10_bitsOf 13 = .ok (.ishr, 1) := by decide +kernel
theorem dX10_bitsOf_14 : decode cX10_bitsOf 14 = .ok (.iconst 1, 1) := by decide +kernel
theorem dX10_bitsOf_15 : decode cX10_bitsOf 15 = .ok (.iand, 1) := by decide +kernel
theorem dX10_bitsOf_16 : decode cX10_bitsOf 16 = .ok (.iadd, 1) := by decide +kernel
theorem dX10_bitsOf_17 : decode cX10_bitsOf 17 = .ok (.istore_n 1, 1) := by decide +kernel
theorem dX10_bitsOf_18 : decode cX10_bitsOf 18 = .ok (.iinc 2 1, 3) := by decide +kernel
theorem dX10_bitsOf_21 : decode cX10_bitsOf 21 = .ok (.goto (-17), 3) := by decide +kernel
theorem dX10_bitsOf_24 : decode cX10_bitsOf 24 = .ok (.iload_n 1, 1) := by decide +kernel
theorem dX10_bitsOf_25 : decode cX10_bitsOf 25 = .ok (.ireturn, 1) := by decide +kernel
theorem dX10_minors_0 : decode cX10_minors 0 = .ok (.iconst 0, 1) := by decide +kernel
theorem dX10_minors_1 : decode cX10_minors 1 = .ok (.istore_n 2, 1) := by decide +kernel
theorem dX10_minors_2 : decode cX10_minors 2 = .ok (.iload_n 2, 1) := by decide +kernel
theorem dX10_minors_3 : decode cX10_minors 3 = .ok (.iconst 1, 1) := by decide +kernel
theorem dX10_minors_4 : decode cX10_minors 4 = .ok (.aload_n 0, 1) := by decide +kernel
theorem dX10_minors_5 : decode cX10_minors 5 = .ok (.getfield 17, 3) := by decide +kernel
theorem dX10_minors_8 : decode cX10_minors 8 = .ok (.iload_n 1, 1) := by decide +kernel
theorem dX10_minors_9 : decode cX10_minors 9 = .ok (.iaload, 1) := by decide +kernel
theorem dX10_minors_10 : decode cX10_minors 10 = .ok (.ishl, 1) := by decide +kernel
theorem dX10_minors_11 : decode cX10_minors 11 = .ok (.if_icmp .ge 156, 3) := by decide +kernel
theorem dX10_minors_14 : decode cX10_minors 14 = .ok (.iload_n 2, 1) := by decide +kernel
theorem dX10_minors_15 : decode cX10_minors 15 = .ok (.invokestatic 99, 3) := by decide +kernel
theorem dX10_minors_18 : decode cX10_minors 18 = .ok (.istore_n 3, 1) := by decide +kernel
theorem dX10_minors_19 : decode cX10_minors 19 = .ok (.iconst 0, 1) := by decide +kernel
theorem dX10_minors_20 : decode cX10_minors 20 = .ok (.istore 4, 2) := by decide +kernel
theorem dX10_minors_22 : decode cX10_minors 22 = .ok (.iload 4, 2) := by decide +kernel
theorem dX10_minors_24 : decode cX10_minors 24 = .ok (.iconst 1, 1) := by decide +kernel
theorem dX10_minors_25 : decode cX10_minors 25 = .ok (.aload_n 0, 1) := by decide +kernel
theorem dX10_minors_26 : decode cX10_minors 26 = .ok (.getfield 20, 3) := by decide +kernel
theorem dX10_minors_29 : decode cX10_minors 29 = .ok (.iload_n 1, 1) := by decide +kernel
theorem dX10_minors_30 : decode cX10_minors 30 = .ok (.iaload, 1) := by decide +kernel
theorem dX10_minors_31 : decode cX10_minors 31 = .ok (.ishl, 1) := by decide +kernel
theorem dX10_minors_32 : decode cX10_minors 32 = .ok (.if_icmp .ge 129, 3) := by decide +kernel
theorem dX10_minors_35 : decode cX10_minors 35 = .ok (.iload_n 2, 1) := by decide +kernel
theorem dX10_minors_36 : decode cX10_minors 36 = .ok (.ifCond .ne 12, 3) := by decide +kernel
theorem dX10_minors_39 : decode cX10_minors 39 = .ok (.iload 4, 2) := by decide +kernel
theorem dX10_minors_41 : decode cX10_minors 41 = .ok (.ifCond .ne 7, 3) := by decide +kernel
theorem dX10_minors_44 : decode cX10_minors 44 = .ok (.iconst 1, 1) := by decide +kernel
theorem dX10_minors_45 : decode cX10_minors 45 = .ok (.goto 4, 3) := by decide +kernel
theorem dX10_minors_48 : decode cX10_minors 48 = .ok (.iconst 0, 1) := by decide +kernel
theorem dX10_minors_49 : decode cX10_minors 49 = .ok (.istore 5, 2) := by decide +kernel
theorem dX10_minors_51 : decode cX10_minors 51 = .ok (.iload_n 2, 1) := by decide +kernel
theorem dX10_minors_52 : decode cX10_minors 52 = .ok (.ifCond .eq 89, 3) := by decide +kernel
theorem dX10_minors_55 : decode cX10_minors 55 = .ok (.iload_n 2, 1) := by decide +kernel
theorem dX10_minors_56 : decode cX10_minors 56 = .ok (.invokestatic 151, 3) := by decide +kernel
theorem dX10_minors_59 : decode cX10_minors 59 = .ok (.iload 4, 2) := by decide +kernel
theorem dX10_minors_61 : decode cX10_minors 61 = .ok (.invokestatic 151, 3) := by decide +kernel
theorem dX10_minors_64 : decode cX10_minors 64 = .ok (.if_icmp .ne 77, 3) := by decide +kernel
theorem dX10_minors_67 : decode cX10_minors 67 = .ok (.iconst 0, 1) := by decide +kernel
theorem dX10_minors_68 : decode cX10_minors 68 = .ok (.istore 6, 2) := by decide +kernel
theorem dX10_minors_70 : decode cX10_minors 70 = .ok (.iload 6, 2) := by decide +kernel
theorem dX10_minors_72 : decode cX10_minors 72 = .ok (.aload_n 0, 1) := by decide +kernel
theorem dX10_minors_73 : decode cX10_minors 73 = .ok (.getfield 20, 3) := by decide +kernel
theorem dX10_minors_76 : decode cX10_minors 76 = .ok (.iload_n 1, 1) := by decide +kernel
theorem dX10_minors_77 : decode cX10_minors 77 = .ok (.iaload, 1) := by decide +kernel
theorem dX10_minors_78 : decode cX10_minors 78 = .ok (.if_icmp .ge 63, 3) := by decide +kernel
theorem dX10_minors_81 : decode cX10_minors 81 = .ok (.iload 4, 2) := by decide +kernel
theorem dX10_minors_83 : decode cX10_minors 83 = .ok (.iload 6, 2) := by decide +kernel
theorem dX10_minors_85 : decode cX10_minors 85 = .ok (.ishr, 1) := by decide +kernel
theorem dX10_minors_86 : decode cX10_minors 86 = .ok (.iconst 1, 1) := by decide +kernel
theorem dX10_minors_87 : decode cX10_minors 87 = .ok (.iand, 1) := by decide +kernel
theorem dX10_minors_88 : decode cX10_minors 88 = .ok (.iconst 1, 1) := by decide +kernel
theorem dX10_minors_89 : decode cX10_minors 89 = .ok (.if_icmp .ne 46, 3) := by decide +kernel
theorem dX10_minors_92 : decode cX10_minors 92 = .ok (.iload 5, 2) := by decide +kernel
theorem dX10_minors_94 : decode cX10_minors 94 = .ok (.aload_n 0, 1) := by decide +kernel
theorem dX10_minors_95 : decode cX10_minors 95 = .ok (.aload_n 0, 1) := by decide +kernel
theorem dX10_minors_96 : decode cX10_minors 96 = .ok (.getfield 23, 3) := by decide +kernel
theorem dX10_minors_99 : decode cX10_minors 99 = .ok (.aload_n 0, 1) := by decide +kernel
theorem dX10_minors_100 : decode cX10_minors 100 = .ok (.iload_n 1, 1) := by decide +kernel
theorem dX10_minors_101 : decode cX10_minors 101 = .ok (.iload_n 3, 1) := by decide +kernel
theorem dX10_minors_102 : decode cX10_minors 102 = .ok (.iload 6, 2) := by decide +kernel
theorem dX10_minors_104 : decode cX10_minors 104 = .ok (.invokevirtual 140, 3) := by decide +kernel
theorem dX10_minors_107 : decode cX10_minors 107 = .ok (.iaload, 1) := by decide +kernel
theorem dX10_minors_108 : decode cX10_minors 108 = .ok (.aload_n 0, 1) := by decide +kernel
theorem dX10_minors_109 : decode cX10_minors 109 = .ok (.getfield 27, 3) := by decide +kernel
theorem dX10_minors_112 : decode cX10_minors 112 = .ok (.iload_n 2, 1) := by decide +kernel
theorem dX10_minors_113 : decode cX10_minors 113 = .ok (.iconst 1, 1) := by decide +kernel
theorem dX10_minors_114 : decode cX10_minors 114 = .ok (.iload_n 3, 1) := by decide +kernel
theorem dX10_minors_115 : decode cX10_minors 115 = .ok (.ishl, 1) := by decide +kernel
theorem dX10_minors_116 : decode cX10_minors 116 = .ok (.ixor, 1) := by decide +kernel
theorem dX10_minors_117 : decode cX10_minors 117 = .ok (.bipush 8, 2) := by decide +kernel
theorem dX10_minors_119 : decode cX10_minors 119 = .ok (.ishl, 1) := by decide +kernel
theorem dX10_minors_120 : decode cX10_minors 120 = .ok (.iload 4, 2) := by decide +kernel
theorem dX10_minors_122 : decode cX10_minors 122 = .ok (.iconst 1, 1) := by decide +kernel
theorem dX10_minors_123 : decode cX10_minors 123 = .ok (.iload 6, 2) := by decide +kernel
theorem dX10_minors_125 : decode cX10_minors 125 = .ok (.ishl, 1) := by decide +kernel
theorem dX10_minors_126 : decode cX10_minors 126 = .ok (.ixor, 1) := by decide +kernel
theorem dX10_minors_127 : decode cX10_minors 127 = .ok (.ior, 1) := by decide +kernel
theorem dX10_minors_128 : decode cX10_minors 128 = .ok (.iaload, 1) := by decide +kernel
theorem dX10_minors_129 : decode cX10_minors 129 = .ok (.invokevirtual 102, 3) := by decide +kernel
theorem dX10_minors_132 : decode cX10_minors 132 = .ok (.ixor, 1) := by decide +kernel
theorem dX10_minors_133 : decode cX10_minors 133 = .ok (.istore 5, 2) := by decide +kernel
theorem dX10_minors_135 : decode cX10_minors 135 = .ok (.iinc 6 1, 3) := by decide +kernel
theorem dX10_minors_138 : decode cX10_minors 138 = .ok (.goto (-68), 3) := by decide +kernel
theorem dX10_minors_141 : decode cX10_minors 141 = .ok (.aload_n 0, 1) := by decide +kernel
theorem dX10_minors_142 : decode cX10_minors 142 = .ok (.getfield 27, 3) := by decide +kernel
theorem dX10_minors_145 : decode cX10_minors 145 = .ok (.iload_n 2, 1) := by decide +kernel
theorem dX10_minors_146 : decode cX10_minors 146 = .ok (.bipush 8, 2) := by decide +kernel
theorem dX10_minors_148 : decode cX10_minors 148 = .ok (.ishl, 1) := by decide +kernel
theorem dX10_minors_149 : decode cX10_minors 149 = .ok (.iload 4, 2) := by decide +kernel
theorem dX10_minors_151 : decode cX10_minors 151 = .ok (.ior, 1) := by decide +kernel
theorem dX10_minors_152 : decode cX10_minors 152 = .ok (.iload 5, 2) := by decide +kernel
theorem dX10_minors_154 : decode cX10_minors 154 = .ok (.iastore, 1) := by decide +kernel
theorem dX10_minors_155 : decode cX10_minors 155 = .ok (.iinc 4 1, 3) := by decide +kernel
theorem dX10_minors_158 : decode cX10_minors 158 = .ok (.goto (-136), 3) := by decide +kernel
theorem dX10_minors_161 : decode cX10_minors 161 = .ok (.iinc 2 1, 3) := by decide +kernel
theorem dX10_minors_164 : decode cX10_minors 164 = .ok (.goto (-162), 3) := by decide +kernel
theorem dX10_minors_167 : decode cX10_minors 167 = .ok (.return_, 1) := by decide +kernel
theorem dX10_singular_0 : decode cX10_singular 0 = .ok (.aload_n 0, 1) := by decide +kernel
theorem dX10_singular_1 : decode cX10_singular 1 = .ok (.iconst 0, 1) := by decide +kernel
theorem dX10_singular_2 : decode cX10_singular 2 = .ok (.putfield 1, 3) := by decide +kernel
theorem dX10_singular_5 : decode cX10_singular 5 = .ok (.aload_n 0, 1) := by decide +kernel
theorem dX10_singular_6 : decode cX10_singular 6 = .ok (.iload_n 1, 1) := by decide +kernel
theorem dX10_singular_7 : decode cX10_singular 7 = .ok (.invokevirtual 144, 3) := by decide +kernel
theorem dX10_singular_10 : decode cX10_singular 10 = .ok (.ifCond .ne 9, 3) := by decide +kernel
theorem dX10_singular_13 : decode cX10_singular 13 = .ok (.aload_n 0, 1) := by decide +kernel
theorem dX10_singular_14 : decode cX10_singular 14 = .ok (.iconst 1, 1) := by decide +kernel
theorem dX10_singular_15 : decode cX10_singular 15 = .ok (.invokevirtual 118, 3) := by decide +kernel
theorem dX10_singular_18 : decode cX10_singular 18 = .ok (.ireturn, 1) := by decide +kernel
theorem dX10_singular_19 : decode cX10_singular 19 = .ok (.aload_n 0, 1) := by decide +kernel
theorem dX10_singular_20 : decode cX10_singular 20 = .ok (.iload_n 1, 1) := by decide +kernel
theorem dX10_singular_21 : decode cX10_singular 21 = .ok (.invokevirtual 154, 3) := by decide +kernel
theorem dX10_singular_24 : decode cX10_singular 24 = .ok (.iconst 0, 1) := by decide +kernel
theorem dX10_singular_25 : decode cX10_singular 25 = .ok (.istore_n 2, 1) := by decide +kernel
theorem dX10_singular_26 : decode cX10_singular 26 = .ok (.iconst 1, 1) := by decide +kernel
theorem dX10_singular_27 : decode cX10_singular 27 = .ok (.istore_n 3, 1) := by decide +kernel
theorem dX10_singular_28 : decode cX10_singular 28 = .ok (.iload_n 3, 1) := by decide +kernel
theorem dX10_singular_29 : decode cX10_singular 29 = .ok (.iconst 1, 1) := by decide +kernel
theorem dX10_singular_30 : decode cX10_singular 30 = .ok (.aload_n 0, 1) := by decide +kernel
theorem dX10_singular_31 : decode cX10_singular 31 = .ok (.getfield 17, 3) := by decide +kernel
theorem dX10_singular_34 : decode cX10_singular 34 = .ok (.iload_n 1, 1) := by decide +kernel
theorem dX10_singular_35 : decode cX10_singular 35 = .ok (.iaload, 1) := by decide +kernel
theorem dX10_singular_36 : decode cX10_singular 36 = .ok (.ishl, 1) := by decide +kernel
theorem dX10_singular_37 : decode cX10_singular 37 = .ok (.if_icmp .ge 66, 3) := by decide +kernel
theorem dX10_singular_40 : decode cX10_singular 40 = .ok (.iconst 1, 1) := by decide +kernel
theorem dX10_singular_41 : decode cX10_singular 41 = .ok (.istore 4, 2) := by decide +kernel
theorem dX10_singular_43 : decode cX10_singular 43 = .ok (.iload 4, 2) := by decide +kernel
theorem dX10_singular_45 : decode cX10_singular 45 = .ok (.iconst 1, 1) := by decide +kernel
theorem dX10_singular_46 : decode cX10_singular 46 = .ok (.aload_n 0, 1) := by decide +kernel
theorem dX10_singular_47 : decode cX10_singular 47 = .ok (.getfield 20, 3) := by decide +kernel
theorem dX10_singular_50 : decode cX10_singular 50 = .ok (.iload_n 1, 1) := by decide +kernel
theorem dX10_singular_51 : decode cX10_singular 51 = .ok (.iaload, 1) := by decide +kernel
theorem dX10_singular_52 : decode cX10_singular 52 = .ok (.ishl, 1) := by decide +kernel
theorem dX10_singular_53 : decode cX10_singular 53 = .ok (.if_icmp .ge 44, 3) := by decide +kernel
theorem dX10_singular_56 : decode cX10_singular 56 = .ok (.iload_n 2, 1) := by decide +kernel
theorem dX10_singular_57 : decode cX10_singular 57 = .ok (.iload_n 3, 1) := by decide +kernel
theorem dX10_singular_58 : decode cX10_singular 58 = .ok (.invokestatic 151, 3) := by decide +kernel
theorem dX10_singular_61 : decode cX10_singular 61 = .ok (.iload 4, 2) := by decide +kernel
theorem dX10_singular_63 : decode cX10_singular 63 = .ok (.invokestatic 151, 3) := by decide +kernel
theorem dX10_singular_66 : decode cX10_singular 66 = .ok (.if_icmp .ne 22, 3) := by decide +kernel
theorem dX10_singular_69 : decode cX10_singular 69 = .ok (.aload_n 0, 1) := by decide +kernel
theorem dX10_singular_70 : decode cX10_singular 70 = .ok (.getfield 27, 3) := by decide +kernel
theorem dX10_singular_73 : decode cX10_singular 73 = .ok (.iload_n 3, 1) := by decide +kernel
theorem dX10_singular_74 : decode cX10_singular 74 = .ok (.bipush 8, 2) := by decide +kernel
theorem dX10_singular_76 : decode cX10_singular 76 = .ok (.ishl, 1) := by decide +kernel
theorem dX10_singular_77 : decode cX10_singular 77 = .ok (.iload 4, 2) := by decide +kernel
theorem dX10_singular_79 : decode cX10_singular 79 = .ok (.ior, 1) := by decide +kernel
theorem dX10_singular_80 : decode cX10_singular 80 = .ok (.iaload, 1) := by decide +kernel
theorem dX10_singular_81 : decode cX10_singular 81 = .ok (.ifCond .ne 7, 3) := by decide +kernel
theorem dX10_singular_84 : decode cX10_singular 84 = .ok (.iconst 1, 1) := by decide +kernel
theorem dX10_singular_85 : decode cX10_singular 85 = .ok (.goto 4, 3) := by decide +kernel
theorem dX10_singular_88 : decode cX10_singular 88 = .ok (.iconst 0, 1) := by decide +kernel
theorem dX10_singular_89 : decode cX10_singular 89 = .ok (.iadd, 1) := by decide +kernel
theorem dX10_singular_90 : decode cX10_singular 90 = .ok (.istore_n 2, 1) := by decide +kernel
theorem dX10_singular_91 : decode cX10_singular 91 = .ok (.iinc 4 1, 3) := by decide +kernel
theorem dX10_singular_94 : decode cX10_singular 94 = .ok (.goto (-51), 3) := by decide +kernel
theorem dX10_singular_97 : decode cX10_singular 97 = .ok (.iinc 3 1, 3) := by decide +kernel
theorem dX10_singular_100 : decode cX10_singular 100 = .ok (.goto (-72), 3) := by decide +kernel
theorem dX10_singular_103 : decode cX10_singular 103 = .ok (.iload_n 2, 1) := by decide +kernel
theorem dX10_singular_104 : decode cX10_singular 104 = .ok (.ireturn, 1) := by decide +kernel
theorem dX10_determinant_0 : decode cX10_determinant 0 = .ok (.aload_n 0, 1) := by decide +kernel
theorem dX10_determinant_1 : decode cX10_determinant 1 = .ok (.iconst 0, 1) := by decide +kernel
theorem dX10_determinant_2 : decode cX10_determinant 2 = .ok (.putfield 1, 3) := by decide +kernel
theorem dX10_determinant_5 : decode cX10_determinant 5 = .ok (.aload_n 0, 1) := by decide +kernel
theorem dX10_determinant_6 : decode cX10_determinant 6 = .ok (.iload_n 1, 1) := by decide +kernel
theorem dX10_determinant_7 : decode cX10_determinant 7 = .ok (.invokevirtual 144, 3) := by decide +kernel
theorem dX10_determinant_10 : decode cX10_determinant 10 = .ok (.ifCond .ne 9, 3) := by decide +kernel
theorem dX10_determinant_13 : decode cX10_determinant 13 = .ok (.aload_n 0, 1) := by decide +kernel
theorem dX10_determinant_14 : decode cX10_determinant 14 = .ok (.iconst 1, 1) := by decide +kernel
theorem dX10_determinant_15 : decode cX10_determinant 15 = .ok (.invokevirtual 118, 3) := by decide +kernel
theorem dX10_determinant_18 : decode cX10_determinant 18 = .ok (.ireturn, 1) := by decide +kernel
theorem dX10_determinant_19 : decode cX10_determinant 19 = .ok (.aload_n 0, 1) := by decide +kernel
theorem dX10_determinant_20 : decode cX10_determinant 20 = .ok (.getfield 17, 3) := by decide +kernel
theorem dX10_determinant_23 : decode cX10_determinant 23 = .ok (.iload_n 1, 1) := by decide +kernel
theorem dX10_determinant_24 : decode cX10_determinant 24 = .ok (.iaload, 1) := by decide +kernel
theorem dX10_determinant_25 : decode cX10_determinant 25 = .ok (.aload_n 0, 1) := by decide +kernel
theorem dX10_determinant_26 : decode cX10_determinant 26 = .ok (.getfield 20, 3) := by decide +kernel
theorem dX10_determinant_29 : decode cX10_determinant 29 = .ok (.iload_n 1, 1) := by decide +kernel
theorem dX10_determinant_30 : decode cX10_determinant 30 = .ok (.iaload, 1) := by decide +kernel
theorem dX10_determinant_31 : decode cX10_determinant 31 = .ok (.if_icmp .eq 9, 3) := by decide +kernel
theorem dX10_determinant_34 : decode cX10_determinant 34 = .ok (.aload_n 0, 1) := by decide +kernel
theorem dX10_determinant_35 : decode cX10_determinant 35 = .ok (.iconst 2, 1) := by decide +kernel
theorem dX10_determinant_36 : decode cX10_determinant 36 = .ok (.invokevirtual 118, 3) := by decide +kernel
theorem dX10_determinant_39 : decode cX10_determinant 39 = .ok (.ireturn, 1) := by decide +kernel
theorem dX10_determinant_40 : decode cX10_determinant 40 = .ok (.aload_n 0, 1) := by decide +kernel
theorem dX10_determinant_41 : decode cX10_determinant 41 = .ok (.iload_n 1, 1) := by decide +kernel
theorem dX10_determinant_42 : decode cX10_determinant 42 = .ok (.invokevirtual 154, 3) := by decide +kernel
theorem dX10_determinant_45 : decode cX10_determinant 45 = .ok (.iconst 1, 1) := by decide +kernel
theorem dX10_determinant_46 : decode cX10_determinant 46 = .ok (.aload_n 0, 1) := by decide +kernel
theorem dX10_determinant_47 : decode cX10_determinant 47 = .ok (.getfield 17, 3) := by decide +kernel
theorem dX10_determinant_50 : decode cX10_determinant 50 = .ok (.iload_n 1, 1) := by decide +kernel
theorem dX10_determinant_51 : decode cX10_determinant 51 = .ok (.iaload, 1) := by decide +kernel
theorem dX10_determinant_52 : decode cX10_determinant 52 = .ok (.ishl, 1) := by decide +kernel
theorem dX10_determinant_53 : decode cX10_determinant 53 = .ok (.iconst 1, 1) := by decide +kernel
theorem dX10_determinant_54 : decode cX10_determinant 54 = .ok (.isub, 1) := by decide +kernel
theorem dX10_determinant_55 : decode cX10_determinant 55 = .ok (.istore_n 2, 1) := by decide +kernel
theorem dX10_determinant_56 : decode cX10_determinant 56 = .ok (.aload_n 0, 1) := by decide +kernel
theorem dX10_determinant_57 : decode cX10_determinant 57 = .ok (.getfield 27, 3) := by decide +kernel
theorem dX10_determinant_60 : decode cX10_determinant 60 = .ok (.iload_n 2, 1) := by decide +kernel
theorem dX10_determinant_61 : decode cX10_determinant 61 = .ok (.bipush 8, 2) := by decide +kernel
theorem dX10_determinant_63 : decode cX10_determinant 63 = .ok (.ishl, 1) := by decide +kernel
theorem dX10_determinant_64 : decode cX10_determinant 64 = .ok (.iload_n 2, 1) := by decide +kernel
theorem dX10_determinant_65 : decode cX10_determinant 65 = .ok (.ior, 1) := by decide +kernel
theorem dX10_determinant_66 : decode cX10_determinant 66 = .ok (.iaload, 1) := by decide +kernel
theorem dX10_determinant_67 : decode cX10_determinant 67 = .ok (.ireturn, 1) := by decide +kernel
theorem dX10_invert_0 : decode cX10_invert 0 = .ok (.aload_n 0, 1) := by decide +kernel
theorem dX10_invert_1 : decode cX10_invert 1 = .ok (.iconst 0, 1) := by decide +kernel
theorem dX10_invert_2 : decode cX10_invert 2 = .ok (.putfield 1, 3) := by decide +kernel
theorem dX10_invert_5 : decode cX10_invert 5 = .ok (.aload_n 0, 1) := by decide +kernel
theorem dX10_invert_6 : decode cX10_invert 6 = .ok (.iload_n 1, 1) := by decide +kernel
theorem dX10_invert_7 : decode cX10_invert 7 = .ok (.invokevirtual 144, 3) := by decide +kernel
theorem dX10_invert_10 : decode cX10_invert 10 = .ok (.ifCond .ne 9, 3) := by decide +kernel
theorem dX10_invert_13 : decode cX10_invert 13 = .ok (.aload_n 0, 1) := by decide +kernel
theorem dX10_invert_14 : decode cX10_invert 14 = .ok (.iconst 1, 1) := by decide +kernel
theorem dX10_invert_15 : decode cX10_invert 15 = .ok (.invokevirtual 118, 3) := by decide +kernel
theorem dX10_invert_18 : decode cX10_invert 18 = .ok (.ireturn, 1) := by decide +kernel
theorem dX10_invert_19 : decode cX10_invert 19 = .ok (.aload_n 0, 1) := by decide +kernel
theorem dX10_invert_20 : decode cX10_invert 20 = .ok (.getfield 17, 3) := by decide +kernel
theorem dX10_invert_23 : decode cX10_invert 23 = .ok (.iload_n 1, 1) := by decide +kernel
theorem dX10_invert_24 : decode cX10_invert 24 = .ok (.iaload, 1) := by decide +kernel
theorem dX10_invert_25 : decode cX10_invert 25 = .ok (.aload_n 0, 1) := by decide +kernel
theorem dX10_invert_26 : decode cX10_invert 26 = .ok (.getfield 20, 3) := by decide +kernel
theorem dX10_invert_29 : decode cX10_invert 29 = .ok (.iload_n 1, 1) := by decide +kernel
theorem dX10_invert_30 : decode cX10_invert 30 = .ok (.iaload, 1) := by decide +kernel
theorem dX10_invert_31 : decode cX10_invert 31 = .ok (.if_icmp .eq 9, 3) := by decide +kernel
theorem dX10_invert_34 : decode cX10_invert 34 = .ok (.aload_n 0, 1) := by decide +kernel
theorem dX10_invert_35 : decode cX10_invert 35 = .ok (.iconst 2, 1) := by decide +kernel
theorem dX10_invert_36 : decode cX10_invert 36 = .ok (.invokevirtual 118, 3) := by decide +kernel
theorem dX10_invert_39 : decode cX10_invert 39 = .ok (.ireturn, 1) := by decide +kernel
theorem dX10_invert_40 : decode cX10_invert 40 = .ok (.aload_n 0, 1) := by decide +kernel
theorem dX10_invert_41 : decode cX10_invert 41 = .ok (.getfield 127, 3) := by decide +kernel
theorem dX10_invert_44 : decode cX10_invert 44 = .ok (.bipush 40, 2) := by decide +kernel
theorem dX10_invert_46 : decode cX10_invert 46 = .ok (.if_icmp .ne 9, 3) := by decide +kernel
theorem dX10_invert_49 : decode cX10_invert 49 = .ok (.aload_n 0, 1) := by decide +kernel
theorem dX10_invert_50 : decode cX10_invert 50 = .ok (.iconst 3, 1) := by decide +kernel
theorem dX10_invert_51 : decode cX10_invert 51 = .ok (.invokevirtual 118, 3) := by decide +kernel
theorem dX10_invert_54 : decode cX10_invert 54 = .ok (.ireturn, 1) := by decide +kernel
theorem dX10_invert_55 : decode cX10_invert 55 = .ok (.aload_n 0, 1) := by decide +kernel
theorem dX10_invert_56 : decode cX10_invert 56 = .ok (.iload_n 1, 1) := by decide +kernel
theorem dX10_invert_57 : decode cX10_invert 57 = .ok (.invokevirtual 154, 3) := by decide +kernel
theorem dX10_invert_60 : decode cX10_invert 60 = .ok (.aload_n 0, 1) := by decide +kernel
theorem dX10_invert_61 : decode cX10_invert 61 = .ok (.getfield 17, 3) := by decide +kernel
theorem dX10_invert_64 : decode cX10_invert 64 = .ok (.iload_n 1, 1) := by decide +kernel
theorem dX10_invert_65 : decode cX10_invert 65 = .ok (.iaload, 1) := by decide +kernel
theorem dX10_invert_66 : decode cX10_invert 66 = .ok (.istore_n 2, 1) := by decide +kernel
theorem dX10_invert_67 : decode cX10_invert 67 = .ok (.iconst 1, 1) := by decide +kernel
theorem dX10_invert_68 : decode cX10_invert 68 = .ok (.iload_n 2, 1) := by decide +kernel
theorem dX10_invert_69 : decode cX10_invert 69 = .ok (.ishl, 1) := by decide +kernel
theorem dX10_invert_70 : decode cX10_invert 70 = .ok (.iconst 1, 1) := by decide +kernel
theorem dX10_invert_71 : decode cX10_invert 71 = .ok (.isub, 1) := by decide +kernel
theorem dX10_invert_72 : decode cX10_invert 72 = .ok (.istore_n 3, 1) := by decide +kernel
theorem dX10_invert_73 : decode cX10_invert 73 = .ok (.aload_n 0, 1) := by decide +kernel
theorem dX10_invert_74 : decode cX10_invert 74 = .ok (.getfield 27, 3) := by decide +kernel
theorem dX10_invert_77 : decode cX10_invert 77 = .ok (.iload_n 3, 1) := by decide +kernel
theorem dX10_invert_78 : decode cX10_invert 78 = .ok (.bipush 8, 2) := by decide +kernel
theorem dX10_invert_80 : decode cX10_invert 80 = .ok (.ishl, 1) := by decide +kernel
theorem dX10_invert_81 : decode cX10_invert 81 = .ok (.iload_n 3, 1) := by decide +kernel
theorem dX10_invert_82 : decode cX10_invert 82 = .ok (.ior, 1) := by decide +kernel
theorem dX10_invert_83 : decode cX10_invert 83 = .ok (.iaload, 1) := by decide +kernel
theorem dX10_invert_84 : decode cX10_invert 84 = .ok (.istore 4, 2) := by decide +kernel
theorem dX10_invert_86 : decode cX10_invert 86 = .ok (.iload 4, 2) := by decide +kernel
theorem dX10_invert_88 : decode cX10_invert 88 = .ok (.ifCond .ne 5, 3) := by decide +kernel
theorem dX10_invert_91 : decode cX10_invert 91 = .ok (.iconst (-1), 1) := by decide +kernel
theorem dX10_invert_92 : decode cX10_invert 92 = .ok (.ireturn, 1) := by decide +kernel
theorem dX10_invert_93 : decode cX10_invert 93 = .ok (.aload_n 0, 1) := by decide +kernel
theorem dX10_invert_94 : decode cX10_invert 94 = .ok (.iload_n 2, 1) := by decide +kernel
theorem dX10_invert_95 : decode cX10_invert 95 = .ok (.iload_n 2, 1) := by decide +kernel
theorem dX10_invert_96 : decode cX10_invert 96 = .ok (.invokevirtual 133, 3) := by decide +kernel
theorem dX10_invert_99 : decode cX10_invert 99 = .ok (.istore 5, 2) := by decide +kernel
theorem dX10_invert_101 : decode cX10_invert 101 = .ok (.iconst 0, 1) := by decide +kernel
theorem dX10_invert_102 : decode cX10_invert 102 = .ok (.istore 6, 2) := by decide +kernel
theorem dX10_invert_104 : decode cX10_invert 104 = .ok (.iload 6, 2) := by decide +kernel
theorem dX10_invert_106 : decode cX10_invert 106 = .ok (.iload_n 2, 1) := by decide +kernel
theorem dX10_invert_107 : decode cX10_invert 107 = .ok (.if_icmp .ge 70, 3) := by decide +kernel
theorem dX10_invert_110 : decode cX10_invert 110 = .ok (.iconst 0, 1) := by decide +kernel
theorem dX10_invert_111 : decode cX10_invert 111 = .ok (.istore 7, 2) := by decide +kernel
theorem dX10_invert_113 : decode cX10_invert 113 = .ok (.iload 7, 2) := by decide +kernel
theorem dX10_invert_115 : decode cX10_invert 115 = .ok (.iload_n 2, 1) := by decide +kernel
theorem dX10_invert_116 : decode cX10_invert 116 = .ok (.if_icmp .ge 55, 3) := by decide +kernel
theorem dX10_invert_119 : decode cX10_invert 119 = .ok (.aload_n 0, 1) := by decide +kernel
theorem dX10_invert_120 : decode cX10_invert 120 = .ok (.getfield 23, 3) := by decide +kernel
theorem dX10_invert_123 : decode cX10_invert 123 = .ok (.aload_n 0, 1) := by decide +kernel
theorem dX10_invert_124 : decode cX10_invert 124 = .ok (.iload 5, 2) := by decide +kernel
theorem dX10_invert_126 : decode cX10_invert 126 = .ok (.iload 6, 2) := by decide +kernel
theorem dX10_invert_128 : decode cX10_invert 128 = .ok (.iload 7, 2) := by decide +kernel
theorem dX10_invert_130 : decode cX10_invert 130 = .ok (.invokevirtual 140, 3) := by decide +kernel
theorem dX10_invert_133 : decode cX10_invert 133 = .ok (.aload_n 0, 1) := by decide +kernel
theorem dX10_invert_134 : decode cX10_invert 134 = .ok (.aload_n 0, 1) := by decide +kernel
theorem dX10_invert_135 : decode cX10_invert 135 = .ok (.iload 4, 2) := by decide +kernel
theorem dX10_invert_137 : decode cX10_invert 137 = .ok (.invokevirtual 121, 3) := by decide +kernel
theorem dX10_invert_140 : decode cX10_invert 140 = .ok (.aload_n 0, 1) := by decide +kernel
theorem dX10_invert_141 : decode cX10_invert 141 = .ok (.getfield 27, 3) := by decide +kernel
theorem dX10_invert_144 : decode cX10_invert 144 = .ok (.iload_n 3, 1) := by decide +kernel
theorem dX10_invert_145 : decode cX10_invert 145 = .ok (.iconst 1, 1) := by decide +kernel
theorem dX10_invert_146 : decode cX10_invert 146 = .ok (.iload 7, 2) := by decide +kernel
theorem dX10_invert_148 : decode cX10_invert 148 = .ok (.ishl, 1) := by decide +kernel
theorem dX10_invert_149 : decode cX10_invert 149 = .ok (.ixor, 1) := by decide +kernel
theorem dX10_invert_150 : decode cX10_invert 150 = .ok (.bipush 8, 2) := by decide +kernel
theorem dX10_invert_152 : decode cX10_invert 152 = .ok (.ishl, 1) := by decide +kernel
theorem dX10_invert_153 : decode cX10_invert 153 = .ok (.iload_n 3, 1) := by decide +kernel
theorem dX10_invert_154 : decode cX10_invert 154 = .ok (.iconst 1, 1) := by decide +kernel
theorem dX10_invert_155 : decode cX10_invert 155 = .ok (.iload 6, 2) := by decide +kernel
theorem dX10_invert_157 : decode cX10_invert 157 = .ok (.ishl, 1) := by decide +kernel
theorem dX10_invert_158 : decode cX10_invert 158 = .ok (.ixor, 1) := by decide +kernel
theorem dX10_invert_159 : decode cX10_invert 159 = .ok (.ior, 1) := by decide +kernel
theorem dX10_invert_160 : decode cX10_invert 160 = .ok (.iaload, 1) := by decide +kernel
theorem dX10_invert_161 : decode cX10_invert 161 = .ok (.invokevirtual 102, 3) := by decide +kernel
theorem dX10_invert_164 : decode cX10_invert 164 = .ok (.iastore, 1) := by decide +kernel
theorem dX10_invert_165 : decode cX10_invert 165 = .ok (.iinc 7 1, 3) := by decide +kernel
theorem dX10_invert_168 : decode cX10_invert 168 = .ok (.goto (-55), 3) := by decide +kernel
theorem dX10_invert_171 : decode cX10_invert 171 = .ok (.iinc 6 1, 3) := by decide +kernel
theorem dX10_invert_174 : decode cX10_invert 174 = .ok (.goto (-70), 3) := by decide +kernel
theorem dX10_invert_177 : decode cX10_invert 177 = .ok (.iload 5, 2) := by decide +kernel
theorem dX10_invert_179 : decode cX10_invert 179 = .ok (.ireturn, 1) := by decide +kernel
theorem dX10_rank_0 : decode cX10_rank 0 = .ok (.aload_n 0, 1) := by decide +kernel
theorem dX10_rank_1 : decode cX10_rank 1 = .ok (.iconst 0, 1) := by decide +kernel
theorem dX10_rank_2 : decode cX10_rank 2 = .ok (.putfield 1, 3) := by decide +kernel
theorem dX10_rank_5 : decode cX10_rank 5 = .ok (.aload_n 0, 1) := by decide +kernel
theorem dX10_rank_6 : decode cX10_rank 6 = .ok (.iload_n 1, 1) := by decide +kernel
theorem dX10_rank_7 : decode cX10_rank 7 = .ok (.invokevirtual 144, 3) := by decide +kernel
theorem dX10_rank_10 : decode cX10_rank 10 = .ok (.ifCond .ne 9, 3) := by decide +kernel
theorem dX10_rank_13 : decode cX10_rank 13 = .ok (.aload_n 0, 1) := by decide +kernel
theorem dX10_rank_14 : decode cX10_rank 14 = .ok (.iconst 1, 1) := by decide +kernel
theorem dX10_rank_15 : decode cX10_rank 15 = .ok (.invokevirtual 118, 3) := by decide +kernel
theorem dX10_rank_18 : decode cX10_rank 18 = .ok (.ireturn, 1) := by decide +kernel
theorem dX10_rank_19 : decode cX10_rank 19 = .ok (.aload_n 0, 1) := by decide +kernel
theorem dX10_rank_20 : decode cX10_rank 20 = .ok (.iload_n 1, 1) := by decide +kernel
theorem dX10_rank_21 : decode cX10_rank 21 = .ok (.invokevirtual 154, 3) := by decide +kernel
theorem dX10_rank_24 : decode cX10_rank 24 = .ok (.iconst 0, 1) := by decide +kernel
theorem dX10_rank_25 : decode cX10_rank 25 = .ok (.istore_n 2, 1) := by decide +kernel
theorem dX10_rank_26 : decode cX10_rank 26 = .ok (.iconst 0, 1) := by decide +kernel
theorem dX10_rank_27 : decode cX10_rank 27 = .ok (.istore_n 3, 1) := by decide +kernel
theorem dX10_rank_28 : decode cX10_rank 28 = .ok (.iload_n 3, 1) := by decide +kernel
theorem dX10_rank_29 : decode cX10_rank 29 = .ok (.iconst 1, 1) := by decide +kernel
theorem dX10_rank_30 : decode cX10_rank 30 = .ok (.aload_n 0, 1) := by decide +kernel
theorem dX10_rank_31 : decode cX10_rank 31 = .ok (.getfield 17, 3) := by decide +kernel
theorem dX10_rank_34 : decode cX10_rank 34 = .ok (.iload_n 1, 1) := by decide +kernel
theorem dX10_rank_35 : decode cX10_rank 35 = .ok (.iaload, 1) := by decide +kernel
theorem dX10_rank_36 : decode cX10_rank 36 = .ok (.ishl, 1) := by decide +kernel
theorem dX10_rank_37 : decode cX10_rank 37 = .ok (.if_icmp .ge 59, 3) := by decide +kernel
theorem dX10_rank_40 : decode cX10_rank 40 = .ok (.iconst 0, 1) := by decide +kernel
theorem dX10_rank_41 : decode cX10_rank 41 = .ok (.istore 4, 2) := by decide +kernel
theorem dX10_rank_43 : decode cX10_rank 43 = .ok (.iload 4, 2) := by decide +kernel
theorem dX10_rank_45 : decode cX10_rank 45 = .ok (.iconst 1, 1) := by decide +kernel
theorem dX10_rank_46 : decode cX10_rank 46 = .ok (.aload_n 0, 1) := by decide +kernel
theorem dX10_rank_47 : decode cX10_rank 47 = .ok (.getfield 20, 3) := by decide +kernel
theorem dX10_rank_50 : decode cX10_rank 50 = .ok (.iload_n 1, 1) := by decide +kernel
theorem dX10_rank_51 : decode cX10_rank 51 = .ok (.iaload, 1) := by decide +kernel
theorem dX10_rank_52 : decode cX10_rank 52 = .ok (.ishl, 1) := by decide +kernel
theorem dX10_rank_53 : decode cX10_rank 53 = .ok (.if_icmp .ge 37, 3) := by decide +kernel
theorem dX10_rank_56 : decode cX10_rank 56 = .ok (.aload_n 0, 1) := by decide +kernel
theorem dX10_rank_57 : decode cX10_rank 57 = .ok (.getfield 27, 3) := by decide +kernel
theorem dX10_rank_60 : decode cX10_rank 60 = .ok (.iload_n 3, 1) := by decide +kernel
theorem dX10_rank_61 : decode cX10_rank 61 = .ok (.bipush 8, 2) := by decide +kernel
theorem dX10_rank_63 : decode cX10_rank 63 = .ok (.ishl, 1) := by decide +kernel
theorem dX10_rank_64 : decode cX10_rank 64 = .ok (.iload 4, 2) := by decide +kernel
theorem dX10_rank_66 : decode cX10_rank 66 = .ok (.ior, 1) := by decide +kernel
theorem dX10_rank_67 : decode cX10_rank 67 = .ok (.iaload, 1) := by decide +kernel
theorem dX10_rank_68 : decode cX10_rank 68 = .ok (.ifCond .eq 16, 3) := by decide +kernel
theorem dX10_rank_71 : decode cX10_rank 71 = .ok (.iload_n 3, 1) := by decide +kernel
theorem dX10_rank_72 : decode cX10_rank 72 = .ok (.invokestatic 151, 3) := by decide +kernel
theorem dX10_rank_75 : decode cX10_rank 75 = .ok (.iload_n 2, 1) := by decide +kernel
theorem dX10_rank_76 : decode cX10_rank 76 = .ok (.if_icmp .le 8, 3) := by decide +kernel
theorem dX10_rank_79 : decode cX10_rank 79 = .ok (.iload_n 3, 1) := by decide +kernel
theorem dX10_rank_80 : decode cX10_rank 80 = .ok (.invokestatic 151, 3) := by decide +kernel
theorem dX10_rank_83 : decode cX10_rank 83 = .ok (.istore_n 2, 1) := by decide +kernel
theorem dX10_rank_84 : decode cX10_rank 84 = .ok (.iinc 4 1, 3) := by decide +kernel
theorem dX10_rank_87 : decode cX10_rank 87 = .ok (.goto (-44), 3) := by decide +kernel
theorem dX10_rank_90 : decode cX10_rank 90 = .ok (.iinc 3 1, 3) := by decide +kernel
theorem dX10_rank_93 : decode cX10_rank 93 = .ok (.goto (-65), 3) := by decide +kernel
theorem dX10_rank_96 : decode cX10_rank 96 = .ok (.iload_n 2, 1) := by decide +kernel
theorem dX10_rank_97 : decode cX10_rank 97 = .ok (.ireturn, 1) := by decide +kernel
theorem dX10_solve_0 : decode cX10_solve 0 = .ok (.aload_n 0, 1) := by decide +kernel
theorem dX10_solve_1 : decode cX10_solve 1 = .ok (.iconst 0, 1) := by decide +kernel
theorem dX10_solve_2 : decode cX10_solve 2 = .ok (.putfield 1, 3) := by decide +kernel
theorem dX10_solve_5 : decode cX10_solve 5 = .ok (.aload_n 0, 1) := by decide +kernel
theorem dX10_solve_6 : decode cX10_solve 6 = .ok (.iload_n 1, 1) := by decide +kernel
theorem dX10_solve_7 : decode cX10_solve 7 = .ok (.invokevirtual 144, 3) := by decide +kernel
theorem dX10_solve_10 : decode cX10_solve 10 = .ok (.ifCond .ne 9, 3) := by decide +kernel
theorem dX10_solve_13 : decode cX10_solve 13 = .ok (.aload_n 0, 1) := by decide +kernel
theorem dX10_solve_14 : decode cX10_solve 14 = .ok (.iconst 1, 1) := by decide +kernel
theorem dX10_solve_15 : decode cX10_solve 15 = .ok (.invokevirtual 118, 3) := by decide +kernel
theorem dX10_solve_18 : decode cX10_solve 18 = .ok (.ireturn, 1) := by decide +kernel
theorem dX10_solve_19 : decode cX10_solve 19 = .ok (.aload_n 0, 1) := by decide +kernel
theorem dX10_solve_20 : decode cX10_solve 20 = .ok (.getfield 124, 3) := by decide +kernel
theorem dX10_solve_23 : decode cX10_solve 23 = .ok (.aload_n 0, 1) := by decide +kernel
theorem dX10_solve_24 : decode cX10_solve 24 = .ok (.getfield 17, 3) := by decide +kernel
theorem dX10_solve_27 : decode cX10_solve 27 = .ok (.iload_n 1, 1) := by decide +kernel
theorem dX10_solve_28 : decode cX10_solve 28 = .ok (.iaload, 1) := by decide +kernel
theorem dX10_solve_29 : decode cX10_solve 29 = .ok (.if_icmp .eq 9, 3) := by decide +kernel
theorem dX10_solve_32 : decode cX10_solve 32 = .ok (.aload_n 0, 1) := by decide +kernel
theorem dX10_solve_33 : decode cX10_solve 33 = .ok (.iconst 2, 1) := by decide +kernel
theorem dX10_solve_34 : decode cX10_solve 34 = .ok (.invokevirtual 118, 3) := by decide +kernel
theorem dX10_solve_37 : decode cX10_solve 37 = .ok (.ireturn, 1) := by decide +kernel
theorem dX10_solve_38 : decode cX10_solve 38 = .ok (.aload_n 0, 1) := by decide +kernel
theorem dX10_solve_39 : decode cX10_solve 39 = .ok (.getfield 17, 3) := by decide +kernel
theorem dX10_solve_42 : decode cX10_solve 42 = .ok (.iload_n 1, 1) := by decide +kernel
theorem dX10_solve_43 : decode cX10_solve 43 = .ok (.iaload, 1) := by decide +kernel
theorem dX10_solve_44 : decode cX10_solve 44 = .ok (.istore_n 2, 1) := by decide +kernel
theorem dX10_solve_45 : decode cX10_solve 45 = .ok (.aload_n 0, 1) := by decide +kernel
theorem dX10_solve_46 : decode cX10_solve 46 = .ok (.getfield 20, 3) := by decide +kernel
theorem dX10_solve_49 : decode cX10_solve 49 = .ok (.iload_n 1, 1) := by decide +kernel
theorem dX10_solve_50 : decode cX10_solve 50 = .ok (.iaload, 1) := by decide +kernel
theorem dX10_solve_51 : decode cX10_solve 51 = .ok (.istore_n 3, 1) := by decide +kernel
theorem dX10_solve_52 : decode cX10_solve 52 = .ok (.iconst 0, 1) := by decide +kernel
theorem dX10_solve_53 : decode cX10_solve 53 = .ok (.istore 4, 2) := by decide +kernel
theorem dX10_solve_55 : decode cX10_solve 55 = .ok (.iload 4, 2) := by decide +kernel
theorem dX10_solve_57 : decode cX10_solve 57 = .ok (.iload_n 2, 1) := by decide +kernel
theorem dX10_solve_58 : decode cX10_solve 58 = .ok (.if_icmp .ge 67, 3) := by decide +kernel
theorem dX10_solve_61 : decode cX10_solve 61 = .ok (.iconst 0, 1) := by decide +kernel
theorem dX10_solve_62 : decode cX10_solve 62 = .ok (.istore 5, 2) := by decide +kernel
theorem dX10_solve_64 : decode cX10_solve 64 = .ok (.iload 5, 2) := by decide +kernel
theorem dX10_solve_66 : decode cX10_solve 66 = .ok (.iload_n 3, 1) := by decide +kernel
theorem dX10_solve_67 : decode cX10_solve 67 = .ok (.if_icmp .gt 52, 3) := by decide +kernel
theorem dX10_solve_70 : decode cX10_solve 70 = .ok (.aload_n 0, 1) := by decide +kernel
theorem dX10_solve_71 : decode cX10_solve 71 = .ok (.getfield 30, 3) := by decide +kernel
theorem dX10_solve_74 : decode cX10_solve 74 = .ok (.bipush 9, 2) := by decide +kernel
theorem dX10_solve_76 : decode cX10_solve 76 = .ok (.iload 4, 2) := by decide +kernel
theorem dX10_solve_78 : decode cX10_solve 78 = .ok (.imul, 1) := by decide +kernel
theorem dX10_solve_79 : decode cX10_solve 79 = .ok (.iload 5, 2) := by decide +kernel
theorem dX10_solve_81 : decode cX10_solve 81 = .ok (.iadd, 1) := by decide +kernel
theorem dX10_solve_82 : decode cX10_solve 82 = .ok (.iload 5, 2) := by decide +kernel
theorem dX10_solve_84 : decode cX10_solve 84 = .ok (.iload_n 3, 1) := by decide +kernel
theorem dX10_solve_85 : decode cX10_solve 85 = .ok (.if_icmp .ge 20, 3) := by decide +kernel
theorem dX10_solve_88 : decode cX10_solve 88 = .ok (.aload_n 0, 1) := by decide +kernel
theorem dX10_solve_89 : decode cX10_solve 89 = .ok (.getfield 23, 3) := by decide +kernel
theorem dX10_solve_92 : decode cX10_solve 92 = .ok (.aload_n 0, 1) := by decide +kernel
theorem dX10_solve_93 : decode cX10_solve 93 = .ok (.iload_n 1, 1) := by decide +kernel
theorem dX10_solve_94 : decode cX10_solve 94 = .ok (.iload 4, 2) := by decide +kernel
theorem dX10_solve_96 : decode cX10_solve 96 = .ok (.iload 5, 2) := by decide +kernel
theorem dX10_solve_98 : decode cX10_solve 98 = .ok (.invokevirtual 140, 3) := by decide +kernel
theorem dX10_solve_101 : decode cX10_solve 101 = .ok (.iaload, 1) := by decide +kernel
theorem dX10_solve_102 : decode cX10_solve 102 = .ok (.goto 10, 3) := by decide +kernel
theorem dX10_solve_105 : decode cX10_solve 105 = .ok (.aload_n 0, 1) := by decide +kernel
theorem dX10_solve_106 : decode cX10_solve 106 = .ok (.getfield 13, 3) := by decide +kernel
theorem dX10_solve_109 : decode cX10_solve 109 = .ok (.iload 4, 2) := by decide +kernel
theorem dX10_solve_111 : decode cX10_solve 111 = .ok (.iaload, 1) := by decide +kernel
theorem dX10_solve_112 : decode cX10_solve 112 = .ok (.iastore, 1) := by decide +kernel
theorem dX10_solve_113 : decode cX10_solve 113 = .ok (.iinc 5 1, 3) := by decide +kernel
theorem dX10_solve_116 : decode cX10_solve 116 = .ok (.goto (-52), 3) := by decide +kernel
theorem dX10_solve_119 : decode cX10_solve 119 = .ok (.iinc 4 1, 3) := by decide +kernel
theorem dX10_solve_122 : decode cX10_solve 122 = .ok (.goto (-67), 3) := by decide +kernel
theorem dX10_solve_125 : decode cX10_solve 125 = .ok (.iconst 0, 1) := by decide +kernel
theorem dX10_solve_126 : decode cX10_solve 126 = .ok (.istore 4, 2) := by decide +kernel
theorem dX10_solve_128 : decode cX10_solve 128 = .ok (.iconst 0, 1) := by decide +kernel
theorem dX10_solve_129 : decode cX10_solve 129 = .ok (.istore 5, 2) := by decide +kernel
theorem dX10_solve_131 : decode cX10_solve 131 = .ok (.iload 5, 2) := by decide +kernel
theorem dX10_solve_133 : decode cX10_solve 133 = .ok (.iload_n 3, 1) := by decide +kernel
theorem dX10_solve_134 : decode cX10_solve 134 = .ok (.if_icmp .ge 255, 3) := by decide +kernel
theorem dX10_solve_137 : decode cX10_solve 137 = .ok (.iload 4, 2) := by decide +kernel
theorem dX10_solve_139 : decode cX10_solve 139 = .ok (.istore 6, 2) := by decide +kernel
theorem dX10_solve_141 : decode cX10_solve 141 = .ok (.iload 6, 2) := by decide +kernel
theorem dX10_solve_143 : decode cX10_solve 143 = .ok (.iload_n 2, 1) := by decide +kernel
theorem dX10_solve_144 : decode cX10_solve 144 = .ok (.if_icmp .ge 25, 3) := by decide +kernel
theorem dX10_solve_147 : decode cX10_solve 147 = .ok (.aload_n 0, 1) := by decide +kernel
theorem dX10_solve_148 : decode cX10_solve 148 = .ok (.getfield 30, 3) := by decide +kernel
theorem dX10_solve_151 : decode cX10_solve 151 = .ok (.bipush 9, 2) := by decide +kernel
theorem dX10_solve_153 : decode cX10_solve 153 = .ok (.iload 6, 2) := by decide +kernel
theorem dX10_solve_155 : decode cX10_solve 155 = .ok (.imul, 1) := by decide +kernel
theorem dX10_solve_156 : decode cX10_solve 156 = .ok (.iload 5, 2) := by decide +kernel
theorem dX10_solve_158 : decode cX10_solve 158 = .ok (.iadd, 1) := by decide +kernel
theorem dX10_solve_159 : decode cX10_solve 159 = .ok (.iaload, 1) := by decide +kernel
theorem dX10_solve_160 : decode cX10_solve 160 = .ok (.ifCond .ne 9, 3) := by decide +kernel
theorem dX10_solve_163 : decode cX10_solve 163 = .ok (.iinc 6 1, 3) := by decide +kernel
theorem dX10_solve_166 : decode cX10_solve 166 = .ok (.goto (-25), 3) := by decide +kernel
theorem dX10_solve_169 : decode cX10_solve 169 = .ok (.aload_n 0, 1) := by decide +kernel
theorem dX10_solve_170 : decode cX10_solve 170 = .ok (.getfield 33, 3) := by decide +kernel
theorem dX10_solve_173 : decode cX10_solve 173 = .ok (.iload 5, 2) := by decide +kernel
theorem dX10_solve_175 : decode cX10_solve 175 = .ok (.iload 6, 2) := by decide +kernel
theorem dX10_solve_177 : decode cX10_solve 177 = .ok (.iload_n 2, 1) := by decide +kernel
theorem dX10_solve_178 : decode cX10_solve 178 = .ok (.if_icmp .ge 8, 3) := by decide +kernel
theorem dX10_solve_181 : decode cX10_solve 181 = .ok (.iload 4, 2) := by decide +kernel
theorem dX10_solve_183 : decode cX10_solve 183 = .ok (.goto 4, 3) := by decide +kernel
theorem dX10_solve_186 : decode cX10_solve 186 = .ok (.iconst (-1), 1) := by decide +kernel
theorem dX10_solve_187 : decode cX10_solve 187 = .ok (.iastore, 1) := by decide +kernel
theorem dX10_solve_188 : decode cX10_solve 188 = .ok (.iload 6, 2) := by decide +kernel
theorem dX10_solve_190 : decode cX10_solve 190 = .ok (.iload_n 2, 1) := by decide +kernel
theorem dX10_solve_191 : decode cX10_solve 191 = .ok (.if_icmp .ne 6, 3) := by decide +kernel
theorem dX10_solve_194 : decode cX10_solve 194 = .ok (.goto 189, 3) := by decide +kernel
theorem dX10_solve_197 : decode cX10_solve 197 = .ok (.aload_n 0, 1) := by decide +kernel
theorem dX10_solve_198 : decode cX10_solve 198 = .ok (.aload_n 0, 1) := by decide +kernel
theorem dX10_solve_199 : decode cX10_solve 199 = .ok (.getfield 30, 3) := by decide +kernel
theorem dX10_solve_202 : decode cX10_solve 202 = .ok (.bipush 9, 2) := by decide +kernel
theorem dX10_solve_204 : decode cX10_solve 204 = .ok (.iload 6, 2) := by decide +kernel
theorem dX10_solve_206 : decode cX10_solve 206 = .ok (.imul, 1) := by decide +kernel
theorem dX10_solve_207 : decode cX10_solve 207 = .ok (.iload 5, 2) := by decide +kernel
theorem dX10_solve_209 : decode cX10_solve 209 = .ok (.iadd, 1) := by decide +kernel
theorem dX10_solve_210 : decode cX10_solve 210 = .ok (.iaload, 1) := by decide +kernel
theorem dX10_solve_211 : decode cX10_solve 211 = .ok (.invokevirtual 121, 3) := by decide +kernel
theorem dX10_solve_214 : decode cX10_solve 214 = .ok (.istore 7, 2) := by decide +kernel
theorem dX10_solve_216 : decode cX10_solve 216 = .ok (.iconst 0, 1) := by decide +kernel
theorem dX10_solve_217 : decode cX10_solve 217 = .ok (.istore 8, 2) := by decide +kernel
theorem dX10_solve_219 : decode cX10_solve 219 = .ok (.iload 8, 2) := by decide +kernel
theorem dX10_solve_221 : decode cX10_solve 221 = .ok (.iload_n 3, 1) := by decide +kernel
theorem dX10_solve_222 : decode cX10_solve 222 = .ok (.if_icmp .gt 71, 3) := by decide +kernel
theorem dX10_solve_225 : decode cX10_solve 225 = .ok (.aload_n 0, 1) := by decide +kernel
theorem dX10_solve_226 : decode cX10_solve 226 = .ok (.getfield 30, 3) := by decide +kernel
theorem dX10_solve_229 : decode cX10_solve 229 = .ok (.bipush 9, 2) := by decide +kernel
theorem dX10_solve_231 : decode cX10_solve 231 = .ok (.iload 6, 2) := by decide +kernel
theorem dX10_solve_233 : decode cX10_solve 233 = .ok (.imul, 1) := by decide +kernel
theorem dX10_solve_234 : decode cX10_solve 234 = .ok (.iload 8, 2) := by decide +kernel
theorem dX10_solve_236 : decode cX10_solve 236 = .ok (.iadd, 1) := by decide +kernel
theorem dX10_solve_237 : decode cX10_solve 237 = .ok (.iaload, 1) := by decide +kernel
theorem dX10_solve_238 : decode cX10_solve 238 = .ok (.istore 9, 2) := by decide +kernel
theorem dX10_solve_240 : decode cX10_solve 240 = .ok (.aload_n 0, 1) := by decide +kernel
theorem dX10_solve_241 : decode cX10_solve 241 = .ok (.getfield 30, 3) := by decide +kernel
theorem dX10_solve_244 : decode cX10_solve 244 = .ok (.bipush 9, 2) := by decide +kernel
theorem dX10_solve_246 : decode cX10_solve 246 = .ok (.iload 6, 2) := by decide +kernel
theorem dX10_solve_248 : decode cX10_solve 248 = .ok (.imul, 1) := by decide +kernel
theorem dX10_solve_249 : decode cX10_solve 249 = .ok (.iload 8, 2) := by decide +kernel
theorem dX10_solve_251 : decode cX10_solve 251 = .ok (.iadd, 1) := by decide +kernel
theorem dX10_solve_252 : decode cX10_solve 252 = .ok (.aload_n 0, 1) := by decide +kernel
theorem dX10_solve_253 : decode cX10_solve 253 = .ok (.getfield 30, 3) := by decide +kernel
theorem dX10_solve_256 : decode cX10_solve 256 = .ok (.bipush 9, 2) := by decide +kernel
theorem dX10_solve_258 : decode cX10_solve 258 = .ok (.iload 4, 2) := by decide +kernel
theorem dX10_solve_260 : decode cX10_solve 260 = .ok (.imul, 1) := by decide +kernel
theorem dX10_solve_261 : decode cX10_solve 261 = .ok (.iload 8, 2) := by decide +kernel
theorem dX10_solve_263 : decode cX10_solve 263 = .ok (.iadd, 1) := by decide +kernel
theorem dX10_solve_264 : decode cX10_solve 264 = .ok (.iaload, 1) := by decide +kernel
theorem dX10_solve_265 : decode cX10_solve 265 = .ok (.iastore, 1) := by decide +kernel
theorem dX10_solve_266 : decode cX10_solve 266 = .ok (.aload_n 0, 1) := by decide +kernel
theorem dX10_solve_267 : decode cX10_solve 267 = .ok (.getfield 30, 3) := by decide +kernel
theorem dX10_solve_270 : decode cX10_solve 270 = .ok (.bipush 9, 2) := by decide +kernel
theorem dX10_solve_272 : decode cX10_solve 272 = .ok (.iload 4, 2) := by decide +kernel
theorem dX10_solve_274 : decode cX10_solve 274 = .ok (.imul, 1) := by decide +kernel
theorem dX10_solve_275 : decode cX10_solve 275 = .ok (.iload 8, 2) := by decide +kernel
theorem dX10_solve_277 : decode cX10_solve 277 = .ok (.iadd, 1) := by decide +kernel
theorem dX10_solve_278 : decode cX10_solve 278 = .ok (.aload_n 0, 1) := by decide +kernel
theorem dX10_solve_279 : decode cX10_solve 279 = .ok (.iload 9, 2) := by decide +kernel
theorem dX10_solve_281 : decode cX10_solve 281 = .ok (.iload 7, 2) := by decide +kernel
theorem dX10_solve_283 : decode cX10_solve 283 = .ok (.invokevirtual 102, 3) := by decide +kernel
theorem dX10_solve_286 : decode cX10_solve 286 = .ok (.iastore, 1) := by decide +kernel
theorem dX10_solve_287 : decode cX10_solve 287 = .ok (.iinc 8 1, 3) := by decide +kernel
theorem dX10_solve_290 : decode cX10_solve 290 = .ok (.goto (-71), 3) := by decide +kernel
theorem dX10_solve_293 : decode cX10_solve 293 = .ok (.iconst 0, 1) := by decide +kernel
theorem dX10_solve_294 : decode cX10_solve 294 = .ok (.istore 8, 2) := by decide +kernel
theorem dX10_solve_296 : decode cX10_solve 296 = .ok (.iload 8, 2) := by decide +kernel
theorem dX10_solve_298 : decode cX10_solve 298 = .ok (.iload_n 2, 1) := by decide +kernel
theorem dX10_solve_299 : decode cX10_solve 299 = .ok (.if_icmp .ge 81, 3) := by decide +kernel
theorem dX10_solve_302 : decode cX10_solve 302 = .ok (.aload_n 0, 1) := by decide +kernel
theorem dX10_solve_303 : decode cX10_solve 303 = .ok (.getfield 30, 3) := by decide +kernel
theorem dX10_solve_306 : decode cX10_solve 306 = .ok (.bipush 9, 2) := by decide +kernel
theorem dX10_solve_308 : decode cX10_solve 308 = .ok (.iload 8, 2) := by decide +kernel
theorem dX10_solve_310 : decode cX10_solve 310 = .ok (.imul, 1) := by decide +kernel
theorem dX10_solve_311 : decode cX10_solve 311 = .ok (.iload 5, 2) := by decide +kernel
theorem dX10_solve_313 : decode cX10_solve 313 = .ok (.iadd, 1) := by decide +kernel
theorem dX10_solve_314 : decode cX10_solve 314 = .ok (.iaload, 1) := by decide +kernel
theorem dX10_solve_315 : decode cX10_solve 315 = .ok (.istore 9, 2) := by decide +kernel
theorem dX10_solve_317 : decode cX10_solve 317 = .ok (.iconst 0, 1) := by decide +kernel
theorem dX10_solve_318 : decode cX10_solve 318 = .ok (.istore 10, 2) := by decide +kernel
theorem dX10_solve_320 : decode cX10_solve 320 = .ok (.iload 10, 2) := by decide +kernel
theorem dX10_solve_322 : decode cX10_solve 322 = .ok (.iload_n 3, 1) := by decide +kernel
theorem dX10_solve_323 : decode cX10_solve 323 = .ok (.if_icmp .gt 51, 3) := by decide +kernel
theorem dX10_solve_326 : decode cX10_solve 326 = .ok (.iload 8, 2) := by decide +kernel
theorem dX10_solve_328 : decode cX10_solve 328 = .ok (.iload 4, 2) := by decide +kernel
theorem dX10_solve_330 : decode cX10_solve 330 = .ok (.if_icmp .eq 44, 3) := by decide +kernel
theorem dX10_solve_333 : decode cX10_solve 333 = .ok (.aload_n 0, 1) := by decide +kernel
theorem dX10_solve_334 : decode cX10_solve 334 = .ok (.getfield 30, 3) := by decide +kernel
theorem dX10_solve_337 : decode cX10_solve 337 = .ok (.bipush 9, 2) := by decide +kernel
theorem dX10_solve_339 : decode cX10_solve 339 = .ok (.iload 8, 2) := by decide +kernel
theorem dX10_solve_341 : decode cX10_solve 341 = .ok (.imul, 1) := by decide +kernel
theorem dX10_solve_342 : decode cX10_solve 342 = .ok (.iload 10, 2) := by decide +kernel
theorem dX10_solve_344 : decode cX10_solve 344 = .ok (.iadd, 1) := by decide +kernel
theorem dX10_solve_345 : decode cX10_solve 345 = .ok (.dup2, 1) := by decide +kernel
theorem dX10_solve_346 : decode cX10_solve 346 = .ok (.iaload, 1) := by decide +kernel
theorem dX10_solve_347 : decode cX10_solve 347 = .ok (.aload_n 0, 1) := by decide +kernel
theorem dX10_solve_348 : decode cX10_solve 348 = .ok (.iload 9, 2) := by decide +kernel
theorem dX10_solve_350 : decode cX10_solve 350 = .ok (.aload_n 0, 1) := by decide +kernel
theorem dX10_solve_351 : decode cX10_solve 351 = .ok (.getfield 30, 3) := by decide +kernel
theorem dX10_solve_354 : decode cX10_solve 354 = .ok (.bipush 9, 2) := by decide +kernel
theorem dX10_solve_356 : decode cX10_solve 356 = .ok (.iload 4, 2) := by decide +kernel
theorem dX10_solve_358 : decode cX10_solve 358 = .ok (.imul, 1) := by decide +kernel
theorem dX10_solve_359 : decode cX10_solve 359 = .ok (.iload 10, 2) := by decide +kernel
theorem dX10_solve_361 : decode cX10_solve 361 = .ok (.iadd, 1) := by decide +kernel
theorem dX10_solve_362 : decode cX10_solve 362 = .ok (.iaload, 1) := by decide +kernel
theorem dX10_solve_363 : decode cX10_solve 363 = .ok (.invokevirtual 102, 3) := by decide +kernel
theorem dX10_solve_366 : decode cX10_solve 366 = .ok (.ixor, 1) := by decide +kernel
theorem dX10_solve_367 : decode cX10_solve 367 = .ok (.iastore, 1) := by decide +kernel
theorem dX10_solve_368 : decode cX10_solve 368 = .ok (.iinc 10 1, 3) := by decide +kernel
theorem dX10_solve_371 : decode cX10_solve 371 = .ok (.goto (-51), 3) := by decide +kernel
theorem dX10_solve_374 : decode cX10_solve 374 = .ok (.iinc 8 1, 3) := by decide +kernel
theorem dX10_solve_377 : decode cX10_solve 377 = .ok (.goto (-81), 3) := by decide +kernel
theorem dX10_solve_380 : decode cX10_solve 380 = .ok (.iinc 4 1, 3) := by decide +kernel
theorem dX10_solve_383 : decode cX10_solve 383 = .ok (.iinc 5 1, 3) := by decide +kernel
theorem dX10_solve_386 : decode cX10_solve 386 = .ok (.goto (-255), 3) := by decide +kernel
theorem dX10_solve_389 : decode cX10_solve 389 = .ok (.aload_n 0, 1) := by decide +kernel
theorem dX10_solve_390 : decode cX10_solve 390 = .ok (.iconst 0, 1) := by decide +kernel
theorem dX10_solve_391 : decode cX10_solve 391 = .ok (.putfield 124, 3) := by decide +kernel
theorem dX10_solve_394 : decode cX10_solve 394 = .ok (.iload 4, 2) := by decide +kernel
theorem dX10_solve_396 : decode cX10_solve 396 = .ok (.istore 5, 2) := by decide +kernel
theorem dX10_solve_398 : decode cX10_solve 398 = .ok (.iload 5, 2) := by decide +kernel
theorem dX10_solve_400 : decode cX10_solve 400 = .ok (.iload_n 2, 1) := by decide +kernel
theorem dX10_solve_401 : decode cX10_solve 401 = .ok (.if_icmp .ge 26, 3) := by decide +kernel
theorem dX10_solve_404 : decode cX10_solve 404 = .ok (.aload_n 0, 1) := by decide +kernel
theorem dX10_solve_405 : decode cX10_solve 405 = .ok (.getfield 30, 3) := by decide +kernel
theorem dX10_solve_408 : decode cX10_solve 408 = .ok (.bipush 9, 2) := by decide +kernel
theorem dX10_solve_410 : decode cX10_solve 410 = .ok (.iload 5, 2) := by decide +kernel
theorem dX10_solve_412 : decode cX10_solve 412 = .ok (.imul, 1) := by decide +kernel
theorem dX10_solve_413 : decode cX10_solve 413 = .ok (.iload_n 3, 1) := by decide +kernel
theorem dX10_solve_414 : decode cX10_solve 414 = .ok (.iadd, 1) := by decide +kernel
theorem dX10_solve_415 : decode cX10_solve 415 = .ok (.iaload, 1) := by decide +kernel
theorem dX10_solve_416 : decode cX10_solve 416 = .ok (.ifCond .eq 5, 3) := by decide +kernel
theorem dX10_solve_419 : decode cX10_solve 419 = .ok (.iconst (-1), 1) := by decide +kernel
theorem dX10_solve_420 : decode cX10_solve 420 = .ok (.ireturn, 1) := by decide +kernel
theorem dX10_solve_421 : decode cX10_solve 421 = .ok (.iinc 5 1, 3) := by decide +kernel
theorem dX10_solve_424 : decode cX10_solve 424 = .ok (.goto (-26), 3) := by decide +kernel
theorem dX10_solve_427 : decode cX10_solve 427 = .ok (.iconst 0, 1) := by decide +kernel
theorem dX10_solve_428 : decode cX10_solve 428 = .ok (.istore 5, 2) := by decide +kernel
theorem dX10_solve_430 : decode cX10_solve 430 = .ok (.iload 5, 2) := by decide +kernel
theorem dX10_solve_432 : decode cX10_solve 432 = .ok (.iload_n 3, 1) := by decide +kernel
theorem dX10_solve_433 : decode cX10_solve 433 = .ok (.if_icmp .ge 48, 3) := by decide +kernel
theorem dX10_solve_436 : decode cX10_solve 436 = .ok (.aload_n 0, 1) := by decide +kernel
theorem dX10_solve_437 : decode cX10_solve 437 = .ok (.getfield 13, 3) := by decide +kernel
theorem dX10_solve_440 : decode cX10_solve 440 = .ok (.iload 5, 2) := by decide +kernel
theorem dX10_solve_442 : decode cX10_solve 442 = .ok (.aload_n 0, 1) := by decide +kernel
theorem dX10_solve_443 : decode cX10_solve 443 = .ok (.getfield 33, 3) := by decide +kernel
theorem dX10_solve_446 : decode cX10_solve 446 = .ok (.iload 5, 2) := by decide +kernel
theorem dX10_solve_448 : decode cX10_solve 448 = .ok (.iaload, 1) := by decide +kernel
theorem dX10_solve_449 : decode cX10_solve 449 = .ok (.iconst (-1), 1) := by decide +kernel
theorem dX10_solve_450 : decode cX10_solve 450 = .ok (.if_icmp .ne 7, 3) := by decide +kernel
theorem dX10_solve_453 : decode cX10_solve 453 = .ok (.iconst 0, 1) := by decide +kernel
theorem dX10_solve_454 : decode cX10_solve 454 = .ok (.goto 20, 3) := by decide +kernel
theorem dX10_solve_457 : decode cX10_solve 457 = .ok (.aload_n 0, 1) := by decide +kernel
theorem dX10_solve_458 : decode cX10_solve 458 = .ok (.getfield 30, 3) := by decide +kernel
theorem dX10_solve_461 : decode cX10_solve 461 = .ok (.bipush 9, 2) := by decide +kernel
theorem dX10_solve_463 : decode cX10_solve 463 = .ok (.aload_n 0, 1) := by decide +kernel
theorem dX10_solve_464 : decode cX10_solve 464 = .ok (.getfield 33, 3) := by decide +kernel
theorem dX10_solve_467 : decode cX10_solve 467 = .ok (.iload 5, 2) := by decide +kernel
theorem dX10_solve_469 : decode cX10_solve 469 = .ok (.iaload, 1) := by decide +kernel
theorem dX10_solve_470 : decode cX10_solve 470 = .ok (.imul, 1) := by decide +kernel
theorem dX10_solve_471 : decode cX10_solve 471 = .ok (.iload_n 3, 1) := by decide +kernel
theorem dX10_solve_472 : decode cX10_solve 472 = .ok (.iadd, 1) := by decide +kernel
theorem dX10_solve_473 : decode cX10_solve 473 = .ok (.iaload, 1) := by decide +kernel
theorem dX10_solve_474 : decode cX10_solve 474 = .ok (.iastore, 1) := by decide +kernel
theorem dX10_solve_475 : decode cX10_solve 475 = .ok (.iinc 5 1, 3) := by decide +kernel
theorem dX10_solve_478 : decode cX10_solve 478 = .ok (.goto (-48), 3) := by decide +kernel
theorem dX10_solve_481 : decode cX10_solve 481 = .ok (.aload_n 0, 1) := by decide +kernel
theorem dX10_solve_482 : decode cX10_solve 482 = .ok (.iload_n 3, 1) := by decide +kernel
theorem dX10_solve_483 : decode cX10_solve 483 = .ok (.putfield 124, 3) := by decide +kernel
theorem dX10_solve_486 : decode cX10_solve 486 = .ok (.iload_n 3, 1) := by decide +kernel
theorem dX10_solve_487 : decode cX10_solve 487 = .ok (.iload 4, 2) := by decide +kernel
theorem dX10_solve_489 : decode cX10_solve 489 = .ok (.isub, 1) := by decide +kernel
theorem dX10_solve_490 : decode cX10_solve 490 = .ok (.ireturn, 1) := by decide +kernel
theorem dX10_isPolynomial_0 : decode cX10_isPolynomial 0 = .ok (.iload_n 1, 1) := by decide +kernel
theorem dX10_isPolynomial_1 : decode cX10_isPolynomial 1 = .ok (.ifCond .lt 15, 3) := by decide +kernel
theorem dX10_isPolynomial_4 : decode cX10_isPolynomial 4 = .ok (.iload_n 1, 1) := by decide +kernel
theorem dX10_isPolynomial_5 : decode cX10_isPolynomial 5 = .ok (.aload_n 0, 1) := by decide +kernel
theorem dX10_isPolynomial_6 : decode cX10_isPolynomial 6 = .ok (.getfield 158, 3) := by decide +kernel
theorem dX10_isPolynomial_9 : decode cX10_isPolynomial 9 = .ok (.if_icmp .ge 7, 3) := by decide +kernel
theorem dX10_isPolynomial_12 : decode cX10_isPolynomial 12 = .ok (.iconst 1, 1) := by decide +kernel
theorem dX10_isPolynomial_13 : decode cX10_isPolynomial 13 = .ok (.goto 4, 3) := by decide +kernel
theorem dX10_isPolynomial_16 : decode cX10_isPolynomial 16 = .ok (.iconst 0, 1) := by decide +kernel
theorem dX10_isPolynomial_17 : decode cX10_isPolynomial 17 = .ok (.ireturn, 1) := by decide +kernel
theorem dX10_high_0 : decode cX10_high 0 = .ok (.sipush 199, 3) := by decide +kernel
theorem dX10_high_3 : decode cX10_high 3 = .ok (.istore_n 1, 1) := by decide +kernel
theorem dX10_high_4 : decode cX10_high 4 = .ok (.iload_n 1, 1) := by decide +kernel
theorem dX10_high_5 : decode cX10_high 5 = .ok (.ifCond .lt 15, 3) := by decide +kernel
theorem dX10_high_8 : decode cX10_high 8 = .ok (.aload_n 0, 1) := by decide +kernel
theorem dX10_high_9 : decode cX10_high 9 = .ok (.iload_n 1, 1) := by decide +kernel
theorem dX10_high_10 : decode cX10_high 10 = .ok (.iaload, 1) := by decide +kernel
theorem dX10_high_11 : decode cX10_high 11 = .ok (.ifCond .ne 9, 3) := by decide +kernel
theorem dX10_high_14 : decode cX10_high 14 = .ok (.iinc 1 (-1), 3) := by decide +kernel
theorem dX10_high_17 : decode cX10_high 17 = .ok (.goto (-13), 3) := by decide +kernel
theorem dX10_high_20 : decode cX10_high 20 = .ok (.iload_n 1, 1) := by decide +kernel
theorem dX10_high_21 : decode cX10_high 21 = .ok (.ireturn, 1) := by decide +kernel
theorem dX10_nothing_0 : decode cX10_nothing 0 = .ok (.iconst 0, 1) := by decide +kernel
theorem dX10_nothing_1 : decode cX10_nothing 1 = .ok (.istore_n 1, 1) := by decide +kernel
theorem dX10_nothing_2 : decode cX10_nothing 2 = .ok (.iload_n 1, 1) := by decide +kernel
theorem dX10_nothing_3 : decode cX10_nothing 3 = .ok (.sipush 200, 3) := by decide +kernel
theorem dX10_nothing_6 : decode cX10_nothing 6 = .ok (.if_icmp .ge 13, 3) := by decide +kernel
theorem dX10_nothing_9 : decode cX10_nothing 9 = .ok (.aload_n 0, 1) := by decide +kernel
theorem dX10_nothing_10 : decode cX10_nothing 10 = .ok (.iload_n 1, 1) := by decide +kernel
theorem dX10_nothing_11 : decode cX10_nothing 11 = .ok (.iconst 0, 1) := by decide +kernel
theorem dX10_nothing_12 : decode cX10_nothing 12 = .ok (.iastore, 1) := by decide +kernel
theorem dX10_nothing_13 : decode cX10_nothing 13 = .ok (.iinc 1 1, 3) := by decide +kernel
theorem dX10_nothing_16 : decode cX10_nothing 16 = .ok (.goto (-14), 3) := by decide +kernel
theorem dX10_nothing_19 : decode cX10_nothing 19 = .ok (.return_, 1) := by decide +kernel
theorem dX10_copy_0 : decode cX10_copy 0 = .ok (.iconst 0, 1) := by decide +kernel
theorem dX10_copy_1 : decode cX10_copy 1 = .ok (.istore_n 2, 1) := by decide +kernel
theorem dX10_copy_2 : decode cX10_copy 2 = .ok (.iload_n 2, 1) := by decide +kernel
theorem dX10_copy_3 : decode cX10_copy 3 = .ok (.sipush 200, 3) := by decide +kernel
theorem dX10_copy_6 : decode cX10_copy 6 = .ok (.if_icmp .ge 15, 3) := by decide +kernel
theorem dX10_copy_9 : decode cX10_copy 9 = .ok (.aload_n 0, 1) := by decide +kernel
theorem dX10_copy_10 : decode cX10_copy 10 = .ok (.iload_n 2, 1) := by decide +kernel
theorem dX10_copy_11 : decode cX10_copy 11 = .ok (.aload_n 1, 1) := by decide +kernel
theorem dX10_copy_12 : decode cX10_copy 12 = .ok (.iload_n 2, 1) := by decide +kernel
theorem dX10_copy_13 : decode cX10_copy 13 = .ok (.iaload, 1) := by decide +kernel
theorem dX10_copy_14 : decode cX10_copy 14 = .ok (.iastore, 1) := by decide +kernel
theorem dX10_copy_15 : decode cX10_copy 15 = .ok (.iinc 2 1, 3) := by decide +kernel
theorem dX10_copy_18 : decode cX10_copy 18 = .ok (.goto (-16), 3) := by decide +kernel
theorem dX10_copy_21 : decode cX10_copy 21 = .ok (.return_, 1) := by decide +kernel
theorem dX10_load_0 : decode cX10_load 0 = .ok (.aload_n 1, 1) := by decide +kernel
theorem dX10_load_1 : decode cX10_load 1 = .ok (.invokestatic 161, 3) := by decide +kernel
theorem dX10_load_4 : decode cX10_load 4 = .ok (.iconst 0, 1) := by decide +kernel
theorem dX10_load_5 : decode cX10_load 5 = .ok (.istore_n 3, 1) := by decide +kernel
theorem dX10_load_6 : decode cX10_load 6 = .ok (.iload_n 3, 1) := by decide +kernel
theorem dX10_load_7 : decode cX10_load 7 = .ok (.bipush 65, 2) := by decide +kernel
theorem dX10_load_9 : decode cX10_load 9 = .ok (.if_icmp .ge 23, 3) := by decide +kernel
theorem dX10_load_12 : decode cX10_load 12 = .ok (.aload_n 1, 1) := by decide +kernel
theorem dX10_load_13 : decode cX10_load 13 = .ok (.iload_n 3, 1) := by decide +kernel
theorem dX10_load_14 : decode cX10_load 14 = .ok (.aload_n 0, 1) := by decide +kernel
theorem dX10_load_15 : decode cX10_load 15 = .ok (.getfield 39, 3) := by decide +kernel
theorem dX10_load_18 : decode cX10_load 18 = .ok (.bipush 65, 2) := by decide +kernel
theorem dX10_load_20 : decode cX10_load 20 = .ok (.iload_n 2, 1) := by decide +kernel
theorem dX10_load_21 : decode cX10_load 21 = .ok (.imul, 1) := by decide +kernel
theorem dX10_load_22 : decode cX10_load 22 = .ok (.iload_n 3, 1) := by decide +kernel
theorem dX10_load_23 : decode cX10_load 23 = .ok (.iadd, 1) := by decide +kernel
theorem dX10_load_24 : decode cX10_load 24 = .ok (.iaload, 1) := by decide +kernel
theorem dX10_load_25 : decode cX10_load 25 = .ok (.iastore, 1) := by decide +kernel
theorem dX10_load_26 : decode cX10_load 26 = .ok (.iinc 3 1, 3) := by decide +kernel
theorem dX10_load_29 : decode cX10_load 29 = .ok (.goto (-23), 3) := by decide +kernel
theorem dX10_load_32 : decode cX10_load 32 = .ok (.return_, 1) := by decide +kernel
theorem dX10_kept_0 : decode cX10_kept 0 = .ok (.aload_n 0, 1) := by decide +kernel
theorem dX10_kept_1 : decode cX10_kept 1 = .ok (.getfield 36, 3) := by decide +kernel
theorem dX10_kept_4 : decode cX10_kept 4 = .ok (.aload_n 0, 1) := by decide +kernel
theorem dX10_kept_5 : decode cX10_kept 5 = .ok (.getfield 158, 3) := by decide +kernel
theorem dX10_kept_8 : decode cX10_kept 8 = .ok (.aload_n 1, 1) := by decide +kernel
theorem dX10_kept_9 : decode cX10_kept 9 = .ok (.invokestatic 165, 3) := by decide +kernel
theorem dX10_kept_12 : decode cX10_kept 12 = .ok (.iastore, 1) := by decide +kernel
theorem dX10_kept_13 : decode cX10_kept 13 = .ok (.iconst 0, 1) := by decide +kernel
theorem dX10_kept_14 : decode cX10_kept 14 = .ok (.istore_n 2, 1) := by decide +kernel
theorem dX10_kept_15 : decode cX10_kept 15 = .ok (.iload_n 2, 1) := by decide +kernel
theorem dX10_kept_16 : decode cX10_kept 16 = .ok (.bipush 65, 2) := by decide +kernel
theorem dX10_kept_18 : decode cX10_kept 18 = .ok (.if_icmp .ge 26, 3) := by decide +kernel
theorem dX10_kept_21 : decode cX10_kept 21 = .ok (.aload_n 0, 1) := by decide +kernel
theorem dX10_kept_22 : decode cX10_kept 22 = .ok (.getfield 39, 3) := by decide +kernel
theorem dX10_kept_25 : decode cX10_kept 25 = .ok (.bipush 65, 2) := by decide +kernel
theorem dX10_kept_27 : decode cX10_kept 27 = .ok (.aload_n 0, 1) := by decide +kernel
theorem dX10_kept_28 : decode cX10_kept 28 = .ok (.getfield 158, 3) := by decide +kernel
theorem dX10_kept_31 : decode cX10_kept 31 = .ok (.imul, 1) := by decide +kernel
theorem dX10_kept_32 : decode cX10_kept 32 = .ok (.iload_n 2, 1) := by decide +kernel
theorem dX10_kept_33 : decode cX10_kept 33 = .ok (.iadd, 1) := by decide +kernel
theorem dX10_kept_34 : decode cX10_kept 34 = .ok (.aload_n 1, 1) := by decide +kernel
theorem dX10_kept_35 : decode cX10_kept 35 = .ok (.iload_n 2, 1) := by decide +kernel
theorem dX10_kept_36 : decode cX10_kept 36 = .ok (.iaload, 1) := by decide +kernel
theorem dX10_kept_37 : decode cX10_kept 37 = .ok (.iastore, 1) := by decide +kernel
theorem dX10_kept_38 : decode cX10_kept 38 = .ok (.iinc 2 1, 3) := by decide +kernel
theorem dX10_kept_41 : decode cX10_kept 41 = .ok (.goto (-26), 3) := by decide +kernel
theorem dX10_kept_44 : decode cX10_kept 44 = .ok (.aload_n 0, 1) := by decide +kernel
theorem dX10_kept_45 : decode cX10_kept 45 = .ok (.dup, 1) := by decide +kernel
theorem dX10_kept_46 : decode cX10_kept 46 = .ok (.getfield 158, 3) := by decide +kernel
theorem dX10_kept_49 : decode cX10_kept 49 = .ok (.iconst 1, 1) := by decide +kernel
theorem dX10_kept_50 : decode cX10_kept 50 = .ok (.iadd, 1) := by decide +kernel
theorem dX10_kept_51 : decode cX10_kept 51 = .ok (.putfield 158, 3) := by decide +kernel
theorem dX10_kept_54 : decode cX10_kept 54 = .ok (.aload_n 0, 1) := by decide +kernel
theorem dX10_kept_55 : decode cX10_kept 55 = .ok (.getfield 158, 3) := by decide +kernel
theorem dX10_kept_58 : decode cX10_kept 58 = .ok (.iconst 1, 1) := by decide +kernel
theorem dX10_kept_59 : decode cX10_kept 59 = .ok (.isub, 1) := by decide +kernel
theorem dX10_kept_60 : decode cX10_kept 60 = .ok (.ireturn, 1) := by decide +kernel
theorem dX10_at__0 : decode cX10_at_ 0 = .ok (.iconst 0, 1) := by decide +kernel
theorem dX10_at__1 : decode cX10_at_ 1 = .ok (.istore_n 3, 1) := by decide +kernel
theorem dX10_at__2 : decode cX10_at_ 2 = .ok (.aload_n 1, 1) := by decide +kernel
theorem dX10_at__3 : decode cX10_at_ 3 = .ok (.invokestatic 165, 3) := by decide +kernel
theorem dX10_at__6 : decode cX10_at_ 6 = .ok (.istore 4, 2) := by decide +kernel
theorem dX10_at__8 : decode cX10_at_ 8 = .ok (.iload 4, 2) := by decide +kernel
theorem dX10_at__10 : decode cX10_at_ 10 = .ok (.ifCond .lt 21, 3) := by decide +kernel
theorem dX10_at__13 : decode cX10_at_ 13 = .ok (.aload_n 0, 1) := by decide +kernel
theorem dX10_at__14 : decode cX10_at_ 14 = .ok (.iload_n 3, 1) := by decide +kernel
theorem dX10_at__15 : decode cX10_at_ 15 = .ok (.iload_n 2, 1) := by decide +kernel
theorem dX10_at__16 : decode cX10_at_ 16 = .ok (.invokevirtual 102, 3) := by decide +kernel
theorem dX10_at__19 : decode cX10_at_ 19 = .ok (.aload_n 1, 1) := by decide +kernel
theorem dX10_at__20 : decode cX10_at_ 20 = .ok (.iload 4, 2) := by decide +kernel
theorem dX10_at__22 : decode cX10_at_ 22 = .ok (.iaload, 1) := by decide +kernel
theorem dX10_at__23 : decode cX10_at_ 23 = .ok (.ixor, 1) := by decide +kernel
theorem dX10_at__24 : decode cX10_at_ 24 = .ok (.istore_n 3, 1) := by decide +kernel
theorem dX10_at__25 : decode cX10_at_ 25 = .ok (.iinc 4 (-1), 3) := by decide +kernel
theorem dX10_at__28 : decode cX10_at_ 28 = .ok (.goto (-20), 3) := by decide +kernel
theorem dX10_at__31 : decode cX10_at_ 31 = .ok (.iload_n 3, 1) := by decide +kernel
theorem dX10_at__32 : decode cX10_at_ 32 = .ok (.ireturn, 1) := by decide +kernel
theorem dX10_polynomial_0 : decode cX10_polynomial 0 = .ok (.aload_n 0, 1) := by decide +kernel
theorem dX10_polynomial_1 : decode cX10_polynomial 1 = .ok (.iconst 0, 1) := by decide +kernel
theorem dX10_polynomial_2 : decode cX10_polynomial 2 = .ok (.putfield 1, 3) := by decide +kernel
theorem dX10_polynomial_5 : decode cX10_polynomial 5 = .ok (.aload_n 0, 1) := by decide +kernel
theorem dX10_polynomial_6 : decode cX10_polynomial 6 = .ok (.getfield 42, 3) := by decide +kernel
theorem dX10_polynomial_9 : decode cX10_polynomial 9 = .ok (.invokestatic 161, 3) := by decide +kernel
theorem dX10_polynomial_12 : decode cX10_polynomial 12 = .ok (.iconst 0, 1) := by decide +kernel
theorem dX10_polynomial_13 : decode cX10_polynomial 13 = .ok (.istore_n 1, 1) := by decide +kernel
theorem dX10_polynomial_14 : decode cX10_polynomial 14 = .ok (.iload_n 1, 1) := by decide +kernel
theorem dX10_polynomial_15 : decode cX10_polynomial 15 = .ok (.aload_n 0, 1) := by decide +kernel
theorem dX10_polynomial_16 : decode cX10_polynomial 16 = .ok (.getfield 124, 3) := by decide +kernel
theorem dX10_polynomial_19 : decode cX10_polynomial 19 = .ok (.if_icmp .ge 21, 3) := by decide +kernel
theorem dX10_polynomial_22 : decode cX10_polynomial 22 = .ok (.aload_n 0, 1) := by decide +kernel
theorem dX10_polynomial_23 : decode cX10_polynomial 23 = .ok (.getfield 42, 3) := by decide +kernel
theorem dX10_polynomial_26 : decode cX10_polynomial 26 = .ok (.iload_n 1, 1) := by decide +kernel
theorem dX10_polynomial_27 : decode cX10_polynomial 27 = .ok (.aload_n 0, 1) := by decide +kernel
theorem dX10_polynomial_28 : decode cX10_polynomial 28 = .ok (.getfield 13, 3) := by decide +kernel
theorem dX10_polynomial_31 : decode cX10_polynomial 31 = .ok (.iload_n 1, 1) := by decide +kernel
theorem dX10_polynomial_32 : decode cX10_polynomial 32 = .ok (.iaload, 1) := by decide +kernel
theorem dX10_polynomial_33 : decode cX10_polynomial 33 = .ok (.iastore, 1) := by decide +kernel
theorem dX10_polynomial_34 : decode cX10_polynomial 34 = .ok (.iinc 1 1, 3) := by decide +kernel
theorem dX10_polynomial_37 : decode cX10_polynomial 37 = .ok (.goto (-23), 3) := by decide +kernel
theorem dX10_polynomial_40 : decode cX10_polynomial 40 = .ok (.aload_n 0, 1) := by decide +kernel
theorem dX10_polynomial_41 : decode cX10_polynomial 41 = .ok (.getfield 158, 3) := by decide +kernel
theorem dX10_polynomial_44 : decode cX10_polynomial 44 = .ok (.bipush 40, 2) := by decide +kernel
theorem dX10_polynomial_46 : decode cX10_polynomial 46 = .ok (.if_icmp .eq 15, 3) := by decide +kernel
theorem dX10_polynomial_49 : decode cX10_polynomial 49 = .ok (.aload_n 0, 1) := by decide +kernel
theorem dX10_polynomial_50 : decode cX10_polynomial 50 = .ok (.getfield 42, 3) := by decide +kernel
theorem dX10_polynomial_53 : decode cX10_polynomial 53 = .ok (.invokestatic 165, 3) := by decide +kernel
theorem dX10_polynomial_56 : decode cX10_polynomial 56 = .ok (.bipush 65, 2) := by decide +kernel
theorem dX10_polynomial_58 : decode cX10_polynomial 58 = .ok (.if_icmp .lt 9, 3) := by decide +kernel
theorem dX10_polynomial_61 : decode cX10_polynomial 61 = .ok (.aload_n 0, 1) := by decide +kernel
theorem dX10_polynomial_62 : decode cX10_polynomial 62 = .ok (.iconst 1, 1) := by decide +kernel
theorem dX10_polynomial_63 : decode cX10_polynomial 63 = .ok (.invokevirtual 118, 3) := by decide +kernel
theorem dX10_polynomial_66 : decode cX10_polynomial 66 = .ok (.ireturn, 1) := by decide +kernel
theorem dX10_polynomial_67 : decode cX10_polynomial 67 = .ok (.aload_n 0, 1) := by decide +kernel
theorem dX10_polynomial_68 : decode cX10_polynomial 68 = .ok (.iconst 0, 1) := by decide +kernel
theorem dX10_polynomial_69 : decode cX10_polynomial 69 = .ok (.putfield 124, 3) := by decide +kernel
theorem dX10_polynomial_72 : decode cX10_polynomial 72 = .ok (.aload_n 0, 1) := by decide +kernel
theorem dX10_polynomial_73 : decode cX10_polynomial 73 = .ok (.aload_n 0, 1) := by decide +kernel
theorem dX10_polynomial_74 : decode cX10_polynomial 74 = .ok (.getfield 42, 3) := by decide +kernel
theorem dX10_polynomial_77 : decode cX10_polynomial 77 = .ok (.invokevirtual 169, 3) := by decide +kernel
theorem dX10_polynomial_80 : decode cX10_polynomial 80 = .ok (.ireturn, 1) := by decide +kernel
theorem dX10_point_0 : decode cX10_point 0 = .ok (.aload_n 0, 1) := by decide +kernel
theorem dX10_point_1 : decode cX10_point 1 = .ok (.iload_n 2, 1) := by decide +kernel
theorem dX10_point_2 : decode cX10_point 2 = .ok (.aload_n 0, 1) := by decide +kernel
theorem dX10_point_3 : decode cX10_point 3 = .ok (.aload_n 0, 1) := by decide +kernel
theorem dX10_point_4 : decode cX10_point 4 = .ok (.getfield 42, 3) := by decide +kernel
theorem dX10_point_7 : decode cX10_point 7 = .ok (.iload_n 1, 1) := by decide +kernel
theorem dX10_point_8 : decode cX10_point 8 = .ok (.invokevirtual 172, 3) := by decide +kernel
theorem dX10_point_11 : decode cX10_point 11 = .ok (.ixor, 1) := by decide +kernel
theorem dX10_point_12 : decode cX10_point 12 = .ok (.aload_n 0, 1) := by decide +kernel
theorem dX10_point_13 : decode cX10_point 13 = .ok (.aload_n 0, 1) := by decide +kernel
theorem dX10_point_14 : decode cX10_point 14 = .ok (.aload_n 0, 1) := by decide +kernel
theorem dX10_point_15 : decode cX10_point 15 = .ok (.getfield 45, 3) := by decide +kernel
theorem dX10_point_18 : decode cX10_point 18 = .ok (.iload_n 1, 1) := by decide +kernel
theorem dX10_point_19 : decode cX10_point 19 = .ok (.invokevirtual 172, 3) := by decide +kernel
theorem dX10_point_22 : decode cX10_point 22 = .ok (.invokevirtual 121, 3) := by decide +kernel
theorem dX10_point_25 : decode cX10_point 25 = .ok (.invokevirtual 102, 3) := by decide +kernel
theorem dX10_point_28 : decode cX10_point 28 = .ok (.istore_n 3, 1) := by decide +kernel
theorem dX10_point_29 : decode cX10_point 29 = .ok (.aload_n 0, 1) := by decide +kernel
theorem dX10_point_30 : decode cX10_point 30 = .ok (.getfield 45, 3) := by decide +kernel
theorem dX10_point_33 : decode cX10_point 33 = .ok (.invokestatic 165, 3) := by decide +kernel
theorem dX10_point_36 : decode cX10_point 36 = .ok (.istore 4, 2) := by decide +kernel
theorem dX10_point_38 : decode cX10_point 38 = .ok (.iconst 0, 1) := by decide +kernel
theorem dX10_point_39 : decode cX10_point 39 = .ok (.istore 5, 2) := by decide +kernel
theorem dX10_point_41 : decode cX10_point 41 = .ok (.iload 5, 2) := by decide +kernel
theorem dX10_point_43 : decode cX10_point 43 = .ok (.iload 4, 2) := by decide +kernel
theorem dX10_point_45 : decode cX10_point 45 = .ok (.if_icmp .gt 31, 3) := by decide +kernel
theorem dX10_point_48 : decode cX10_point 48 = .ok (.aload_n 0, 1) := by decide +kernel
theorem dX10_point_49 : decode cX10_point 49 = .ok (.getfield 42, 3) := by decide +kernel
theorem dX10_point_52 : decode cX10_point 52 = .ok (.iload 5, 2) := by decide +kernel
theorem dX10_point_54 : decode cX10_point 54 = .ok (.dup2, 1) := by decide +kernel
theorem dX10_point_55 : decode cX10_point 55 = .ok (.iaload, 1) := by decide +kernel
theorem dX10_point_56 : decode cX10_point 56 = .ok (.aload_n 0, 1) := by decide +kernel
theorem dX10_point_57 : decode cX10_point 57 = .ok (.iload_n 3, 1) := by decide +kernel
theorem dX10_point_58 : decode cX10_point 58 = .ok (.aload_n 0, 1) := by decide +kernel
theorem dX10_point_59 : decode cX10_point 59 = .ok (.getfield 45, 3) := by decide +kernel
theorem dX10_point_62 : decode cX10_point 62 = .ok (.iload 5, 2) := by decide +kernel
theorem dX10_point_64 : decode cX10_point 64 = .ok (.iaload, 1) := by decide +kernel
theorem dX10_point_65 : decode cX10_point 65 = .ok (.invokevirtual 102, 3) := by decide +kernel
theorem dX10_point_68 : decode cX10_point 68 = .ok (.ixor, 1) := by decide +kernel
theorem dX10_point_69 : decode cX10_point 69 = .ok (.iastore, 1) := by decide +kernel
theorem dX10_point_70 : decode cX10_point 70 = .ok (.iinc 5 1, 3) := by decide +kernel
theorem dX10_point_73 : decode cX10_point 73 = .ok (.goto (-32), 3) := by decide +kernel
theorem dX10_point_76 : decode cX10_point 76 = .ok (.iload 4, 2) := by decide +kernel
theorem dX10_point_78 : decode cX10_point 78 = .ok (.iconst 1, 1) := by decide +kernel
theorem dX10_point_79 : decode cX10_point 79 = .ok (.iadd, 1) := by decide +kernel
theorem dX10_point_80 : decode cX10_point 80 = .ok (.istore 5, 2) := by decide +kernel
theorem dX10_point_82 : decode cX10_point 82 = .ok (.iload 5, 2) := by decide +kernel
theorem dX10_point_84 : decode cX10_point 84 = .ok (.ifCond .lt 47, 3) := by decide +kernel
theorem dX10_point_87 : decode cX10_point 87 = .ok (.aload_n 0, 1) := by decide +kernel
theorem dX10_point_88 : decode cX10_point 88 = .ok (.getfield 45, 3) := by decide +kernel
theorem dX10_point_91 : decode cX10_point 91 = .ok (.iload 5, 2) := by decide +kernel
theorem dX10_point_93 : decode cX10_point 93 = .ok (.iload 5, 2) := by decide +kernel
theorem dX10_point_95 : decode cX10_point 95 = .ok (.ifCond .le 15, 3) := by decide +kernel
theorem dX10_point_98 : decode cX10_point 98 = .ok (.aload_n 0, 1) := by decide +kernel
theorem dX10_point_99 : decode cX10_point 99 = .ok (.getfield 45, 3) := by decide +kernel
theorem dX10_point_102 : decode cX10_point 102 = .ok (.iload 5, 2) := by decide +kernel
theorem dX10_point_104 : decode cX10_point 104 = .ok (.iconst 1, 1) := by decide +kernel
theorem dX10_point_105 : decode cX10_point 105 = .ok (.isub, 1) := by decide +kernel
theorem dX10_point_106 : decode cX10_point 106 = .ok (.iaload, 1) := by decide +kernel
theorem dX10_point_107 : decode cX10_point 107 = .ok (.goto 4, 3) := by decide +kernel
theorem dX10_point_110 : decode cX10_point 110 = .ok (.iconst 0, 1) := by decide +kernel
theorem dX10_point_111 : decode cX10_point 111 = .ok (.aload_n 0, 1) := by decide +kernel
theorem dX10_point_112 : decode cX10_point 112 = .ok (.iload_n 1, 1) := by decide +kernel
theorem dX10_point_113 : decode cX10_point 113 = .ok (.aload_n 0, 1) := by decide +kernel
theorem dX10_point_114 : decode cX10_point 114 = .ok (.getfield 45, 3) := by decide +kernel
theorem dX10_point_117 : decode cX10_point 117 = .ok (.iload 5, 2) := by decide +kernel
theorem dX10_point_119 : decode cX10_point 119 = .ok (.iaload, 1) := by decide +kernel
theorem dX10_point_120 : decode cX10_point 120 = .ok (.invokevirtual 102, 3) := by decide +kernel
theorem dX10_point_123 : decode cX10_point 123 = .ok (.ixor, 1) := by decide +kernel
theorem dX10_point_124 : decode cX10_point 124 = .ok (.iastore, 1) := by decide +kernel
theorem dX10_point_125 : decode cX10_point 125 = .ok (.iinc 5 (-1), 3) := by decide +kernel
theorem dX10_point_128 : decode cX10_point 128 = .ok (.goto (-46), 3) := by decide +kernel
theorem dX10_point_131 : decode cX10_point 131 = .ok (.return_, 1) := by decide +kernel
theorem dX10_begin_0 : decode cX10_begin 0 = .ok (.aload_n 0, 1) := by decide +kernel
theorem dX10_begin_1 : decode cX10_begin 1 = .ok (.getfield 42, 3) := by decide +kernel
theorem dX10_begin_4 : decode cX10_begin 4 = .ok (.invokestatic 161, 3) := by decide +kernel
theorem dX10_begin_7 : decode cX10_begin 7 = .ok (.aload_n 0, 1) := by decide +kernel
theorem dX10_begin_8 : decode cX10_begin 8 = .ok (.getfield 45, 3) := by decide +kernel
theorem dX10_begin_11 : decode cX10_begin 11 = .ok (.invokestatic 161, 3) := by decide +kernel
theorem dX10_begin_14 : decode cX10_begin 14 = .ok (.aload_n 0, 1) := by decide +kernel
theorem dX10_begin_15 : decode cX10_begin 15 = .ok (.getfield 45, 3) := by decide +kernel
theorem dX10_begin_18 : decode cX10_begin 18 = .ok (.iconst 0, 1) := by decide +kernel
theorem dX10_begin_19 : decode cX10_begin 19 = .ok (.iconst 1, 1) := by decide +kernel
theorem dX10_begin_20 : decode cX10_begin 20 = .ok (.iastore, 1) := by decide +kernel
theorem dX10_begin_21 : decode cX10_begin 21 = .ok (.return_, 1) := by decide +kernel
theorem dX10_through_0 : decode cX10_through 0 = .ok (.aload_n 0, 1) := by decide +kernel
theorem dX10_through_1 : decode cX10_through 1 = .ok (.iconst 0, 1) := by decide +kernel
theorem dX10_through_2 : decode cX10_through 2 = .ok (.putfield 1, 3) := by decide +kernel
theorem dX10_through_5 : decode cX10_through 5 = .ok (.aload_n 0, 1) := by decide +kernel
theorem dX10_through_6 : decode cX10_through 6 = .ok (.getfield 124, 3) := by decide +kernel
theorem dX10_through_9 : decode cX10_through 9 = .ok (.iconst 2, 1) := by decide +kernel
theorem dX10_through_10 : decode cX10_through 10 = .ok (.irem, 1) := by decide +kernel
theorem dX10_through_11 : decode cX10_through 11 = .ok (.iconst 1, 1) := by decide +kernel
theorem dX10_through_12 : decode cX10_through 12 = .ok (.if_icmp .eq 12, 3) := by decide +kernel
theorem dX10_through_15 : decode cX10_through 15 = .ok (.aload_n 0, 1) := by decide +kernel
theorem dX10_through_16 : decode cX10_through 16 = .ok (.iconst 0, 1) := by decide +kernel
theorem dX10_through_17 : decode cX10_through 17 = .ok (.iconst 2, 1) := by decide +kernel
theorem dX10_through_18 : decode cX10_through 18 = .ok (.invokevirtual 136, 3) := by decide +kernel
theorem dX10_through_21 : decode cX10_through 21 = .ok (.ifCond .eq 9, 3) := by decide +kernel
theorem dX10_through_24 : decode cX10_through 24 = .ok (.aload_n 0, 1) := by decide +kernel
theorem dX10_through_25 : decode cX10_through 25 = .ok (.iconst 1, 1) := by decide +kernel
theorem dX10_through_26 : decode cX10_through 26 = .ok (.invokevirtual 118, 3) := by decide +kernel
theorem dX10_through_29 : decode cX10_through 29 = .ok (.ireturn, 1) := by decide +kernel
theorem dX10_through_30 : decode cX10_through 30 = .ok (.aload_n 0, 1) := by decide +kernel
theorem dX10_through_31 : decode cX10_through 31 = .ok (.getfield 158, 3) := by decide +kernel
theorem dX10_through_34 : decode cX10_through 34 = .ok (.bipush 40, 2) := by decide +kernel
theorem dX10_through_36 : decode cX10_through 36 = .ok (.if_icmp .ne 9, 3) := by decide +kernel
theorem dX10_through_39 : decode cX10_through 39 = .ok (.aload_n 0, 1) := by decide +kernel
theorem dX10_through_40 : decode cX10_through 40 = .ok (.iconst 2, 1) := by decide +kernel
theorem dX10_through_41 : decode cX10_through 41 = .ok (.invokevirtual 118, 3) := by decide +kernel
theorem dX10_through_44 : decode cX10_through 44 = .ok (.ireturn, 1) := by decide +kernel
theorem dX10_through_45 : decode cX10_through 45 = .ok (.aload_n 0, 1) := by decide +kernel
theorem dX10_through_46 : decode cX10_through 46 = .ok (.invokevirtual 175, 3) := by decide +kernel
theorem dX10_through_49 : decode cX10_through 49 = .ok (.iconst 0, 1) := by decide +kernel
theorem dX10_through_50 : decode cX10_through 50 = .ok (.istore_n 1, 1) := by decide +kernel
theorem dX10_through_51 : decode cX10_through 51 = .ok (.iload_n 1, 1) := by decide +kernel
theorem dX10_through_52 : decode cX10_through 52 = .ok (.aload_n 0, 1) := by decide +kernel
theorem dX10_through_53 : decode cX10_through 53 = .ok (.getfield 124, 3) := by decide +kernel
theorem dX10_through_56 : decode cX10_through 56 = .ok (.if_icmp .ge 27, 3) := by decide +kernel
theorem dX10_through_59 : decode cX10_through 59 = .ok (.aload_n 0, 1) := by decide +kernel
theorem dX10_through_60 : decode cX10_through 60 = .ok (.aload_n 0, 1) := by decide +kernel
theorem dX10_through_61 : decode cX10_through 61 = .ok (.getfield 13, 3) := by decide +kernel
theorem dX10_through_64 : decode cX10_through 64 = .ok (.iload_n 1, 1) := by decide +kernel
theorem dX10_through_65 : decode cX10_through 65 = .ok (.iaload, 1) := by decide +kernel
theorem dX10_through_66 : decode cX10_through 66 = .ok (.aload_n 0, 1) := by decide +kernel
theorem dX10_through_67 : decode cX10_through 67 = .ok (.getfield 13, 3) := by decide +kernel
theorem dX10_through_70 : decode cX10_through 70 = .ok (.iload_n 1, 1) := by decide +kernel
theorem dX10_through_71 : decode cX10_through 71 = .ok (.iconst 1, 1) := by decide +kernel
theorem dX10_through_72 : decode cX10_through 72 = .ok (.iadd, 1) := by decide +kernel
theorem dX10_through_73 : decode cX10_through 73 = .ok (.iaload, 1) := by decide +kernel
theorem dX10_through_74 : decode cX10_through 74 = .ok (.invokevirtual 178, 3) := by decide +kernel
theorem dX10_through_77 : decode cX10_through 77 = .ok (.iinc 1 2, 3) := by decide +kernel
theorem dX10_through_80 : decode cX10_through 80 = .ok (.goto (-29), 3) := by decide +kernel
theorem dX10_through_83 : decode cX10_through 83 = .ok (.aload_n 0, 1) := by decide +kernel
theorem dX10_through_84 : decode cX10_through 84 = .ok (.iconst 0, 1) := by decide +kernel
theorem dX10_through_85 : decode cX10_through 85 = .ok (.putfield 124, 3) := by decide +kernel
theorem dX10_through_88 : decode cX10_through 88 = .ok (.aload_n 0, 1) := by decide +kernel
theorem dX10_through_89 : decode cX10_through 89 = .ok (.aload_n 0, 1) := by decide +kernel
theorem dX10_through_90 : decode cX10_through 90 = .ok (.getfield 42, 3) := by decide +kernel
theorem dX10_through_93 : decode cX10_through 93 = .ok (.invokevirtual 169, 3) := by decide +kernel
theorem dX10_through_96 : decode cX10_through 96 = .ok (.ireturn, 1) := by decide +kernel
theorem dX10_degree_0 : decode cX10_degree 0 = .ok (.aload_n 0, 1) := by decide +kernel
theorem dX10_degree_1 : decode cX10_degree 1 = .ok (.iconst 0, 1) := by decide +kernel
theorem dX10_degree_2 : decode cX10_degree 2 = .ok (.putfield 1, 3) := by decide +kernel
theorem dX10_degree_5 : decode cX10_degree 5 = .ok (.aload_n 0, 1) := by decide +kernel
theorem dX10_degree_6 : decode cX10_degree 6 = .ok (.iload_n 1, 1) := by decide +kernel
theorem dX10_degree_7 : decode cX10_degree 7 = .ok (.invokevirtual 182, 3) := by decide +kernel
theorem dX10_degree_10 : decode cX10_degree 10 = .ok (.ifCond .eq 12, 3) := by decide +kernel
theorem dX10_degree_13 : decode cX10_degree 13 = .ok (.aload_n 0, 1) := by decide +kernel
theorem dX10_degree_14 : decode cX10_degree 14 = .ok (.getfield 36, 3) := by decide +kernel
theorem dX10_degree_17 : decode cX10_degree 17 = .ok (.iload_n 1, 1) := by decide +kernel
theorem dX10_degree_18 : decode cX10_degree 18 = .ok (.iaload, 1) := by decide +kernel
theorem dX10_degree_19 : decode cX10_degree 19 = .ok (.goto 8, 3) := by decide +kernel
theorem dX10_degree_22 : decode cX10_degree 22 = .ok (.aload_n 0, 1) := by decide +kernel
theorem dX10_degree_23 : decode cX10_degree 23 = .ok (.iconst 1, 1) := by decide +kernel
theorem dX10_degree_24 : decode cX10_degree 24 = .ok (.invokevirtual 118, 3) := by decide +kernel
theorem dX10_degree_27 : decode cX10_degree 27 = .ok (.ireturn, 1) := by decide +kernel
theorem dX10_coefficient_0 : decode cX10_coefficient 0 = .ok (.aload_n 0, 1) := by decide +kernel
theorem dX10_coefficient_1 : decode cX10_coefficient 1 = .ok (.iconst 0, 1) := by decide +kernel
theorem dX10_coefficient_2 : decode cX10_coefficient 2 = .ok (.putfield 1, 3) := by decide +kernel
theorem dX10_coefficient_5 : decode cX10_coefficient 5 = .ok (.aload_n 0, 1) := by decide +kernel
theorem dX10_coefficient_6 : decode cX10_coefficient 6 = .ok (.iload_n 1, 1) := by decide +kernel
theorem dX10_coefficient_7 : decode cX10_coefficient 7 = .ok (.invokevirtual 182, 3) := by decide +kernel
theorem dX10_coefficient_10 : decode cX10_coefficient 10 = .ok (.ifCond .eq 7, 3) := by decide +kernel
theorem dX10_coefficient_13 : decode cX10_coefficient 13 = .ok (.iload_n 2, 1) := by decide +kernel
theorem dX10_coefficient_14 : decode cX10_coefficient 14 = .ok (.ifCond .ge 9, 3) := by decide +kernel
theorem dX10_coefficient_17 : decode cX10_coefficient 17 = .ok (.aload_n 0, 1) := by decide +kernel
theorem dX10_coefficient_18 : decode cX10_coefficient 18 = .ok (.iconst 1, 1) := by decide +kernel
theorem dX10_coefficient_19 : decode cX10_coefficient 19 = .ok (.invokevirtual 118, 3) := by decide +kernel
theorem dX10_coefficient_22 : decode cX10_coefficient 22 = .ok (.ireturn, 1) := by decide +kernel
theorem dX10_coefficient_23 : decode cX10_coefficient 23 = .ok (.iload_n 2, 1) := by decide +kernel
theorem dX10_coefficient_24 : decode cX10_coefficient 24 = .ok (.bipush 65, 2) := by decide +kernel
theorem dX10_coefficient_26 : decode cX10_coefficient 26 = .ok (.if_icmp .ge 17, 3) := by decide +kernel
theorem dX10_coefficient_29 : decode cX10_coefficient 29 = .ok (.aload_n 0, 1) := by decide +kernel
theorem dX10_coefficient_30 : decode cX10_coefficient 30 = .ok (.getfield 39, 3) := by decide +kernel
theorem dX10_coefficient_33 : decode cX10_coefficient 33 = .ok (.bipush 65, 2) := by decide +kernel
theorem dX10_coefficient_35 : decode cX10_coefficient 35 = .ok (.iload_n 1, 1) := by decide +kernel
theorem dX10_coefficient_36 : decode cX10_coefficient 36 = .ok (.imul, 1) := by decide +kernel
theorem dX10_coefficient_37 : decode cX10_coefficient 37 = .ok (.iload_n 2, 1) := by decide +kernel
theorem dX10_coefficient_38 : decode cX10_coefficient 38 = .ok (.iadd, 1) := by decide +kernel
theorem dX10_coefficient_39 : decode cX10_coefficient 39 = .ok (.iaload, 1) := by decide +kernel
theorem dX10_coefficient_40 : decode cX10_coefficient 40 = .ok (.goto 4, 3) := by decide +kernel
theorem dX10_coefficient_43 : decode cX10_coefficient 43 = .ok (.iconst 0, 1) := by decide +kernel
theorem dX10_coefficient_44 : decode cX10_coefficient 44 = .ok (.ireturn, 1) := by decide +kernel
theorem dX10_value_0 : decode cX10_value 0 = .ok (.aload_n 0, 1) := by decide +kernel
theorem dX10_value_1 : decode cX10_value 1 = .ok (.iconst 0, 1) := by decide +kernel
theorem dX10_value_2 : decode cX10_value 2 = .ok (.putfield 1, 3) := by decide +kernel
theorem dX10_value_5 : decode cX10_value 5 = .ok (.aload_n 0, 1) := by decide +kernel
theorem dX10_value_6 : decode cX10_value 6 = .ok (.iload_n 1, 1) := by decide +kernel
theorem dX10_value_7 : decode cX10_value 7 = .ok (.invokevirtual 182, 3) := by decide +kernel
theorem dX10_value_10 : decode cX10_value 10 = .ok (.ifCond .ne 9, 3) := by decide +kernel
theorem dX10_value_13 : decode cX10_value 13 = .ok (.aload_n 0, 1) := by decide +kernel
theorem dX10_value_14 : decode cX10_value 14 = .ok (.iconst 1, 1) := by decide +kernel
theorem dX10_value_15 : decode cX10_value 15 = .ok (.invokevirtual 118, 3) := by decide +kernel
theorem dX10_value_18 : decode cX10_value 18 = .ok (.ireturn, 1) := by decide +kernel
theorem dX10_value_19 : decode cX10_value 19 = .ok (.aload_n 0, 1) := by decide +kernel
theorem dX10_value_20 : decode cX10_value 20 = .ok (.iload_n 2, 1) := by decide +kernel
theorem dX10_value_21 : decode cX10_value 21 = .ok (.invokevirtual 115, 3) := by decide +kernel
theorem dX10_value_24 : decode cX10_value 24 = .ok (.ifCond .ne 9, 3) := by decide +kernel
theorem dX10_value_27 : decode cX10_value 27 = .ok (.aload_n 0, 1) := by decide +kernel
theorem dX10_value_28 : decode cX10_value 28 = .ok (.iconst 2, 1) := by decide +kernel
theorem dX10_value_29 : decode cX10_value 29 = .ok (.invokevirtual 118, 3) := by decide +kernel
theorem dX10_value_32 : decode cX10_value 32 = .ok (.ireturn, 1) := by decide +kernel
theorem dX10_value_33 : decode cX10_value 33 = .ok (.aload_n 0, 1) := by decide +kernel
theorem dX10_value_34 : decode cX10_value 34 = .ok (.aload_n 0, 1) := by decide +kernel
theorem dX10_value_35 : decode cX10_value 35 = .ok (.getfield 42, 3) := by decide +kernel
theorem dX10_value_38 : decode cX10_value 38 = .ok (.iload_n 1, 1) := by decide +kernel
theorem dX10_value_39 : decode cX10_value 39 = .ok (.invokevirtual 185, 3) := by decide +kernel
theorem dX10_value_42 : decode cX10_value 42 = .ok (.aload_n 0, 1) := by decide +kernel
theorem dX10_value_43 : decode cX10_value 43 = .ok (.aload_n 0, 1) := by decide +kernel
theorem dX10_value_44 : decode cX10_value 44 = .ok (.getfield 42, 3) := by decide +kernel
theorem dX10_value_47 : decode cX10_value 47 = .ok (.iload_n 2, 1) := by decide +kernel
theorem dX10_value_48 : decode cX10_value 48 = .ok (.invokevirtual 172, 3) := by decide +kernel
theorem dX10_value_51 : decode cX10_value 51 = .ok (.ireturn, 1) := by decide +kernel
theorem dX10_plus_0 : decode cX10_plus 0 = .ok (.aload_n 0, 1) := by decide +kernel
theorem dX10_plus_1 : decode cX10_plus 1 = .ok (.iconst 0, 1) := by decide +kernel
theorem dX10_plus_2 : decode cX10_plus 2 = .ok (.putfield 1, 3) := by decide +kernel
theorem dX10_plus_5 : decode cX10_plus 5 = .ok (.aload_n 0, 1) := by decide +kernel
theorem dX10_plus_6 : decode cX10_plus 6 = .ok (.iload_n 1, 1) := by decide +kernel
theorem dX10_plus_7 : decode cX10_plus 7 = .ok (.invokevirtual 182, 3) := by decide +kernel
theorem dX10_plus_10 : decode cX10_plus 10 = .ok (.ifCond .eq 11, 3) := by decide +kernel
theorem dX10_plus_13 : decode cX10_plus 13 = .ok (.aload_n 0, 1) := by decide +kernel
theorem dX10_plus_14 : decode cX10_plus 14 = .ok (.iload_n 2, 1) := by decide +kernel
theorem dX10_plus_15 : decode cX10_plus 15 = .ok (.invokevirtual 182, 3) := by decide +kernel
theorem dX10_plus_18 : decode cX10_plus 18 = .ok (.ifCond .ne 9, 3) := by decide +kernel
theorem dX10_plus_21 : decode cX10_plus 21 = .ok (.aload_n 0, 1) := by decide +kernel
theorem dX10_plus_22 : decode cX10_plus 22 = .ok (.iconst 1, 1) := by decide +kernel
theorem dX10_plus_23 : decode cX10_plus 23 = .ok (.invokevirtual 118, 3) := by decide +kernel
theorem dX10_plus_26 : decode cX10_plus 26 = .ok (.ireturn, 1) := by decide +kernel
theorem dX10_plus_27 : decode cX10_plus 27 = .ok (.aload_n 0, 1) := by decide +kernel
theorem dX10_plus_28 : decode cX10_plus 28 = .ok (.getfield 158, 3) := by decide +kernel
theorem dX10_plus_31 : decode cX10_plus 31 = .ok (.bipush 40, 2) := by decide +kernel
theorem dX10_plus_33 : decode cX10_plus 33 = .ok (.if_icmp .ne 9, 3) := by decide +kernel
theorem dX10_plus_36 : decode cX10_plus 36 = .ok (.aload_n 0, 1) := by decide +kernel
theorem dX10_plus_37 : decode cX10_plus 37 = .ok (.iconst 2, 1) := by decide +kernel
theorem dX10_plus_38 : decode cX10_plus 38 = .ok (.invokevirtual 118, 3) := by decide +kernel
theorem dX10_plus_41 : decode cX10_plus 41 = .ok (.ireturn, 1) := by decide +kernel
theorem dX10_plus_42 : decode cX10_plus 42 = .ok (.aload_n 0, 1) := by decide +kernel
theorem dX10_plus_43 : decode cX10_plus 43 = .ok (.aload_n 0, 1) := by decide +kernel
theorem dX10_plus_44 : decode cX10_plus 44 = .ok (.getfield 42, 3) := by decide +kernel
theorem dX10_plus_47 : decode cX10_plus 47 = .ok (.iload_n 1, 1) := by decide +kernel
theorem dX10_plus_48 : decode cX10_plus 48 = .ok (.invokevirtual 185, 3) := by decide +kernel
theorem dX10_plus_51 : decode cX10_plus 51 = .ok (.aload_n 0, 1) := by decide +kernel
theorem dX10_plus_52 : decode cX10_plus 52 = .ok (.aload_n 0, 1) := by decide +kernel
theorem dX10_plus_53 : decode cX10_plus 53 = .ok (.getfield 45, 3) := by decide +kernel
theorem dX10_plus_56 : decode cX10_plus 56 = .ok (.iload_n 2, 1) := by decide +kernel
theorem dX10_plus_57 : decode cX10_plus 57 = .ok (.invokevirtual 185, 3) := by decide +kernel
theorem dX10_plus_60 : decode cX10_plus 60 = .ok (.iconst 0, 1) := by decide +kernel
theorem dX10_plus_61 : decode cX10_plus 61 = .ok (.istore_n 3, 1) := by decide +kernel
theorem dX10_plus_62 : decode cX10_plus 62 = .ok (.iload_n 3, 1) := by decide +kernel
theorem dX10_plus_63 : decode cX10_plus 63 = .ok (.bipush 65, 2) := by decide +kernel
theorem dX10_plus_65 : decode cX10_plus 65 = .ok (.if_icmp .ge 24, 3) := by decide +kernel
theorem dX10_plus_68 : decode cX10_plus 68 = .ok (.aload_n 0, 1) := by decide +kernel
theorem dX10_plus_69 : decode cX10_plus 69 = .ok (.getfield 42, 3) := by decide +kernel
theorem dX10_plus_72 : decode cX10_plus 72 = .ok (.iload_n 3, 1) := by decide +kernel
theorem dX10_plus_73 : decode cX10_plus 73 = .ok (.dup2, 1) := by decide +kernel
theorem dX10_plus_74 : decode cX10_plus 74 = .ok (.iaload, 1) := by decide +kernel
theorem dX10_plus_75 : decode cX10_plus 75 = .ok (.aload_n 0, 1) := by decide +kernel
theorem dX10_plus_76 : decode cX10_plus 76 = .ok (.getfield 45, 3) := by decide +kernel
theorem dX10_plus_79 : decode cX10_plus 79 = .ok (.iload_n 3, 1) := by decide +kernel
theorem dX10_plus_80 : decode cX10_plus 80 = .ok (.iaload, 1) := by decide +kernel
theorem dX10_plus_81 : decode cX10_plus 81 = .ok (.ixor, 1) := by decide +kernel
theorem dX10_plus_82 : decode cX10_plus 82 = .ok (.iastore, 1) := by decide +kernel
theorem dX10_plus_83 : decode cX10_plus 83 = .ok (.iinc 3 1, 3) := by decide +kernel
theorem dX10_plus_86 : decode cX10_plus 86 = .ok (.goto (-24), 3) := by decide +kernel
theorem dX10_plus_89 : decode cX10_plus 89 = .ok (.aload_n 0, 1) := by decide +kernel
theorem dX10_plus_90 : decode cX10_plus 90 = .ok (.aload_n 0, 1) := by decide +kernel
theorem dX10_plus_91 : decode cX10_plus 91 = .ok (.getfield 42, 3) := by decide +kernel
theorem dX10_plus_94 : decode cX10_plus 94 = .ok (.invokevirtual 169, 3) := by decide +kernel
theorem dX10_plus_97 : decode cX10_plus 97 = .ok (.ireturn, 1) := by decide +kernel
theorem dX10_multiply_0 : decode cX10_multiply 0 = .ok (.aload_n 0, 1) := by decide +kernel
theorem dX10_multiply_1 : decode cX10_multiply 1 = .ok (.iconst 0, 1) := by decide +kernel
theorem dX10_multiply_2 : decode cX10_multiply 2 = .ok (.putfield 1, 3) := by decide +kernel
theorem dX10_multiply_5 : decode cX10_multiply 5 = .ok (.aload_n 0, 1) := by decide +kernel
theorem dX10_multiply_6 : decode cX10_multiply 6 = .ok (.iload_n 1, 1) := by decide +kernel
theorem dX10_multiply_7 : decode cX10_multiply 7 = .ok (.invokevirtual 182, 3) := by decide +kernel
theorem dX10_multiply_10 : decode cX10_multiply 10 = .ok (.ifCond .eq 11, 3) := by decide +kernel
theorem dX10_multiply_13 : decode cX10_multiply 13 = .ok (.aload_n 0, 1) := by decide +kernel
theorem dX10_multiply_14 : decode cX10_multiply 14 = .ok (.iload_n 2, 1) := by decide +kernel
theorem dX10_multiply_15 : decode cX10_multiply 15 = .ok (.invokevirtual 182, 3) := by decide +kernel
theorem dX10_multiply_18 : decode cX10_multiply 18 = .ok (.ifCond .ne 9, 3) := by decide +kernel
theorem dX10_multiply_21 : decode cX10_multiply 21 = .ok (.aload_n 0, 1) := by decide +kernel
theorem dX10_multiply_22 : decode cX10_multiply 22 = .ok (.iconst 1, 1) := by decide +kernel
theorem dX10_multiply_23 : decode cX10_multiply 23 = .ok (.invokevirtual 118, 3) := by decide +kernel
theorem dX10_multiply_26 : decode cX10_multiply 26 = .ok (.ireturn, 1) := by decide +kernel
theorem dX10_multiply_27 : decode cX10_multiply 27 = .ok (.aload_n 0, 1) := by decide +kernel
theorem dX10_multiply_28 : decode cX10_multiply 28 = .ok (.aload_n 0, 1) := by decide +kernel
theorem dX10_multiply_29 : decode cX10_multiply 29 = .ok (.getfield 42, 3) := by decide +kernel
theorem dX10_multiply_32 : decode cX10_multiply 32 = .ok (.iload_n 1, 1) := by decide +kernel
theorem dX10_multiply_33 : decode cX10_multiply 33 = .ok (.invokevirtual 185, 3) := by decide +kernel
theorem dX10_multiply_36 : decode cX10_multiply 36 = .ok (.aload_n 0, 1) := by decide +kernel
theorem dX10_multiply_37 : decode cX10_multiply 37 = .ok (.aload_n 0, 1) := by decide +kernel
theorem dX10_multiply_38 : decode cX10_multiply 38 = .ok (.getfield 45, 3) := by decide +kernel
theorem dX10_multiply_41 : decode cX10_multiply 41 = .ok (.iload_n 2, 1) := by decide +kernel
theorem dX10_multiply_42 : decode cX10_multiply 42 = .ok (.invokevirtual 185, 3) := by decide +kernel
theorem dX10_multiply_45 : decode cX10_multiply 45 = .ok (.aload_n 0, 1) := by decide +kernel
theorem dX10_multiply_46 : decode cX10_multiply 46 = .ok (.getfield 48, 3) := by decide +kernel
theorem dX10_multiply_49 : decode cX10_multiply 49 = .ok (.invokestatic 161, 3) := by decide +kernel
theorem dX10_multiply_52 : decode cX10_multiply 52 = .ok (.iconst 0, 1) := by decide +kernel
theorem dX10_multiply_53 : decode cX10_multiply 53 = .ok (.istore_n 3, 1) := by decide +kernel
theorem dX10_multiply_54 : decode cX10_multiply 54 = .ok (.iload_n 3, 1) := by decide +kernel
theorem dX10_multiply_55 : decode cX10_multiply 55 = .ok (.bipush 65, 2) := by decide +kernel
theorem dX10_multiply_57 : decode cX10_multiply 57 = .ok (.if_icmp .ge 63, 3) := by decide +kernel
theorem dX10_multiply_60 : decode cX10_multiply 60 = .ok (.iconst 0, 1) := by decide +kernel
theorem dX10_multiply_61 : decode cX10_multiply 61 = .ok (.istore 4, 2) := by decide +kernel
theorem dX10_multiply_63 : decode cX10_multiply 63 = .ok (.iload 4, 2) := by decide +kernel
theorem dX10_multiply_65 : decode cX10_multiply 65 = .ok (.bipush 65, 2) := by decide +kernel
theorem dX10_multiply_67 : decode cX10_multiply 67 = .ok (.if_icmp .ge 47, 3) := by decide +kernel
theorem dX10_multiply_70 : decode cX10_multiply 70 = .ok (.aload_n 0, 1) := by decide +kernel
theorem dX10_multiply_71 : decode cX10_multiply 71 = .ok (.getfield 42, 3) := by decide +kernel
theorem dX10_multiply_74 : decode cX10_multiply 74 = .ok (.iload_n 3, 1) := by decide +kernel
theorem dX10_multiply_75 : decode cX10_multiply 75 = .ok (.iaload, 1) := by decide +kernel
theorem dX10_multiply_76 : decode cX10_multiply 76 = .ok (.ifCond .eq 38, 3) := by decide +kernel
theorem dX10_multiply_79 : decode cX10_multiply 79 = .ok (.aload_n 0, 1) := by decide +kernel
theorem dX10_multiply_80 : decode cX10_multiply 80 = .ok (.getfield 48, 3) := by decide +kernel
theorem dX10_multiply_83 : decode cX10_multiply 83 = .ok (.iload_n 3, 1) := by decide +kernel
theorem dX10_multiply_84 : decode cX10_multiply 84 = .ok (.iload 4, 2) := by decide +kernel
theorem dX10_multiply_86 : decode cX10_multiply 86 = .ok (.iadd, 1) := by decide +kernel
theorem dX10_multiply_87 : decode cX10_multiply 87 = .ok (.dup2, 1) := by decide +kernel
theorem dX10_multiply_88 : decode cX10_multiply 88 = .ok (.iaload, 1) := by decide +kernel
theorem dX10_multiply_89 : decode cX10_multiply 89 = .ok (.aload_n 0, 1) := by decide +kernel
theorem dX10_multiply_90 : decode cX10_multiply 90 = .ok (.aload_n 0, 1) := by decide +kernel
theorem dX10_multiply_91 : decode cX10_multiply 91 = .ok (.getfield 42, 3) := by decide +kernel
theorem dX10_multiply_94 : decode cX10_multiply 94 = .ok (.iload_n 3, 1) := by decide +kernel
theorem dX10_multiply_95 : decode cX10_multiply 95 = .ok (.iaload, 1) := by decide +kernel
theorem dX10_multiply_96 : decode cX10_multiply 96 = .ok (.aload_n 0, 1) := by decide +kernel
theorem dX10_multiply_97 : decode cX10_multiply 97 = .ok (.getfield 45, 3) := by decide +kernel
theorem dX10_multiply_100 : decode cX10_multiply 100 = .ok (.iload 4, 2) := by decide +kernel
theorem dX10_multiply_102 : decode cX10_multiply 102 = .ok (.iaload, 1) := by decide +kernel
theorem dX10_multiply_103 : decode cX10_multiply 103 = .ok (.invokevirtual 102, 3) := by decide +kernel
theorem dX10_multiply_106 : decode cX10_multiply 106 = .ok (.ixor, 1) := by decide +kernel
theorem dX10_multiply_107 : decode cX10_multiply 107 = .ok (.iastore, 1) := by decide +kernel
theorem dX10_multiply_108 : decode cX10_multiply 108 = .ok (.iinc 4 1, 3) := by decide +kernel
theorem dX10_multiply_111 : decode cX10_multiply 111 = .ok (.goto (-48), 3) := by decide +kernel
theorem dX10_multiply_114 : decode cX10_multiply 114 = .ok (.iinc 3 1, 3) := by decide +kernel
theorem dX10_multiply_117 : decode cX10_multiply 117 = .ok (.goto (-63), 3) := by decide +kernel
theorem dX10_multiply_120 : decode cX10_multiply 120 = .ok (.aload_n 0, 1) := by decide +kernel
theorem dX10_multiply_121 : decode cX10_multiply 121 = .ok (.getfield 158, 3) := by decide +kernel
theorem dX10_multiply_124 : decode cX10_multiply 124 = .ok (.bipush 40, 2) := by decide +kernel
theorem dX10_multiply_126 : decode cX10_multiply 126 = .ok (.if_icmp .eq 15, 3) := by decide +kernel
theorem dX10_multiply_129 : decode cX10_multiply 129 = .ok (.aload_n 0, 1) := by decide +kernel
theorem dX10_multiply_130 : decode cX10_multiply 130 = .ok (.getfield 48, 3) := by decide +kernel
theorem dX10_multiply_133 : decode cX10_multiply 133 = .ok (.invokestatic 165, 3) := by decide +kernel
theorem dX10_multiply_136 : decode cX10_multiply 136 = .ok (.bipush 65, 2) := by decide +kernel
theorem dX10_multiply_138 : decode cX10_multiply 138 = .ok (.if_icmp .lt 9, 3) := by decide +kernel
theorem dX10_multiply_141 : decode cX10_multiply 141 = .ok (.aload_n 0, 1) := by decide +kernel
theorem dX10_multiply_142 : decode cX10_multiply 142 = .ok (.iconst 2, 1) := by decide +kernel
theorem dX10_multiply_143 : decode cX10_multiply 143 = .ok (.invokevirtual 118, 3) := by decide +kernel
theorem dX10_multiply_146 : decode cX10_multiply 146 = .ok (.ireturn, 1) := by decide +kernel
theorem dX10_multiply_147 : decode cX10_multiply 147 = .ok (.aload_n 0, 1) := by decide +kernel
theorem dX10_multiply_148 : decode cX10_multiply 148 = .ok (.aload_n 0, 1) := by decide +kernel
theorem dX10_multiply_149 : decode cX10_multiply 149 = .ok (.getfield 48, 3) := by decide +kernel
theorem dX10_multiply_152 : decode cX10_multiply 152 = .ok (.invokevirtual 169, 3) := by decide +kernel
theorem dX10_multiply_155 : decode cX10_multiply 155 = .ok (.ireturn, 1) := by decide +kernel
theorem dX10_split_0 : decode cX10_split 0 = .ok (.aload_n 0, 1) := by decide +kernel
theorem dX10_split_1 : decode cX10_split 1 = .ok (.getfield 48, 3) := by decide +kernel
theorem dX10_split_4 : decode cX10_split 4 = .ok (.invokestatic 161, 3) := by decide +kernel
theorem dX10_split_7 : decode cX10_split 7 = .ok (.aload_n 2, 1) := by decide +kernel
theorem dX10_split_8 : decode cX10_split 8 = .ok (.invokestatic 165, 3) := by decide +kernel
theorem dX10_split_11 : decode cX10_split 11 = .ok (.istore_n 3, 1) := by decide +kernel
theorem dX10_split_12 : decode cX10_split 12 = .ok (.aload_n 0, 1) := by decide +kernel
theorem dX10_split_13 : decode cX10_split 13 = .ok (.aload_n 2, 1) := by decide +kernel
theorem dX10_split_14 : decode cX10_split 14 = .ok (.iload_n 3, 1) := by decide +kernel
theorem dX10_split_15 : decode cX10_split 15 = .ok (.iaload, 1) := by decide +kernel
theorem dX10_split_16 : decode cX10_split 16 = .ok (.invokevirtual 121, 3) := by decide +kernel
theorem dX10_split_19 : decode cX10_split 19 = .ok (.istore 4, 2) := by decide +kernel
theorem dX10_split_21 : decode cX10_split 21 = .ok (.aload_n 1, 1) := by decide +kernel
theorem dX10_split_22 : decode cX10_split 22 = .ok (.invokestatic 165, 3) := by decide +kernel
theorem dX10_split_25 : decode cX10_split 25 = .ok (.istore 5, 2) := by decide +kernel
theorem dX10_split_27 : decode cX10_split 27 = .ok (.iload 5, 2) := by decide +kernel
theorem dX10_split_29 : decode cX10_split 29 = .ok (.iload_n 3, 1) := by decide +kernel
theorem dX10_split_30 : decode cX10_split 30 = .ok (.if_icmp .lt 74, 3) := by decide +kernel
theorem dX10_split_33 : decode cX10_split 33 = .ok (.aload_n 0, 1) := by decide +kernel
theorem dX10_split_34 : decode cX10_split 34 = .ok (.aload_n 1, 1) := by decide +kernel
theorem dX10_split_35 : decode cX10_split 35 = .ok (.iload 5, 2) := by decide +kernel
theorem dX10_split_37 : decode cX10_split 37 = .ok (.iaload, 1) := by decide +kernel
theorem dX10_split_38 : decode cX10_split 38 = .ok (.iload 4, 2) := by decide +kernel
theorem dX10_split_40 : decode cX10_split 40 = .ok (.invokevirtual 102, 3) := by decide +kernel
theorem dX10_split_43 : decode cX10_split 43 = .ok (.istore 6, 2) := by decide +kernel
theorem dX10_split_45 : decode cX10_split 45 = .ok (.aload_n 0, 1) := by decide +kernel
theorem dX10_split_46 : decode cX10_split 46 = .ok (.getfield 48, 3) := by decide +kernel
theorem dX10_split_49 : decode cX10_split 49 = .ok (.iload 5, 2) := by decide +kernel
theorem dX10_split_51 : decode cX10_split 51 = .ok (.iload_n 3, 1) := by decide +kernel
theorem dX10_split_52 : decode cX10_split 52 = .ok (.isub, 1) := by decide +kernel
theorem dX10_split_53 : decode cX10_split 53 = .ok (.iload 6, 2) := by decide +kernel
theorem dX10_split_55 : decode cX10_split 55 = .ok (.iastore, 1) := by decide +kernel
theorem dX10_split_56 : decode cX10_split 56 = .ok (.iconst 0, 1) := by decide +kernel
theorem dX10_split_57 : decode cX10_split 57 = .ok (.istore 7, 2) := by decide +kernel
theorem dX10_split_59 : decode cX10_split 59 = .ok (.iload 7, 2) := by decide +kernel
theorem dX10_split_61 : decode cX10_split 61 = .ok (.iload_n 3, 1) := by decide +kernel
theorem dX10_split_62 : decode cX10_split 62 = .ok (.if_icmp .gt 36, 3) := by decide +kernel
theorem dX10_split_65 : decode cX10_split 65 = .ok (.iload 6, 2) := by decide +kernel
theorem dX10_split_67 : decode cX10_split 67 = .ok (.ifCond .eq 31, 3) := by decide +kernel
theorem dX10_split_70 : decode cX10_split 70 = .ok (.aload_n 1, 1) := by decide +kernel
theorem dX10_split_71 : decode cX10_split 71 = .ok (.iload 5, 2) := by decide +kernel
theorem dX10_split_73 : decode cX10_split 73 = .ok (.iload_n 3, 1) := by decide +kernel
theorem dX10_split_74 : decode cX10_split 74 = .ok (.isub, 1) := by decide +kernel
theorem dX10_split_75 : decode cX10_split 75 = .ok (.iload 7, 2) := by decide +kernel
theorem dX10_split_77 : decode cX10_split 77 = .ok (.iadd, 1) := by decide +kernel
theorem dX10_split_78 : decode cX10_split 78 = .ok (.dup2, 1) := by decide +kernel
theorem dX10_split_79 : decode cX10_split 79 = .ok (.iaload, 1) := by decide +kernel
theorem dX10_split_80 : decode cX10_split 80 = .ok (.aload_n 0, 1) := by decide +kernel
theorem dX10_split_81 : decode cX10_split 81 = .ok (.iload 6, 2) := by decide +kernel
theorem dX10_split_83 : decode cX10_split 83 = .ok (.aload_n 2, 1) := by decide +kernel
theorem dX10_split_84 : decode cX10_split 84 = .ok (.iload 7, 2) := by decide +kernel
theorem dX10_split_86 : decode cX10_split 86 = .ok (.iaload, 1) := by decide +kernel
theorem dX10_split_87 : decode cX10_split 87 = .ok (.invokevirtual 102, 3) := by decide +kernel
theorem dX10_split_90 : decode cX10_split 90 = .ok (.ixor, 1) := by decide +kernel
theorem dX10_split_91 : decode cX10_split 91 = .ok (.iastore, 1) := by decide +kernel
theorem dX10_split_92 : decode cX10_split 92 = .ok (.iinc 7 1, 3) := by decide +kernel
theorem dX10_split_95 : decode cX10_split 95 = .ok (.goto (-36), 3) := by decide +kernel
theorem dX10_split_98 : decode cX10_split 98 = .ok (.iinc 5 (-1), 3) := by decide +kernel
theorem dX10_split_101 : decode cX10_split 101 = .ok (.goto (-74), 3) := by decide +kernel
theorem dX10_split_104 : decode cX10_split 104 = .ok (.return_, 1) := by decide +kernel
theorem dX10_divide_0 : decode cX10_divide 0 = .ok (.aload_n 0, 1) := by decide +kernel
theorem dX10_divide_1 : decode cX10_divide 1 = .ok (.iconst 0, 1) := by decide +kernel
theorem dX10_divide_2 : decode cX10_divide 2 = .ok (.putfield 1, 3) := by decide +kernel
theorem dX10_divide_5 : decode cX10_divide 5 = .ok (.aload_n 0, 1) := by decide +kernel
theorem dX10_divide_6 : decode cX10_divide 6 = .ok (.iload_n 1, 1) := by decide +kernel
theorem dX10_divide_7 : decode cX10_divide 7 = .ok (.invokevirtual 182, 3) := by decide +kernel
theorem dX10_divide_10 : decode cX10_divide 10 = .ok (.ifCond .eq 11, 3) := by decide +kernel
theorem dX10_divide_13 : decode cX10_divide 13 = .ok (.aload_n 0, 1) := by decide +kernel
theorem dX10_divide_14 : decode cX10_divide 14 = .ok (.iload_n 2, 1) := by decide +kernel
theorem dX10_divide_15 : decode cX10_divide 15 = .ok (.invokevirtual 182, 3) := by decide +kernel
theorem dX10_divide_18 : decode cX10_divide 18 = .ok (.ifCond .ne 9, 3) := by decide +kernel
theorem dX10_divide_21 : decode cX10_divide 21 = .ok (.aload_n 0, 1) := by decide +kernel
theorem dX10_divide_22 : decode cX10_divide 22 = .ok (.iconst 1, 1) := by decide +kernel
theorem dX10_divide_23 : decode cX10_divide 23 = .ok (.invokevirtual 118, 3) := by decide +kernel
theorem dX10_divide_26 : decode cX10_divide 26 = .ok (.ireturn, 1) := by decide +kernel
theorem dX10_divide_27 : decode cX10_divide 27 = .ok (.aload_n 0, 1) := by decide +kernel
theorem dX10_divide_28 : decode cX10_divide 28 = .ok (.getfield 36, 3) := by decide +kernel
theorem dX10_divide_31 : decode cX10_divide 31 = .ok (.iload_n 2, 1) := by decide +kernel
theorem dX10_divide_32 : decode cX10_divide 32 = .ok (.iaload, 1) := by decide +kernel
theorem dX10_divide_33 : decode cX10_divide 33 = .ok (.iconst (-1), 1) := by decide +kernel
theorem dX10_divide_34 : decode cX10_divide 34 = .ok (.if_icmp .ne 9, 3) := by decide +kernel
theorem dX10_divide_37 : decode cX10_divide 37 = .ok (.aload_n 0, 1) := by decide +kernel
theorem dX10_divide_38 : decode cX10_divide 38 = .ok (.iconst 2, 1) := by decide +kernel
theorem dX10_divide_39 : decode cX10_divide 39 = .ok (.invokevirtual 118, 3) := by decide +kernel
theorem dX10_divide_42 : decode cX10_divide 42 = .ok (.ireturn, 1) := by decide +kernel
theorem dX10_divide_43 : decode cX10_divide 43 = .ok (.aload_n 0, 1) := by decide +kernel
theorem dX10_divide_44 : decode cX10_divide 44 = .ok (.getfield 158, 3) := by decide +kernel
theorem dX10_divide_47 : decode cX10_divide 47 = .ok (.bipush 40, 2) := by decide +kernel
theorem dX10_divide_49 : decode cX10_divide 49 = .ok (.if_icmp .ne 9, 3) := by decide +kernel
theorem dX10_divide_52 : decode cX10_divide 52 = .ok (.aload_n 0, 1) := by decide +kernel
theorem dX10_divide_53 : decode cX10_divide 53 = .ok (.iconst 3, 1) := by decide +kernel
theorem dX10_divide_54 : decode cX10_divide 54 = .ok (.invokevirtual 118, 3) := by decide +kernel
theorem dX10_divide_57 : decode cX10_divide 57 = .ok (.ireturn, 1) := by decide +kernel
theorem dX10_divide_58 : decode cX10_divide 58 = .ok (.aload_n 0, 1) := by decide +kernel
theorem dX10_divide_59 : decode cX10_divide 59 = .ok (.aload_n 0, 1) := by decide +kernel
theorem dX10_divide_60 : decode cX10_divide 60 = .ok (.getfield 42, 3) := by decide +kernel
theorem dX10_divide_63 : decode cX10_divide 63 = .ok (.iload_n 1, 1) := by decide +kernel
theorem dX10_divide_64 : decode cX10_divide 64 = .ok (.invokevirtual 185, 3) := by decide +kernel
theorem dX10_divide_67 : decode cX10_divide 67 = .ok (.aload_n 0, 1) := by decide +kernel
theorem dX10_divide_68 : decode cX10_divide 68 = .ok (.aload_n 0, 1) := by decide +kernel
theorem dX10_divide_69 : decode cX10_divide 69 = .ok (.getfield 45, 3) := by decide +kernel
theorem dX10_divide_72 : decode cX10_divide 72 = .ok (.iload_n 2, 1) := by decide +kernel
theorem dX10_divide_73 : decode cX10_divide 73 = .ok (.invokevirtual 185, 3) := by decide +kernel
theorem dX10_divide_76 : decode cX10_divide 76 = .ok (.aload_n 0, 1) := by decide +kernel
theorem dX10_divide_77 : decode cX10_divide 77 = .ok (.aload_n 0, 1) := by decide +kernel
theorem dX10_divide_78 : decode cX10_divide 78 = .ok (.getfield 42, 3) := by decide +kernel
theorem dX10_divide_81 : decode cX10_divide 81 = .ok (.aload_n 0, 1) := by decide +kernel
theorem dX10_divide_82 : decode cX10_divide 82 = .ok (.getfield 45, 3) := by decide +kernel
theorem dX10_divide_85 : decode cX10_divide 85 = .ok (.invokevirtual 189, 3) := by decide +kernel
theorem dX10_divide_88 : decode cX10_divide 88 = .ok (.iload_n 3, 1) := by decide +kernel
theorem dX10_divide_89 : decode cX10_divide 89 = .ok (.ifCond .eq 14, 3) := by decide +kernel
theorem dX10_divide_92 : decode cX10_divide 92 = .ok (.aload_n 0, 1) := by decide +kernel
theorem dX10_divide_93 : decode cX10_divide 93 = .ok (.aload_n 0, 1) := by decide +kernel
theorem dX10_divide_94 : decode cX10_divide 94 = .ok (.getfield 42, 3) := by decide +kernel
theorem dX10_divide_97 : decode cX10_divide 97 = .ok (.invokevirtual 169, 3) := by decide +kernel
theorem dX10_divide_100 : decode cX10_divide 100 = .ok (.goto 11, 3) := by decide +kernel
theorem dX10_divide_103 : decode cX10_divide 103 = .ok (.aload_n 0, 1) := by decide +kernel
theorem dX10_divide_104 : decode cX10_divide 104 = .ok (.aload_n 0, 1) := by decide +kernel
theorem dX10_divide_105 : decode cX10_divide 105 = .ok (.getfield 48, 3) := by decide +kernel
theorem dX10_divide_108 : decode cX10_divide 108 = .ok (.invokevirtual 169, 3) := by decide +kernel
theorem dX10_divide_111 : decode cX10_divide 111 = .ok (.ireturn, 1) := by decide +kernel
theorem dX10_divisor_0 : decode cX10_divisor 0 = .ok (.aload_n 2, 1) := by decide +kernel
theorem dX10_divisor_1 : decode cX10_divisor 1 = .ok (.invokestatic 165, 3) := by decide +kernel
theorem dX10_divisor_4 : decode cX10_divisor 4 = .ok (.ifCond .lt 33, 3) := by decide +kernel
theorem dX10_divisor_7 : decode cX10_divisor 7 = .ok (.aload_n 0, 1) := by decide +kernel
theorem dX10_divisor_8 : decode cX10_divisor 8 = .ok (.aload_n 1, 1) := by decide +kernel
theorem dX10_divisor_9 : decode cX10_divisor 9 = .ok (.aload_n 2, 1) := by decide +kernel
theorem dX10_divisor_10 : decode cX10_divisor 10 = .ok (.invokevirtual 189, 3) := by decide +kernel
theorem dX10_divisor_13 : decode cX10_divisor 13 = .ok (.aload_n 0, 1) := by decide +kernel
theorem dX10_divisor_14 : decode cX10_divisor 14 = .ok (.getfield 51, 3) := by decide +kernel
theorem dX10_divisor_17 : decode cX10_divisor 17 = .ok (.aload_n 1, 1) := by decide +kernel
theorem dX10_divisor_18 : decode cX10_divisor 18 = .ok (.invokestatic 193, 3) := by decide +kernel
theorem dX10_divisor_21 : decode cX10_divisor 21 = .ok (.aload_n 1, 1) := by decide +kernel
theorem dX10_divisor_22 : decode cX10_divisor 22 = .ok (.aload_n 2, 1) := by decide +kernel
theorem dX10_divisor_23 : decode cX10_divisor 23 = .ok (.invokestatic 193, 3) := by decide +kernel
theorem dX10_divisor_26 : decode cX10_divisor 26 = .ok (.aload_n 2, 1) := by decide +kernel
theorem dX10_divisor_27 : decode cX10_divisor 27 = .ok (.aload_n 0, 1) := by decide +kernel
theorem dX10_divisor_28 : decode cX10_divisor 28 = .ok (.getfield 51, 3) := by decide +kernel
theorem dX10_divisor_31 : decode cX10_divisor 31 = .ok (.invokestatic 193, 3) := by decide +kernel
theorem dX10_divisor_34 : decode cX10_divisor 34 = .ok (.goto (-34), 3) := by decide +kernel
theorem dX10_divisor_37 : decode cX10_divisor 37 = .ok (.aload_n 1, 1) := by decide +kernel
theorem dX10_divisor_38 : decode cX10_divisor 38 = .ok (.invokestatic 165, 3) := by decide +kernel
theorem dX10_divisor_41 : decode cX10_divisor 41 = .ok (.istore_n 3, 1) := by decide +kernel
theorem dX10_divisor_42 : decode cX10_divisor 42 = .ok (.iload_n 3, 1) := by decide +kernel
theorem dX10_divisor_43 : decode cX10_divisor 43 = .ok (.ifCond .ge 7, 3) := by decide +kernel
theorem dX10_divisor_46 : decode cX10_divisor 46 = .ok (.iconst 0, 1) := by decide +kernel
theorem dX10_divisor_47 : decode cX10_divisor 47 = .ok (.goto 10, 3) := by decide +kernel
theorem dX10_divisor_50 : decode cX10_divisor 50 = .ok (.aload_n 0, 1) := by decide +kernel
theorem dX10_divisor_51 : decode cX10_divisor 51 = .ok (.aload_n 1, 1) := by decide +kernel
theorem dX10_divisor_52 : decode cX10_divisor 52 = .ok (.iload_n 3, 1) := by decide +kernel
theorem dX10_divisor_53 : decode cX10_divisor 53 = .ok (.iaload, 1) := by decide +kernel
theorem dX10_divisor_54 : decode cX10_divisor 54 = .ok (.invokevirtual 121, 3) := by decide +kernel
theorem dX10_divisor_57 : decode cX10_divisor 57 = .ok (.istore 4, 2) := by decide +kernel
theorem dX10_divisor_59 : decode cX10_divisor 59 = .ok (.iconst 0, 1) := by decide +kernel
theorem dX10_divisor_60 : decode cX10_divisor 60 = .ok (.istore 5, 2) := by decide +kernel
theorem dX10_divisor_62 : decode cX10_divisor 62 = .ok (.iload 5, 2) := by decide +kernel
theorem dX10_divisor_64 : decode cX10_divisor 64 = .ok (.iload_n 3, 1) := by decide +kernel
theorem dX10_divisor_65 : decode cX10_divisor 65 = .ok (.if_icmp .gt 23, 3) := by decide +kernel
theorem dX10_divisor_68 : decode cX10_divisor 68 = .ok (.aload_n 1, 1) := by decide +kernel
theorem dX10_divisor_69 : decode cX10_divisor 69 = .ok (.iload 5, 2) := by decide +kernel
theorem dX10_divisor_71 : decode cX10_divisor 71 = .ok (.aload_n 0, 1) := by decide +kernel
theorem dX10_divisor_72 : decode cX10_divisor 72 = .ok (.aload_n 1, 1) := by decide +kernel
theorem dX10_divisor_73 : decode cX10_divisor 73 = .ok (.iload 5, 2) := by decide +kernel
theorem dX10_divisor_75 : decode cX10_divisor 75 = .ok (.iaload, 1) := by decide +kernel
theorem dX10_divisor_76 : decode cX10_divisor 76 = .ok (.iload 4, 2) := by decide +kernel
theorem dX10_divisor_78 : decode cX10_divisor 78 = .ok (.invokevirtual 102, 3) := by decide +kernel
theorem dX10_divisor_81 : decode cX10_divisor 81 = .ok (.iastore, 1) := by decide +kernel
theorem dX10_divisor_82 : decode cX10_divisor 82 = .ok (.iinc 5 1, 3) := by decide +kernel
theorem dX10_divisor_85 : decode cX10_divisor 85 = .ok (.goto (-23), 3) := by decide +kernel
theorem dX10_divisor_88 : decode cX10_divisor 88 = .ok (.return_, 1) := by decide +kernel
theorem dX10_common_0 : decode cX10_common 0 = .ok (.aload_n 0, 1) := by decide +kernel
theorem dX10_common_1 : decode cX10_common 1 = .ok (.iconst 0, 1) := by decide +kernel
theorem dX10_common_2 : decode cX10_common 2 = .ok (.putfield 1, 3) := by decide +kernel
theorem dX10_common_5 : decode cX10_common 5 = .ok (.aload_n 0, 1) := by decide +kernel
theorem dX10_common_6 : decode cX10_common 6 = .ok (.iload_n 1, 1) := by decide +kernel
theorem dX10_common_7 : decode cX10_common 7 = .ok (.invokevirtual 182, 3) := by decide +kernel
theorem dX10_common_10 : decode cX10_common 10 = .ok (.ifCond .eq 11, 3) := by decide +kernel
theorem dX10_common_13 : decode cX10_common 13 = .ok (.aload_n 0, 1) := by decide +kernel
theorem dX10_common_14 : decode cX10_common 14 = .ok (.iload_n 2, 1) := by decide +kernel
theorem dX10_common_15 : decode cX10_common 15 = .ok (.invokevirtual 182, 3) := by decide +kernel
theorem dX10_common_18 : decode cX10_common 18 = .ok (.ifCond .ne 9, 3) := by decide +kernel
theorem dX10_common_21 : decode cX10_common 21 = .ok (.aload_n 0, 1) := by decide +kernel
theorem dX10_common_22 : decode cX10_common 22 = .ok (.iconst 1, 1) := by decide +kernel
