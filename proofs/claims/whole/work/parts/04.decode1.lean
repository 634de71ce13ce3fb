theorem dX0_init_0 : decode cX0_init 0 = .ok (.aload_n 0, 1) := by decide +kernel
theorem dX0_init_1 : decode cX0_init 1 = .ok (.invokespecial 3, 3) := by decide +kernel
theorem dX0_init_4 : decode cX0_init 4 = .ok (.aload_n 0, 1) := by decide +kernel
theorem dX0_init_5 : decode cX0_init 5 = .ok (.aload_n 1, 1) := by decide +kernel
theorem dX0_init_6 : decode cX0_init 6 = .ok (.putfield 9, 3) := by decide +kernel
theorem dX0_init_9 : decode cX0_init 9 = .ok (.return_, 1) := by decide +kernel
theorem dX0_toRest_0 : decode cX0_toRest 0 = .ok (.aload_n 2, 1) := by decide +kernel
theorem dX0_toRest_1 : decode cX0_toRest 1 = .ok (.getfield 15, 3) := by decide +kernel
theorem dX0_toRest_4 : decode cX0_toRest 4 = .ok (.ifCond .lt 14, 3) := by decide +kernel
theorem dX0_toRest_7 : decode cX0_toRest 7 = .ok (.aload_n 1, 1) := by decide +kernel
theorem dX0_toRest_8 : decode cX0_toRest 8 = .ok (.getfield 15, 3) := by decide +kernel
theorem dX0_toRest_11 : decode cX0_toRest 11 = .ok (.aload_n 2, 1) := by decide +kernel
theorem dX0_toRest_12 : decode cX0_toRest 12 = .ok (.getfield 15, 3) := by decide +kernel
theorem dX0_toRest_15 : decode cX0_toRest 15 = .ok (.if_icmp .ge 4, 3) := by decide +kernel
theorem dX0_toRest_18 : decode cX0_toRest 18 = .ok (.return_, 1) := by decide +kernel
theorem dX0_toRest_19 : decode cX0_toRest 19 = .ok (.aload_n 0, 1) := by decide +kernel
theorem dX0_toRest_20 : decode cX0_toRest 20 = .ok (.aload_n 1, 1) := by decide +kernel
theorem dX0_toRest_21 : decode cX0_toRest 21 = .ok (.aload_n 2, 1) := by decide +kernel
theorem dX0_toRest_22 : decode cX0_toRest 22 = .ok (.invokevirtual 21, 3) := by decide +kernel
theorem dX0_toRest_25 : decode cX0_toRest 25 = .ok (.aload_n 2, 1) := by decide +kernel
theorem dX0_toRest_26 : decode cX0_toRest 26 = .ok (.getfield 15, 3) := by decide +kernel
theorem dX0_toRest_29 : decode cX0_toRest 29 = .ok (.istore_n 3, 1) := by decide +kernel
theorem dX0_toRest_30 : decode cX0_toRest 30 = .ok (.iload_n 3, 1) := by decide +kernel
theorem dX0_toRest_31 : decode cX0_toRest 31 = .ok (.aload_n 1, 1) := by decide +kernel
theorem dX0_toRest_32 : decode cX0_toRest 32 = .ok (.getfield 15, 3) := by decide +kernel
theorem dX0_toRest_35 : decode cX0_toRest 35 = .ok (.if_icmp .gt 16, 3) := by decide +kernel
theorem dX0_toRest_38 : decode cX0_toRest 38 = .ok (.aload_n 1, 1) := by decide +kernel
theorem dX0_toRest_39 : decode cX0_toRest 39 = .ok (.getfield 25, 3) := by decide +kernel
theorem dX0_toRest_42 : decode cX0_toRest 42 = .ok (.iload_n 3, 1) := by decide +kernel
theorem dX0_toRest_43 : decode cX0_toRest 43 = .ok (.iconst 0, 1) := by decide +kernel
theorem dX0_toRest_44 : decode cX0_toRest 44 = .ok (.iastore, 1) := by decide +kernel
theorem dX0_toRest_45 : decode cX0_toRest 45 = .ok (.iinc 3 1, 3) := by decide +kernel
theorem dX0_toRest_48 : decode cX0_toRest 48 = .ok (.goto (-18), 3) := by decide +kernel
theorem dX0_toRest_51 : decode cX0_toRest 51 = .ok (.aload_n 1, 1) := by decide +kernel
theorem dX0_toRest_52 : decode cX0_toRest 52 = .ok (.aload_n 2, 1) := by decide +kernel
theorem dX0_toRest_53 : decode cX0_toRest 53 = .ok (.getfield 15, 3) := by decide +kernel
theorem dX0_toRest_56 : decode cX0_toRest 56 = .ok (.iconst 1, 1) := by decide +kernel
theorem dX0_toRest_57 : decode cX0_toRest 57 = .ok (.isub, 1) := by decide +kernel
theorem dX0_toRest_58 : decode cX0_toRest 58 = .ok (.invokevirtual 29, 3) := by decide +kernel
theorem dX0_toRest_61 : decode cX0_toRest 61 = .ok (.return_, 1) := by decide +kernel
theorem dX0_toQuotient_0 : decode cX0_toQuotient 0 = .ok (.aload_n 2, 1) := by decide +kernel
theorem dX0_toQuotient_1 : decode cX0_toQuotient 1 = .ok (.getfield 15, 3) := by decide +kernel
theorem dX0_toQuotient_4 : decode cX0_toQuotient 4 = .ok (.ifCond .lt 14, 3) := by decide +kernel
theorem dX0_toQuotient_7 : decode cX0_toQuotient 7 = .ok (.aload_n 1, 1) := by decide +kernel
theorem dX0_toQuotient_8 : decode cX0_toQuotient 8 = .ok (.getfield 15, 3) := by decide +kernel
theorem dX0_toQuotient_11 : decode cX0_toQuotient 11 = .ok (.aload_n 2, 1) := by decide +kernel
theorem dX0_toQuotient_12 : decode cX0_toQuotient 12 = .ok (.getfield 15, 3) := by decide +kernel
theorem dX0_toQuotient_15 : decode cX0_toQuotient 15 = .ok (.if_icmp .ge 8, 3) := by decide +kernel
theorem dX0_toQuotient_18 : decode cX0_toQuotient 18 = .ok (.aload_n 1, 1) := by decide +kernel
theorem dX0_toQuotient_19 : decode cX0_toQuotient 19 = .ok (.invokevirtual 33, 3) := by decide +kernel
theorem dX0_toQuotient_22 : decode cX0_toQuotient 22 = .ok (.return_, 1) := by decide +kernel
theorem dX0_toQuotient_23 : decode cX0_toQuotient 23 = .ok (.aload_n 0, 1) := by decide +kernel
theorem dX0_toQuotient_24 : decode cX0_toQuotient 24 = .ok (.aload_n 1, 1) := by decide +kernel
theorem dX0_toQuotient_25 : decode cX0_toQuotient 25 = .ok (.aload_n 2, 1) := by decide +kernel
theorem dX0_toQuotient_26 : decode cX0_toQuotient 26 = .ok (.invokevirtual 21, 3) := by decide +kernel
theorem dX0_toQuotient_29 : decode cX0_toQuotient 29 = .ok (.aload_n 1, 1) := by decide +kernel
theorem dX0_toQuotient_30 : decode cX0_toQuotient 30 = .ok (.aload_n 2, 1) := by decide +kernel
theorem dX0_toQuotient_31 : decode cX0_toQuotient 31 = .ok (.getfield 15, 3) := by decide +kernel
theorem dX0_toQuotient_34 : decode cX0_toQuotient 34 = .ok (.invokevirtual 36, 3) := by decide +kernel
theorem dX0_toQuotient_37 : decode cX0_toQuotient 37 = .ok (.return_, 1) := by decide +kernel
theorem dX0_divideInPlace_0 : decode cX0_divideInPlace 0 = .ok (.aload_n 2, 1) := by decide +kernel
theorem dX0_divideInPlace_1 : decode cX0_divideInPlace 1 = .ok (.getfield 15, 3) := by decide +kernel
theorem dX0_divideInPlace_4 : decode cX0_divideInPlace 4 = .ok (.istore_n 3, 1) := by decide +kernel
theorem dX0_divideInPlace_5 : decode cX0_divideInPlace 5 = .ok (.aload_n 0, 1) := by decide +kernel
theorem dX0_divideInPlace_6 : decode cX0_divideInPlace 6 = .ok (.getfield 9, 3) := by decide +kernel
theorem dX0_divideInPlace_9 : decode cX0_divideInPlace 9 = .ok (.aload_n 2, 1) := by decide +kernel
theorem dX0_divideInPlace_10 : decode cX0_divideInPlace 10 = .ok (.getfield 25, 3) := by decide +kernel
theorem dX0_divideInPlace_13 : decode cX0_divideInPlace 13 = .ok (.iload_n 3, 1) := by decide +kernel
theorem dX0_divideInPlace_14 : decode cX0_divideInPlace 14 = .ok (.iaload, 1) := by decide +kernel
theorem dX0_divideInPlace_15 : decode cX0_divideInPlace 15 = .ok (.invokevirtual 39, 3) := by decide +kernel
theorem dX0_divideInPlace_18 : decode cX0_divideInPlace 18 = .ok (.istore 4, 2) := by decide +kernel
theorem dX0_divideInPlace_20 : decode cX0_divideInPlace 20 = .ok (.aload_n 1, 1) := by decide +kernel
theorem dX0_divideInPlace_21 : decode cX0_divideInPlace 21 = .ok (.getfield 15, 3) := by decide +kernel
theorem dX0_divideInPlace_24 : decode cX0_divideInPlace 24 = .ok (.istore 5, 2) := by decide +kernel
theorem dX0_divideInPlace_26 : decode cX0_divideInPlace 26 = .ok (.iload 5, 2) := by decide +kernel
theorem dX0_divideInPlace_28 : decode cX0_divideInPlace 28 = .ok (.iload_n 3, 1) := by decide +kernel
theorem dX0_divideInPlace_29 : decode cX0_divideInPlace 29 = .ok (.if_icmp .lt 59, 3) := by decide +kernel
theorem dX0_divideInPlace_32 : decode cX0_divideInPlace 32 = .ok (.aload_n 0, 1) := by decide +kernel
theorem dX0_divideInPlace_33 : decode cX0_divideInPlace 33 = .ok (.getfield 9, 3) := by decide +kernel
theorem dX0_divideInPlace_36 : decode cX0_divideInPlace 36 = .ok (.aload_n 1, 1) := by decide +kernel
theorem dX0_divideInPlace_37 : decode cX0_divideInPlace 37 = .ok (.getfield 25, 3) := by decide +kernel
theorem dX0_divideInPlace_40 : decode cX0_divideInPlace 40 = .ok (.iload 5, 2) := by decide +kernel
theorem dX0_divideInPlace_42 : decode cX0_divideInPlace 42 = .ok (.iaload, 1) := by decide +kernel
theorem dX0_divideInPlace_43 : decode cX0_divideInPlace 43 = .ok (.iload 4, 2) := by decide +kernel
theorem dX0_divideInPlace_45 : decode cX0_divideInPlace 45 = .ok (.invokevirtual 45, 3) := by decide +kernel
theorem dX0_divideInPlace_48 : decode cX0_divideInPlace 48 = .ok (.istore 6, 2) := by decide +kernel
theorem dX0_divideInPlace_50 : decode cX0_divideInPlace 50 = .ok (.aload_n 0, 1) := by decide +kernel
theorem dX0_divideInPlace_51 : decode cX0_divideInPlace 51 = .ok (.getfield 9, 3) := by decide +kernel
theorem dX0_divideInPlace_54 : decode cX0_divideInPlace 54 = .ok (.aload_n 1, 1) := by decide +kernel
theorem dX0_divideInPlace_55 : decode cX0_divideInPlace 55 = .ok (.getfield 25, 3) := by decide +kernel
theorem dX0_divideInPlace_58 : decode cX0_divideInPlace 58 = .ok (.iload 5, 2) := by decide +kernel
theorem dX0_divideInPlace_60 : decode cX0_divideInPlace 60 = .ok (.iload_n 3, 1) := by decide +kernel
theorem dX0_divideInPlace_61 : decode cX0_divideInPlace 61 = .ok (.isub, 1) := by decide +kernel
theorem dX0_divideInPlace_62 : decode cX0_divideInPlace 62 = .ok (.aload_n 2, 1) := by decide +kernel
theorem dX0_divideInPlace_63 : decode cX0_divideInPlace 63 = .ok (.getfield 25, 3) := by decide +kernel
theorem dX0_divideInPlace_66 : decode cX0_divideInPlace 66 = .ok (.iconst 0, 1) := by decide +kernel
theorem dX0_divideInPlace_67 : decode cX0_divideInPlace 67 = .ok (.iload_n 3, 1) := by decide +kernel
theorem dX0_divideInPlace_68 : decode cX0_divideInPlace 68 = .ok (.iload 6, 2) := by decide +kernel
theorem dX0_divideInPlace_70 : decode cX0_divideInPlace 70 = .ok (.invokevirtual 49, 3) := by decide +kernel
theorem dX0_divideInPlace_73 : decode cX0_divideInPlace 73 = .ok (.aload_n 1, 1) := by decide +kernel
theorem dX0_divideInPlace_74 : decode cX0_divideInPlace 74 = .ok (.getfield 25, 3) := by decide +kernel
theorem dX0_divideInPlace_77 : decode cX0_divideInPlace 77 = .ok (.iload 5, 2) := by decide +kernel
theorem dX0_divideInPlace_79 : decode cX0_divideInPlace 79 = .ok (.iload 6, 2) := by decide +kernel
theorem dX0_divideInPlace_81 : decode cX0_divideInPlace 81 = .ok (.iastore, 1) := by decide +kernel
theorem dX0_divideInPlace_82 : decode cX0_divideInPlace 82 = .ok (.iinc 5 (-1), 3) := by decide +kernel
theorem dX0_divideInPlace_85 : decode cX0_divideInPlace 85 = .ok (.goto (-59), 3) := by decide +kernel
theorem dX0_divideInPlace_88 : decode cX0_divideInPlace 88 = .ok (.return_, 1) := by decide +kernel
theorem dX0_toGreatestDivisor_0 : decode cX0_toGreatestDivisor 0 = .ok (.aload_n 1, 1) := by decide +kernel
theorem dX0_toGreatestDivisor_1 : decode cX0_toGreatestDivisor 1 = .ok (.astore_n 3, 1) := by decide +kernel
theorem dX0_toGreatestDivisor_2 : decode cX0_toGreatestDivisor 2 = .ok (.aload_n 2, 1) := by decide +kernel
theorem dX0_toGreatestDivisor_3 : decode cX0_toGreatestDivisor 3 = .ok (.astore 4, 2) := by decide +kernel
theorem dX0_toGreatestDivisor_5 : decode cX0_toGreatestDivisor 5 = .ok (.iconst 0, 1) := by decide +kernel
theorem dX0_toGreatestDivisor_6 : decode cX0_toGreatestDivisor 6 = .ok (.istore 5, 2) := by decide +kernel
theorem dX0_toGreatestDivisor_8 : decode cX0_toGreatestDivisor 8 = .ok (.iload 5, 2) := by decide +kernel
theorem dX0_toGreatestDivisor_10 : decode cX0_toGreatestDivisor 10 = .ok (.sipush 258, 3) := by decide +kernel
theorem dX0_toGreatestDivisor_13 : decode cX0_toGreatestDivisor 13 = .ok (.if_icmp .ge 34, 3) := by decide +kernel
theorem dX0_toGreatestDivisor_16 : decode cX0_toGreatestDivisor 16 = .ok (.aload 4, 2) := by decide +kernel
theorem dX0_toGreatestDivisor_18 : decode cX0_toGreatestDivisor 18 = .ok (.getfield 15, 3) := by decide +kernel
theorem dX0_toGreatestDivisor_21 : decode cX0_toGreatestDivisor 21 = .ok (.ifCond .lt 26, 3) := by decide +kernel
theorem dX0_toGreatestDivisor_24 : decode cX0_toGreatestDivisor 24 = .ok (.aload_n 0, 1) := by decide +kernel
theorem dX0_toGreatestDivisor_25 : decode cX0_toGreatestDivisor 25 = .ok (.aload_n 3, 1) := by decide +kernel
theorem dX0_toGreatestDivisor_26 : decode cX0_toGreatestDivisor 26 = .ok (.aload 4, 2) := by decide +kernel
theorem dX0_toGreatestDivisor_28 : decode cX0_toGreatestDivisor 28 = .ok (.invokevirtual 53, 3) := by decide +kernel
theorem dX0_toGreatestDivisor_31 : decode cX0_toGreatestDivisor 31 = .ok (.aload_n 3, 1) := by decide +kernel
theorem dX0_toGreatestDivisor_32 : decode cX0_toGreatestDivisor 32 = .ok (.astore 6, 2) := by decide +kernel
theorem dX0_toGreatestDivisor_34 : decode cX0_toGreatestDivisor 34 = .ok (.aload 4, 2) := by decide +kernel
theorem dX0_toGreatestDivisor_36 : decode cX0_toGreatestDivisor 36 = .ok (.astore_n 3, 1) := by decide +kernel
theorem dX0_toGreatestDivisor_37 : decode cX0_toGreatestDivisor 37 = .ok (.aload 6, 2) := by decide +kernel
theorem dX0_toGreatestDivisor_39 : decode cX0_toGreatestDivisor 39 = .ok (.astore 4, 2) := by decide +kernel
theorem dX0_toGreatestDivisor_41 : decode cX0_toGreatestDivisor 41 = .ok (.iinc 5 1, 3) := by decide +kernel
theorem dX0_toGreatestDivisor_44 : decode cX0_toGreatestDivisor 44 = .ok (.goto (-36), 3) := by decide +kernel
theorem dX0_toGreatestDivisor_47 : decode cX0_toGreatestDivisor 47 = .ok (.aload_n 3, 1) := by decide +kernel
theorem dX0_toGreatestDivisor_48 : decode cX0_toGreatestDivisor 48 = .ok (.aload_n 1, 1) := by decide +kernel
theorem dX0_toGreatestDivisor_49 : decode cX0_toGreatestDivisor 49 = .ok (.if_acmp .eq 8, 3) := by decide +kernel
theorem dX0_toGreatestDivisor_52 : decode cX0_toGreatestDivisor 52 = .ok (.aload_n 1, 1) := by decide +kernel
theorem dX0_toGreatestDivisor_53 : decode cX0_toGreatestDivisor 53 = .ok (.aload_n 3, 1) := by decide +kernel
theorem dX0_toGreatestDivisor_54 : decode cX0_toGreatestDivisor 54 = .ok (.invokevirtual 56, 3) := by decide +kernel
theorem dX0_toGreatestDivisor_57 : decode cX0_toGreatestDivisor 57 = .ok (.aload_n 1, 1) := by decide +kernel
theorem dX0_toGreatestDivisor_58 : decode cX0_toGreatestDivisor 58 = .ok (.getfield 15, 3) := by decide +kernel
theorem dX0_toGreatestDivisor_61 : decode cX0_toGreatestDivisor 61 = .ok (.ifCond .lt 36, 3) := by decide +kernel
theorem dX0_toGreatestDivisor_64 : decode cX0_toGreatestDivisor 64 = .ok (.aload_n 0, 1) := by decide +kernel
theorem dX0_toGreatestDivisor_65 : decode cX0_toGreatestDivisor 65 = .ok (.getfield 9, 3) := by decide +kernel
theorem dX0_toGreatestDivisor_68 : decode cX0_toGreatestDivisor 68 = .ok (.aload_n 1, 1) := by decide +kernel
theorem dX0_toGreatestDivisor_69 : decode cX0_toGreatestDivisor 69 = .ok (.getfield 25, 3) := by decide +kernel
theorem dX0_toGreatestDivisor_72 : decode cX0_toGreatestDivisor 72 = .ok (.aload_n 1, 1) := by decide +kernel
theorem dX0_toGreatestDivisor_73 : decode cX0_toGreatestDivisor 73 = .ok (.getfield 15, 3) := by decide +kernel
theorem dX0_toGreatestDivisor_76 : decode cX0_toGreatestDivisor 76 = .ok (.iconst 1, 1) := by decide +kernel
theorem dX0_toGreatestDivisor_77 : decode cX0_toGreatestDivisor 77 = .ok (.iadd, 1) := by decide +kernel
theorem dX0_toGreatestDivisor_78 : decode cX0_toGreatestDivisor 78 = .ok (.aload_n 0, 1) := by decide +kernel
theorem dX0_toGreatestDivisor_79 : decode cX0_toGreatestDivisor 79 = .ok (.getfield 9, 3) := by decide +kernel
theorem dX0_toGreatestDivisor_82 : decode cX0_toGreatestDivisor 82 = .ok (.aload_n 1, 1) := by decide +kernel
theorem dX0_toGreatestDivisor_83 : decode cX0_toGreatestDivisor 83 = .ok (.getfield 25, 3) := by decide +kernel
theorem dX0_toGreatestDivisor_86 : decode cX0_toGreatestDivisor 86 = .ok (.aload_n 1, 1) := by decide +kernel
theorem dX0_toGreatestDivisor_87 : decode cX0_toGreatestDivisor 87 = .ok (.getfield 15, 3) := by decide +kernel
theorem dX0_toGreatestDivisor_90 : decode cX0_toGreatestDivisor 90 = .ok (.iaload, 1) := by decide +kernel
theorem dX0_toGreatestDivisor_91 : decode cX0_toGreatestDivisor 91 = .ok (.invokevirtual 39, 3) := by decide +kernel
theorem dX0_toGreatestDivisor_94 : decode cX0_toGreatestDivisor 94 = .ok (.invokevirtual 60, 3) := by decide +kernel
theorem dX0_toGreatestDivisor_97 : decode cX0_toGreatestDivisor 97 = .ok (.return_, 1) := by decide +kernel
theorem dX0_takeOut_0 : decode cX0_takeOut 0 = .ok (.aload_n 1, 1) := by decide +kernel
theorem dX0_takeOut_1 : decode cX0_takeOut 1 = .ok (.getfield 15, 3) := by decide +kernel
theorem dX0_takeOut_4 : decode cX0_takeOut 4 = .ok (.iconst 1, 1) := by decide +kernel
theorem dX0_takeOut_5 : decode cX0_takeOut 5 = .ok (.isub, 1) := by decide +kernel
theorem dX0_takeOut_6 : decode cX0_takeOut 6 = .ok (.istore_n 3, 1) := by decide +kernel
theorem dX0_takeOut_7 : decode cX0_takeOut 7 = .ok (.iload_n 3, 1) := by decide +kernel
theorem dX0_takeOut_8 : decode cX0_takeOut 8 = .ok (.ifCond .lt 34, 3) := by decide +kernel
theorem dX0_takeOut_11 : decode cX0_takeOut 11 = .ok (.aload_n 1, 1) := by decide +kernel
theorem dX0_takeOut_12 : decode cX0_takeOut 12 = .ok (.getfield 25, 3) := by decide +kernel
theorem dX0_takeOut_15 : decode cX0_takeOut 15 = .ok (.iload_n 3, 1) := by decide +kernel
theorem dX0_takeOut_16 : decode cX0_takeOut 16 = .ok (.dup2, 1) := by decide +kernel
theorem dX0_takeOut_17 : decode cX0_takeOut 17 = .ok (.iaload, 1) := by decide +kernel
theorem dX0_takeOut_18 : decode cX0_takeOut 18 = .ok (.aload_n 0, 1) := by decide +kernel
theorem dX0_takeOut_19 : decode cX0_takeOut 19 = .ok (.getfield 9, 3) := by decide +kernel
theorem dX0_takeOut_22 : decode cX0_takeOut 22 = .ok (.aload_n 1, 1) := by decide +kernel
theorem dX0_takeOut_23 : decode cX0_takeOut 23 = .ok (.getfield 25, 3) := by decide +kernel
theorem dX0_takeOut_26 : decode cX0_takeOut 26 = .ok (.iload_n 3, 1) := by decide +kernel
theorem dX0_takeOut_27 : decode cX0_takeOut 27 = .ok (.iconst 1, 1) := by decide +kernel
theorem dX0_takeOut_28 : decode cX0_takeOut 28 = .ok (.iadd, 1) := by decide +kernel
theorem dX0_takeOut_29 : decode cX0_takeOut 29 = .ok (.iaload, 1) := by decide +kernel
theorem dX0_takeOut_30 : decode cX0_takeOut 30 = .ok (.iload_n 2, 1) := by decide +kernel
theorem dX0_takeOut_31 : decode cX0_takeOut 31 = .ok (.invokevirtual 45, 3) := by decide +kernel
theorem dX0_takeOut_34 : decode cX0_takeOut 34 = .ok (.ixor, 1) := by decide +kernel
theorem dX0_takeOut_35 : decode cX0_takeOut 35 = .ok (.iastore, 1) := by decide +kernel
theorem dX0_takeOut_36 : decode cX0_takeOut 36 = .ok (.iinc 3 (-1), 3) := by decide +kernel
theorem dX0_takeOut_39 : decode cX0_takeOut 39 = .ok (.goto (-32), 3) := by decide +kernel
theorem dX0_takeOut_42 : decode cX0_takeOut 42 = .ok (.aload_n 1, 1) := by decide +kernel
theorem dX0_takeOut_43 : decode cX0_takeOut 43 = .ok (.getfield 25, 3) := by decide +kernel
theorem dX0_takeOut_46 : decode cX0_takeOut 46 = .ok (.iconst 0, 1) := by decide +kernel
theorem dX0_takeOut_47 : decode cX0_takeOut 47 = .ok (.iaload, 1) := by decide +kernel
theorem dX0_takeOut_48 : decode cX0_takeOut 48 = .ok (.ifCond .eq 5, 3) := by decide +kernel
theorem dX0_takeOut_51 : decode cX0_takeOut 51 = .ok (.iconst 0, 1) := by decide +kernel
theorem dX0_takeOut_52 : decode cX0_takeOut 52 = .ok (.ireturn, 1) := by decide +kernel
theorem dX0_takeOut_53 : decode cX0_takeOut 53 = .ok (.aload_n 1, 1) := by decide +kernel
theorem dX0_takeOut_54 : decode cX0_takeOut 54 = .ok (.iconst 1, 1) := by decide +kernel
theorem dX0_takeOut_55 : decode cX0_takeOut 55 = .ok (.invokevirtual 36, 3) := by decide +kernel
theorem dX0_takeOut_58 : decode cX0_takeOut 58 = .ok (.iconst 1, 1) := by decide +kernel
theorem dX0_takeOut_59 : decode cX0_takeOut 59 = .ok (.ireturn, 1) := by decide +kernel
theorem dX0_toSquareRest_0 : decode cX0_toSquareRest 0 = .ok (.aload_n 1, 1) := by decide +kernel
theorem dX0_toSquareRest_1 : decode cX0_toSquareRest 1 = .ok (.getfield 15, 3) := by decide +kernel
theorem dX0_toSquareRest_4 : decode cX0_toSquareRest 4 = .ok (.ifCond .lt 12, 3) := by decide +kernel
theorem dX0_toSquareRest_7 : decode cX0_toSquareRest 7 = .ok (.aload_n 1, 1) := by decide +kernel
theorem dX0_toSquareRest_8 : decode cX0_toSquareRest 8 = .ok (.getfield 15, 3) := by decide +kernel
theorem dX0_toSquareRest_11 : decode cX0_toSquareRest 11 = .ok (.bipush 64, 2) := by decide +kernel
theorem dX0_toSquareRest_13 : decode cX0_toSquareRest 13 = .ok (.if_icmp .le 4, 3) := by decide +kernel
theorem dX0_toSquareRest_16 : decode cX0_toSquareRest 16 = .ok (.return_, 1) := by decide +kernel
theorem dX0_toSquareRest_17 : decode cX0_toSquareRest 17 = .ok (.aload_n 1, 1) := by decide +kernel
theorem dX0_toSquareRest_18 : decode cX0_toSquareRest 18 = .ok (.getfield 15, 3) := by decide +kernel
theorem dX0_toSquareRest_21 : decode cX0_toSquareRest 21 = .ok (.istore_n 3, 1) := by decide +kernel
theorem dX0_toSquareRest_22 : decode cX0_toSquareRest 22 = .ok (.iload_n 3, 1) := by decide +kernel
theorem dX0_toSquareRest_23 : decode cX0_toSquareRest 23 = .ok (.ifCond .lt 43, 3) := by decide +kernel
theorem dX0_toSquareRest_26 : decode cX0_toSquareRest 26 = .ok (.aload_n 1, 1) := by decide +kernel
theorem dX0_toSquareRest_27 : decode cX0_toSquareRest 27 = .ok (.getfield 25, 3) := by decide +kernel
theorem dX0_toSquareRest_30 : decode cX0_toSquareRest 30 = .ok (.iload_n 3, 1) := by decide +kernel
theorem dX0_toSquareRest_31 : decode cX0_toSquareRest 31 = .ok (.iaload, 1) := by decide +kernel
theorem dX0_toSquareRest_32 : decode cX0_toSquareRest 32 = .ok (.istore 4, 2) := by decide +kernel
theorem dX0_toSquareRest_34 : decode cX0_toSquareRest 34 = .ok (.aload_n 1, 1) := by decide +kernel
theorem dX0_toSquareRest_35 : decode cX0_toSquareRest 35 = .ok (.getfield 25, 3) := by decide +kernel
theorem dX0_toSquareRest_38 : decode cX0_toSquareRest 38 = .ok (.iload_n 3, 1) := by decide +kernel
theorem dX0_toSquareRest_39 : decode cX0_toSquareRest 39 = .ok (.iconst 0, 1) := by decide +kernel
theorem dX0_toSquareRest_40 : decode cX0_toSquareRest 40 = .ok (.iastore, 1) := by decide +kernel
theorem dX0_toSquareRest_41 : decode cX0_toSquareRest 41 = .ok (.aload_n 1, 1) := by decide +kernel
theorem dX0_toSquareRest_42 : decode cX0_toSquareRest 42 = .ok (.getfield 25, 3) := by decide +kernel
theorem dX0_toSquareRest_45 : decode cX0_toSquareRest 45 = .ok (.iconst 2, 1) := by decide +kernel
theorem dX0_toSquareRest_46 : decode cX0_toSquareRest 46 = .ok (.iload_n 3, 1) := by decide +kernel
theorem dX0_toSquareRest_47 : decode cX0_toSquareRest 47 = .ok (.imul, 1) := by decide +kernel
theorem dX0_toSquareRest_48 : decode cX0_toSquareRest 48 = .ok (.aload_n 0, 1) := by decide +kernel
theorem dX0_toSquareRest_49 : decode cX0_toSquareRest 49 = .ok (.getfield 9, 3) := by decide +kernel
theorem dX0_toSquareRest_52 : decode cX0_toSquareRest 52 = .ok (.iload 4, 2) := by decide +kernel
theorem dX0_toSquareRest_54 : decode cX0_toSquareRest 54 = .ok (.iload 4, 2) := by decide +kernel
theorem dX0_toSquareRest_56 : decode cX0_toSquareRest 56 = .ok (.invokevirtual 45, 3) := by decide +kernel
theorem dX0_toSquareRest_59 : decode cX0_toSquareRest 59 = .ok (.iastore, 1) := by decide +kernel
theorem dX0_toSquareRest_60 : decode cX0_toSquareRest 60 = .ok (.iinc 3 (-1), 3) := by decide +kernel
theorem dX0_toSquareRest_63 : decode cX0_toSquareRest 63 = .ok (.goto (-41), 3) := by decide +kernel
theorem dX0_toSquareRest_66 : decode cX0_toSquareRest 66 = .ok (.aload_n 1, 1) := by decide +kernel
theorem dX0_toSquareRest_67 : decode cX0_toSquareRest 67 = .ok (.iconst 2, 1) := by decide +kernel
theorem dX0_toSquareRest_68 : decode cX0_toSquareRest 68 = .ok (.aload_n 1, 1) := by decide +kernel
theorem dX0_toSquareRest_69 : decode cX0_toSquareRest 69 = .ok (.getfield 15, 3) := by decide +kernel
theorem dX0_toSquareRest_72 : decode cX0_toSquareRest 72 = .ok (.imul, 1) := by decide +kernel
theorem dX0_toSquareRest_73 : decode cX0_toSquareRest 73 = .ok (.putfield 15, 3) := by decide +kernel
theorem dX0_toSquareRest_76 : decode cX0_toSquareRest 76 = .ok (.aload_n 0, 1) := by decide +kernel
theorem dX0_toSquareRest_77 : decode cX0_toSquareRest 77 = .ok (.aload_n 1, 1) := by decide +kernel
theorem dX0_toSquareRest_78 : decode cX0_toSquareRest 78 = .ok (.aload_n 2, 1) := by decide +kernel
theorem dX0_toSquareRest_79 : decode cX0_toSquareRest 79 = .ok (.invokevirtual 53, 3) := by decide +kernel
theorem dX0_toSquareRest_82 : decode cX0_toSquareRest 82 = .ok (.return_, 1) := by decide +kernel
theorem dX1_init_0 : decode cX1_init 0 = .ok (.aload_n 0, 1) := by decide +kernel
theorem dX1_init_1 : decode cX1_init 1 = .ok (.invokespecial 3, 3) := by decide +kernel
theorem dX1_init_4 : decode cX1_init 4 = .ok (.aload_n 0, 1) := by decide +kernel
theorem dX1_init_5 : decode cX1_init 5 = .ok (.bipush 8, 2) := by decide +kernel
theorem dX1_init_7 : decode cX1_init 7 = .ok (.bipush 16, 2) := by decide +kernel
theorem dX1_init_9 : decode cX1_init 9 = .ok (.multianewarray 9 2, 4) := by decide +kernel
theorem dX1_init_13 : decode cX1_init 13 = .ok (.putfield 11, 3) := by decide +kernel
theorem dX1_init_16 : decode cX1_init 16 = .ok (.aload_n 0, 1) := by decide +kernel
theorem dX1_init_17 : decode cX1_init 17 = .ok (.bipush 8, 2) := by decide +kernel
theorem dX1_init_19 : decode cX1_init 19 = .ok (.newarray .int, 2) := by decide +kernel
theorem dX1_init_21 : decode cX1_init 21 = .ok (.putfield 16, 3) := by decide +kernel
theorem dX1_init_24 : decode cX1_init 24 = .ok (.aload_n 0, 1) := by decide +kernel
theorem dX1_init_25 : decode cX1_init 25 = .ok (.aload_n 1, 1) := by decide +kernel
theorem dX1_init_26 : decode cX1_init 26 = .ok (.putfield 20, 3) := by decide +kernel
theorem dX1_init_29 : decode cX1_init 29 = .ok (.return_, 1) := by decide +kernel
theorem dX1_load_0 : decode cX1_load 0 = .ok (.aload_n 0, 1) := by decide +kernel
theorem dX1_load_1 : decode cX1_load 1 = .ok (.aload_n 1, 1) := by decide +kernel
theorem dX1_load_2 : decode cX1_load 2 = .ok (.getfield 24, 3) := by decide +kernel
theorem dX1_load_5 : decode cX1_load 5 = .ok (.putfield 30, 3) := by decide +kernel
theorem dX1_load_8 : decode cX1_load 8 = .ok (.aload_n 0, 1) := by decide +kernel
theorem dX1_load_9 : decode cX1_load 9 = .ok (.aload_n 1, 1) := by decide +kernel
theorem dX1_load_10 : decode cX1_load 10 = .ok (.getfield 33, 3) := by decide +kernel
theorem dX1_load_13 : decode cX1_load 13 = .ok (.putfield 36, 3) := by decide +kernel
theorem dX1_load_16 : decode cX1_load 16 = .ok (.iconst 0, 1) := by decide +kernel
theorem dX1_load_17 : decode cX1_load 17 = .ok (.istore_n 2, 1) := by decide +kernel
theorem dX1_load_18 : decode cX1_load 18 = .ok (.iload_n 2, 1) := by decide +kernel
theorem dX1_load_19 : decode cX1_load 19 = .ok (.aload_n 0, 1) := by decide +kernel
theorem dX1_load_20 : decode cX1_load 20 = .ok (.getfield 30, 3) := by decide +kernel
theorem dX1_load_23 : decode cX1_load 23 = .ok (.if_icmp .ge 33, 3) := by decide +kernel
theorem dX1_load_26 : decode cX1_load 26 = .ok (.aload_n 1, 1) := by decide +kernel
theorem dX1_load_27 : decode cX1_load 27 = .ok (.getfield 39, 3) := by decide +kernel
theorem dX1_load_30 : decode cX1_load 30 = .ok (.iload_n 2, 1) := by decide +kernel
theorem dX1_load_31 : decode cX1_load 31 = .ok (.aload_n 0, 1) := by decide +kernel
theorem dX1_load_32 : decode cX1_load 32 = .ok (.getfield 36, 3) := by decide +kernel
theorem dX1_load_35 : decode cX1_load 35 = .ok (.imul, 1) := by decide +kernel
theorem dX1_load_36 : decode cX1_load 36 = .ok (.aload_n 0, 1) := by decide +kernel
theorem dX1_load_37 : decode cX1_load 37 = .ok (.getfield 11, 3) := by decide +kernel
theorem dX1_load_40 : decode cX1_load 40 = .ok (.iload_n 2, 1) := by decide +kernel
theorem dX1_load_41 : decode cX1_load 41 = .ok (.aaload, 1) := by decide +kernel
theorem dX1_load_42 : decode cX1_load 42 = .ok (.iconst 0, 1) := by decide +kernel
theorem dX1_load_43 : decode cX1_load 43 = .ok (.aload_n 0, 1) := by decide +kernel
theorem dX1_load_44 : decode cX1_load 44 = .ok (.getfield 36, 3) := by decide +kernel
theorem dX1_load_47 : decode cX1_load 47 = .ok (.invokestatic 41, 3) := by decide +kernel
theorem dX1_load_50 : decode cX1_load 50 = .ok (.iinc 2 1, 3) := by decide +kernel
theorem dX1_load_53 : decode cX1_load 53 = .ok (.goto (-35), 3) := by decide +kernel
theorem dX1_load_56 : decode cX1_load 56 = .ok (.return_, 1) := by decide +kernel
theorem dX1_appendIdentity_0 : decode cX1_appendIdentity 0 = .ok (.iconst 0, 1) := by decide +kernel
theorem dX1_appendIdentity_1 : decode cX1_appendIdentity 1 = .ok (.istore_n 1, 1) := by decide +kernel
theorem dX1_appendIdentity_2 : decode cX1_appendIdentity 2 = .ok (.iload_n 1, 1) := by decide +kernel
theorem dX1_appendIdentity_3 : decode cX1_appendIdentity 3 = .ok (.aload_n 0, 1) := by decide +kernel
theorem dX1_appendIdentity_4 : decode cX1_appendIdentity 4 = .ok (.getfield 30, 3) := by decide +kernel
theorem dX1_appendIdentity_7 : decode cX1_appendIdentity 7 = .ok (.if_icmp .ge 48, 3) := by decide +kernel
theorem dX1_appendIdentity_10 : decode cX1_appendIdentity 10 = .ok (.iconst 0, 1) := by decide +kernel
theorem dX1_appendIdentity_11 : decode cX1_appendIdentity 11 = .ok (.istore_n 2, 1) := by decide +kernel
theorem dX1_appendIdentity_12 : decode cX1_appendIdentity 12 = .ok (.iload_n 2, 1) := by decide +kernel
theorem dX1_appendIdentity_13 : decode cX1_appendIdentity 13 = .ok (.aload_n 0, 1) := by decide +kernel
theorem dX1_appendIdentity_14 : decode cX1_appendIdentity 14 = .ok (.getfield 30, 3) := by decide +kernel
theorem dX1_appendIdentity_17 : decode cX1_appendIdentity 17 = .ok (.if_icmp .ge 32, 3) := by decide +kernel
theorem dX1_appendIdentity_20 : decode cX1_appendIdentity 20 = .ok (.aload_n 0, 1) := by decide +kernel
theorem dX1_appendIdentity_21 : decode cX1_appendIdentity 21 = .ok (.getfield 11, 3) := by decide +kernel
theorem dX1_appendIdentity_24 : decode cX1_appendIdentity 24 = .ok (.iload_n 1, 1) := by decide +kernel
theorem dX1_appendIdentity_25 : decode cX1_appendIdentity 25 = .ok (.aaload, 1) := by decide +kernel
theorem dX1_appendIdentity_26 : decode cX1_appendIdentity 26 = .ok (.aload_n 0, 1) := by decide +kernel
theorem dX1_appendIdentity_27 : decode cX1_appendIdentity 27 = .ok (.getfield 36, 3) := by decide +kernel
theorem dX1_appendIdentity_30 : decode cX1_appendIdentity 30 = .ok (.iload_n 2, 1) := by decide +kernel
theorem dX1_appendIdentity_31 : decode cX1_appendIdentity 31 = .ok (.iadd, 1) := by decide +kernel
theorem dX1_appendIdentity_32 : decode cX1_appendIdentity 32 = .ok (.iload_n 1, 1) := by decide +kernel
theorem dX1_appendIdentity_33 : decode cX1_appendIdentity 33 = .ok (.iload_n 2, 1) := by decide +kernel
theorem dX1_appendIdentity_34 : decode cX1_appendIdentity 34 = .ok (.if_icmp .ne 7, 3) := by decide +kernel
theorem dX1_appendIdentity_37 : decode cX1_appendIdentity 37 = .ok (.iconst 1, 1) := by decide +kernel
theorem dX1_appendIdentity_38 : decode cX1_appendIdentity 38 = .ok (.goto 4, 3) := by decide +kernel
theorem dX1_appendIdentity_41 : decode cX1_appendIdentity 41 = .ok (.iconst 0, 1) := by decide +kernel
theorem dX1_appendIdentity_42 : decode cX1_appendIdentity 42 = .ok (.iastore, 1) := by decide +kernel
theorem dX1_appendIdentity_43 : decode cX1_appendIdentity 43 = .ok (.iinc 2 1, 3) := by decide +kernel
theorem dX1_appendIdentity_46 : decode cX1_appendIdentity 46 = .ok (.goto (-34), 3) := by decide +kernel
theorem dX1_appendIdentity_49 : decode cX1_appendIdentity 49 = .ok (.iinc 1 1, 3) := by decide +kernel
theorem dX1_appendIdentity_52 : decode cX1_appendIdentity 52 = .ok (.goto (-50), 3) := by decide +kernel
theorem dX1_appendIdentity_55 : decode cX1_appendIdentity 55 = .ok (.aload_n 0, 1) := by decide +kernel
theorem dX1_appendIdentity_56 : decode cX1_appendIdentity 56 = .ok (.dup, 1) := by decide +kernel
theorem dX1_appendIdentity_57 : decode cX1_appendIdentity 57 = .ok (.getfield 36, 3) := by decide +kernel
theorem dX1_appendIdentity_60 : decode cX1_appendIdentity 60 = .ok (.aload_n 0, 1) := by decide +kernel
theorem dX1_appendIdentity_61 : decode cX1_appendIdentity 61 = .ok (.getfield 30, 3) := by decide +kernel
theorem dX1_appendIdentity_64 : decode cX1_appendIdentity 64 = .ok (.iadd, 1) := by decide +kernel
theorem dX1_appendIdentity_65 : decode cX1_appendIdentity 65 = .ok (.putfield 36, 3) := by decide +kernel
theorem dX1_appendIdentity_68 : decode cX1_appendIdentity 68 = .ok (.return_, 1) := by decide +kernel
theorem dX1_appendColumn_0 : decode cX1_appendColumn 0 = .ok (.iconst 0, 1) := by decide +kernel
theorem dX1_appendColumn_1 : decode cX1_appendColumn 1 = .ok (.istore_n 2, 1) := by decide +kernel
theorem dX1_appendColumn_2 : decode cX1_appendColumn 2 = .ok (.iload_n 2, 1) := by decide +kernel
theorem dX1_appendColumn_3 : decode cX1_appendColumn 3 = .ok (.aload_n 0, 1) := by decide +kernel
theorem dX1_appendColumn_4 : decode cX1_appendColumn 4 = .ok (.getfield 30, 3) := by decide +kernel
theorem dX1_appendColumn_7 : decode cX1_appendColumn 7 = .ok (.if_icmp .ge 23, 3) := by decide +kernel
theorem dX1_appendColumn_10 : decode cX1_appendColumn 10 = .ok (.aload_n 0, 1) := by decide +kernel
theorem dX1_appendColumn_11 : decode cX1_appendColumn 11 = .ok (.getfield 11, 3) := by decide +kernel
theorem dX1_appendColumn_14 : decode cX1_appendColumn 14 = .ok (.iload_n 2, 1) := by decide +kernel
theorem dX1_appendColumn_15 : decode cX1_appendColumn 15 = .ok (.aaload, 1) := by decide +kernel
theorem dX1_appendColumn_16 : decode cX1_appendColumn 16 = .ok (.aload_n 0, 1) := by decide +kernel
theorem dX1_appendColumn_17 : decode cX1_appendColumn 17 = .ok (.getfield 36, 3) := by decide +kernel
theorem dX1_appendColumn_20 : decode cX1_appendColumn 20 = .ok (.aload_n 1, 1) := by decide +kernel
theorem dX1_appendColumn_21 : decode cX1_appendColumn 21 = .ok (.iload_n 2, 1) := by decide +kernel
theorem dX1_appendColumn_22 : decode cX1_appendColumn 22 = .ok (.iaload, 1) := by decide +kernel
theorem dX1_appendColumn_23 : decode cX1_appendColumn 23 = .ok (.iastore, 1) := by decide +kernel
theorem dX1_appendColumn_24 : decode cX1_appendColumn 24 = .ok (.iinc 2 1, 3) := by decide +kernel
theorem dX1_appendColumn_27 : decode cX1_appendColumn 27 = .ok (.goto (-25), 3) := by decide +kernel
theorem dX1_appendColumn_30 : decode cX1_appendColumn 30 = .ok (.aload_n 0, 1) := by decide +kernel
theorem dX1_appendColumn_31 : decode cX1_appendColumn 31 = .ok (.dup, 1) := by decide +kernel
theorem dX1_appendColumn_32 : decode cX1_appendColumn 32 = .ok (.getfield 36, 3) := by decide +kernel
theorem dX1_appendColumn_35 : decode cX1_appendColumn 35 = .ok (.iconst 1, 1) := by decide +kernel
theorem dX1_appendColumn_36 : decode cX1_appendColumn 36 = .ok (.iadd, 1) := by decide +kernel
theorem dX1_appendColumn_37 : decode cX1_appendColumn 37 = .ok (.putfield 36, 3) := by decide +kernel
theorem dX1_appendColumn_40 : decode cX1_appendColumn 40 = .ok (.return_, 1) := by decide +kernel
theorem dX1_reduce_0 : decode cX1_reduce 0 = .ok (.aload_n 0, 1) := by decide +kernel
theorem dX1_reduce_1 : decode cX1_reduce 1 = .ok (.iconst 0, 1) := by decide +kernel
theorem dX1_reduce_2 : decode cX1_reduce 2 = .ok (.putfield 47, 3) := by decide +kernel
theorem dX1_reduce_5 : decode cX1_reduce 5 = .ok (.aload_n 0, 1) := by decide +kernel
theorem dX1_reduce_6 : decode cX1_reduce 6 = .ok (.iconst 1, 1) := by decide +kernel
theorem dX1_reduce_7 : decode cX1_reduce 7 = .ok (.putfield 50, 3) := by decide +kernel
theorem dX1_reduce_10 : decode cX1_reduce 10 = .ok (.iconst 0, 1) := by decide +kernel
theorem dX1_reduce_11 : decode cX1_reduce 11 = .ok (.istore_n 2, 1) := by decide +kernel
theorem dX1_reduce_12 : decode cX1_reduce 12 = .ok (.iload_n 2, 1) := by decide +kernel
theorem dX1_reduce_13 : decode cX1_reduce 13 = .ok (.iload_n 1, 1) := by decide +kernel
theorem dX1_reduce_14 : decode cX1_reduce 14 = .ok (.if_icmp .ge 87, 3) := by decide +kernel
theorem dX1_reduce_17 : decode cX1_reduce 17 = .ok (.aload_n 0, 1) := by decide +kernel
theorem dX1_reduce_18 : decode cX1_reduce 18 = .ok (.iload_n 2, 1) := by decide +kernel
theorem dX1_reduce_19 : decode cX1_reduce 19 = .ok (.invokevirtual 53, 3) := by decide +kernel
theorem dX1_reduce_22 : decode cX1_reduce 22 = .ok (.istore_n 3, 1) := by decide +kernel
theorem dX1_reduce_23 : decode cX1_reduce 23 = .ok (.aload_n 0, 1) := by decide +kernel
theorem dX1_reduce_24 : decode cX1_reduce 24 = .ok (.getfield 16, 3) := by decide +kernel
theorem dX1_reduce_27 : decode cX1_reduce 27 = .ok (.iload_n 2, 1) := by decide +kernel
theorem dX1_reduce_28 : decode cX1_reduce 28 = .ok (.iload_n 3, 1) := by decide +kernel
theorem dX1_reduce_29 : decode cX1_reduce 29 = .ok (.ifCond .ge 7, 3) := by decide +kernel
theorem dX1_reduce_32 : decode cX1_reduce 32 = .ok (.iconst (-1), 1) := by decide +kernel
theorem dX1_reduce_33 : decode cX1_reduce 33 = .ok (.goto 7, 3) := by decide +kernel
theorem dX1_reduce_36 : decode cX1_reduce 36 = .ok (.aload_n 0, 1) := by decide +kernel
theorem dX1_reduce_37 : decode cX1_reduce 37 = .ok (.getfield 47, 3) := by decide +kernel
theorem dX1_reduce_40 : decode cX1_reduce 40 = .ok (.iastore, 1) := by decide +kernel
theorem dX1_reduce_41 : decode cX1_reduce 41 = .ok (.iload_n 3, 1) := by decide +kernel
theorem dX1_reduce_42 : decode cX1_reduce 42 = .ok (.ifCond .lt 53, 3) := by decide +kernel
theorem dX1_reduce_45 : decode cX1_reduce 45 = .ok (.aload_n 0, 1) := by decide +kernel
theorem dX1_reduce_46 : decode cX1_reduce 46 = .ok (.iload_n 3, 1) := by decide +kernel
theorem dX1_reduce_47 : decode cX1_reduce 47 = .ok (.aload_n 0, 1) := by decide +kernel
theorem dX1_reduce_48 : decode cX1_reduce 48 = .ok (.getfield 47, 3) := by decide +kernel
theorem dX1_reduce_51 : decode cX1_reduce 51 = .ok (.invokevirtual 57, 3) := by decide +kernel
theorem dX1_reduce_54 : decode cX1_reduce 54 = .ok (.aload_n 0, 1) := by decide +kernel
theorem dX1_reduce_55 : decode cX1_reduce 55 = .ok (.aload_n 0, 1) := by decide +kernel
theorem dX1_reduce_56 : decode cX1_reduce 56 = .ok (.getfield 20, 3) := by decide +kernel
theorem dX1_reduce_59 : decode cX1_reduce 59 = .ok (.aload_n 0, 1) := by decide +kernel
theorem dX1_reduce_60 : decode cX1_reduce 60 = .ok (.getfield 50, 3) := by decide +kernel
theorem dX1_reduce_63 : decode cX1_reduce 63 = .ok (.aload_n 0, 1) := by decide +kernel
theorem dX1_reduce_64 : decode cX1_reduce 64 = .ok (.getfield 11, 3) := by decide +kernel
theorem dX1_reduce_67 : decode cX1_reduce 67 = .ok (.aload_n 0, 1) := by decide +kernel
theorem dX1_reduce_68 : decode cX1_reduce 68 = .ok (.getfield 47, 3) := by decide +kernel
theorem dX1_reduce_71 : decode cX1_reduce 71 = .ok (.aaload, 1) := by decide +kernel
theorem dX1_reduce_72 : decode cX1_reduce 72 = .ok (.iload_n 2, 1) := by decide +kernel
theorem dX1_reduce_73 : decode cX1_reduce 73 = .ok (.iaload, 1) := by decide +kernel
theorem dX1_reduce_74 : decode cX1_reduce 74 = .ok (.invokevirtual 61, 3) := by decide +kernel
theorem dX1_reduce_77 : decode cX1_reduce 77 = .ok (.putfield 50, 3) := by decide +kernel
theorem dX1_reduce_80 : decode cX1_reduce 80 = .ok (.aload_n 0, 1) := by decide +kernel
theorem dX1_reduce_81 : decode cX1_reduce 81 = .ok (.iload_n 2, 1) := by decide +kernel
theorem dX1_reduce_82 : decode cX1_reduce 82 = .ok (.invokevirtual 67, 3) := by decide +kernel
theorem dX1_reduce_85 : decode cX1_reduce 85 = .ok (.aload_n 0, 1) := by decide +kernel
theorem dX1_reduce_86 : decode cX1_reduce 86 = .ok (.dup, 1) := by decide +kernel
theorem dX1_reduce_87 : decode cX1_reduce 87 = .ok (.getfield 47, 3) := by decide +kernel
theorem dX1_reduce_90 : decode cX1_reduce 90 = .ok (.iconst 1, 1) := by decide +kernel
theorem dX1_reduce_91 : decode cX1_reduce 91 = .ok (.iadd, 1) := by decide +kernel
theorem dX1_reduce_92 : decode cX1_reduce 92 = .ok (.putfield 47, 3) := by decide +kernel
theorem dX1_reduce_95 : decode cX1_reduce 95 = .ok (.iinc 2 1, 3) := by decide +kernel
theorem dX1_reduce_98 : decode cX1_reduce 98 = .ok (.goto (-86), 3) := by decide +kernel
theorem dX1_reduce_101 : decode cX1_reduce 101 = .ok (.aload_n 0, 1) := by decide +kernel
theorem dX1_reduce_102 : decode cX1_reduce 102 = .ok (.getfield 47, 3) := by decide +kernel
theorem dX1_reduce_105 : decode cX1_reduce 105 = .ok (.ireturn, 1) := by decide +kernel
theorem dX1_rowWithMember_0 : decode cX1_rowWithMember 0 = .ok (.aload_n 0, 1) := by decide +kernel
theorem dX1_rowWithMember_1 : decode cX1_rowWithMember 1 = .ok (.getfield 47, 3) := by decide +kernel
theorem dX1_rowWithMember_4 : decode cX1_rowWithMember 4 = .ok (.istore_n 2, 1) := by decide +kernel
theorem dX1_rowWithMember_5 : decode cX1_rowWithMember 5 = .ok (.iload_n 2, 1) := by decide +kernel
theorem dX1_rowWithMember_6 : decode cX1_rowWithMember 6 = .ok (.aload_n 0, 1) := by decide +kernel
theorem dX1_rowWithMember_7 : decode cX1_rowWithMember 7 = .ok (.getfield 30, 3) := by decide +kernel
theorem dX1_rowWithMember_10 : decode cX1_rowWithMember 10 = .ok (.if_icmp .ge 22, 3) := by decide +kernel
theorem dX1_rowWithMember_13 : decode cX1_rowWithMember 13 = .ok (.aload_n 0, 1) := by decide +kernel
theorem dX1_rowWithMember_14 : decode cX1_rowWithMember 14 = .ok (.getfield 11, 3) := by decide +kernel
theorem dX1_rowWithMember_17 : decode cX1_rowWithMember 17 = .ok (.iload_n 2, 1) := by decide +kernel
theorem dX1_rowWithMember_18 : decode cX1_rowWithMember 18 = .ok (.aaload, 1) := by decide +kernel
theorem dX1_rowWithMember_19 : decode cX1_rowWithMember 19 = .ok (.iload_n 1, 1) := by decide +kernel
theorem dX1_rowWithMember_20 : decode cX1_rowWithMember 20 = .ok (.iaload, 1) := by decide +kernel
theorem dX1_rowWithMember_21 : decode cX1_rowWithMember 21 = .ok (.ifCond .eq 5, 3) := by decide +kernel
theorem dX1_rowWithMember_24 : decode cX1_rowWithMember 24 = .ok (.iload_n 2, 1) := by decide +kernel
theorem dX1_rowWithMember_25 : decode cX1_rowWithMember 25 = .ok (.ireturn, 1) := by decide +kernel
theorem dX1_rowWithMember_26 : decode cX1_rowWithMember 26 = .ok (.iinc 2 1, 3) := by decide +kernel
theorem dX1_rowWithMember_29 : decode cX1_rowWithMember 29 = .ok (.goto (-24), 3) := by decide +kernel
theorem dX1_rowWithMember_32 : decode cX1_rowWithMember 32 = .ok (.iconst (-1), 1) := by decide +kernel
theorem dX1_rowWithMember_33 : decode cX1_rowWithMember 33 = .ok (.ireturn, 1) := by decide +kernel
theorem dX1_exchange_0 : decode cX1_exchange 0 = .ok (.iconst 0, 1) := by decide +kernel
theorem dX1_exchange_1 : decode cX1_exchange 1 = .ok (.istore_n 3, 1) := by decide +kernel
theorem dX1_exchange_2 : decode cX1_exchange 2 = .ok (.iload_n 3, 1) := by decide +kernel
theorem dX1_exchange_3 : decode cX1_exchange 3 = .ok (.aload_n 0, 1) := by decide +kernel
theorem dX1_exchange_4 : decode cX1_exchange 4 = .ok (.getfield 36, 3) := by decide +kernel
theorem dX1_exchange_7 : decode cX1_exchange 7 = .ok (.if_icmp .ge 45, 3) := by decide +kernel
theorem dX1_exchange_10 : decode cX1_exchange 10 = .ok (.aload_n 0, 1) := by decide +kernel
theorem dX1_exchange_11 : decode cX1_exchange 11 = .ok (.getfield 11, 3) := by decide +kernel
theorem dX1_exchange_14 : decode cX1_exchange 14 = .ok (.iload_n 1, 1) := by decide +kernel
theorem dX1_exchange_15 : decode cX1_exchange 15 = .ok (.aaload, 1) := by decide +kernel
theorem dX1_exchange_16 : decode cX1_exchange 16 = .ok (.iload_n 3, 1) := by decide +kernel
theorem dX1_exchange_17 : decode cX1_exchange 17 = .ok (.iaload, 1) := by decide +kernel
theorem dX1_exchange_18 : decode cX1_exchange 18 = .ok (.istore 4, 2) := by decide +kernel
theorem dX1_exchange_20 : decode cX1_exchange 20 = .ok (.aload_n 0, 1) := by decide +kernel
theorem dX1_exchange_21 : decode cX1_exchange 21 = .ok (.getfield 11, 3) := by decide +kernel
theorem dX1_exchange_24 : decode cX1_exchange 24 = .ok (.iload_n 1, 1) := by decide +kernel
theorem dX1_exchange_25 : decode cX1_exchange 25 = .ok (.aaload, 1) := by decide +kernel
theorem dX1_exchange_26 : decode cX1_exchange 26 = .ok (.iload_n 3, 1) := by decide +kernel
theorem dX1_exchange_27 : decode cX1_exchange 27 = .ok (.aload_n 0, 1) := by decide +kernel
theorem dX1_exchange_28 : decode cX1_exchange 28 = .ok (.getfield 11, 3) := by decide +kernel
theorem dX1_exchange_31 : decode cX1_exchange 31 = .ok (.iload_n 2, 1) := by decide +kernel
theorem dX1_exchange_32 : decode cX1_exchange 32 = .ok (.aaload, 1) := by decide +kernel
theorem dX1_exchange_33 : decode cX1_exchange 33 = .ok (.iload_n 3, 1) := by decide +kernel
theorem dX1_exchange_34 : decode cX1_exchange 34 = .ok (.iaload, 1) := by decide +kernel
theorem dX1_exchange_35 : decode cX1_exchange 35 = .ok (.iastore, 1) := by decide +kernel
theorem dX1_exchange_36 : decode cX1_exchange 36 = .ok (.aload_n 0, 1) := by decide +kernel
theorem dX1_exchange_37 : decode cX1_exchange 37 = .ok (.getfield 11, 3) := by decide +kernel
theorem dX1_exchange_40 : decode cX1_exchange 40 = .ok (.iload_n 2, 1) := by decide +kernel
theorem dX1_exchange_41 : decode cX1_exchange 41 = .ok (.aaload, 1) := by decide +kernel
theorem dX1_exchange_42 : decode cX1_exchange 42 = .ok (.iload_n 3, 1) := by decide +kernel
theorem dX1_exchange_43 : decode cX1_exchange 43 = .ok (.iload 4, 2) := by decide +kernel
theorem dX1_exchange_45 : decode cX1_exchange 45 = .ok (.iastore, 1) := by decide +kernel
theorem dX1_exchange_46 : decode cX1_exchange 46 = .ok (.iinc 3 1, 3) := by decide +kernel
theorem dX1_exchange_49 : decode cX1_exchange 49 = .ok (.goto (-47), 3) := by decide +kernel
theorem dX1_exchange_52 : decode cX1_exchange 52 = .ok (.return_, 1) := by decide +kernel
theorem dX1_free_0 : decode cX1_free 0 = .ok (.aload_n 0, 1) := by decide +kernel
theorem dX1_free_1 : decode cX1_free 1 = .ok (.getfield 11, 3) := by decide +kernel
theorem dX1_free_4 : decode cX1_free 4 = .ok (.aload_n 0, 1) := by decide +kernel
theorem dX1_free_5 : decode cX1_free 5 = .ok (.getfield 47, 3) := by decide +kernel
theorem dX1_free_8 : decode cX1_free 8 = .ok (.aaload, 1) := by decide +kernel
theorem dX1_free_9 : decode cX1_free 9 = .ok (.astore_n 2, 1) := by decide +kernel
theorem dX1_free_10 : decode cX1_free 10 = .ok (.aload_n 0, 1) := by decide +kernel
theorem dX1_free_11 : decode cX1_free 11 = .ok (.getfield 20, 3) := by decide +kernel
theorem dX1_free_14 : decode cX1_free 14 = .ok (.aload_n 2, 1) := by decide +kernel
theorem dX1_free_15 : decode cX1_free 15 = .ok (.aload_n 0, 1) := by decide +kernel
theorem dX1_free_16 : decode cX1_free 16 = .ok (.getfield 36, 3) := by decide +kernel
theorem dX1_free_19 : decode cX1_free 19 = .ok (.aload_n 0, 1) := by decide +kernel
theorem dX1_free_20 : decode cX1_free 20 = .ok (.getfield 20, 3) := by decide +kernel
theorem dX1_free_23 : decode cX1_free 23 = .ok (.aload_n 2, 1) := by decide +kernel
theorem dX1_free_24 : decode cX1_free 24 = .ok (.iload_n 1, 1) := by decide +kernel
theorem dX1_free_25 : decode cX1_free 25 = .ok (.iaload, 1) := by decide +kernel
theorem dX1_free_26 : decode cX1_free 26 = .ok (.invokevirtual 71, 3) := by decide +kernel
theorem dX1_free_29 : decode cX1_free 29 = .ok (.invokevirtual 74, 3) := by decide +kernel
theorem dX1_free_32 : decode cX1_free 32 = .ok (.iconst 0, 1) := by decide +kernel
theorem dX1_free_33 : decode cX1_free 33 = .ok (.istore_n 3, 1) := by decide +kernel
theorem dX1_free_34 : decode cX1_free 34 = .ok (.iload_n 3, 1) := by decide +kernel
theorem dX1_free_35 : decode cX1_free 35 = .ok (.aload_n 0, 1) := by decide +kernel
theorem dX1_free_36 : decode cX1_free 36 = .ok (.getfield 30, 3) := by decide +kernel
theorem dX1_free_39 : decode cX1_free 39 = .ok (.if_icmp .ge 45, 3) := by decide +kernel
theorem dX1_free_42 : decode cX1_free 42 = .ok (.iload_n 3, 1) := by decide +kernel
theorem dX1_free_43 : decode cX1_free 43 = .ok (.aload_n 0, 1) := by decide +kernel
theorem dX1_free_44 : decode cX1_free 44 = .ok (.getfield 47, 3) := by decide +kernel
theorem dX1_free_47 : decode cX1_free 47 = .ok (.if_icmp .eq 31, 3) := by decide +kernel
theorem dX1_free_50 : decode cX1_free 50 = .ok (.aload_n 0, 1) := by decide +kernel
theorem dX1_free_51 : decode cX1_free 51 = .ok (.getfield 20, 3) := by decide +kernel
theorem dX1_free_54 : decode cX1_free 54 = .ok (.aload_n 0, 1) := by decide +kernel
theorem dX1_free_55 : decode cX1_free 55 = .ok (.getfield 11, 3) := by decide +kernel
theorem dX1_free_58 : decode cX1_free 58 = .ok (.iload_n 3, 1) := by decide +kernel
theorem dX1_free_59 : decode cX1_free 59 = .ok (.aaload, 1) := by decide +kernel
theorem dX1_free_60 : decode cX1_free 60 = .ok (.iconst 0, 1) := by decide +kernel
theorem dX1_free_61 : decode cX1_free 61 = .ok (.aload_n 2, 1) := by decide +kernel
theorem dX1_free_62 : decode cX1_free 62 = .ok (.iconst 0, 1) := by decide +kernel
theorem dX1_free_63 : decode cX1_free 63 = .ok (.aload_n 0, 1) := by decide +kernel
theorem dX1_free_64 : decode cX1_free 64 = .ok (.getfield 36, 3) := by decide +kernel
theorem dX1_free_67 : decode cX1_free 67 = .ok (.aload_n 0, 1) := by decide +kernel
theorem dX1_free_68 : decode cX1_free 68 = .ok (.getfield 11, 3) := by decide +kernel
theorem dX1_free_71 : decode cX1_free 71 = .ok (.iload_n 3, 1) := by decide +kernel
theorem dX1_free_72 : decode cX1_free 72 = .ok (.aaload, 1) := by decide +kernel
theorem dX1_free_73 : decode cX1_free 73 = .ok (.iload_n 1, 1) := by decide +kernel
theorem dX1_free_74 : decode cX1_free 74 = .ok (.iaload, 1) := by decide +kernel
theorem dX1_free_75 : decode cX1_free 75 = .ok (.invokevirtual 78, 3) := by decide +kernel
theorem dX1_free_78 : decode cX1_free 78 = .ok (.iinc 3 1, 3) := by decide +kernel
theorem dX1_free_81 : decode cX1_free 81 = .ok (.goto (-47), 3) := by decide +kernel
theorem dX1_free_84 : decode cX1_free 84 = .ok (.return_, 1) := by decide +kernel
theorem dX1_leavesOver_0 : decode cX1_leavesOver 0 = .ok (.aload_n 0, 1) := by decide +kernel
theorem dX1_leavesOver_1 : decode cX1_leavesOver 1 = .ok (.getfield 47, 3) := by decide +kernel
theorem dX1_leavesOver_4 : decode cX1_leavesOver 4 = .ok (.istore_n 2, 1) := by decide +kernel
theorem dX1_leavesOver_5 : decode cX1_leavesOver 5 = .ok (.iload_n 2, 1) := by decide +kernel
theorem dX1_leavesOver_6 : decode cX1_leavesOver 6 = .ok (.aload_n 0, 1) := by decide +kernel
theorem dX1_leavesOver_7 : decode cX1_leavesOver 7 = .ok (.getfield 30, 3) := by decide +kernel
theorem dX1_leavesOver_10 : decode cX1_leavesOver 10 = .ok (.if_icmp .ge 22, 3) := by decide +kernel
theorem dX1_leavesOver_13 : decode cX1_leavesOver 13 = .ok (.aload_n 0, 1) := by decide +kernel
theorem dX1_leavesOver_14 : decode cX1_leavesOver 14 = .ok (.getfield 11, 3) := by decide +kernel
theorem dX1_leavesOver_17 : decode cX1_leavesOver 17 = .ok (.iload_n 2, 1) := by decide +kernel
theorem dX1_leavesOver_18 : decode cX1_leavesOver 18 = .ok (.aaload, 1) := by decide +kernel
theorem dX1_leavesOver_19 : decode cX1_leavesOver 19 = .ok (.iload_n 1, 1) := by decide +kernel
theorem dX1_leavesOver_20 : decode cX1_leavesOver 20 = .ok (.iaload, 1) := by decide +kernel
theorem dX1_leavesOver_21 : decode cX1_leavesOver 21 = .ok (.ifCond .eq 5, 3) := by decide +kernel
theorem dX1_leavesOver_24 : decode cX1_leavesOver 24 = .ok (.iconst 1, 1) := by decide +kernel
theorem dX1_leavesOver_25 : decode cX1_leavesOver 25 = .ok (.ireturn, 1) := by decide +kernel
theorem dX1_leavesOver_26 : decode cX1_leavesOver 26 = .ok (.iinc 2 1, 3) := by decide +kernel
theorem dX1_leavesOver_29 : decode cX1_leavesOver 29 = .ok (.goto (-24), 3) := by decide +kernel
theorem dX1_leavesOver_32 : decode cX1_leavesOver 32 = .ok (.iconst 0, 1) := by decide +kernel
theorem dX1_leavesOver_33 : decode cX1_leavesOver 33 = .ok (.ireturn, 1) := by decide +kernel
theorem dX1_solution_0 : decode cX1_solution 0 = .ok (.aload_n 0, 1) := by decide +kernel
theorem dX1_solution_1 : decode cX1_solution 1 = .ok (.getfield 16, 3) := by decide +kernel
theorem dX1_solution_4 : decode cX1_solution 4 = .ok (.iload_n 1, 1) := by decide +kernel
theorem dX1_solution_5 : decode cX1_solution 5 = .ok (.iaload, 1) := by decide +kernel
theorem dX1_solution_6 : decode cX1_solution 6 = .ok (.istore_n 3, 1) := by decide +kernel
theorem dX1_solution_7 : decode cX1_solution 7 = .ok (.iload_n 3, 1) := by decide +kernel
theorem dX1_solution_8 : decode cX1_solution 8 = .ok (.ifCond .ge 7, 3) := by decide +kernel
theorem dX1_solution_11 : decode cX1_solution 11 = .ok (.iconst 0, 1) := by decide +kernel
theorem dX1_solution_12 : decode cX1_solution 12 = .ok (.goto 11, 3) := by decide +kernel
theorem dX1_solution_15 : decode cX1_solution 15 = .ok (.aload_n 0, 1) := by decide +kernel
theorem dX1_solution_16 : decode cX1_solution 16 = .ok (.getfield 11, 3) := by decide +kernel
theorem dX1_solution_19 : decode cX1_solution 19 = .ok (.iload_n 3, 1) := by decide +kernel
theorem dX1_solution_20 : decode cX1_solution 20 = .ok (.aaload, 1) := by decide +kernel
theorem dX1_solution_21 : decode cX1_solution 21 = .ok (.iload_n 2, 1) := by decide +kernel
theorem dX1_solution_22 : decode cX1_solution 22 = .ok (.iaload, 1) := by decide +kernel
theorem dX1_solution_23 : decode cX1_solution 23 = .ok (.ireturn, 1) := by decide +kernel
theorem dX1_copyAppended_0 : decode cX1_copyAppended 0 = .ok (.iconst 0, 1) := by decide +kernel
theorem dX1_copyAppended_1 : decode cX1_copyAppended 1 = .ok (.istore_n 2, 1) := by decide +kernel
theorem dX1_copyAppended_2 : decode cX1_copyAppended 2 = .ok (.iload_n 2, 1) := by decide +kernel
theorem dX1_copyAppended_3 : decode cX1_copyAppended 3 = .ok (.aload_n 1, 1) := by decide +kernel
theorem dX1_copyAppended_4 : decode cX1_copyAppended 4 = .ok (.getfield 24, 3) := by decide +kernel
theorem dX1_copyAppended_7 : decode cX1_copyAppended 7 = .ok (.if_icmp .ge 36, 3) := by decide +kernel
theorem dX1_copyAppended_10 : decode cX1_copyAppended 10 = .ok (.aload_n 0, 1) := by decide +kernel
theorem dX1_copyAppended_11 : decode cX1_copyAppended 11 = .ok (.getfield 11, 3) := by decide +kernel
theorem dX1_copyAppended_14 : decode cX1_copyAppended 14 = .ok (.iload_n 2, 1) := by decide +kernel
theorem dX1_copyAppended_15 : decode cX1_copyAppended 15 = .ok (.aaload, 1) := by decide +kernel
theorem dX1_copyAppended_16 : decode cX1_copyAppended 16 = .ok (.aload_n 1, 1) := by decide +kernel
theorem dX1_copyAppended_17 : decode cX1_copyAppended 17 = .ok (.getfield 33, 3) := by decide +kernel
theorem dX1_copyAppended_20 : decode cX1_copyAppended 20 = .ok (.aload_n 1, 1) := by decide +kernel
theorem dX1_copyAppended_21 : decode cX1_copyAppended 21 = .ok (.getfield 39, 3) := by decide +kernel
theorem dX1_copyAppended_24 : decode cX1_copyAppended 24 = .ok (.iload_n 2, 1) := by decide +kernel
theorem dX1_copyAppended_25 : decode cX1_copyAppended 25 = .ok (.aload_n 1, 1) := by decide +kernel
theorem dX1_copyAppended_26 : decode cX1_copyAppended 26 = .ok (.getfield 33, 3) := by decide +kernel
theorem dX1_copyAppended_29 : decode cX1_copyAppended 29 = .ok (.imul, 1) := by decide +kernel
theorem dX1_copyAppended_30 : decode cX1_copyAppended 30 = .ok (.aload_n 1, 1) := by decide +kernel
theorem dX1_copyAppended_31 : decode cX1_copyAppended 31 = .ok (.getfield 33, 3) := by decide +kernel
theorem dX1_copyAppended_34 : decode cX1_copyAppended 34 = .ok (.invokestatic 41, 3) := by decide +kernel
theorem dX1_copyAppended_37 : decode cX1_copyAppended 37 = .ok (.iinc 2 1, 3) := by decide +kernel
theorem dX1_copyAppended_40 : decode cX1_copyAppended 40 = .ok (.goto (-38), 3) := by decide +kernel
theorem dX1_copyAppended_43 : decode cX1_copyAppended 43 = .ok (.return_, 1) := by decide +kernel
theorem dX2_init_0 : decode cX2_init 0 = .ok (.aload_n 0, 1) := by decide +kernel
theorem dX2_init_1 : decode cX2_init 1 = .ok (.invokespecial 3, 3) := by decide +kernel
theorem dX2_init_4 : decode cX2_init 4 = .ok (.aload_n 0, 1) := by decide +kernel
theorem dX2_init_5 : decode cX2_init 5 = .ok (.new 9, 3) := by decide +kernel
theorem dX2_init_8 : decode cX2_init 8 = .ok (.dup, 1) := by decide +kernel
theorem dX2_init_9 : decode cX2_init 9 = .ok (.sipush 129, 3) := by decide +kernel
theorem dX2_init_12 : decode cX2_init 12 = .ok (.invokespecial 11, 3) := by decide +kernel
theorem dX2_init_15 : decode cX2_init 15 = .ok (.putfield 14, 3) := by decide +kernel
theorem dX2_init_18 : decode cX2_init 18 = .ok (.aload_n 0, 1) := by decide +kernel
theorem dX2_init_19 : decode cX2_init 19 = .ok (.new 9, 3) := by decide +kernel
theorem dX2_init_22 : decode cX2_init 22 = .ok (.dup, 1) := by decide +kernel
theorem dX2_init_23 : decode cX2_init 23 = .ok (.sipush 129, 3) := by decide +kernel
theorem dX2_init_26 : decode cX2_init 26 = .ok (.invokespecial 11, 3) := by decide +kernel
theorem dX2_init_29 : decode cX2_init 29 = .ok (.putfield 20, 3) := by decide +kernel
theorem dX2_init_32 : decode cX2_init 32 = .ok (.aload_n 0, 1) := by decide +kernel
theorem dX2_init_33 : decode cX2_init 33 = .ok (.new 9, 3) := by decide +kernel
theorem dX2_init_36 : decode cX2_init 36 = .ok (.dup, 1) := by decide +kernel
theorem dX2_init_37 : decode cX2_init 37 = .ok (.sipush 129, 3) := by decide +kernel
theorem dX2_init_40 : decode cX2_init 40 = .ok (.invokespecial 11, 3) := by decide +kernel
theorem dX2_init_43 : decode cX2_init 43 = .ok (.putfield 23, 3) := by decide +kernel
theorem dX2_init_46 : decode cX2_init 46 = .ok (.aload_n 0, 1) := by decide +kernel
theorem dX2_init_47 : decode cX2_init 47 = .ok (.new 9, 3) := by decide +kernel
theorem dX2_init_50 : decode cX2_init 50 = .ok (.dup, 1) := by decide +kernel
theorem dX2_init_51 : decode cX2_init 51 = .ok (.sipush 129, 3) := by decide +kernel
theorem dX2_init_54 : decode cX2_init 54 = .ok (.invokespecial 11, 3) := by decide +kernel
theorem dX2_init_57 : decode cX2_init 57 = .ok (.putfield 26, 3) := by decide +kernel
theorem dX2_init_60 : decode cX2_init 60 = .ok (.aload_n 0, 1) := by decide +kernel
theorem dX2_init_61 : decode cX2_init 61 = .ok (.aload_n 1, 1) := by decide +kernel
theorem dX2_init_62 : decode cX2_init 62 = .ok (.putfield 29, 3) := by decide +kernel
theorem dX2_init_65 : decode cX2_init 65 = .ok (.aload_n 0, 1) := by decide +kernel
theorem dX2_init_66 : decode cX2_init 66 = .ok (.aload_n 2, 1) := by decide +kernel
theorem dX2_init_67 : decode cX2_init 67 = .ok (.putfield 33, 3) := by decide +kernel
theorem dX2_init_70 : decode cX2_init 70 = .ok (.return_, 1) := by decide +kernel
theorem dX2_count_0 : decode cX2_count 0 = .ok (.aload_n 0, 1) := by decide +kernel
theorem dX2_count_1 : decode cX2_count 1 = .ok (.getfield 14, 3) := by decide +kernel
theorem dX2_count_4 : decode cX2_count 4 = .ok (.aload_n 1, 1) := by decide +kernel
theorem dX2_count_5 : decode cX2_count 5 = .ok (.invokevirtual 37, 3) := by decide +kernel
theorem dX2_count_8 : decode cX2_count 8 = .ok (.aload_n 0, 1) := by decide +kernel
theorem dX2_count_9 : decode cX2_count 9 = .ok (.getfield 20, 3) := by decide +kernel
theorem dX2_count_12 : decode cX2_count 12 = .ok (.invokevirtual 41, 3) := by decide +kernel
theorem dX2_count_15 : decode cX2_count 15 = .ok (.aload_n 0, 1) := by decide +kernel
theorem dX2_count_16 : decode cX2_count 16 = .ok (.getfield 33, 3) := by decide +kernel
theorem dX2_count_19 : decode cX2_count 19 = .ok (.aload_n 0, 1) := by decide +kernel
theorem dX2_count_20 : decode cX2_count 20 = .ok (.getfield 20, 3) := by decide +kernel
theorem dX2_count_23 : decode cX2_count 23 = .ok (.aload_n 0, 1) := by decide +kernel
theorem dX2_count_24 : decode cX2_count 24 = .ok (.getfield 14, 3) := by decide +kernel
theorem dX2_count_27 : decode cX2_count 27 = .ok (.invokevirtual 44, 3) := by decide +kernel
theorem dX2_count_30 : decode cX2_count 30 = .ok (.iconst 1, 1) := by decide +kernel
theorem dX2_count_31 : decode cX2_count 31 = .ok (.istore_n 3, 1) := by decide +kernel
theorem dX2_count_32 : decode cX2_count 32 = .ok (.iconst 2, 1) := by decide +kernel
theorem dX2_count_33 : decode cX2_count 33 = .ok (.iload_n 3, 1) := by decide +kernel
theorem dX2_count_34 : decode cX2_count 34 = .ok (.imul, 1) := by decide +kernel
theorem dX2_count_35 : decode cX2_count 35 = .ok (.aload_n 0, 1) := by decide +kernel
theorem dX2_count_36 : decode cX2_count 36 = .ok (.getfield 14, 3) := by decide +kernel
theorem dX2_count_39 : decode cX2_count 39 = .ok (.getfield 50, 3) := by decide +kernel
theorem dX2_count_42 : decode cX2_count 42 = .ok (.if_icmp .gt 68, 3) := by decide +kernel
theorem dX2_count_45 : decode cX2_count 45 = .ok (.iconst 0, 1) := by decide +kernel
theorem dX2_count_46 : decode cX2_count 46 = .ok (.istore 4, 2) := by decide +kernel
theorem dX2_count_48 : decode cX2_count 48 = .ok (.iload 4, 2) := by decide +kernel
theorem dX2_count_50 : decode cX2_count 50 = .ok (.aload_n 0, 1) := by decide +kernel
theorem dX2_count_51 : decode cX2_count 51 = .ok (.getfield 29, 3) := by decide +kernel
theorem dX2_count_54 : decode cX2_count 54 = .ok (.getfield 54, 3) := by decide +kernel
theorem dX2_count_57 : decode cX2_count 57 = .ok (.if_icmp .ge 24, 3) := by decide +kernel
theorem dX2_count_60 : decode cX2_count 60 = .ok (.aload_n 0, 1) := by decide +kernel
theorem dX2_count_61 : decode cX2_count 61 = .ok (.getfield 33, 3) := by decide +kernel
theorem dX2_count_64 : decode cX2_count 64 = .ok (.aload_n 0, 1) := by decide +kernel
theorem dX2_count_65 : decode cX2_count 65 = .ok (.getfield 20, 3) := by decide +kernel
theorem dX2_count_68 : decode cX2_count 68 = .ok (.aload_n 0, 1) := by decide +kernel
theorem dX2_count_69 : decode cX2_count 69 = .ok (.getfield 14, 3) := by decide +kernel
theorem dX2_count_72 : decode cX2_count 72 = .ok (.invokevirtual 59, 3) := by decide +kernel
theorem dX2_count_75 : decode cX2_count 75 = .ok (.iinc 4 1, 3) := by decide +kernel
theorem dX2_count_78 : decode cX2_count 78 = .ok (.goto (-30), 3) := by decide +kernel
theorem dX2_count_81 : decode cX2_count 81 = .ok (.aload_n 2, 1) := by decide +kernel
theorem dX2_count_82 : decode cX2_count 82 = .ok (.iload_n 3, 1) := by decide +kernel
theorem dX2_count_83 : decode cX2_count 83 = .ok (.aload_n 0, 1) := by decide +kernel
theorem dX2_count_84 : decode cX2_count 84 = .ok (.iload_n 3, 1) := by decide +kernel
theorem dX2_count_85 : decode cX2_count 85 = .ok (.invokevirtual 62, 3) := by decide +kernel
theorem dX2_count_88 : decode cX2_count 88 = .ok (.iastore, 1) := by decide +kernel
theorem dX2_count_89 : decode cX2_count 89 = .ok (.aload_n 0, 1) := by decide +kernel
theorem dX2_count_90 : decode cX2_count 90 = .ok (.getfield 33, 3) := by decide +kernel
theorem dX2_count_93 : decode cX2_count 93 = .ok (.aload_n 0, 1) := by decide +kernel
theorem dX2_count_94 : decode cX2_count 94 = .ok (.getfield 20, 3) := by decide +kernel
theorem dX2_count_97 : decode cX2_count 97 = .ok (.aload_n 0, 1) := by decide +kernel
theorem dX2_count_98 : decode cX2_count 98 = .ok (.getfield 14, 3) := by decide +kernel
theorem dX2_count_101 : decode cX2_count 101 = .ok (.invokevirtual 44, 3) := by decide +kernel
theorem dX2_count_104 : decode cX2_count 104 = .ok (.iinc 3 1, 3) := by decide +kernel
theorem dX2_count_107 : decode cX2_count 107 = .ok (.goto (-75), 3) := by decide +kernel
theorem dX2_count_110 : decode cX2_count 110 = .ok (.aload_n 0, 1) := by decide +kernel
theorem dX2_count_111 : decode cX2_count 111 = .ok (.getfield 14, 3) := by decide +kernel
theorem dX2_count_114 : decode cX2_count 114 = .ok (.getfield 50, 3) := by decide +kernel
theorem dX2_count_117 : decode cX2_count 117 = .ok (.ifCond .le 13, 3) := by decide +kernel
theorem dX2_count_120 : decode cX2_count 120 = .ok (.aload_n 2, 1) := by decide +kernel
theorem dX2_count_121 : decode cX2_count 121 = .ok (.aload_n 0, 1) := by decide +kernel
theorem dX2_count_122 : decode cX2_count 122 = .ok (.getfield 14, 3) := by decide +kernel
theorem dX2_count_125 : decode cX2_count 125 = .ok (.getfield 50, 3) := by decide +kernel
theorem dX2_count_128 : decode cX2_count 128 = .ok (.iconst 1, 1) := by decide +kernel
theorem dX2_count_129 : decode cX2_count 129 = .ok (.iastore, 1) := by decide +kernel
theorem dX2_count_130 : decode cX2_count 130 = .ok (.return_, 1) := by decide +kernel
theorem dX2_takeParts_0 : decode cX2_takeParts 0 = .ok (.aload_n 0, 1) := by decide +kernel
theorem dX2_takeParts_1 : decode cX2_takeParts 1 = .ok (.getfield 26, 3) := by decide +kernel
theorem dX2_takeParts_4 : decode cX2_takeParts 4 = .ok (.invokevirtual 41, 3) := by decide +kernel
theorem dX2_takeParts_7 : decode cX2_takeParts 7 = .ok (.aload_n 0, 1) := by decide +kernel
theorem dX2_takeParts_8 : decode cX2_takeParts 8 = .ok (.getfield 26, 3) := by decide +kernel
theorem dX2_takeParts_11 : decode cX2_takeParts 11 = .ok (.aload_n 0, 1) := by decide +kernel
theorem dX2_takeParts_12 : decode cX2_takeParts 12 = .ok (.getfield 29, 3) := by decide +kernel
theorem dX2_takeParts_15 : decode cX2_takeParts 15 = .ok (.aload_n 0, 1) := by decide +kernel
theorem dX2_takeParts_16 : decode cX2_takeParts 16 = .ok (.getfield 20, 3) := by decide +kernel
theorem dX2_takeParts_19 : decode cX2_takeParts 19 = .ok (.iconst 1, 1) := by decide +kernel
theorem dX2_takeParts_20 : decode cX2_takeParts 20 = .ok (.invokevirtual 66, 3) := by decide +kernel
theorem dX2_takeParts_23 : decode cX2_takeParts 23 = .ok (.aload_n 0, 1) := by decide +kernel
theorem dX2_takeParts_24 : decode cX2_takeParts 24 = .ok (.getfield 23, 3) := by decide +kernel
theorem dX2_takeParts_27 : decode cX2_takeParts 27 = .ok (.aload_n 0, 1) := by decide +kernel
theorem dX2_takeParts_28 : decode cX2_takeParts 28 = .ok (.getfield 14, 3) := by decide +kernel
theorem dX2_takeParts_31 : decode cX2_takeParts 31 = .ok (.invokevirtual 37, 3) := by decide +kernel
theorem dX2_takeParts_34 : decode cX2_takeParts 34 = .ok (.aload_n 0, 1) := by decide +kernel
theorem dX2_takeParts_35 : decode cX2_takeParts 35 = .ok (.getfield 33, 3) := by decide +kernel
theorem dX2_takeParts_38 : decode cX2_takeParts 38 = .ok (.aload_n 0, 1) := by decide +kernel
theorem dX2_takeParts_39 : decode cX2_takeParts 39 = .ok (.getfield 23, 3) := by decide +kernel
theorem dX2_takeParts_42 : decode cX2_takeParts 42 = .ok (.aload_n 0, 1) := by decide +kernel
theorem dX2_takeParts_43 : decode cX2_takeParts 43 = .ok (.getfield 26, 3) := by decide +kernel
theorem dX2_takeParts_46 : decode cX2_takeParts 46 = .ok (.invokevirtual 70, 3) := by decide +kernel
theorem dX2_takeParts_49 : decode cX2_takeParts 49 = .ok (.iconst 0, 1) := by decide +kernel
theorem dX2_takeParts_50 : decode cX2_takeParts 50 = .ok (.istore_n 2, 1) := by decide +kernel
theorem dX2_takeParts_51 : decode cX2_takeParts 51 = .ok (.iconst 0, 1) := by decide +kernel
theorem dX2_takeParts_52 : decode cX2_takeParts 52 = .ok (.istore_n 3, 1) := by decide +kernel
theorem dX2_takeParts_53 : decode cX2_takeParts 53 = .ok (.iload_n 3, 1) := by decide +kernel
theorem dX2_takeParts_54 : decode cX2_takeParts 54 = .ok (.bipush 64, 2) := by decide +kernel
theorem dX2_takeParts_56 : decode cX2_takeParts 56 = .ok (.if_icmp .ge 72, 3) := by decide +kernel
theorem dX2_takeParts_59 : decode cX2_takeParts 59 = .ok (.aload_n 0, 1) := by decide +kernel
theorem dX2_takeParts_60 : decode cX2_takeParts 60 = .ok (.getfield 23, 3) := by decide +kernel
theorem dX2_takeParts_63 : decode cX2_takeParts 63 = .ok (.getfield 50, 3) := by decide +kernel
theorem dX2_takeParts_66 : decode cX2_takeParts 66 = .ok (.ifCond .le 62, 3) := by decide +kernel
theorem dX2_takeParts_69 : decode cX2_takeParts 69 = .ok (.iload_n 2, 1) := by decide +kernel
theorem dX2_takeParts_70 : decode cX2_takeParts 70 = .ok (.aload_n 0, 1) := by decide +kernel
theorem dX2_takeParts_71 : decode cX2_takeParts 71 = .ok (.getfield 23, 3) := by decide +kernel
theorem dX2_takeParts_74 : decode cX2_takeParts 74 = .ok (.getfield 50, 3) := by decide +kernel
theorem dX2_takeParts_77 : decode cX2_takeParts 77 = .ok (.iload_n 1, 1) := by decide +kernel
theorem dX2_takeParts_78 : decode cX2_takeParts 78 = .ok (.idiv, 1) := by decide +kernel
theorem dX2_takeParts_79 : decode cX2_takeParts 79 = .ok (.iadd, 1) := by decide +kernel
theorem dX2_takeParts_80 : decode cX2_takeParts 80 = .ok (.istore_n 2, 1) := by decide +kernel
theorem dX2_takeParts_81 : decode cX2_takeParts 81 = .ok (.aload_n 0, 1) := by decide +kernel
theorem dX2_takeParts_82 : decode cX2_takeParts 82 = .ok (.getfield 33, 3) := by decide +kernel
theorem dX2_takeParts_85 : decode cX2_takeParts 85 = .ok (.aload_n 0, 1) := by decide +kernel
theorem dX2_takeParts_86 : decode cX2_takeParts 86 = .ok (.getfield 14, 3) := by decide +kernel
theorem dX2_takeParts_89 : decode cX2_takeParts 89 = .ok (.aload_n 0, 1) := by decide +kernel
theorem dX2_takeParts_90 : decode cX2_takeParts 90 = .ok (.getfield 23, 3) := by decide +kernel
theorem dX2_takeParts_93 : decode cX2_takeParts 93 = .ok (.invokevirtual 73, 3) := by decide +kernel
theorem dX2_takeParts_96 : decode cX2_takeParts 96 = .ok (.aload_n 0, 1) := by decide +kernel
theorem dX2_takeParts_97 : decode cX2_takeParts 97 = .ok (.getfield 26, 3) := by decide +kernel
theorem dX2_takeParts_100 : decode cX2_takeParts 100 = .ok (.aload_n 0, 1) := by decide +kernel
theorem dX2_takeParts_101 : decode cX2_takeParts 101 = .ok (.getfield 14, 3) := by decide +kernel
theorem dX2_takeParts_104 : decode cX2_takeParts 104 = .ok (.invokevirtual 37, 3) := by decide +kernel
theorem dX2_takeParts_107 : decode cX2_takeParts 107 = .ok (.aload_n 0, 1) := by decide +kernel
theorem dX2_takeParts_108 : decode cX2_takeParts 108 = .ok (.getfield 33, 3) := by decide +kernel
theorem dX2_takeParts_111 : decode cX2_takeParts 111 = .ok (.aload_n 0, 1) := by decide +kernel
theorem dX2_takeParts_112 : decode cX2_takeParts 112 = .ok (.getfield 23, 3) := by decide +kernel
theorem dX2_takeParts_115 : decode cX2_takeParts 115 = .ok (.aload_n 0, 1) := by decide +kernel
theorem dX2_takeParts_116 : decode cX2_takeParts 116 = .ok (.getfield 26, 3) := by decide +kernel
theorem dX2_takeParts_119 : decode cX2_takeParts 119 = .ok (.invokevirtual 70, 3) := by decide +kernel
theorem dX2_takeParts_122 : decode cX2_takeParts 122 = .ok (.iinc 3 1, 3) := by decide +kernel
theorem dX2_takeParts_125 : decode cX2_takeParts 125 = .ok (.goto (-72), 3) := by decide +kernel
theorem dX2_takeParts_128 : decode cX2_takeParts 128 = .ok (.iload_n 2, 1) := by decide +kernel
theorem dX2_takeParts_129 : decode cX2_takeParts 129 = .ok (.ireturn, 1) := by decide +kernel
theorem dX3_init_0 : decode cX3_init 0 = .ok (.aload_n 0, 1) := by decide +kernel
theorem dX3_init_1 : decode cX3_init 1 = .ok (.invokespecial 1, 3) := by decide +kernel
theorem dX3_init_4 : decode cX3_init 4 = .ok (.aload_n 0, 1) := by decide +kernel
theorem dX3_init_5 : decode cX3_init 5 = .ok (.iload_n 1, 1) := by decide +kernel
theorem dX3_init_6 : decode cX3_init 6 = .ok (.putfield 7, 3) := by decide +kernel
theorem dX3_init_9 : decode cX3_init 9 = .ok (.aload_n 0, 1) := by decide +kernel
theorem dX3_init_10 : decode cX3_init 10 = .ok (.iconst 1, 1) := by decide +kernel
theorem dX3_init_11 : decode cX3_init 11 = .ok (.iload_n 1, 1) := by decide +kernel
theorem dX3_init_12 : decode cX3_init 12 = .ok (.ishl, 1) := by decide +kernel
theorem dX3_init_13 : decode cX3_init 13 = .ok (.putfield 13, 3) := by decide +kernel
theorem dX3_init_16 : decode cX3_init 16 = .ok (.aload_n 0, 1) := by decide +kernel
theorem dX3_init_17 : decode cX3_init 17 = .ok (.aload_n 0, 1) := by decide +kernel
theorem dX3_init_18 : decode cX3_init 18 = .ok (.getfield 13, 3) := by decide +kernel
theorem dX3_init_21 : decode cX3_init 21 = .ok (.iconst 1, 1) := by decide +kernel
theorem dX3_init_22 : decode cX3_init 22 = .ok (.isub, 1) := by decide +kernel
theorem dX3_init_23 : decode cX3_init 23 = .ok (.putfield 16, 3) := by decide +kernel
theorem dX3_init_26 : decode cX3_init 26 = .ok (.aload_n 0, 1) := by decide +kernel
theorem dX3_init_27 : decode cX3_init 27 = .ok (.iload_n 1, 1) := by decide +kernel
theorem dX3_init_28 : decode cX3_init 28 = .ok (.iload_n 2, 1) := by decide +kernel
theorem dX3_init_29 : decode cX3_init 29 = .ok (.aload_n 0, 1) := by decide +kernel
theorem dX3_init_30 : decode cX3_init 30 = .ok (.getfield 16, 3) := by decide +kernel
theorem dX3_init_33 : decode cX3_init 33 = .ok (.iand, 1) := by decide +kernel
theorem dX3_init_34 : decode cX3_init 34 = .ok (.invokestatic 19, 3) := by decide +kernel
theorem dX3_init_37 : decode cX3_init 37 = .ok (.putfield 23, 3) := by decide +kernel
theorem dX3_init_40 : decode cX3_init 40 = .ok (.aload_n 0, 1) := by decide +kernel
theorem dX3_init_41 : decode cX3_init 41 = .ok (.aload_n 0, 1) := by decide +kernel
theorem dX3_init_42 : decode cX3_init 42 = .ok (.invokevirtual 26, 3) := by decide +kernel
theorem dX3_init_45 : decode cX3_init 45 = .ok (.putfield 30, 3) := by decide +kernel
theorem dX3_init_48 : decode cX3_init 48 = .ok (.aload_n 0, 1) := by decide +kernel
theorem dX3_init_49 : decode cX3_init 49 = .ok (.aload_n 0, 1) := by decide +kernel
theorem dX3_init_50 : decode cX3_init 50 = .ok (.getfield 13, 3) := by decide +kernel
theorem dX3_init_53 : decode cX3_init 53 = .ok (.newarray .int, 2) := by decide +kernel
theorem dX3_init_55 : decode cX3_init 55 = .ok (.putfield 33, 3) := by decide +kernel
theorem dX3_init_58 : decode cX3_init 58 = .ok (.iconst 1, 1) := by decide +kernel
theorem dX3_init_59 : decode cX3_init 59 = .ok (.istore_n 3, 1) := by decide +kernel
theorem dX3_init_60 : decode cX3_init 60 = .ok (.iconst 0, 1) := by decide +kernel
theorem dX3_init_61 : decode cX3_init 61 = .ok (.istore 4, 2) := by decide +kernel
theorem dX3_init_63 : decode cX3_init 63 = .ok (.iload 4, 2) := by decide +kernel
theorem dX3_init_65 : decode cX3_init 65 = .ok (.aload_n 0, 1) := by decide +kernel
theorem dX3_init_66 : decode cX3_init 66 = .ok (.getfield 16, 3) := by decide +kernel
theorem dX3_init_69 : decode cX3_init 69 = .ok (.if_icmp .ge 44, 3) := by decide +kernel
theorem dX3_init_72 : decode cX3_init 72 = .ok (.aload_n 0, 1) := by decide +kernel
theorem dX3_init_73 : decode cX3_init 73 = .ok (.getfield 33, 3) := by decide +kernel
theorem dX3_init_76 : decode cX3_init 76 = .ok (.iload 4, 2) := by decide +kernel
theorem dX3_init_78 : decode cX3_init 78 = .ok (.dup2, 1) := by decide +kernel
theorem dX3_init_79 : decode cX3_init 79 = .ok (.iaload, 1) := by decide +kernel
theorem dX3_init_80 : decode cX3_init 80 = .ok (.iload_n 3, 1) := by decide +kernel
theorem dX3_init_81 : decode cX3_init 81 = .ok (.bipush 16, 2) := by decide +kernel
theorem dX3_init_83 : decode cX3_init 83 = .ok (.ishl, 1) := by decide +kernel
theorem dX3_init_84 : decode cX3_init 84 = .ok (.ior, 1) := by decide +kernel
theorem dX3_init_85 : decode cX3_init 85 = .ok (.iastore, 1) := by decide +kernel
theorem dX3_init_86 : decode cX3_init 86 = .ok (.aload_n 0, 1) := by decide +kernel
theorem dX3_init_87 : decode cX3_init 87 = .ok (.getfield 33, 3) := by decide +kernel
theorem dX3_init_90 : decode cX3_init 90 = .ok (.iload_n 3, 1) := by decide +kernel
theorem dX3_init_91 : decode cX3_init 91 = .ok (.dup2, 1) := by decide +kernel
theorem dX3_init_92 : decode cX3_init 92 = .ok (.iaload, 1) := by decide +kernel
theorem dX3_init_93 : decode cX3_init 93 = .ok (.iload 4, 2) := by decide +kernel
theorem dX3_init_95 : decode cX3_init 95 = .ok (.ior, 1) := by decide +kernel
theorem dX3_init_96 : decode cX3_init 96 = .ok (.iastore, 1) := by decide +kernel
theorem dX3_init_97 : decode cX3_init 97 = .ok (.aload_n 0, 1) := by decide +kernel
theorem dX3_init_98 : decode cX3_init 98 = .ok (.iload_n 3, 1) := by decide +kernel
theorem dX3_init_99 : decode cX3_init 99 = .ok (.aload_n 0, 1) := by decide +kernel
theorem dX3_init_100 : decode cX3_init 100 = .ok (.getfield 30, 3) := by decide +kernel
theorem dX3_init_103 : decode cX3_init 103 = .ok (.invokevirtual 37, 3) := by decide +kernel
theorem dX3_init_106 : decode cX3_init 106 = .ok (.istore_n 3, 1) := by decide +kernel
theorem dX3_init_107 : decode cX3_init 107 = .ok (.iinc 4 1, 3) := by decide +kernel
theorem dX3_init_110 : decode cX3_init 110 = .ok (.goto (-47), 3) := by decide +kernel
theorem dX3_init_113 : decode cX3_init 113 = .ok (.return_, 1) := by decide +kernel
theorem dX3_firstUnsplit_0 : decode cX3_firstUnsplit 0 = .ok (.iconst 1, 1) := by decide +kernel
theorem dX3_firstUnsplit_1 : decode cX3_firstUnsplit 1 = .ok (.iload_n 0, 1) := by decide +kernel
theorem dX3_firstUnsplit_2 : decode cX3_firstUnsplit 2 = .ok (.ishl, 1) := by decide +kernel
theorem dX3_firstUnsplit_3 : decode cX3_firstUnsplit 3 = .ok (.istore_n 2, 1) := by decide +kernel
theorem dX3_firstUnsplit_4 : decode cX3_firstUnsplit 4 = .ok (.iconst 0, 1) := by decide +kernel
theorem dX3_firstUnsplit_5 : decode cX3_firstUnsplit 5 = .ok (.istore_n 3, 1) := by decide +kernel
theorem dX3_firstUnsplit_6 : decode cX3_firstUnsplit 6 = .ok (.iload_n 3, 1) := by decide +kernel
theorem dX3_firstUnsplit_7 : decode cX3_firstUnsplit 7 = .ok (.iload_n 2, 1) := by decide +kernel
theorem dX3_firstUnsplit_8 : decode cX3_firstUnsplit 8 = .ok (.if_icmp .ge 32, 3) := by decide +kernel
theorem dX3_firstUnsplit_11 : decode cX3_firstUnsplit 11 = .ok (.iload_n 1, 1) := by decide +kernel
theorem dX3_firstUnsplit_12 : decode cX3_firstUnsplit 12 = .ok (.iload_n 3, 1) := by decide +kernel
theorem dX3_firstUnsplit_13 : decode cX3_firstUnsplit 13 = .ok (.iadd, 1) := by decide +kernel
theorem dX3_firstUnsplit_14 : decode cX3_firstUnsplit 14 = .ok (.iload_n 2, 1) := by decide +kernel
theorem dX3_firstUnsplit_15 : decode cX3_firstUnsplit 15 = .ok (.iconst 1, 1) := by decide +kernel
theorem dX3_firstUnsplit_16 : decode cX3_firstUnsplit 16 = .ok (.isub, 1) := by decide +kernel
theorem dX3_firstUnsplit_17 : decode cX3_firstUnsplit 17 = .ok (.iand, 1) := by decide +kernel
theorem dX3_firstUnsplit_18 : decode cX3_firstUnsplit 18 = .ok (.istore 4, 2) := by decide +kernel
theorem dX3_firstUnsplit_20 : decode cX3_firstUnsplit 20 = .ok (.iload_n 2, 1) := by decide +kernel
theorem dX3_firstUnsplit_21 : decode cX3_firstUnsplit 21 = .ok (.iload 4, 2) := by decide +kernel
theorem dX3_firstUnsplit_23 : decode cX3_firstUnsplit 23 = .ok (.ior, 1) := by decide +kernel
theorem dX3_firstUnsplit_24 : decode cX3_firstUnsplit 24 = .ok (.iload_n 0, 1) := by decide +kernel
theorem dX3_firstUnsplit_25 : decode cX3_firstUnsplit 25 = .ok (.invokestatic 40, 3) := by decide +kernel
theorem dX3_firstUnsplit_28 : decode cX3_firstUnsplit 28 = .ok (.ifCond .ne 6, 3) := by decide +kernel
theorem dX3_firstUnsplit_31 : decode cX3_firstUnsplit 31 = .ok (.iload 4, 2) := by decide +kernel
theorem dX3_firstUnsplit_33 : decode cX3_firstUnsplit 33 = .ok (.ireturn, 1) := by decide +kernel
theorem dX3_firstUnsplit_34 : decode cX3_firstUnsplit 34 = .ok (.iinc 3 1, 3) := by decide +kernel
theorem dX3_firstUnsplit_37 : decode cX3_firstUnsplit 37 = .ok (.goto (-31), 3) := by decide +kernel
theorem dX3_firstUnsplit_40 : decode cX3_firstUnsplit 40 = .ok (.iload_n 1, 1) := by decide +kernel
theorem dX3_firstUnsplit_41 : decode cX3_firstUnsplit 41 = .ok (.ireturn, 1) := by decide +kernel
theorem dX3_splits_0 : decode cX3_splits 0 = .ok (.iconst 1, 1) := by decide +kernel
theorem dX3_splits_1 : decode cX3_splits 1 = .ok (.iload_n 1, 1) := by decide +kernel
theorem dX3_splits_2 : decode cX3_splits 2 = .ok (.iconst 2, 1) := by decide +kernel
theorem dX3_splits_3 : decode cX3_splits 3 = .ok (.idiv, 1) := by decide +kernel
theorem dX3_splits_4 : decode cX3_splits 4 = .ok (.iconst 1, 1) := by decide +kernel
theorem dX3_splits_5 : decode cX3_splits 5 = .ok (.iadd, 1) := by decide +kernel
theorem dX3_splits_6 : decode cX3_splits 6 = .ok (.ishl, 1) := by decide +kernel
theorem dX3_splits_7 : decode cX3_splits 7 = .ok (.istore_n 2, 1) := by decide +kernel
theorem dX3_splits_8 : decode cX3_splits 8 = .ok (.iconst 2, 1) := by decide +kernel
theorem dX3_splits_9 : decode cX3_splits 9 = .ok (.istore_n 3, 1) := by decide +kernel
theorem dX3_splits_10 : decode cX3_splits 10 = .ok (.iload_n 3, 1) := by decide +kernel
theorem dX3_splits_11 : decode cX3_splits 11 = .ok (.iload_n 2, 1) := by decide +kernel
theorem dX3_splits_12 : decode cX3_splits 12 = .ok (.if_icmp .ge 19, 3) := by decide +kernel
theorem dX3_splits_15 : decode cX3_splits 15 = .ok (.iload_n 0, 1) := by decide +kernel
theorem dX3_splits_16 : decode cX3_splits 16 = .ok (.iload_n 3, 1) := by decide +kernel
theorem dX3_splits_17 : decode cX3_splits 17 = .ok (.invokestatic 44, 3) := by decide +kernel
theorem dX3_splits_20 : decode cX3_splits 20 = .ok (.ifCond .ne 5, 3) := by decide +kernel
theorem dX3_splits_23 : decode cX3_splits 23 = .ok (.iconst 1, 1) := by decide +kernel
theorem dX3_splits_24 : decode cX3_splits 24 = .ok (.ireturn, 1) := by decide +kernel
theorem dX3_splits_25 : decode cX3_splits 25 = .ok (.iinc 3 1, 3) := by decide +kernel
theorem dX3_splits_28 : decode cX3_splits 28 = .ok (.goto (-18), 3) := by decide +kernel
theorem dX3_splits_31 : decode cX3_splits 31 = .ok (.iconst 0, 1) := by decide +kernel
theorem dX3_splits_32 : decode cX3_splits 32 = .ok (.ireturn, 1) := by decide +kernel
theorem dX3_restOfBits_0 : decode cX3_restOfBits 0 = .ok (.iload_n 1, 1) := by decide +kernel
theorem dX3_restOfBits_1 : decode cX3_restOfBits 1 = .ok (.invokestatic 47, 3) := by decide +kernel
theorem dX3_restOfBits_4 : decode cX3_restOfBits 4 = .ok (.istore_n 2, 1) := by decide +kernel
theorem dX3_restOfBits_5 : decode cX3_restOfBits 5 = .ok (.iload_n 0, 1) := by decide +kernel
theorem dX3_restOfBits_6 : decode cX3_restOfBits 6 = .ok (.istore_n 3, 1) := by decide +kernel
theorem dX3_restOfBits_7 : decode cX3_restOfBits 7 = .ok (.iload_n 0, 1) := by decide +kernel
theorem dX3_restOfBits_8 : decode cX3_restOfBits 8 = .ok (.invokestatic 47, 3) := by decide +kernel
theorem dX3_restOfBits_11 : decode cX3_restOfBits 11 = .ok (.istore 4, 2) := by decide +kernel
theorem dX3_restOfBits_13 : decode cX3_restOfBits 13 = .ok (.iload 4, 2) := by decide +kernel
theorem dX3_restOfBits_15 : decode cX3_restOfBits 15 = .ok (.iload_n 2, 1) := by decide +kernel
theorem dX3_restOfBits_16 : decode cX3_restOfBits 16 = .ok (.if_icmp .lt 27, 3) := by decide +kernel
theorem dX3_restOfBits_19 : decode cX3_restOfBits 19 = .ok (.iload_n 3, 1) := by decide +kernel
theorem dX3_restOfBits_20 : decode cX3_restOfBits 20 = .ok (.iload 4, 2) := by decide +kernel
theorem dX3_restOfBits_22 : decode cX3_restOfBits 22 = .ok (.ishr, 1) := by decide +kernel
theorem dX3_restOfBits_23 : decode cX3_restOfBits 23 = .ok (.iconst 1, 1) := by decide +kernel
theorem dX3_restOfBits_24 : decode cX3_restOfBits 24 = .ok (.iand, 1) := by decide +kernel
theorem dX3_restOfBits_25 : decode cX3_restOfBits 25 = .ok (.ifCond .eq 12, 3) := by decide +kernel
theorem dX3_restOfBits_28 : decode cX3_restOfBits 28 = .ok (.iload_n 3, 1) := by decide +kernel
theorem dX3_restOfBits_29 : decode cX3_restOfBits 29 = .ok (.iload_n 1, 1) := by decide +kernel
theorem dX3_restOfBits_30 : decode cX3_restOfBits 30 = .ok (.iload 4, 2) := by decide +kernel
theorem dX3_restOfBits_32 : decode cX3_restOfBits 32 = .ok (.iload_n 2, 1) := by decide +kernel
theorem dX3_restOfBits_33 : decode cX3_restOfBits 33 = .ok (.isub, 1) := by decide +kernel
theorem dX3_restOfBits_34 : decode cX3_restOfBits 34 = .ok (.ishl, 1) := by decide +kernel
theorem dX3_restOfBits_35 : decode cX3_restOfBits 35 = .ok (.ixor, 1) := by decide +kernel
theorem dX3_restOfBits_36 : decode cX3_restOfBits 36 = .ok (.istore_n 3, 1) := by decide +kernel
theorem dX3_restOfBits_37 : decode cX3_restOfBits 37 = .ok (.iinc 4 (-1), 3) := by decide +kernel
theorem dX3_restOfBits_40 : decode cX3_restOfBits 40 = .ok (.goto (-27), 3) := by decide +kernel
theorem dX3_restOfBits_43 : decode cX3_restOfBits 43 = .ok (.iload_n 3, 1) := by decide +kernel
theorem dX3_restOfBits_44 : decode cX3_restOfBits 44 = .ok (.ireturn, 1) := by decide +kernel
theorem dX3_highestBit_0 : decode cX3_highestBit 0 = .ok (.bipush 31, 2) := by decide +kernel
theorem dX3_highestBit_2 : decode cX3_highestBit 2 = .ok (.iload_n 0, 1) := by decide +kernel
theorem dX3_highestBit_3 : decode cX3_highestBit 3 = .ok (.invokestatic 51, 3) := by decide +kernel
theorem dX3_highestBit_6 : decode cX3_highestBit 6 = .ok (.isub, 1) := by decide +kernel
theorem dX3_highestBit_7 : decode cX3_highestBit 7 = .ok (.ireturn, 1) := by decide +kernel
theorem dX3_slowProduct_0 : decode cX3_slowProduct 0 = .ok (.iconst 0, 1) := by decide +kernel
theorem dX3_slowProduct_1 : decode cX3_slowProduct 1 = .ok (.istore_n 3, 1) := by decide +kernel
theorem dX3_slowProduct_2 : decode cX3_slowProduct 2 = .ok (.iload_n 1, 1) := by decide +kernel
theorem dX3_slowProduct_3 : decode cX3_slowProduct 3 = .ok (.istore 4, 2) := by decide +kernel
theorem dX3_slowProduct_5 : decode cX3_slowProduct 5 = .ok (.iconst 0, 1) := by decide +kernel
theorem dX3_slowProduct_6 : decode cX3_slowProduct 6 = .ok (.istore 5, 2) := by decide +kernel
theorem dX3_slowProduct_8 : decode cX3_slowProduct 8 = .ok (.iload 5, 2) := by decide +kernel
theorem dX3_slowProduct_10 : decode cX3_slowProduct 10 = .ok (.aload_n 0, 1) := by decide +kernel
theorem dX3_slowProduct_11 : decode cX3_slowProduct 11 = .ok (.getfield 7, 3) := by decide +kernel
theorem dX3_slowProduct_14 : decode cX3_slowProduct 14 = .ok (.if_icmp .ge 59, 3) := by decide +kernel
theorem dX3_slowProduct_17 : decode cX3_slowProduct 17 = .ok (.iload_n 2, 1) := by decide +kernel
theorem dX3_slowProduct_18 : decode cX3_slowProduct 18 = .ok (.iload 5, 2) := by decide +kernel
theorem dX3_slowProduct_20 : decode cX3_slowProduct 20 = .ok (.ishr, 1) := by decide +kernel
theorem dX3_slowProduct_21 : decode cX3_slowProduct 21 = .ok (.ifCond .eq 52, 3) := by decide +kernel
theorem dX3_slowProduct_24 : decode cX3_slowProduct 24 = .ok (.iload_n 2, 1) := by decide +kernel
theorem dX3_slowProduct_25 : decode cX3_slowProduct 25 = .ok (.iload 5, 2) := by decide +kernel
theorem dX3_slowProduct_27 : decode cX3_slowProduct 27 = .ok (.ishr, 1) := by decide +kernel
theorem dX3_slowProduct_28 : decode cX3_slowProduct 28 = .ok (.iconst 1, 1) := by decide +kernel
theorem dX3_slowProduct_29 : decode cX3_slowProduct 29 = .ok (.iand, 1) := by decide +kernel
theorem dX3_slowProduct_30 : decode cX3_slowProduct 30 = .ok (.ifCond .eq 8, 3) := by decide +kernel
theorem dX3_slowProduct_33 : decode cX3_slowProduct 33 = .ok (.iload_n 3, 1) := by decide +kernel
theorem dX3_slowProduct_34 : decode cX3_slowProduct 34 = .ok (.iload 4, 2) := by decide +kernel
theorem dX3_slowProduct_36 : decode cX3_slowProduct 36 = .ok (.ixor, 1) := by decide +kernel
theorem dX3_slowProduct_37 : decode cX3_slowProduct 37 = .ok (.istore_n 3, 1) := by decide +kernel
theorem dX3_slowProduct_38 : decode cX3_slowProduct 38 = .ok (.iload 4, 2) := by decide +kernel
theorem dX3_slowProduct_40 : decode cX3_slowProduct 40 = .ok (.iconst 1, 1) := by decide +kernel
theorem dX3_slowProduct_41 : decode cX3_slowProduct 41 = .ok (.ishl, 1) := by decide +kernel
theorem dX3_slowProduct_42 : decode cX3_slowProduct 42 = .ok (.istore 4, 2) := by decide +kernel
theorem dX3_slowProduct_44 : decode cX3_slowProduct 44 = .ok (.iload 4, 2) := by decide +kernel
theorem dX3_slowProduct_46 : decode cX3_slowProduct 46 = .ok (.aload_n 0, 1) := by decide +kernel
theorem dX3_slowProduct_47 : decode cX3_slowProduct 47 = .ok (.getfield 13, 3) := by decide +kernel
theorem dX3_slowProduct_50 : decode cX3_slowProduct 50 = .ok (.if_icmp .lt 17, 3) := by decide +kernel
theorem dX3_slowProduct_53 : decode cX3_slowProduct 53 = .ok (.iload 4, 2) := by decide +kernel
theorem dX3_slowProduct_55 : decode cX3_slowProduct 55 = .ok (.aload_n 0, 1) := by decide +kernel
theorem dX3_slowProduct_56 : decode cX3_slowProduct 56 = .ok (.getfield 13, 3) := by decide +kernel
theorem dX3_slowProduct_59 : decode cX3_slowProduct 59 = .ok (.aload_n 0, 1) := by decide +kernel
theorem dX3_slowProduct_60 : decode cX3_slowProduct 60 = .ok (.getfield 23, 3) := by decide +kernel
theorem dX3_slowProduct_63 : decode cX3_slowProduct 63 = .ok (.ior, 1) := by decide +kernel
theorem dX3_slowProduct_64 : decode cX3_slowProduct 64 = .ok (.ixor, 1) := by decide +kernel
theorem dX3_slowProduct_65 : decode cX3_slowProduct 65 = .ok (.istore 4, 2) := by decide +kernel
theorem dX3_slowProduct_67 : decode cX3_slowProduct 67 = .ok (.iinc 5 1, 3) := by decide +kernel
theorem dX3_slowProduct_70 : decode cX3_slowProduct 70 = .ok (.goto (-62), 3) := by decide +kernel
theorem dX3_slowProduct_73 : decode cX3_slowProduct 73 = .ok (.iload_n 3, 1) := by decide +kernel
theorem dX3_slowProduct_74 : decode cX3_slowProduct 74 = .ok (.ireturn, 1) := by decide +kernel
theorem dX3_slowPower_0 : decode cX3_slowPower 0 = .ok (.iconst 1, 1) := by decide +kernel
theorem dX3_slowPower_1 : decode cX3_slowPower 1 = .ok (.istore_n 3, 1) := by decide +kernel
theorem dX3_slowPower_2 : decode cX3_slowPower 2 = .ok (.iload_n 1, 1) := by decide +kernel
theorem dX3_slowPower_3 : decode cX3_slowPower 3 = .ok (.istore 4, 2) := by decide +kernel
theorem dX3_slowPower_5 : decode cX3_slowPower 5 = .ok (.iconst 0, 1) := by decide +kernel
theorem dX3_slowPower_6 : decode cX3_slowPower 6 = .ok (.istore 5, 2) := by decide +kernel
theorem dX3_slowPower_8 : decode cX3_slowPower 8 = .ok (.iload 5, 2) := by decide +kernel
theorem dX3_slowPower_10 : decode cX3_slowPower 10 = .ok (.aload_n 0, 1) := by decide +kernel
theorem dX3_slowPower_11 : decode cX3_slowPower 11 = .ok (.getfield 7, 3) := by decide +kernel
theorem dX3_slowPower_14 : decode cX3_slowPower 14 = .ok (.if_icmp .ge 36, 3) := by decide +kernel
theorem dX3_slowPower_17 : decode cX3_slowPower 17 = .ok (.iload_n 2, 1) := by decide +kernel
theorem dX3_slowPower_18 : decode cX3_slowPower 18 = .ok (.iload 5, 2) := by decide +kernel
theorem dX3_slowPower_20 : decode cX3_slowPower 20 = .ok (.ishr, 1) := by decide +kernel
theorem dX3_slowPower_21 : decode cX3_slowPower 21 = .ok (.iconst 1, 1) := by decide +kernel
theorem dX3_slowPower_22 : decode cX3_slowPower 22 = .ok (.iand, 1) := by decide +kernel
theorem dX3_slowPower_23 : decode cX3_slowPower 23 = .ok (.ifCond .eq 11, 3) := by decide +kernel
theorem dX3_slowPower_26 : decode cX3_slowPower 26 = .ok (.aload_n 0, 1) := by decide +kernel
theorem dX3_slowPower_27 : decode cX3_slowPower 27 = .ok (.iload_n 3, 1) := by decide +kernel
theorem dX3_slowPower_28 : decode cX3_slowPower 28 = .ok (.iload 4, 2) := by decide +kernel
theorem dX3_slowPower_30 : decode cX3_slowPower 30 = .ok (.invokevirtual 37, 3) := by decide +kernel
theorem dX3_slowPower_33 : decode cX3_slowPower 33 = .ok (.istore_n 3, 1) := by decide +kernel
theorem dX3_slowPower_34 : decode cX3_slowPower 34 = .ok (.aload_n 0, 1) := by decide +kernel
theorem dX3_slowPower_35 : decode cX3_slowPower 35 = .ok (.iload 4, 2) := by decide +kernel
theorem dX3_slowPower_37 : decode cX3_slowPower 37 = .ok (.iload 4, 2) := by decide +kernel
theorem dX3_slowPower_39 : decode cX3_slowPower 39 = .ok (.invokevirtual 37, 3) := by decide +kernel
theorem dX3_slowPower_42 : decode cX3_slowPower 42 = .ok (.istore 4, 2) := by decide +kernel
theorem dX3_slowPower_44 : decode cX3_slowPower 44 = .ok (.iinc 5 1, 3) := by decide +kernel
theorem dX3_slowPower_47 : decode cX3_slowPower 47 = .ok (.goto (-39), 3) := by decide +kernel
theorem dX3_slowPower_50 : decode cX3_slowPower 50 = .ok (.iload_n 3, 1) := by decide +kernel
theorem dX3_slowPower_51 : decode cX3_slowPower 51 = .ok (.ireturn, 1) := by decide +kernel
theorem dX3_leastGenerator_0 : decode cX3_leastGenerator 0 = .ok (.iconst 2, 1) := by decide +kernel
theorem dX3_leastGenerator_1 : decode cX3_leastGenerator 1 = .ok (.istore_n 1, 1) := by decide +kernel
theorem dX3_leastGenerator_2 : decode cX3_leastGenerator 2 = .ok (.iload_n 1, 1) := by decide +kernel
theorem dX3_leastGenerator_3 : decode cX3_leastGenerator 3 = .ok (.aload_n 0, 1) := by decide +kernel
theorem dX3_leastGenerator_4 : decode cX3_leastGenerator 4 = .ok (.getfield 13, 3) := by decide +kernel
theorem dX3_leastGenerator_7 : decode cX3_leastGenerator 7 = .ok (.if_icmp .ge 19, 3) := by decide +kernel
theorem dX3_leastGenerator_10 : decode cX3_leastGenerator 10 = .ok (.aload_n 0, 1) := by decide +kernel
theorem dX3_leastGenerator_11 : decode cX3_leastGenerator 11 = .ok (.iload_n 1, 1) := by decide +kernel
theorem dX3_leastGenerator_12 : decode cX3_leastGenerator 12 = .ok (.invokevirtual 56, 3) := by decide +kernel
theorem dX3_leastGenerator_15 : decode cX3_leastGenerator 15 = .ok (.ifCond .eq 5, 3) := by decide +kernel
theorem dX3_leastGenerator_18 : decode cX3_leastGenerator 18 = .ok (.iload_n 1, 1) := by decide +kernel
theorem dX3_leastGenerator_19 : decode cX3_leastGenerator 19 = .ok (.ireturn, 1) := by decide +kernel
theorem dX3_leastGenerator_20 : decode cX3_leastGenerator 20 = .ok (.iinc 1 1, 3) := by decide +kernel
theorem dX3_leastGenerator_23 : decode cX3_leastGenerator 23 = .ok (.goto (-21), 3) := by decide +kernel
theorem dX3_leastGenerator_26 : decode cX3_leastGenerator 26 = .ok (.iconst 1, 1) := by decide +kernel
theorem dX3_leastGenerator_27 : decode cX3_leastGenerator 27 = .ok (.ireturn, 1) := by decide +kernel
theorem dX3_generates_0 : decode cX3_generates 0 = .ok (.getstatic 60, 3) := by decide +kernel
theorem dX3_generates_3 : decode cX3_generates 3 = .ok (.astore_n 2, 1) := by decide +kernel
theorem dX3_generates_4 : decode cX3_generates 4 = .ok (.aload_n 2, 1) := by decide +kernel
theorem dX3_generates_5 : decode cX3_generates 5 = .ok (.arraylength, 1) := by decide +kernel
theorem dX3_generates_6 : decode cX3_generates 6 = .ok (.istore_n 3, 1) := by decide +kernel
theorem dX3_generates_7 : decode cX3_generates 7 = .ok (.iconst 0, 1) := by decide +kernel
theorem dX3_generates_8 : decode cX3_generates 8 = .ok (.istore 4, 2) := by decide +kernel
theorem dX3_generates_10 : decode cX3_generates 10 = .ok (.iload 4, 2) := by decide +kernel
theorem dX3_generates_12 : decode cX3_generates 12 = .ok (.iload_n 3, 1) := by decide +kernel
theorem dX3_generates_13 : decode cX3_generates 13 = .ok (.if_icmp .ge 43, 3) := by decide +kernel
theorem dX3_generates_16 : decode cX3_generates 16 = .ok (.aload_n 2, 1) := by decide +kernel
theorem dX3_generates_17 : decode cX3_generates 17 = .ok (.iload 4, 2) := by decide +kernel
theorem dX3_generates_19 : decode cX3_generates 19 = .ok (.iaload, 1) := by decide +kernel
theorem dX3_generates_20 : decode cX3_generates 20 = .ok (.istore 5, 2) := by decide +kernel
theorem dX3_generates_22 : decode cX3_generates 22 = .ok (.aload_n 0, 1) := by decide +kernel
theorem dX3_generates_23 : decode cX3_generates 23 = .ok (.getfield 16, 3) := by decide +kernel
theorem dX3_generates_26 : decode cX3_generates 26 = .ok (.iload 5, 2) := by decide +kernel
theorem dX3_generates_28 : decode cX3_generates 28 = .ok (.irem, 1) := by decide +kernel
theorem dX3_generates_29 : decode cX3_generates 29 = .ok (.ifCond .ne 21, 3) := by decide +kernel
theorem dX3_generates_32 : decode cX3_generates 32 = .ok (.aload_n 0, 1) := by decide +kernel
theorem dX3_generates_33 : decode cX3_generates 33 = .ok (.iload_n 1, 1) := by decide +kernel
theorem dX3_generates_34 : decode cX3_generates 34 = .ok (.aload_n 0, 1) := by decide +kernel
theorem dX3_generates_35 : decode cX3_generates 35 = .ok (.getfield 16, 3) := by decide +kernel
theorem dX3_generates_38 : decode cX3_generates 38 = .ok (.iload 5, 2) := by decide +kernel
theorem dX3_generates_40 : decode cX3_generates 40 = .ok (.idiv, 1) := by decide +kernel
theorem dX3_generates_41 : decode cX3_generates 41 = .ok (.invokevirtual 63, 3) := by decide +kernel
theorem dX3_generates_44 : decode cX3_generates 44 = .ok (.iconst 1, 1) := by decide +kernel
theorem dX3_generates_45 : decode cX3_generates 45 = .ok (.if_icmp .ne 5, 3) := by decide +kernel
theorem dX3_generates_48 : decode cX3_generates 48 = .ok (.iconst 0, 1) := by decide +kernel
theorem dX3_generates_49 : decode cX3_generates 49 = .ok (.ireturn, 1) := by decide +kernel
theorem dX3_generates_50 : decode cX3_generates 50 = .ok (.iinc 4 1, 3) := by decide +kernel
theorem dX3_generates_53 : decode cX3_generates 53 = .ok (.goto (-43), 3) := by decide +kernel
theorem dX3_generates_56 : decode cX3_generates 56 = .ok (.iconst 1, 1) := by decide +kernel
theorem dX3_generates_57 : decode cX3_generates 57 = .ok (.ireturn, 1) := by decide +kernel
theorem dX3_logOf_0 : decode cX3_logOf 0 = .ok (.aload_n 0, 1) := by decide +kernel
theorem dX3_logOf_1 : decode cX3_logOf 1 = .ok (.getfield 33, 3) := by decide +kernel
theorem dX3_logOf_4 : decode cX3_logOf 4 = .ok (.iload_n 1, 1) := by decide +kernel
theorem dX3_logOf_5 : decode cX3_logOf 5 = .ok (.iaload, 1) := by decide +kernel
theorem dX3_logOf_6 : decode cX3_logOf 6 = .ok (.ldc 66, 2) := by decide +kernel
theorem dX3_logOf_8 : decode cX3_logOf 8 = .ok (.iand, 1) := by decide +kernel
theorem dX3_logOf_9 : decode cX3_logOf 9 = .ok (.ireturn, 1) := by decide +kernel
theorem dX3_mul_0 : decode cX3_mul 0 = .ok (.iload_n 1, 1) := by decide +kernel
theorem dX3_mul_1 : decode cX3_mul 1 = .ok (.ifCond .eq 7, 3) := by decide +kernel
theorem dX3_mul_4 : decode cX3_mul 4 = .ok (.iload_n 2, 1) := by decide +kernel
theorem dX3_mul_5 : decode cX3_mul 5 = .ok (.ifCond .ne 5, 3) := by decide +kernel
theorem dX3_mul_8 : decode cX3_mul 8 = .ok (.iconst 0, 1) := by decide +kernel
theorem dX3_mul_9 : decode cX3_mul 9 = .ok (.ireturn, 1) := by decide +kernel
theorem dX3_mul_10 : decode cX3_mul 10 = .ok (.aload_n 0, 1) := by decide +kernel
theorem dX3_mul_11 : decode cX3_mul 11 = .ok (.getfield 33, 3) := by decide +kernel
theorem dX3_mul_14 : decode cX3_mul 14 = .ok (.iload_n 1, 1) := by decide +kernel
theorem dX3_mul_15 : decode cX3_mul 15 = .ok (.iaload, 1) := by decide +kernel
theorem dX3_mul_16 : decode cX3_mul 16 = .ok (.ldc 66, 2) := by decide +kernel
theorem dX3_mul_18 : decode cX3_mul 18 = .ok (.iand, 1) := by decide +kernel
theorem dX3_mul_19 : decode cX3_mul 19 = .ok (.aload_n 0, 1) := by decide +kernel
theorem dX3_mul_20 : decode cX3_mul 20 = .ok (.getfield 33, 3) := by decide +kernel
theorem dX3_mul_23 : decode cX3_mul 23 = .ok (.iload_n 2, 1) := by decide +kernel
theorem dX3_mul_24 : decode cX3_mul 24 = .ok (.iaload, 1) := by decide +kernel
theorem dX3_mul_25 : decode cX3_mul 25 = .ok (.ldc 66, 2) := by decide +kernel
theorem dX3_mul_27 : decode cX3_mul 27 = .ok (.iand, 1) := by decide +kernel
theorem dX3_mul_28 : decode cX3_mul 28 = .ok (.iadd, 1) := by decide +kernel
theorem dX3_mul_29 : decode cX3_mul 29 = .ok (.istore_n 3, 1) := by decide +kernel
theorem dX3_mul_30 : decode cX3_mul 30 = .ok (.aload_n 0, 1) := by decide +kernel
theorem dX3_mul_31 : decode cX3_mul 31 = .ok (.getfield 33, 3) := by decide +kernel
theorem dX3_mul_34 : decode cX3_mul 34 = .ok (.iload_n 3, 1) := by decide +kernel
theorem dX3_mul_35 : decode cX3_mul 35 = .ok (.aload_n 0, 1) := by decide +kernel
theorem dX3_mul_36 : decode cX3_mul 36 = .ok (.getfield 16, 3) := by decide +kernel
theorem dX3_mul_39 : decode cX3_mul 39 = .ok (.if_icmp .ge 7, 3) := by decide +kernel
theorem dX3_mul_42 : decode cX3_mul 42 = .ok (.iload_n 3, 1) := by decide +kernel
theorem dX3_mul_43 : decode cX3_mul 43 = .ok (.goto 9, 3) := by decide +kernel
theorem dX3_mul_46 : decode cX3_mul 46 = .ok (.iload_n 3, 1) := by decide +kernel
theorem dX3_mul_47 : decode cX3_mul 47 = .ok (.aload_n 0, 1) := by decide +kernel
theorem dX3_mul_48 : decode cX3_mul 48 = .ok (.getfield 16, 3) := by decide +kernel
theorem dX3_mul_51 : decode cX3_mul 51 = .ok (.isub, 1) := by decide +kernel
theorem dX3_mul_52 : decode cX3_mul 52 = .ok (.iaload, 1) := by decide +kernel
theorem dX3_mul_53 : decode cX3_mul 53 = .ok (.bipush 16, 2) := by decide +kernel
theorem dX3_mul_55 : decode cX3_mul 55 = .ok (.iushr, 1) := by decide +kernel
theorem dX3_mul_56 : decode cX3_mul 56 = .ok (.ireturn, 1) := by decide +kernel
theorem dX3_inverse_0 : decode cX3_inverse 0 = .ok (.aload_n 0, 1) := by decide +kernel
theorem dX3_inverse_1 : decode cX3_inverse 1 = .ok (.getfield 33, 3) := by decide +kernel
theorem dX3_inverse_4 : decode cX3_inverse 4 = .ok (.iload_n 1, 1) := by decide +kernel
theorem dX3_inverse_5 : decode cX3_inverse 5 = .ok (.iaload, 1) := by decide +kernel
theorem dX3_inverse_6 : decode cX3_inverse 6 = .ok (.ldc 66, 2) := by decide +kernel
theorem dX3_inverse_8 : decode cX3_inverse 8 = .ok (.iand, 1) := by decide +kernel
theorem dX3_inverse_9 : decode cX3_inverse 9 = .ok (.istore_n 2, 1) := by decide +kernel
theorem dX3_inverse_10 : decode cX3_inverse 10 = .ok (.iload_n 1, 1) := by decide +kernel
theorem dX3_inverse_11 : decode cX3_inverse 11 = .ok (.ifCond .ne 7, 3) := by decide +kernel
theorem dX3_inverse_14 : decode cX3_inverse 14 = .ok (.iconst 0, 1) := by decide +kernel
theorem dX3_inverse_15 : decode cX3_inverse 15 = .ok (.goto 25, 3) := by decide +kernel
theorem dX3_inverse_18 : decode cX3_inverse 18 = .ok (.aload_n 0, 1) := by decide +kernel
theorem dX3_inverse_19 : decode cX3_inverse 19 = .ok (.getfield 33, 3) := by decide +kernel
theorem dX3_inverse_22 : decode cX3_inverse 22 = .ok (.iload_n 2, 1) := by decide +kernel
theorem dX3_inverse_23 : decode cX3_inverse 23 = .ok (.ifCond .ne 7, 3) := by decide +kernel
theorem dX3_inverse_26 : decode cX3_inverse 26 = .ok (.iconst 0, 1) := by decide +kernel
theorem dX3_inverse_27 : decode cX3_inverse 27 = .ok (.goto 9, 3) := by decide +kernel
theorem dX3_inverse_30 : decode cX3_inverse 30 = .ok (.aload_n 0, 1) := by decide +kernel
theorem dX3_inverse_31 : decode cX3_inverse 31 = .ok (.getfield 16, 3) := by decide +kernel
theorem dX3_inverse_34 : decode cX3_inverse 34 = .ok (.iload_n 2, 1) := by decide +kernel
theorem dX3_inverse_35 : decode cX3_inverse 35 = .ok (.isub, 1) := by decide +kernel
theorem dX3_inverse_36 : decode cX3_inverse 36 = .ok (.iaload, 1) := by decide +kernel
theorem dX3_inverse_37 : decode cX3_inverse 37 = .ok (.bipush 16, 2) := by decide +kernel
theorem dX3_inverse_39 : decode cX3_inverse 39 = .ok (.iushr, 1) := by decide +kernel
theorem dX3_inverse_40 : decode cX3_inverse 40 = .ok (.ireturn, 1) := by decide +kernel
theorem dX3_ratio_0 : decode cX3_ratio 0 = .ok (.aload_n 0, 1) := by decide +kernel
theorem dX3_ratio_1 : decode cX3_ratio 1 = .ok (.iload_n 1, 1) := by decide +kernel
theorem dX3_ratio_2 : decode cX3_ratio 2 = .ok (.aload_n 0, 1) := by decide +kernel
theorem dX3_ratio_3 : decode cX3_ratio 3 = .ok (.iload_n 2, 1) := by decide +kernel
theorem dX3_ratio_4 : decode cX3_ratio 4 = .ok (.invokevirtual 67, 3) := by decide +kernel
theorem dX3_ratio_7 : decode cX3_ratio 7 = .ok (.invokevirtual 70, 3) := by decide +kernel
theorem dX3_ratio_10 : decode cX3_ratio 10 = .ok (.ireturn, 1) := by decide +kernel
theorem dX3_raised_0 : decode cX3_raised 0 = .ok (.iload_n 1, 1) := by decide +kernel
theorem dX3_raised_1 : decode cX3_raised 1 = .ok (.ifCond .ne 15, 3) := by decide +kernel
theorem dX3_raised_4 : decode cX3_raised 4 = .ok (.lload_n 2, 1) := by decide +kernel
theorem dX3_raised_5 : decode cX3_raised 5 = .ok (.lconst 0, 1) := by decide +kernel
theorem dX3_raised_6 : decode cX3_raised 6 = .ok (.lcmp, 1) := by decide +kernel
theorem dX3_raised_7 : decode cX3_raised 7 = .ok (.ifCond .ne 7, 3) := by decide +kernel
theorem dX3_raised_10 : decode cX3_raised 10 = .ok (.iconst 1, 1) := by decide +kernel
theorem dX3_raised_11 : decode cX3_raised 11 = .ok (.goto 4, 3) := by decide +kernel
theorem dX3_raised_14 : decode cX3_raised 14 = .ok (.iconst 0, 1) := by decide +kernel
theorem dX3_raised_15 : decode cX3_raised 15 = .ok (.ireturn, 1) := by decide +kernel
theorem dX3_raised_16 : decode cX3_raised 16 = .ok (.lload_n 2, 1) := by decide +kernel
theorem dX3_raised_17 : decode cX3_raised 17 = .ok (.aload_n 0, 1) := by decide +kernel
theorem dX3_raised_18 : decode cX3_raised 18 = .ok (.getfield 16, 3) := by decide +kernel
theorem dX3_raised_21 : decode cX3_raised 21 = .ok (.i2l, 1) := by decide +kernel
theorem dX3_raised_22 : decode cX3_raised 22 = .ok (.lrem, 1) := by decide +kernel
theorem dX3_raised_23 : decode cX3_raised 23 = .ok (.lstore 4, 2) := by decide +kernel
theorem dX3_raised_25 : decode cX3_raised 25 = .ok (.lload 4, 2) := by decide +kernel
theorem dX3_raised_27 : decode cX3_raised 27 = .ok (.lconst 0, 1) := by decide +kernel
theorem dX3_raised_28 : decode cX3_raised 28 = .ok (.lcmp, 1) := by decide +kernel
theorem dX3_raised_29 : decode cX3_raised 29 = .ok (.ifCond .ge 14, 3) := by decide +kernel
theorem dX3_raised_32 : decode cX3_raised 32 = .ok (.lload 4, 2) := by decide +kernel
theorem dX3_raised_34 : decode cX3_raised 34 = .ok (.aload_n 0, 1) := by decide +kernel
theorem dX3_raised_35 : decode cX3_raised 35 = .ok (.getfield 16, 3) := by decide +kernel
theorem dX3_raised_38 : decode cX3_raised 38 = .ok (.i2l, 1) := by decide +kernel
theorem dX3_raised_39 : decode cX3_raised 39 = .ok (.ladd, 1) := by decide +kernel
theorem dX3_raised_40 : decode cX3_raised 40 = .ok (.goto 5, 3) := by decide +kernel
theorem dX3_raised_43 : decode cX3_raised 43 = .ok (.lload 4, 2) := by decide +kernel
theorem dX3_raised_45 : decode cX3_raised 45 = .ok (.lstore 6, 2) := by decide +kernel
theorem dX3_raised_47 : decode cX3_raised 47 = .ok (.aload_n 0, 1) := by decide +kernel
theorem dX3_raised_48 : decode cX3_raised 48 = .ok (.getfield 33, 3) := by decide +kernel
theorem dX3_raised_51 : decode cX3_raised 51 = .ok (.aload_n 0, 1) := by decide +kernel
theorem dX3_raised_52 : decode cX3_raised 52 = .ok (.iload_n 1, 1) := by decide +kernel
theorem dX3_raised_53 : decode cX3_raised 53 = .ok (.invokevirtual 73, 3) := by decide +kernel
theorem dX3_raised_56 : decode cX3_raised 56 = .ok (.i2l, 1) := by decide +kernel
theorem dX3_raised_57 : decode cX3_raised 57 = .ok (.lload 6, 2) := by decide +kernel
theorem dX3_raised_59 : decode cX3_raised 59 = .ok (.lmul, 1) := by decide +kernel
theorem dX3_raised_60 : decode cX3_raised 60 = .ok (.aload_n 0, 1) := by decide +kernel
theorem dX3_raised_61 : decode cX3_raised 61 = .ok (.getfield 16, 3) := by decide +kernel
theorem dX3_raised_64 : decode cX3_raised 64 = .ok (.i2l, 1) := by decide +kernel
theorem dX3_raised_65 : decode cX3_raised 65 = .ok (.lrem, 1) := by decide +kernel
theorem dX3_raised_66 : decode cX3_raised 66 = .ok (.l2i, 1) := by decide +kernel
theorem dX3_raised_67 : decode cX3_raised 67 = .ok (.iaload, 1) := by decide +kernel
theorem dX3_raised_68 : decode cX3_raised 68 = .ok (.bipush 16, 2) := by decide +kernel
theorem dX3_raised_70 : decode cX3_raised 70 = .ok (.iushr, 1) := by decide +kernel
theorem dX3_raised_71 : decode cX3_raised 71 = .ok (.ireturn, 1) := by decide +kernel
theorem dX3_orderOf_0 : decode cX3_orderOf 0 = .ok (.iload_n 1, 1) := by decide +kernel
theorem dX3_orderOf_1 : decode cX3_orderOf 1 = .ok (.ifCond .ne 5, 3) := by decide +kernel
theorem dX3_orderOf_4 : decode cX3_orderOf 4 = .ok (.iconst 0, 1) := by decide +kernel
theorem dX3_orderOf_5 : decode cX3_orderOf 5 = .ok (.ireturn, 1) := by decide +kernel
theorem dX3_orderOf_6 : decode cX3_orderOf 6 = .ok (.aload_n 0, 1) := by decide +kernel
theorem dX3_orderOf_7 : decode cX3_orderOf 7 = .ok (.getfield 16, 3) := by decide +kernel
theorem dX3_orderOf_10 : decode cX3_orderOf 10 = .ok (.istore_n 2, 1) := by decide +kernel
theorem dX3_orderOf_11 : decode cX3_orderOf 11 = .ok (.getstatic 60, 3) := by decide +kernel
theorem dX3_orderOf_14 : decode cX3_orderOf 14 = .ok (.astore_n 3, 1) := by decide +kernel
theorem dX3_orderOf_15 : decode cX3_orderOf 15 = .ok (.aload_n 3, 1) := by decide +kernel
theorem dX3_orderOf_16 : decode cX3_orderOf 16 = .ok (.arraylength, 1) := by decide +kernel
theorem dX3_orderOf_17 : decode cX3_orderOf 17 = .ok (.istore 4, 2) := by decide +kernel
theorem dX3_orderOf_19 : decode cX3_orderOf 19 = .ok (.iconst 0, 1) := by decide +kernel
theorem dX3_orderOf_20 : decode cX3_orderOf 20 = .ok (.istore 5, 2) := by decide +kernel
theorem dX3_orderOf_22 : decode cX3_orderOf 22 = .ok (.iload 5, 2) := by decide +kernel
theorem dX3_orderOf_24 : decode cX3_orderOf 24 = .ok (.iload 4, 2) := by decide +kernel
theorem dX3_orderOf_26 : decode cX3_orderOf 26 = .ok (.if_icmp .ge 38, 3) := by decide +kernel
theorem dX3_orderOf_29 : decode cX3_orderOf 29 = .ok (.aload_n 3, 1) := by decide +kernel
theorem dX3_orderOf_30 : decode cX3_orderOf 30 = .ok (.iload 5, 2) := by decide +kernel
theorem dX3_orderOf_32 : decode cX3_orderOf 32 = .ok (.iaload, 1) := by decide +kernel
theorem dX3_orderOf_33 : decode cX3_orderOf 33 = .ok (.istore 6, 2) := by decide +kernel
theorem dX3_orderOf_35 : decode cX3_orderOf 35 = .ok (.iload_n 2, 1) := by decide +kernel
theorem dX3_orderOf_36 : decode cX3_orderOf 36 = .ok (.iload 6, 2) := by decide +kernel
theorem dX3_orderOf_38 : decode cX3_orderOf 38 = .ok (.irem, 1) := by decide +kernel
theorem dX3_orderOf_39 : decode cX3_orderOf 39 = .ok (.ifCond .ne 19, 3) := by decide +kernel
theorem dX3_orderOf_42 : decode cX3_orderOf 42 = .ok (.aload_n 0, 1) := by decide +kernel
theorem dX3_orderOf_43 : decode cX3_orderOf 43 = .ok (.iload_n 1, 1) := by decide +kernel
theorem dX3_orderOf_44 : decode cX3_orderOf 44 = .ok (.invokevirtual 73, 3) := by decide +kernel
theorem dX3_orderOf_47 : decode cX3_orderOf 47 = .ok (.iload 6, 2) := by decide +kernel
theorem dX3_orderOf_49 : decode cX3_orderOf 49 = .ok (.irem, 1) := by decide +kernel
theorem dX3_orderOf_50 : decode cX3_orderOf 50 = .ok (.ifCond .ne 8, 3) := by decide +kernel
theorem dX3_orderOf_53 : decode cX3_orderOf 53 = .ok (.iload_n 2, 1) := by decide +kernel
theorem dX3_orderOf_54 : decode cX3_orderOf 54 = .ok (.iload 6, 2) := by decide +kernel
theorem dX3_orderOf_56 : decode cX3_orderOf 56 = .ok (.idiv, 1) := by decide +kernel
theorem dX3_orderOf_57 : decode cX3_orderOf 57 = .ok (.istore_n 2, 1) := by decide +kernel
theorem dX3_orderOf_58 : decode cX3_orderOf 58 = .ok (.iinc 5 1, 3) := by decide +kernel
theorem dX3_orderOf_61 : decode cX3_orderOf 61 = .ok (.goto (-39), 3) := by decide +kernel
theorem dX3_orderOf_64 : decode cX3_orderOf 64 = .ok (.iload_n 2, 1) := by decide +kernel
theorem dX3_orderOf_65 : decode cX3_orderOf 65 = .ok (.ireturn, 1) := by decide +kernel
theorem dX3_addMultiple_0 : decode cX3_addMultiple 0 = .ok (.iload 6, 2) := by decide +kernel
theorem dX3_addMultiple_2 : decode cX3_addMultiple 2 = .ok (.ifCond .ne 4, 3) := by decide +kernel
theorem dX3_addMultiple_5 : decode cX3_addMultiple 5 = .ok (.return_, 1) := by decide +kernel
theorem dX3_addMultiple_6 : decode cX3_addMultiple 6 = .ok (.aload_n 0, 1) := by decide +kernel
theorem dX3_addMultiple_7 : decode cX3_addMultiple 7 = .ok (.getfield 33, 3) := by decide +kernel
theorem dX3_addMultiple_10 : decode cX3_addMultiple 10 = .ok (.iload 6, 2) := by decide +kernel
theorem dX3_addMultiple_12 : decode cX3_addMultiple 12 = .ok (.iaload, 1) := by decide +kernel
theorem dX3_addMultiple_13 : decode cX3_addMultiple 13 = .ok (.ldc 66, 2) := by decide +kernel
theorem dX3_addMultiple_15 : decode cX3_addMultiple 15 = .ok (.iand, 1) := by decide +kernel
theorem dX3_addMultiple_16 : decode cX3_addMultiple 16 = .ok (.istore 7, 2) := by decide +kernel
theorem dX3_addMultiple_18 : decode cX3_addMultiple 18 = .ok (.iconst 0, 1) := by decide +kernel
theorem dX3_addMultiple_19 : decode cX3_addMultiple 19 = .ok (.istore 8, 2) := by decide +kernel
theorem dX3_addMultiple_21 : decode cX3_addMultiple 21 = .ok (.iload 8, 2) := by decide +kernel
theorem dX3_addMultiple_23 : decode cX3_addMultiple 23 = .ok (.iload 5, 2) := by decide +kernel
theorem dX3_addMultiple_25 : decode cX3_addMultiple 25 = .ok (.if_icmp .ge 76, 3) := by decide +kernel
theorem dX3_addMultiple_28 : decode cX3_addMultiple 28 = .ok (.aload_n 3, 1) := by decide +kernel
theorem dX3_addMultiple_29 : decode cX3_addMultiple 29 = .ok (.iload 4, 2) := by decide +kernel
theorem dX3_addMultiple_31 : decode cX3_addMultiple 31 = .ok (.iload 8, 2) := by decide +kernel
theorem dX3_addMultiple_33 : decode cX3_addMultiple 33 = .ok (.iadd, 1) := by decide +kernel
theorem dX3_addMultiple_34 : decode cX3_addMultiple 34 = .ok (.iaload, 1) := by decide +kernel
theorem dX3_addMultiple_35 : decode cX3_addMultiple 35 = .ok (.istore 9, 2) := by decide +kernel
theorem dX3_addMultiple_37 : decode cX3_addMultiple 37 = .ok (.iload 9, 2) := by decide +kernel
theorem dX3_addMultiple_39 : decode cX3_addMultiple 39 = .ok (.ifCond .eq 56, 3) := by decide +kernel
theorem dX3_addMultiple_42 : decode cX3_addMultiple 42 = .ok (.iload 7, 2) := by decide +kernel
theorem dX3_addMultiple_44 : decode cX3_addMultiple 44 = .ok (.aload_n 0, 1) := by decide +kernel
theorem dX3_addMultiple_45 : decode cX3_addMultiple 45 = .ok (.getfield 33, 3) := by decide +kernel
theorem dX3_addMultiple_48 : decode cX3_addMultiple 48 = .ok (.iload 9, 2) := by decide +kernel
theorem dX3_addMultiple_50 : decode cX3_addMultiple 50 = .ok (.iaload, 1) := by decide +kernel
theorem dX3_addMultiple_51 : decode cX3_addMultiple 51 = .ok (.ldc 66, 2) := by decide +kernel
theorem dX3_addMultiple_53 : decode cX3_addMultiple 53 = .ok (.iand, 1) := by decide +kernel
theorem dX3_addMultiple_54 : decode cX3_addMultiple 54 = .ok (.iadd, 1) := by decide +kernel
theorem dX3_addMultiple_55 : decode cX3_addMultiple 55 = .ok (.istore 10, 2) := by decide +kernel
theorem dX3_addMultiple_57 : decode cX3_addMultiple 57 = .ok (.aload_n 1, 1) := by decide +kernel
theorem dX3_addMultiple_58 : decode cX3_addMultiple 58 = .ok (.iload_n 2, 1) := by decide +kernel
theorem dX3_addMultiple_59 : decode cX3_addMultiple 59 = .ok (.iload 8, 2) := by decide +kernel
theorem dX3_addMultiple_61 : decode cX3_addMultiple 61 = .ok (.iadd, 1) := by decide +kernel
theorem dX3_addMultiple_62 : decode cX3_addMultiple 62 = .ok (.dup2, 1) := by decide +kernel
theorem dX3_addMultiple_63 : decode cX3_addMultiple 63 = .ok (.iaload, 1) := by decide +kernel
theorem dX3_addMultiple_64 : decode cX3_addMultiple 64 = .ok (.aload_n 0, 1) := by decide +kernel
theorem dX3_addMultiple_65 : decode cX3_addMultiple 65 = .ok (.getfield 33, 3) := by decide +kernel
theorem dX3_addMultiple_68 : decode cX3_addMultiple 68 = .ok (.iload 10, 2) := by decide +kernel
theorem dX3_addMultiple_70 : decode cX3_addMultiple 70 = .ok (.aload_n 0, 1) := by decide +kernel
theorem dX3_addMultiple_71 : decode cX3_addMultiple 71 = .ok (.getfield 16, 3) := by decide +kernel
theorem dX3_addMultiple_74 : decode cX3_addMultiple 74 = .ok (.if_icmp .ge 8, 3) := by decide +kernel
theorem dX3_addMultiple_77 : decode cX3_addMultiple 77 = .ok (.iload 10, 2) := by decide +kernel
theorem dX3_addMultiple_79 : decode cX3_addMultiple 79 = .ok (.goto 10, 3) := by decide +kernel
theorem dX3_addMultiple_82 : decode cX3_addMultiple 82 = .ok (.iload 10, 2) := by decide +kernel
theorem dX3_addMultiple_84 : decode cX3_addMultiple 84 = .ok (.aload_n 0, 1) := by decide +kernel
theorem dX3_addMultiple_85 : decode cX3_addMultiple 85 = .ok (.getfield 16, 3) := by decide +kernel
theorem dX3_addMultiple_88 : decode cX3_addMultiple 88 = .ok (.isub, 1) := by decide +kernel
theorem dX3_addMultiple_89 : decode cX3_addMultiple 89 = .ok (.iaload, 1) := by decide +kernel
theorem dX3_addMultiple_90 : decode cX3_addMultiple 90 = .ok (.bipush 16, 2) := by decide +kernel
theorem dX3_addMultiple_92 : decode cX3_addMultiple 92 = .ok (.iushr, 1) := by decide +kernel
theorem dX3_addMultiple_93 : decode cX3_addMultiple 93 = .ok (.ixor, 1) := by decide +kernel
theorem dX3_addMultiple_94 : decode cX3_addMultiple 94 = .ok (.iastore, 1) := by decide +kernel
theorem dX3_addMultiple_95 : decode cX3_addMultiple 95 = .ok (.iinc 8 1, 3) := by decide +kernel
theorem dX3_addMultiple_98 : decode cX3_addMultiple 98 = .ok (.goto (-77), 3) := by decide +kernel
theorem dX3_addMultiple_101 : decode cX3_addMultiple 101 = .ok (.return_, 1) := by decide +kernel
theorem dX3_scale_0 : decode cX3_scale 0 = .ok (.iconst 0, 1) := by decide +kernel
theorem dX3_scale_1 : decode cX3_scale 1 = .ok (.istore 4, 2) := by decide +kernel
theorem dX3_scale_3 : decode cX3_scale 3 = .ok (.iload 4, 2) := by decide +kernel
theorem dX3_scale_5 : decode cX3_scale 5 = .ok (.iload_n 2, 1) := by decide +kernel
theorem dX3_scale_6 : decode cX3_scale 6 = .ok (.if_icmp .ge 22, 3) := by decide +kernel
theorem dX3_scale_9 : decode cX3_scale 9 = .ok (.aload_n 1, 1) := by decide +kernel
theorem dX3_scale_10 : decode cX3_scale 10 = .ok (.iload 4, 2) := by decide +kernel
theorem dX3_scale_12 : decode cX3_scale 12 = .ok (.aload_n 0, 1) := by decide +kernel
theorem dX3_scale_13 : decode cX3_scale 13 = .ok (.aload_n 1, 1) := by decide +kernel
theorem dX3_scale_14 : decode cX3_scale 14 = .ok (.iload 4, 2) := by decide +kernel
theorem dX3_scale_16 : decode cX3_scale 16 = .ok (.iaload, 1) := by decide +kernel
theorem dX3_scale_17 : decode cX3_scale 17 = .ok (.iload_n 3, 1) := by decide +kernel
theorem dX3_scale_18 : decode cX3_scale 18 = .ok (.invokevirtual 70, 3) := by decide +kernel
theorem dX3_scale_21 : decode cX3_scale 21 = .ok (.iastore, 1) := by decide +kernel
theorem dX3_scale_22 : decode cX3_scale 22 = .ok (.iinc 4 1, 3) := by decide +kernel
theorem dX3_scale_25 : decode cX3_scale 25 = .ok (.goto (-22), 3) := by decide +kernel
theorem dX3_scale_28 : decode cX3_scale 28 = .ok (.return_, 1) := by decide +kernel
theorem dX4_init_0 : decode cX4_init 0 = .ok (.aload_n 0, 1) := by decide +kernel
theorem dX4_init_1 : decode cX4_init 1 = .ok (.invokespecial 3, 3) := by decide +kernel
theorem dX4_init_4 : decode cX4_init 4 = .ok (.aload_n 0, 1) := by decide +kernel
theorem dX4_init_5 : decode cX4_init 5 = .ok (.bipush 65, 2) := by decide +kernel
theorem dX4_init_7 : decode cX4_init 7 = .ok (.newarray .int, 2) := by decide +kernel
theorem dX4_init_9 : decode cX4_init 9 = .ok (.putfield 9, 3) := by decide +kernel
theorem dX4_init_12 : decode cX4_init 12 = .ok (.aload_n 0, 1) := by decide +kernel
theorem dX4_init_13 : decode cX4_init 13 = .ok (.bipush 65, 2) := by decide +kernel
theorem dX4_init_15 : decode cX4_init 15 = .ok (.newarray .int, 2) := by decide +kernel
theorem dX4_init_17 : decode cX4_init 17 = .ok (.putfield 15, 3) := by decide +kernel
theorem dX4_init_20 : decode cX4_init 20 = .ok (.aload_n 0, 1) := by decide +kernel
theorem dX4_init_21 : decode cX4_init 21 = .ok (.aload_n 1, 1) := by decide +kernel
theorem dX4_init_22 : decode cX4_init 22 = .ok (.putfield 18, 3) := by decide +kernel
theorem dX4_init_25 : decode cX4_init 25 = .ok (.return_, 1) := by decide +kernel
theorem dX4_take_0 : decode cX4_take 0 = .ok (.aload_n 0, 1) := by decide +kernel
theorem dX4_take_1 : decode cX4_take 1 = .ok (.getfield 9, 3) := by decide +kernel
theorem dX4_take_4 : decode cX4_take 4 = .ok (.iload_n 1, 1) := by decide +kernel
theorem dX4_take_5 : decode cX4_take 5 = .ok (.iload_n 2, 1) := by decide +kernel
theorem dX4_take_6 : decode cX4_take 6 = .ok (.iastore, 1) := by decide +kernel
theorem dX4_take_7 : decode cX4_take 7 = .ok (.aload_n 0, 1) := by decide +kernel
theorem dX4_take_8 : decode cX4_take 8 = .ok (.getfield 15, 3) := by decide +kernel
theorem dX4_take_11 : decode cX4_take 11 = .ok (.iload_n 1, 1) := by decide +kernel
theorem dX4_take_12 : decode cX4_take 12 = .ok (.iload_n 3, 1) := by decide +kernel
theorem dX4_take_13 : decode cX4_take 13 = .ok (.iastore, 1) := by decide +kernel
theorem dX4_take_14 : decode cX4_take 14 = .ok (.return_, 1) := by decide +kernel
theorem dX4_run_0 : decode cX4_run 0 = .ok (.iconst 1, 1) := by decide +kernel
theorem dX4_run_1 : decode cX4_run 1 = .ok (.istore_n 3, 1) := by decide +kernel
theorem dX4_run_2 : decode cX4_run 2 = .ok (.iload_n 3, 1) := by decide +kernel
theorem dX4_run_3 : decode cX4_run 3 = .ok (.iload_n 1, 1) := by decide +kernel
theorem dX4_run_4 : decode cX4_run 4 = .ok (.if_icmp .ge 74, 3) := by decide +kernel
theorem dX4_run_7 : decode cX4_run 7 = .ok (.iload_n 1, 1) := by decide +kernel
theorem dX4_run_8 : decode cX4_run 8 = .ok (.iconst 1, 1) := by decide +kernel
theorem dX4_run_9 : decode cX4_run 9 = .ok (.isub, 1) := by decide +kernel
theorem dX4_run_10 : decode cX4_run 10 = .ok (.istore 4, 2) := by decide +kernel
theorem dX4_run_12 : decode cX4_run 12 = .ok (.iload 4, 2) := by decide +kernel
theorem dX4_run_14 : decode cX4_run 14 = .ok (.iload_n 3, 1) := by decide +kernel
theorem dX4_run_15 : decode cX4_run 15 = .ok (.if_icmp .lt 57, 3) := by decide +kernel
theorem dX4_run_18 : decode cX4_run 18 = .ok (.aload_n 0, 1) := by decide +kernel
theorem dX4_run_19 : decode cX4_run 19 = .ok (.getfield 15, 3) := by decide +kernel
theorem dX4_run_22 : decode cX4_run 22 = .ok (.iload 4, 2) := by decide +kernel
theorem dX4_run_24 : decode cX4_run 24 = .ok (.aload_n 0, 1) := by decide +kernel
theorem dX4_run_25 : decode cX4_run 25 = .ok (.getfield 18, 3) := by decide +kernel
theorem dX4_run_28 : decode cX4_run 28 = .ok (.aload_n 0, 1) := by decide +kernel
theorem dX4_run_29 : decode cX4_run 29 = .ok (.getfield 15, 3) := by decide +kernel
theorem dX4_run_32 : decode cX4_run 32 = .ok (.iload 4, 2) := by decide +kernel
theorem dX4_run_34 : decode cX4_run 34 = .ok (.iaload, 1) := by decide +kernel
theorem dX4_run_35 : decode cX4_run 35 = .ok (.aload_n 0, 1) := by decide +kernel
theorem dX4_run_36 : decode cX4_run 36 = .ok (.getfield 15, 3) := by decide +kernel
theorem dX4_run_39 : decode cX4_run 39 = .ok (.iload 4, 2) := by decide +kernel
theorem dX4_run_41 : decode cX4_run 41 = .ok (.iconst 1, 1) := by decide +kernel
theorem dX4_run_42 : decode cX4_run 42 = .ok (.isub, 1) := by decide +kernel
theorem dX4_run_43 : decode cX4_run 43 = .ok (.iaload, 1) := by decide +kernel
theorem dX4_run_44 : decode cX4_run 44 = .ok (.ixor, 1) := by decide +kernel
theorem dX4_run_45 : decode cX4_run 45 = .ok (.aload_n 0, 1) := by decide +kernel
theorem dX4_run_46 : decode cX4_run 46 = .ok (.getfield 9, 3) := by decide +kernel
theorem dX4_run_49 : decode cX4_run 49 = .ok (.iload 4, 2) := by decide +kernel
theorem dX4_run_51 : decode cX4_run 51 = .ok (.iaload, 1) := by decide +kernel
theorem dX4_run_52 : decode cX4_run 52 = .ok (.aload_n 0, 1) := by decide +kernel
theorem dX4_run_53 : decode cX4_run 53 = .ok (.getfield 9, 3) := by decide +kernel
theorem dX4_run_56 : decode cX4_run 56 = .ok (.iload 4, 2) := by decide +kernel
theorem dX4_run_58 : decode cX4_run 58 = .ok (.iload_n 3, 1) := by decide +kernel
theorem dX4_run_59 : decode cX4_run 59 = .ok (.isub, 1) := by decide +kernel
theorem dX4_run_60 : decode cX4_run 60 = .ok (.iaload, 1) := by decide +kernel
theorem dX4_run_61 : decode cX4_run 61 = .ok (.ixor, 1) := by decide +kernel
theorem dX4_run_62 : decode cX4_run 62 = .ok (.invokevirtual 22, 3) := by decide +kernel
theorem dX4_run_65 : decode cX4_run 65 = .ok (.iastore, 1) := by decide +kernel
theorem dX4_run_66 : decode cX4_run 66 = .ok (.iinc 4 (-1), 3) := by decide +kernel
theorem dX4_run_69 : decode cX4_run 69 = .ok (.goto (-57), 3) := by decide +kernel
theorem dX4_run_72 : decode cX4_run 72 = .ok (.iinc 3 1, 3) := by decide +kernel
theorem dX4_run_75 : decode cX4_run 75 = .ok (.goto (-73), 3) := by decide +kernel
theorem dX4_run_78 : decode cX4_run 78 = .ok (.aload_n 2, 1) := by decide +kernel
theorem dX4_run_79 : decode cX4_run 79 = .ok (.invokevirtual 28, 3) := by decide +kernel
theorem dX4_run_82 : decode cX4_run 82 = .ok (.iload_n 1, 1) := by decide +kernel
theorem dX4_run_83 : decode cX4_run 83 = .ok (.iconst 1, 1) := by decide +kernel
theorem dX4_run_84 : decode cX4_run 84 = .ok (.isub, 1) := by decide +kernel
theorem dX4_run_85 : decode cX4_run 85 = .ok (.istore_n 3, 1) := by decide +kernel
theorem dX4_run_86 : decode cX4_run 86 = .ok (.iload_n 3, 1) := by decide +kernel
theorem dX4_run_87 : decode cX4_run 87 = .ok (.ifCond .lt 26, 3) := by decide +kernel
theorem dX4_run_90 : decode cX4_run 90 = .ok (.aload_n 0, 1) := by decide +kernel
theorem dX4_run_91 : decode cX4_run 91 = .ok (.aload_n 2, 1) := by decide +kernel
theorem dX4_run_92 : decode cX4_run 92 = .ok (.aload_n 0, 1) := by decide +kernel
theorem dX4_run_93 : decode cX4_run 93 = .ok (.getfield 9, 3) := by decide +kernel
theorem dX4_run_96 : decode cX4_run 96 = .ok (.iload_n 3, 1) := by decide +kernel
theorem dX4_run_97 : decode cX4_run 97 = .ok (.iaload, 1) := by decide +kernel
theorem dX4_run_98 : decode cX4_run 98 = .ok (.aload_n 0, 1) := by decide +kernel
theorem dX4_run_99 : decode cX4_run 99 = .ok (.getfield 15, 3) := by decide +kernel
theorem dX4_run_102 : decode cX4_run 102 = .ok (.iload_n 3, 1) := by decide +kernel
theorem dX4_run_103 : decode cX4_run 103 = .ok (.iaload, 1) := by decide +kernel
theorem dX4_run_104 : decode cX4_run 104 = .ok (.invokevirtual 33, 3) := by decide +kernel
theorem dX4_run_107 : decode cX4_run 107 = .ok (.iinc 3 (-1), 3) := by decide +kernel
theorem dX4_run_110 : decode cX4_run 110 = .ok (.goto (-24), 3) := by decide +kernel
theorem dX4_run_113 : decode cX4_run 113 = .ok (.return_, 1) := by decide +kernel
theorem dX4_multiplyAndAdd_0 : decode cX4_multiplyAndAdd 0 = .ok (.aload_n 1, 1) := by decide +kernel
theorem dX4_multiplyAndAdd_1 : decode cX4_multiplyAndAdd 1 = .ok (.getfield 37, 3) := by decide +kernel
theorem dX4_multiplyAndAdd_4 : decode cX4_multiplyAndAdd 4 = .ok (.iconst 1, 1) := by decide +kernel
theorem dX4_multiplyAndAdd_5 : decode cX4_multiplyAndAdd 5 = .ok (.iadd, 1) := by decide +kernel
theorem dX4_multiplyAndAdd_6 : decode cX4_multiplyAndAdd 6 = .ok (.istore 4, 2) := by decide +kernel
theorem dX4_multiplyAndAdd_8 : decode cX4_multiplyAndAdd 8 = .ok (.iload 4, 2) := by decide +kernel
theorem dX4_multiplyAndAdd_10 : decode cX4_multiplyAndAdd 10 = .ok (.istore 5, 2) := by decide +kernel
theorem dX4_multiplyAndAdd_12 : decode cX4_multiplyAndAdd 12 = .ok (.iload 5, 2) := by decide +kernel
theorem dX4_multiplyAndAdd_14 : decode cX4_multiplyAndAdd 14 = .ok (.ifCond .lt 54, 3) := by decide +kernel
theorem dX4_multiplyAndAdd_17 : decode cX4_multiplyAndAdd 17 = .ok (.iload 5, 2) := by decide +kernel
theorem dX4_multiplyAndAdd_19 : decode cX4_multiplyAndAdd 19 = .ok (.ifCond .le 15, 3) := by decide +kernel
theorem dX4_multiplyAndAdd_22 : decode cX4_multiplyAndAdd 22 = .ok (.aload_n 1, 1) := by decide +kernel
theorem dX4_multiplyAndAdd_23 : decode cX4_multiplyAndAdd 23 = .ok (.getfield 41, 3) := by decide +kernel
theorem dX4_multiplyAndAdd_26 : decode cX4_multiplyAndAdd 26 = .ok (.iload 5, 2) := by decide +kernel
theorem dX4_multiplyAndAdd_28 : decode cX4_multiplyAndAdd 28 = .ok (.iconst 1, 1) := by decide +kernel
theorem dX4_multiplyAndAdd_29 : decode cX4_multiplyAndAdd 29 = .ok (.isub, 1) := by decide +kernel
theorem dX4_multiplyAndAdd_30 : decode cX4_multiplyAndAdd 30 = .ok (.iaload, 1) := by decide +kernel
theorem dX4_multiplyAndAdd_31 : decode cX4_multiplyAndAdd 31 = .ok (.goto 4, 3) := by decide +kernel
theorem dX4_multiplyAndAdd_34 : decode cX4_multiplyAndAdd 34 = .ok (.iload_n 3, 1) := by decide +kernel
theorem dX4_multiplyAndAdd_35 : decode cX4_multiplyAndAdd 35 = .ok (.istore 6, 2) := by decide +kernel
theorem dX4_multiplyAndAdd_37 : decode cX4_multiplyAndAdd 37 = .ok (.aload_n 1, 1) := by decide +kernel
theorem dX4_multiplyAndAdd_38 : decode cX4_multiplyAndAdd 38 = .ok (.getfield 41, 3) := by decide +kernel
theorem dX4_multiplyAndAdd_41 : decode cX4_multiplyAndAdd 41 = .ok (.iload 5, 2) := by decide +kernel
theorem dX4_multiplyAndAdd_43 : decode cX4_multiplyAndAdd 43 = .ok (.aload_n 0, 1) := by decide +kernel
theorem dX4_multiplyAndAdd_44 : decode cX4_multiplyAndAdd 44 = .ok (.getfield 18, 3) := by decide +kernel
theorem dX4_multiplyAndAdd_47 : decode cX4_multiplyAndAdd 47 = .ok (.aload_n 1, 1) := by decide +kernel
theorem dX4_multiplyAndAdd_48 : decode cX4_multiplyAndAdd 48 = .ok (.getfield 41, 3) := by decide +kernel
theorem dX4_multiplyAndAdd_51 : decode cX4_multiplyAndAdd 51 = .ok (.iload 5, 2) := by decide +kernel
theorem dX4_multiplyAndAdd_53 : decode cX4_multiplyAndAdd 53 = .ok (.iaload, 1) := by decide +kernel
theorem dX4_multiplyAndAdd_54 : decode cX4_multiplyAndAdd 54 = .ok (.iload_n 2, 1) := by decide +kernel
theorem dX4_multiplyAndAdd_55 : decode cX4_multiplyAndAdd 55 = .ok (.invokevirtual 44, 3) := by decide +kernel
theorem dX4_multiplyAndAdd_58 : decode cX4_multiplyAndAdd 58 = .ok (.iload 6, 2) := by decide +kernel
theorem dX4_multiplyAndAdd_60 : decode cX4_multiplyAndAdd 60 = .ok (.ixor, 1) := by decide +kernel
theorem dX4_multiplyAndAdd_61 : decode cX4_multiplyAndAdd 61 = .ok (.iastore, 1) := by decide +kernel
theorem dX4_multiplyAndAdd_62 : decode cX4_multiplyAndAdd 62 = .ok (.iinc 5 (-1), 3) := by decide +kernel
theorem dX4_multiplyAndAdd_65 : decode cX4_multiplyAndAdd 65 = .ok (.goto (-53), 3) := by decide +kernel
theorem dX4_multiplyAndAdd_68 : decode cX4_multiplyAndAdd 68 = .ok (.aload_n 1, 1) := by decide +kernel
theorem dX4_multiplyAndAdd_69 : decode cX4_multiplyAndAdd 69 = .ok (.iload 4, 2) := by decide +kernel
theorem dX4_multiplyAndAdd_71 : decode cX4_multiplyAndAdd 71 = .ok (.invokevirtual 47, 3) := by decide +kernel
theorem dX4_multiplyAndAdd_74 : decode cX4_multiplyAndAdd 74 = .ok (.return_, 1) := by decide +kernel
theorem dX5_init_0 : decode cX5_init 0 = .ok (.aload_n 0, 1) := by decide +kernel
theorem dX5_init_1 : decode cX5_init 1 = .ok (.invokespecial 1, 3) := by decide +kernel
theorem dX5_init_4 : decode cX5_init 4 = .ok (.aload_n 0, 1) := by decide +kernel
theorem dX5_init_5 : decode cX5_init 5 = .ok (.iload_n 1, 1) := by decide +kernel
theorem dX5_init_6 : decode cX5_init 6 = .ok (.putfield 7, 3) := by decide +kernel
theorem dX5_init_9 : decode cX5_init 9 = .ok (.aload_n 0, 1) := by decide +kernel
theorem dX5_init_10 : decode cX5_init 10 = .ok (.iload_n 2, 1) := by decide +kernel
theorem dX5_init_11 : decode cX5_init 11 = .ok (.putfield 13, 3) := by decide +kernel
theorem dX5_init_14 : decode cX5_init 14 = .ok (.aload_n 0, 1) := by decide +kernel
theorem dX5_init_15 : decode cX5_init 15 = .ok (.iload_n 1, 1) := by decide +kernel
theorem dX5_init_16 : decode cX5_init 16 = .ok (.iload_n 2, 1) := by decide +kernel
theorem dX5_init_17 : decode cX5_init 17 = .ok (.imul, 1) := by decide +kernel
theorem dX5_init_18 : decode cX5_init 18 = .ok (.newarray .int, 2) := by decide +kernel
theorem dX5_init_20 : decode cX5_init 20 = .ok (.putfield 16, 3) := by decide +kernel
theorem dX5_init_23 : decode cX5_init 23 = .ok (.return_, 1) := by decide +kernel
theorem dX6_init_0 : decode cX6_init 0 = .ok (.aload_n 0, 1) := by decide +kernel
theorem dX6_init_1 : decode cX6_init 1 = .ok (.invokespecial 3, 3) := by decide +kernel
theorem dX6_init_4 : decode cX6_init 4 = .ok (.aload_n 0, 1) := by decide +kernel
theorem dX6_init_5 : decode cX6_init 5 = .ok (.bipush 9, 2) := by decide +kernel
theorem dX6_init_7 : decode cX6_init 7 = .ok (.sipush 256, 3) := by decide +kernel
theorem dX6_init_10 : decode cX6_init 10 = .ok (.multianewarray 9 2, 4) := by decide +kernel
theorem dX6_init_14 : decode cX6_init 14 = .ok (.putfield 11, 3) := by decide +kernel
theorem dX6_init_17 : decode cX6_init 17 = .ok (.aload_n 0, 1) := by decide +kernel
theorem dX6_init_18 : decode cX6_init 18 = .ok (.aload_n 1, 1) := by decide +kernel
theorem dX6_init_19 : decode cX6_init 19 = .ok (.putfield 16, 3) := by decide +kernel
theorem dX6_init_22 : decode cX6_init 22 = .ok (.return_, 1) := by decide +kernel
theorem dX6_countZeros_0 : decode cX6_countZeros 0 = .ok (.aload_n 0, 1) := by decide +kernel
theorem dX6_countZeros_1 : decode cX6_countZeros 1 = .ok (.getfield 11, 3) := by decide +kernel
theorem dX6_countZeros_4 : decode cX6_countZeros 4 = .ok (.iconst 0, 1) := by decide +kernel
theorem dX6_countZeros_5 : decode cX6_countZeros 5 = .ok (.aaload, 1) := by decide +kernel
theorem dX6_countZeros_6 : decode cX6_countZeros 6 = .ok (.iconst 0, 1) := by decide +kernel
theorem dX6_countZeros_7 : decode cX6_countZeros 7 = .ok (.iconst 1, 1) := by decide +kernel
theorem dX6_countZeros_8 : decode cX6_countZeros 8 = .ok (.iastore, 1) := by decide +kernel
theorem dX6_countZeros_9 : decode cX6_countZeros 9 = .ok (.iconst 0, 1) := by decide +kernel
theorem dX6_countZeros_10 : decode cX6_countZeros 10 = .ok (.istore_n 2, 1) := by decide +kernel
theorem dX6_countZeros_11 : decode cX6_countZeros 11 = .ok (.iconst 1, 1) := by decide +kernel
theorem dX6_countZeros_12 : decode cX6_countZeros 12 = .ok (.istore_n 3, 1) := by decide +kernel
theorem dX6_countZeros_13 : decode cX6_countZeros 13 = .ok (.iload_n 3, 1) := by decide +kernel
theorem dX6_countZeros_14 : decode cX6_countZeros 14 = .ok (.iconst 1, 1) := by decide +kernel
theorem dX6_countZeros_15 : decode cX6_countZeros 15 = .ok (.aload_n 1, 1) := by decide +kernel
theorem dX6_countZeros_16 : decode cX6_countZeros 16 = .ok (.getfield 20, 3) := by decide +kernel
theorem dX6_countZeros_19 : decode cX6_countZeros 19 = .ok (.ishl, 1) := by decide +kernel
theorem dX6_countZeros_20 : decode cX6_countZeros 20 = .ok (.if_icmp .ge 33, 3) := by decide +kernel
theorem dX6_countZeros_23 : decode cX6_countZeros 23 = .ok (.iload_n 3, 1) := by decide +kernel
theorem dX6_countZeros_24 : decode cX6_countZeros 24 = .ok (.invokestatic 26, 3) := by decide +kernel
theorem dX6_countZeros_27 : decode cX6_countZeros 27 = .ok (.istore 4, 2) := by decide +kernel
theorem dX6_countZeros_29 : decode cX6_countZeros 29 = .ok (.iload_n 3, 1) := by decide +kernel
theorem dX6_countZeros_30 : decode cX6_countZeros 30 = .ok (.invokestatic 32, 3) := by decide +kernel
theorem dX6_countZeros_33 : decode cX6_countZeros 33 = .ok (.istore 5, 2) := by decide +kernel
theorem dX6_countZeros_35 : decode cX6_countZeros 35 = .ok (.iload_n 2, 1) := by decide +kernel
theorem dX6_countZeros_36 : decode cX6_countZeros 36 = .ok (.aload_n 0, 1) := by decide +kernel
theorem dX6_countZeros_37 : decode cX6_countZeros 37 = .ok (.aload_n 1, 1) := by decide +kernel
theorem dX6_countZeros_38 : decode cX6_countZeros 38 = .ok (.iload 5, 2) := by decide +kernel
theorem dX6_countZeros_40 : decode cX6_countZeros 40 = .ok (.iload 4, 2) := by decide +kernel
theorem dX6_countZeros_42 : decode cX6_countZeros 42 = .ok (.invokevirtual 35, 3) := by decide +kernel
theorem dX6_countZeros_45 : decode cX6_countZeros 45 = .ok (.iadd, 1) := by decide +kernel
theorem dX6_countZeros_46 : decode cX6_countZeros 46 = .ok (.istore_n 2, 1) := by decide +kernel
theorem dX6_countZeros_47 : decode cX6_countZeros 47 = .ok (.iinc 3 1, 3) := by decide +kernel
theorem dX6_countZeros_50 : decode cX6_countZeros 50 = .ok (.goto (-37), 3) := by decide +kernel
theorem dX6_countZeros_53 : decode cX6_countZeros 53 = .ok (.iload_n 2, 1) := by decide +kernel
theorem dX6_countZeros_54 : decode cX6_countZeros 54 = .ok (.ireturn, 1) := by decide +kernel
theorem dX6_addRow_0 : decode cX6_addRow 0 = .ok (.iconst 0, 1) := by decide +kernel
theorem dX6_addRow_1 : decode cX6_addRow 1 = .ok (.istore 4, 2) := by decide +kernel
theorem dX6_addRow_3 : decode cX6_addRow 3 = .ok (.iconst 1, 1) := by decide +kernel
theorem dX6_addRow_4 : decode cX6_addRow 4 = .ok (.istore 5, 2) := by decide +kernel
theorem dX6_addRow_6 : decode cX6_addRow 6 = .ok (.iload 5, 2) := by decide +kernel
theorem dX6_addRow_8 : decode cX6_addRow 8 = .ok (.iconst 1, 1) := by decide +kernel
theorem dX6_addRow_9 : decode cX6_addRow 9 = .ok (.aload_n 1, 1) := by decide +kernel
theorem dX6_addRow_10 : decode cX6_addRow 10 = .ok (.getfield 39, 3) := by decide +kernel
theorem dX6_addRow_13 : decode cX6_addRow 13 = .ok (.ishl, 1) := by decide +kernel
theorem dX6_addRow_14 : decode cX6_addRow 14 = .ok (.if_icmp .ge 62, 3) := by decide +kernel
theorem dX6_addRow_17 : decode cX6_addRow 17 = .ok (.iload 5, 2) := by decide +kernel
theorem dX6_addRow_19 : decode cX6_addRow 19 = .ok (.invokestatic 26, 3) := by decide +kernel
theorem dX6_addRow_22 : decode cX6_addRow 22 = .ok (.iload_n 3, 1) := by decide +kernel
theorem dX6_addRow_23 : decode cX6_addRow 23 = .ok (.if_icmp .ne 47, 3) := by decide +kernel
theorem dX6_addRow_26 : decode cX6_addRow 26 = .ok (.aload_n 0, 1) := by decide +kernel
theorem dX6_addRow_27 : decode cX6_addRow 27 = .ok (.aload_n 1, 1) := by decide +kernel
theorem dX6_addRow_28 : decode cX6_addRow 28 = .ok (.iload_n 2, 1) := by decide +kernel
theorem dX6_addRow_29 : decode cX6_addRow 29 = .ok (.iload 5, 2) := by decide +kernel
theorem dX6_addRow_31 : decode cX6_addRow 31 = .ok (.aload_n 0, 1) := by decide +kernel
theorem dX6_addRow_32 : decode cX6_addRow 32 = .ok (.getfield 11, 3) := by decide +kernel
theorem dX6_addRow_35 : decode cX6_addRow 35 = .ok (.iload_n 3, 1) := by decide +kernel
theorem dX6_addRow_36 : decode cX6_addRow 36 = .ok (.iconst 1, 1) := by decide +kernel
theorem dX6_addRow_37 : decode cX6_addRow 37 = .ok (.isub, 1) := by decide +kernel
theorem dX6_addRow_38 : decode cX6_addRow 38 = .ok (.aaload, 1) := by decide +kernel
theorem dX6_addRow_39 : decode cX6_addRow 39 = .ok (.invokevirtual 42, 3) := by decide +kernel
theorem dX6_addRow_42 : decode cX6_addRow 42 = .ok (.istore 6, 2) := by decide +kernel
theorem dX6_addRow_44 : decode cX6_addRow 44 = .ok (.aload_n 0, 1) := by decide +kernel
theorem dX6_addRow_45 : decode cX6_addRow 45 = .ok (.getfield 11, 3) := by decide +kernel
theorem dX6_addRow_48 : decode cX6_addRow 48 = .ok (.iload_n 3, 1) := by decide +kernel
theorem dX6_addRow_49 : decode cX6_addRow 49 = .ok (.aaload, 1) := by decide +kernel
theorem dX6_addRow_50 : decode cX6_addRow 50 = .ok (.iload 5, 2) := by decide +kernel
theorem dX6_addRow_52 : decode cX6_addRow 52 = .ok (.iload 6, 2) := by decide +kernel
theorem dX6_addRow_54 : decode cX6_addRow 54 = .ok (.iastore, 1) := by decide +kernel
theorem dX6_addRow_55 : decode cX6_addRow 55 = .ok (.iload 4, 2) := by decide +kernel
theorem dX6_addRow_57 : decode cX6_addRow 57 = .ok (.iload 6, 2) := by decide +kernel
theorem dX6_addRow_59 : decode cX6_addRow 59 = .ok (.ifCond .ne 7, 3) := by decide +kernel
theorem dX6_addRow_62 : decode cX6_addRow 62 = .ok (.iconst 1, 1) := by decide +kernel
theorem dX6_addRow_63 : decode cX6_addRow 63 = .ok (.goto 4, 3) := by decide +kernel
theorem dX6_addRow_66 : decode cX6_addRow 66 = .ok (.iconst 0, 1) := by decide +kernel
theorem dX6_addRow_67 : decode cX6_addRow 67 = .ok (.iadd, 1) := by decide +kernel
theorem dX6_addRow_68 : decode cX6_addRow 68 = .ok (.istore 4, 2) := by decide +kernel
theorem dX6_addRow_70 : decode cX6_addRow 70 = .ok (.iinc 5 1, 3) := by decide +kernel
theorem dX6_addRow_73 : decode cX6_addRow 73 = .ok (.goto (-67), 3) := by decide +kernel
theorem dX6_addRow_76 : decode cX6_addRow 76 = .ok (.iload 4, 2) := by decide +kernel
theorem dX6_addRow_78 : decode cX6_addRow 78 = .ok (.ireturn, 1) := by decide +kernel
theorem dX6_expanded_0 : decode cX6_expanded 0 = .ok (.iconst 0, 1) := by decide +kernel
theorem dX6_expanded_1 : decode cX6_expanded 1 = .ok (.istore 5, 2) := by decide +kernel
theorem dX6_expanded_3 : decode cX6_expanded 3 = .ok (.iconst 0, 1) := by decide +kernel
theorem dX6_expanded_4 : decode cX6_expanded 4 = .ok (.istore 6, 2) := by decide +kernel
theorem dX6_expanded_6 : decode cX6_expanded 6 = .ok (.iload 6, 2) := by decide +kernel
theorem dX6_expanded_8 : decode cX6_expanded 8 = .ok (.aload_n 1, 1) := by decide +kernel
theorem dX6_expanded_9 : decode cX6_expanded 9 = .ok (.getfield 39, 3) := by decide +kernel
theorem dX6_expanded_12 : decode cX6_expanded 12 = .ok (.if_icmp .ge 53, 3) := by decide +kernel
theorem dX6_expanded_15 : decode cX6_expanded 15 = .ok (.iload_n 3, 1) := by decide +kernel
theorem dX6_expanded_16 : decode cX6_expanded 16 = .ok (.iload 6, 2) := by decide +kernel
theorem dX6_expanded_18 : decode cX6_expanded 18 = .ok (.ishr, 1) := by decide +kernel
theorem dX6_expanded_19 : decode cX6_expanded 19 = .ok (.iconst 1, 1) := by decide +kernel
theorem dX6_expanded_20 : decode cX6_expanded 20 = .ok (.iand, 1) := by decide +kernel
theorem dX6_expanded_21 : decode cX6_expanded 21 = .ok (.ifCond .eq 38, 3) := by decide +kernel
theorem dX6_expanded_24 : decode cX6_expanded 24 = .ok (.iload 5, 2) := by decide +kernel
theorem dX6_expanded_26 : decode cX6_expanded 26 = .ok (.aload_n 0, 1) := by decide +kernel
theorem dX6_expanded_27 : decode cX6_expanded 27 = .ok (.getfield 16, 3) := by decide +kernel
theorem dX6_expanded_30 : decode cX6_expanded 30 = .ok (.aload_n 1, 1) := by decide +kernel
theorem dX6_expanded_31 : decode cX6_expanded 31 = .ok (.getfield 46, 3) := by decide +kernel
theorem dX6_expanded_34 : decode cX6_expanded 34 = .ok (.iload_n 2, 1) := by decide +kernel
theorem dX6_expanded_35 : decode cX6_expanded 35 = .ok (.aload_n 1, 1) := by decide +kernel
theorem dX6_expanded_36 : decode cX6_expanded 36 = .ok (.getfield 39, 3) := by decide +kernel
theorem dX6_expanded_39 : decode cX6_expanded 39 = .ok (.imul, 1) := by decide +kernel
theorem dX6_expanded_40 : decode cX6_expanded 40 = .ok (.iload 6, 2) := by decide +kernel
theorem dX6_expanded_42 : decode cX6_expanded 42 = .ok (.iadd, 1) := by decide +kernel
theorem dX6_expanded_43 : decode cX6_expanded 43 = .ok (.iaload, 1) := by decide +kernel
theorem dX6_expanded_44 : decode cX6_expanded 44 = .ok (.aload 4, 2) := by decide +kernel
theorem dX6_expanded_46 : decode cX6_expanded 46 = .ok (.iload_n 3, 1) := by decide +kernel
theorem dX6_expanded_47 : decode cX6_expanded 47 = .ok (.iconst 1, 1) := by decide +kernel
theorem dX6_expanded_48 : decode cX6_expanded 48 = .ok (.iload 6, 2) := by decide +kernel
theorem dX6_expanded_50 : decode cX6_expanded 50 = .ok (.ishl, 1) := by decide +kernel
theorem dX6_expanded_51 : decode cX6_expanded 51 = .ok (.ixor, 1) := by decide +kernel
theorem dX6_expanded_52 : decode cX6_expanded 52 = .ok (.iaload, 1) := by decide +kernel
theorem dX6_expanded_53 : decode cX6_expanded 53 = .ok (.invokevirtual 50, 3) := by decide +kernel
theorem dX6_expanded_56 : decode cX6_expanded 56 = .ok (.ixor, 1) := by decide +kernel
theorem dX6_expanded_57 : decode cX6_expanded 57 = .ok (.istore 5, 2) := by decide +kernel
theorem dX6_expanded_59 : decode cX6_expanded 59 = .ok (.iinc 6 1, 3) := by decide +kernel
theorem dX6_expanded_62 : decode cX6_expanded 62 = .ok (.goto (-56), 3) := by decide +kernel
theorem dX6_expanded_65 : decode cX6_expanded 65 = .ok (.iload 5, 2) := by decide +kernel
theorem dX6_expanded_67 : decode cX6_expanded 67 = .ok (.ireturn, 1) := by decide +kernel
theorem dX7_init_0 : decode cX7_init 0 = .ok (.aload_n 0, 1) := by decide +kernel
theorem dX7_init_1 : decode cX7_init 1 = .ok (.invokespecial 3, 3) := by decide +kernel
theorem dX7_init_4 : decode cX7_init 4 = .ok (.aload_n 0, 1) := by decide +kernel
theorem dX7_init_5 : decode cX7_init 5 = .ok (.iconst (-1), 1) := by decide +kernel
theorem dX7_init_6 : decode cX7_init 6 = .ok (.putfield 9, 3) := by decide +kernel
theorem dX7_init_9 : decode cX7_init 9 = .ok (.aload_n 0, 1) := by decide +kernel
theorem dX7_init_10 : decode cX7_init 10 = .ok (.aconst_null, 1) := by decide +kernel
theorem dX7_init_11 : decode cX7_init 11 = .ok (.putfield 15, 3) := by decide +kernel
theorem dX7_init_14 : decode cX7_init 14 = .ok (.aload_n 0, 1) := by decide +kernel
theorem dX7_init_15 : decode cX7_init 15 = .ok (.iload_n 1, 1) := by decide +kernel
theorem dX7_init_16 : decode cX7_init 16 = .ok (.newarray .int, 2) := by decide +kernel
theorem dX7_init_18 : decode cX7_init 18 = .ok (.putfield 19, 3) := by decide +kernel
theorem dX7_init_21 : decode cX7_init 21 = .ok (.return_, 1) := by decide +kernel
theorem dX7_clear_0 : decode cX7_clear 0 = .ok (.iconst 0, 1) := by decide +kernel
theorem dX7_clear_1 : decode cX7_clear 1 = .ok (.istore_n 1, 1) := by decide +kernel
theorem dX7_clear_2 : decode cX7_clear 2 = .ok (.iload_n 1, 1) := by decide +kernel
theorem dX7_clear_3 : decode cX7_clear 3 = .ok (.aload_n 0, 1) := by decide +kernel
theorem dX7_clear_4 : decode cX7_clear 4 = .ok (.getfield 9, 3) := by decide +kernel
theorem dX7_clear_7 : decode cX7_clear 7 = .ok (.if_icmp .gt 16, 3) := by decide +kernel
theorem dX7_clear_10 : decode cX7_clear 10 = .ok (.aload_n 0, 1) := by decide +kernel
theorem dX7_clear_11 : decode cX7_clear 11 = .ok (.getfield 19, 3) := by decide +kernel
theorem dX7_clear_14 : decode cX7_clear 14 = .ok (.iload_n 1, 1) := by decide +kernel
theorem dX7_clear_15 : decode cX7_clear 15 = .ok (.iconst 0, 1) := by decide +kernel
theorem dX7_clear_16 : decode cX7_clear 16 = .ok (.iastore, 1) := by decide +kernel
theorem dX7_clear_17 : decode cX7_clear 17 = .ok (.iinc 1 1, 3) := by decide +kernel
theorem dX7_clear_20 : decode cX7_clear 20 = .ok (.goto (-18), 3) := by decide +kernel
theorem dX7_clear_23 : decode cX7_clear 23 = .ok (.aload_n 0, 1) := by decide +kernel
theorem dX7_clear_24 : decode cX7_clear 24 = .ok (.iconst (-1), 1) := by decide +kernel
theorem dX7_clear_25 : decode cX7_clear 25 = .ok (.putfield 9, 3) := by decide +kernel
theorem dX7_clear_28 : decode cX7_clear 28 = .ok (.return_, 1) := by decide +kernel
theorem dX7_load_0 : decode cX7_load 0 = .ok (.aload_n 0, 1) := by decide +kernel
theorem dX7_load_1 : decode cX7_load 1 = .ok (.invokevirtual 22, 3) := by decide +kernel
theorem dX7_load_4 : decode cX7_load 4 = .ok (.aload_n 1, 1) := by decide +kernel
theorem dX7_load_5 : decode cX7_load 5 = .ok (.iconst 0, 1) := by decide +kernel
theorem dX7_load_6 : decode cX7_load 6 = .ok (.aload_n 0, 1) := by decide +kernel
theorem dX7_load_7 : decode cX7_load 7 = .ok (.getfield 19, 3) := by decide +kernel
theorem dX7_load_10 : decode cX7_load 10 = .ok (.iconst 0, 1) := by decide +kernel
theorem dX7_load_11 : decode cX7_load 11 = .ok (.iload_n 2, 1) := by decide +kernel
theorem dX7_load_12 : decode cX7_load 12 = .ok (.invokestatic 25, 3) := by decide +kernel
theorem dX7_load_15 : decode cX7_load 15 = .ok (.aload_n 0, 1) := by decide +kernel
theorem dX7_load_16 : decode cX7_load 16 = .ok (.iload_n 2, 1) := by decide +kernel
theorem dX7_load_17 : decode cX7_load 17 = .ok (.iconst 1, 1) := by decide +kernel
theorem dX7_load_18 : decode cX7_load 18 = .ok (.isub, 1) := by decide +kernel
theorem dX7_load_19 : decode cX7_load 19 = .ok (.invokevirtual 31, 3) := by decide +kernel
theorem dX7_load_22 : decode cX7_load 22 = .ok (.return_, 1) := by decide +kernel
theorem dX7_copyFrom_0 : decode cX7_copyFrom 0 = .ok (.aload_n 0, 1) := by decide +kernel
theorem dX7_copyFrom_1 : decode cX7_copyFrom 1 = .ok (.aload_n 1, 1) := by decide +kernel
theorem dX7_copyFrom_2 : decode cX7_copyFrom 2 = .ok (.getfield 19, 3) := by decide +kernel
theorem dX7_copyFrom_5 : decode cX7_copyFrom 5 = .ok (.aload_n 1, 1) := by decide +kernel
theorem dX7_copyFrom_6 : decode cX7_copyFrom 6 = .ok (.getfield 9, 3) := by decide +kernel
theorem dX7_copyFrom_9 : decode cX7_copyFrom 9 = .ok (.iconst 1, 1) := by decide +kernel
theorem dX7_copyFrom_10 : decode cX7_copyFrom 10 = .ok (.iadd, 1) := by decide +kernel
theorem dX7_copyFrom_11 : decode cX7_copyFrom 11 = .ok (.invokevirtual 35, 3) := by decide +kernel
theorem dX7_copyFrom_14 : decode cX7_copyFrom 14 = .ok (.return_, 1) := by decide +kernel
theorem dX7_settle_0 : decode cX7_settle 0 = .ok (.iload_n 1, 1) := by decide +kernel
theorem dX7_settle_1 : decode cX7_settle 1 = .ok (.istore_n 2, 1) := by decide +kernel
theorem dX7_settle_2 : decode cX7_settle 2 = .ok (.iload_n 2, 1) := by decide +kernel
theorem dX7_settle_3 : decode cX7_settle 3 = .ok (.ifCond .lt 18, 3) := by decide +kernel
theorem dX7_settle_6 : decode cX7_settle 6 = .ok (.aload_n 0, 1) := by decide +kernel
theorem dX7_settle_7 : decode cX7_settle 7 = .ok (.getfield 19, 3) := by decide +kernel
theorem dX7_settle_10 : decode cX7_settle 10 = .ok (.iload_n 2, 1) := by decide +kernel
theorem dX7_settle_11 : decode cX7_settle 11 = .ok (.iaload, 1) := by decide +kernel
theorem dX7_settle_12 : decode cX7_settle 12 = .ok (.ifCond .ne 9, 3) := by decide +kernel
theorem dX7_settle_15 : decode cX7_settle 15 = .ok (.iinc 2 (-1), 3) := by decide +kernel
theorem dX7_settle_18 : decode cX7_settle 18 = .ok (.goto (-16), 3) := by decide +kernel
theorem dX7_settle_21 : decode cX7_settle 21 = .ok (.aload_n 0, 1) := by decide +kernel
theorem dX7_settle_22 : decode cX7_settle 22 = .ok (.iload_n 2, 1) := by decide +kernel
theorem dX7_settle_23 : decode cX7_settle 23 = .ok (.ifCond .ge 7, 3) := by decide +kernel
theorem dX7_settle_26 : decode cX7_settle 26 = .ok (.iconst (-1), 1) := by decide +kernel
theorem dX7_settle_27 : decode cX7_settle 27 = .ok (.goto 4, 3) := by decide +kernel
theorem dX7_settle_30 : decode cX7_settle 30 = .ok (.iload_n 2, 1) := by decide +kernel
theorem dX7_settle_31 : decode cX7_settle 31 = .ok (.putfield 9, 3) := by decide +kernel
theorem dX7_settle_34 : decode cX7_settle 34 = .ok (.return_, 1) := by decide +kernel
theorem dX7_addScaled_0 : decode cX7_addScaled 0 = .ok (.aload_n 1, 1) := by decide +kernel
theorem dX7_addScaled_1 : decode cX7_addScaled 1 = .ok (.aload_n 0, 1) := by decide +kernel
theorem dX7_addScaled_2 : decode cX7_addScaled 2 = .ok (.getfield 19, 3) := by decide +kernel
theorem dX7_addScaled_5 : decode cX7_addScaled 5 = .ok (.iconst 0, 1) := by decide +kernel
theorem dX7_addScaled_6 : decode cX7_addScaled 6 = .ok (.aload_n 2, 1) := by decide +kernel
theorem dX7_addScaled_7 : decode cX7_addScaled 7 = .ok (.getfield 19, 3) := by decide +kernel
theorem dX7_addScaled_10 : decode cX7_addScaled 10 = .ok (.iconst 0, 1) := by decide +kernel
theorem dX7_addScaled_11 : decode cX7_addScaled 11 = .ok (.aload_n 2, 1) := by decide +kernel
theorem dX7_addScaled_12 : decode cX7_addScaled 12 = .ok (.getfield 9, 3) := by decide +kernel
theorem dX7_addScaled_15 : decode cX7_addScaled 15 = .ok (.iconst 1, 1) := by decide +kernel
theorem dX7_addScaled_16 : decode cX7_addScaled 16 = .ok (.iadd, 1) := by decide +kernel
theorem dX7_addScaled_17 : decode cX7_addScaled 17 = .ok (.iload_n 3, 1) := by decide +kernel
theorem dX7_addScaled_18 : decode cX7_addScaled 18 = .ok (.invokevirtual 39, 3) := by decide +kernel
theorem dX7_addScaled_21 : decode cX7_addScaled 21 = .ok (.aload_n 0, 1) := by decide +kernel
theorem dX7_addScaled_22 : decode cX7_addScaled 22 = .ok (.aload_n 0, 1) := by decide +kernel
theorem dX7_addScaled_23 : decode cX7_addScaled 23 = .ok (.getfield 9, 3) := by decide +kernel
theorem dX7_addScaled_26 : decode cX7_addScaled 26 = .ok (.aload_n 2, 1) := by decide +kernel
theorem dX7_addScaled_27 : decode cX7_addScaled 27 = .ok (.getfield 9, 3) := by decide +kernel
theorem dX7_addScaled_30 : decode cX7_addScaled 30 = .ok (.invokestatic 45, 3) := by decide +kernel
theorem dX7_addScaled_33 : decode cX7_addScaled 33 = .ok (.invokevirtual 31, 3) := by decide +kernel
theorem dX7_addScaled_36 : decode cX7_addScaled 36 = .ok (.return_, 1) := by decide +kernel
theorem dX7_addMember_0 : decode cX7_addMember 0 = .ok (.aload_n 0, 1) := by decide +kernel
theorem dX7_addMember_1 : decode cX7_addMember 1 = .ok (.getfield 19, 3) := by decide +kernel
theorem dX7_addMember_4 : decode cX7_addMember 4 = .ok (.iconst 0, 1) := by decide +kernel
theorem dX7_addMember_5 : decode cX7_addMember 5 = .ok (.dup2, 1) := by decide +kernel
theorem dX7_addMember_6 : decode cX7_addMember 6 = .ok (.iaload, 1) := by decide +kernel
theorem dX7_addMember_7 : decode cX7_addMember 7 = .ok (.iload_n 1, 1) := by decide +kernel
theorem dX7_addMember_8 : decode cX7_addMember 8 = .ok (.ixor, 1) := by decide +kernel
theorem dX7_addMember_9 : decode cX7_addMember 9 = .ok (.iastore, 1) := by decide +kernel
theorem dX7_addMember_10 : decode cX7_addMember 10 = .ok (.aload_n 0, 1) := by decide +kernel
theorem dX7_addMember_11 : decode cX7_addMember 11 = .ok (.aload_n 0, 1) := by decide +kernel
theorem dX7_addMember_12 : decode cX7_addMember 12 = .ok (.getfield 9, 3) := by decide +kernel
theorem dX7_addMember_15 : decode cX7_addMember 15 = .ok (.iconst 0, 1) := by decide +kernel
theorem dX7_addMember_16 : decode cX7_addMember 16 = .ok (.invokestatic 45, 3) := by decide +kernel
theorem dX7_addMember_19 : decode cX7_addMember 19 = .ok (.invokevirtual 31, 3) := by decide +kernel
theorem dX7_addMember_22 : decode cX7_addMember 22 = .ok (.return_, 1) := by decide +kernel
theorem dX7_becomeX_0 : decode cX7_becomeX 0 = .ok (.aload_n 0, 1) := by decide +kernel
theorem dX7_becomeX_1 : decode cX7_becomeX 1 = .ok (.invokevirtual 22, 3) := by decide +kernel
theorem dX7_becomeX_4 : decode cX7_becomeX 4 = .ok (.aload_n 0, 1) := by decide +kernel
theorem dX7_becomeX_5 : decode cX7_becomeX 5 = .ok (.getfield 19, 3) := by decide +kernel
theorem dX7_becomeX_8 : decode cX7_becomeX 8 = .ok (.iconst 1, 1) := by decide +kernel
theorem dX7_becomeX_9 : decode cX7_becomeX 9 = .ok (.iconst 1, 1) := by decide +kernel
theorem dX7_becomeX_10 : decode cX7_becomeX 10 = .ok (.iastore, 1) := by decide +kernel
theorem dX7_becomeX_11 : decode cX7_becomeX 11 = .ok (.aload_n 0, 1) := by decide +kernel
theorem dX7_becomeX_12 : decode cX7_becomeX 12 = .ok (.iconst 1, 1) := by decide +kernel
theorem dX7_becomeX_13 : decode cX7_becomeX 13 = .ok (.putfield 9, 3) := by decide +kernel
theorem dX7_becomeX_16 : decode cX7_becomeX 16 = .ok (.return_, 1) := by decide +kernel
theorem dX7_shiftDown_0 : decode cX7_shiftDown 0 = .ok (.iconst 0, 1) := by decide +kernel
theorem dX7_shiftDown_1 : decode cX7_shiftDown 1 = .ok (.istore_n 2, 1) := by decide +kernel
theorem dX7_shiftDown_2 : decode cX7_shiftDown 2 = .ok (.iload_n 2, 1) := by decide +kernel
theorem dX7_shiftDown_3 : decode cX7_shiftDown 3 = .ok (.aload_n 0, 1) := by decide +kernel
theorem dX7_shiftDown_4 : decode cX7_shiftDown 4 = .ok (.getfield 9, 3) := by decide +kernel
theorem dX7_shiftDown_7 : decode cX7_shiftDown 7 = .ok (.if_icmp .gt 37, 3) := by decide +kernel
theorem dX7_shiftDown_10 : decode cX7_shiftDown 10 = .ok (.aload_n 0, 1) := by decide +kernel
theorem dX7_shiftDown_11 : decode cX7_shiftDown 11 = .ok (.getfield 19, 3) := by decide +kernel
theorem dX7_shiftDown_14 : decode cX7_shiftDown 14 = .ok (.iload_n 2, 1) := by decide +kernel
theorem dX7_shiftDown_15 : decode cX7_shiftDown 15 = .ok (.iload_n 2, 1) := by decide +kernel
theorem dX7_shiftDown_16 : decode cX7_shiftDown 16 = .ok (.iload_n 1, 1) := by decide +kernel
theorem dX7_shiftDown_17 : decode cX7_shiftDown 17 = .ok (.iadd, 1) := by decide +kernel
theorem dX7_shiftDown_18 : decode cX7_shiftDown 18 = .ok (.aload_n 0, 1) := by decide +kernel
theorem dX7_shiftDown_19 : decode cX7_shiftDown 19 = .ok (.getfield 9, 3) := by decide +kernel
theorem dX7_shiftDown_22 : decode cX7_shiftDown 22 = .ok (.if_icmp .gt 14, 3) := by decide +kernel
theorem dX7_shiftDown_25 : decode cX7_shiftDown 25 = .ok (.aload_n 0, 1) := by decide +kernel
theorem dX7_shiftDown_26 : decode cX7_shiftDown 26 = .ok (.getfield 19, 3) := by decide +kernel
theorem dX7_shiftDown_29 : decode cX7_shiftDown 29 = .ok (.iload_n 2, 1) := by decide +kernel
theorem dX7_shiftDown_30 : decode cX7_shiftDown 30 = .ok (.iload_n 1, 1) := by decide +kernel
theorem dX7_shiftDown_31 : decode cX7_shiftDown 31 = .ok (.iadd, 1) := by decide +kernel
theorem dX7_shiftDown_32 : decode cX7_shiftDown 32 = .ok (.iaload, 1) := by decide +kernel
theorem dX7_shiftDown_33 : decode cX7_shiftDown 33 = .ok (.goto 4, 3) := by decide +kernel
theorem dX7_shiftDown_36 : decode cX7_shiftDown 36 = .ok (.iconst 0, 1) := by decide +kernel
theorem dX7_shiftDown_37 : decode cX7_shiftDown 37 = .ok (.iastore, 1) := by decide +kernel
theorem dX7_shiftDown_38 : decode cX7_shiftDown 38 = .ok (.iinc 2 1, 3) := by decide +kernel
theorem dX7_shiftDown_41 : decode cX7_shiftDown 41 = .ok (.goto (-39), 3) := by decide +kernel
theorem dX7_shiftDown_44 : decode cX7_shiftDown 44 = .ok (.aload_n 0, 1) := by decide +kernel
theorem dX7_shiftDown_45 : decode cX7_shiftDown 45 = .ok (.aload_n 0, 1) := by decide +kernel
theorem dX7_shiftDown_46 : decode cX7_shiftDown 46 = .ok (.getfield 9, 3) := by decide +kernel
theorem dX7_shiftDown_49 : decode cX7_shiftDown 49 = .ok (.iload_n 1, 1) := by decide +kernel
theorem dX7_shiftDown_50 : decode cX7_shiftDown 50 = .ok (.isub, 1) := by decide +kernel
theorem dX7_shiftDown_51 : decode cX7_shiftDown 51 = .ok (.invokevirtual 31, 3) := by decide +kernel
theorem dX7_shiftDown_54 : decode cX7_shiftDown 54 = .ok (.return_, 1) := by decide +kernel
theorem dX8_init_0 : decode cX8_init 0 = .ok (.aload_n 0, 1) := by decide +kernel
theorem dX8_init_1 : decode cX8_init 1 = .ok (.invokespecial 3, 3) := by decide +kernel
theorem dX8_init_4 : decode cX8_init 4 = .ok (.aload_n 0, 1) := by decide +kernel
theorem dX8_init_5 : decode cX8_init 5 = .ok (.new 9, 3) := by decide +kernel
theorem dX8_init_8 : decode cX8_init 8 = .ok (.dup, 1) := by decide +kernel
theorem dX8_init_9 : decode cX8_init 9 = .ok (.sipush 129, 3) := by decide +kernel
theorem dX8_init_12 : decode cX8_init 12 = .ok (.invokespecial 11, 3) := by decide +kernel
theorem dX8_init_15 : decode cX8_init 15 = .ok (.putfield 14, 3) := by decide +kernel
theorem dX8_init_18 : decode cX8_init 18 = .ok (.aload_n 0, 1) := by decide +kernel
theorem dX8_init_19 : decode cX8_init 19 = .ok (.new 9, 3) := by decide +kernel
theorem dX8_init_22 : decode cX8_init 22 = .ok (.dup, 1) := by decide +kernel
theorem dX8_init_23 : decode cX8_init 23 = .ok (.sipush 129, 3) := by decide +kernel
theorem dX8_init_26 : decode cX8_init 26 = .ok (.invokespecial 11, 3) := by decide +kernel
theorem dX8_init_29 : decode cX8_init 29 = .ok (.putfield 20, 3) := by decide +kernel
theorem dX8_init_32 : decode cX8_init 32 = .ok (.aload_n 0, 1) := by decide +kernel
theorem dX8_init_33 : decode cX8_init 33 = .ok (.new 9, 3) := by decide +kernel
theorem dX8_init_36 : decode cX8_init 36 = .ok (.dup, 1) := by decide +kernel
theorem dX8_init_37 : decode cX8_init 37 = .ok (.sipush 129, 3) := by decide +kernel
theorem dX8_init_40 : decode cX8_init 40 = .ok (.invokespecial 11, 3) := by decide +kernel
theorem dX8_init_43 : decode cX8_init 43 = .ok (.putfield 23, 3) := by decide +kernel
theorem dX8_init_46 : decode cX8_init 46 = .ok (.aload_n 0, 1) := by decide +kernel
theorem dX8_init_47 : decode cX8_init 47 = .ok (.aload_n 1, 1) := by decide +kernel
theorem dX8_init_48 : decode cX8_init 48 = .ok (.putfield 26, 3) := by decide +kernel
theorem dX8_init_51 : decode cX8_init 51 = .ok (.aload_n 0, 1) := by decide +kernel
theorem dX8_init_52 : decode cX8_init 52 = .ok (.aload_n 2, 1) := by decide +kernel
theorem dX8_init_53 : decode cX8_init 53 = .ok (.putfield 30, 3) := by decide +kernel
theorem dX8_init_56 : decode cX8_init 56 = .ok (.aload_n 0, 1) := by decide +kernel
theorem dX8_init_57 : decode cX8_init 57 = .ok (.aload_n 1, 1) := by decide +kernel
theorem dX8_init_58 : decode cX8_init 58 = .ok (.getfield 34, 3) := by decide +kernel
theorem dX8_init_61 : decode cX8_init 61 = .ok (.newarray .int, 2) := by decide +kernel
theorem dX8_init_63 : decode cX8_init 63 = .ok (.putfield 40, 3) := by decide +kernel
theorem dX8_init_66 : decode cX8_init 66 = .ok (.iconst 0, 1) := by decide +kernel
theorem dX8_init_67 : decode cX8_init 67 = .ok (.istore_n 3, 1) := by decide +kernel
theorem dX8_init_68 : decode cX8_init 68 = .ok (.iload_n 3, 1) := by decide +kernel
theorem dX8_init_69 : decode cX8_init 69 = .ok (.aload_n 1, 1) := by decide +kernel
theorem dX8_init_70 : decode cX8_init 70 = .ok (.getfield 34, 3) := by decide +kernel
theorem dX8_init_73 : decode cX8_init 73 = .ok (.if_icmp .ge 23, 3) := by decide +kernel
theorem dX8_init_76 : decode cX8_init 76 = .ok (.aload_n 0, 1) := by decide +kernel
theorem dX8_init_77 : decode cX8_init 77 = .ok (.getfield 40, 3) := by decide +kernel
theorem dX8_init_80 : decode cX8_init 80 = .ok (.iload_n 3, 1) := by decide +kernel
theorem dX8_init_81 : decode cX8_init 81 = .ok (.aload_n 0, 1) := by decide +kernel
theorem dX8_init_82 : decode cX8_init 82 = .ok (.iload_n 3, 1) := by decide +kernel
theorem dX8_init_83 : decode cX8_init 83 = .ok (.iconst 1, 1) := by decide +kernel
theorem dX8_init_84 : decode cX8_init 84 = .ok (.iload_n 3, 1) := by decide +kernel
theorem dX8_init_85 : decode cX8_init 85 = .ok (.ishl, 1) := by decide +kernel
theorem dX8_init_86 : decode cX8_init 86 = .ok (.invokevirtual 44, 3) := by decide +kernel
theorem dX8_init_89 : decode cX8_init 89 = .ok (.iastore, 1) := by decide +kernel
theorem dX8_init_90 : decode cX8_init 90 = .ok (.iinc 3 1, 3) := by decide +kernel
theorem dX8_init_93 : decode cX8_init 93 = .ok (.goto (-25), 3) := by decide +kernel
theorem dX8_init_96 : decode cX8_init 96 = .ok (.aload_n 0, 1) := by decide +kernel
theorem dX8_init_97 : decode cX8_init 97 = .ok (.aload_n 1, 1) := by decide +kernel
theorem dX8_init_98 : decode cX8_init 98 = .ok (.getfield 34, 3) := by decide +kernel
theorem dX8_init_101 : decode cX8_init 101 = .ok (.iconst 1, 1) := by decide +kernel
theorem dX8_init_102 : decode cX8_init 102 = .ok (.iadd, 1) := by decide +kernel
theorem dX8_init_103 : decode cX8_init 103 = .ok (.anewarray 9, 3) := by decide +kernel
theorem dX8_init_106 : decode cX8_init 106 = .ok (.putfield 48, 3) := by decide +kernel
theorem dX8_init_109 : decode cX8_init 109 = .ok (.iconst 0, 1) := by decide +kernel
theorem dX8_init_110 : decode cX8_init 110 = .ok (.istore_n 3, 1) := by decide +kernel
theorem dX8_init_111 : decode cX8_init 111 = .ok (.iload_n 3, 1) := by decide +kernel
theorem dX8_init_112 : decode cX8_init 112 = .ok (.aload_n 1, 1) := by decide +kernel
theorem dX8_init_113 : decode cX8_init 113 = .ok (.getfield 34, 3) := by decide +kernel
theorem dX8_init_116 : decode cX8_init 116 = .ok (.if_icmp .gt 24, 3) := by decide +kernel
theorem dX8_init_119 : decode cX8_init 119 = .ok (.aload_n 0, 1) := by decide +kernel
theorem dX8_init_120 : decode cX8_init 120 = .ok (.getfield 48, 3) := by decide +kernel
theorem dX8_init_123 : decode cX8_init 123 = .ok (.iload_n 3, 1) := by decide +kernel
theorem dX8_init_124 : decode cX8_init 124 = .ok (.new 9, 3) := by decide +kernel
theorem dX8_init_127 : decode cX8_init 127 = .ok (.dup, 1) := by decide +kernel
theorem dX8_init_128 : decode cX8_init 128 = .ok (.bipush 65, 2) := by decide +kernel
theorem dX8_init_130 : decode cX8_init 130 = .ok (.invokespecial 11, 3) := by decide +kernel
theorem dX8_init_133 : decode cX8_init 133 = .ok (.aastore, 1) := by decide +kernel
theorem dX8_init_134 : decode cX8_init 134 = .ok (.iinc 3 1, 3) := by decide +kernel
theorem dX8_init_137 : decode cX8_init 137 = .ok (.goto (-26), 3) := by decide +kernel
theorem dX8_init_140 : decode cX8_init 140 = .ok (.return_, 1) := by decide +kernel
theorem dX8_valueAt_0 : decode cX8_valueAt 0 = .ok (.iload_n 2, 1) := by decide +kernel
theorem dX8_valueAt_1 : decode cX8_valueAt 1 = .ok (.istore_n 3, 1) := by decide +kernel
theorem dX8_valueAt_2 : decode cX8_valueAt 2 = .ok (.iconst 0, 1) := by decide +kernel
theorem dX8_valueAt_3 : decode cX8_valueAt 3 = .ok (.istore 4, 2) := by decide +kernel
theorem dX8_valueAt_5 : decode cX8_valueAt 5 = .ok (.iload 4, 2) := by decide +kernel
theorem dX8_valueAt_7 : decode cX8_valueAt 7 = .ok (.iload_n 1, 1) := by decide +kernel
theorem dX8_valueAt_8 : decode cX8_valueAt 8 = .ok (.if_icmp .ge 27, 3) := by decide +kernel
theorem dX8_valueAt_11 : decode cX8_valueAt 11 = .ok (.aload_n 0, 1) := by decide +kernel
theorem dX8_valueAt_12 : decode cX8_valueAt 12 = .ok (.getfield 26, 3) := by decide +kernel
theorem dX8_valueAt_15 : decode cX8_valueAt 15 = .ok (.iload_n 3, 1) := by decide +kernel
theorem dX8_valueAt_16 : decode cX8_valueAt 16 = .ok (.iload_n 3, 1) := by decide +kernel
theorem dX8_valueAt_17 : decode cX8_valueAt 17 = .ok (.aload_n 0, 1) := by decide +kernel
theorem dX8_valueAt_18 : decode cX8_valueAt 18 = .ok (.getfield 40, 3) := by decide +kernel
theorem dX8_valueAt_21 : decode cX8_valueAt 21 = .ok (.iload 4, 2) := by decide +kernel
theorem dX8_valueAt_23 : decode cX8_valueAt 23 = .ok (.iaload, 1) := by decide +kernel
theorem dX8_valueAt_24 : decode cX8_valueAt 24 = .ok (.ixor, 1) := by decide +kernel
theorem dX8_valueAt_25 : decode cX8_valueAt 25 = .ok (.invokevirtual 52, 3) := by decide +kernel
theorem dX8_valueAt_28 : decode cX8_valueAt 28 = .ok (.istore_n 3, 1) := by decide +kernel
theorem dX8_valueAt_29 : decode cX8_valueAt 29 = .ok (.iinc 4 1, 3) := by decide +kernel
theorem dX8_valueAt_32 : decode cX8_valueAt 32 = .ok (.goto (-27), 3) := by decide +kernel
theorem dX8_valueAt_35 : decode cX8_valueAt 35 = .ok (.iload_n 3, 1) := by decide +kernel
theorem dX8_valueAt_36 : decode cX8_valueAt 36 = .ok (.ireturn, 1) := by decide +kernel
theorem dX8_makeRests_0 : decode cX8_makeRests 0 = .ok (.aload_n 0, 1) := by decide +kernel
theorem dX8_makeRests_1 : decode cX8_makeRests 1 = .ok (.getfield 23, 3) := by decide +kernel
theorem dX8_makeRests_4 : decode cX8_makeRests 4 = .ok (.invokevirtual 55, 3) := by decide +kernel
theorem dX8_makeRests_7 : decode cX8_makeRests 7 = .ok (.aload_n 0, 1) := by decide +kernel
theorem dX8_makeRests_8 : decode cX8_makeRests 8 = .ok (.getfield 30, 3) := by decide +kernel
theorem dX8_makeRests_11 : decode cX8_makeRests 11 = .ok (.aload_n 0, 1) := by decide +kernel
theorem dX8_makeRests_12 : decode cX8_makeRests 12 = .ok (.getfield 23, 3) := by decide +kernel
theorem dX8_makeRests_15 : decode cX8_makeRests 15 = .ok (.aload_n 1, 1) := by decide +kernel
theorem dX8_makeRests_16 : decode cX8_makeRests 16 = .ok (.invokevirtual 58, 3) := by decide +kernel
theorem dX8_makeRests_19 : decode cX8_makeRests 19 = .ok (.aload_n 0, 1) := by decide +kernel
theorem dX8_makeRests_20 : decode cX8_makeRests 20 = .ok (.getfield 48, 3) := by decide +kernel
theorem dX8_makeRests_23 : decode cX8_makeRests 23 = .ok (.iconst 0, 1) := by decide +kernel
theorem dX8_makeRests_24 : decode cX8_makeRests 24 = .ok (.aaload, 1) := by decide +kernel
theorem dX8_makeRests_25 : decode cX8_makeRests 25 = .ok (.aload_n 0, 1) := by decide +kernel
theorem dX8_makeRests_26 : decode cX8_makeRests 26 = .ok (.getfield 23, 3) := by decide +kernel
theorem dX8_makeRests_29 : decode cX8_makeRests 29 = .ok (.invokevirtual 64, 3) := by decide +kernel
theorem dX8_makeRests_32 : decode cX8_makeRests 32 = .ok (.iconst 0, 1) := by decide +kernel
theorem dX8_makeRests_33 : decode cX8_makeRests 33 = .ok (.istore_n 2, 1) := by decide +kernel
theorem dX8_makeRests_34 : decode cX8_makeRests 34 = .ok (.iload_n 2, 1) := by decide +kernel
theorem dX8_makeRests_35 : decode cX8_makeRests 35 = .ok (.aload_n 0, 1) := by decide +kernel
theorem dX8_makeRests_36 : decode cX8_makeRests 36 = .ok (.getfield 26, 3) := by decide +kernel
theorem dX8_makeRests_39 : decode cX8_makeRests 39 = .ok (.getfield 34, 3) := by decide +kernel
theorem dX8_makeRests_42 : decode cX8_makeRests 42 = .ok (.if_icmp .ge 59, 3) := by decide +kernel
theorem dX8_makeRests_45 : decode cX8_makeRests 45 = .ok (.aload_n 0, 1) := by decide +kernel
theorem dX8_makeRests_46 : decode cX8_makeRests 46 = .ok (.getfield 30, 3) := by decide +kernel
theorem dX8_makeRests_49 : decode cX8_makeRests 49 = .ok (.aload_n 0, 1) := by decide +kernel
theorem dX8_makeRests_50 : decode cX8_makeRests 50 = .ok (.getfield 23, 3) := by decide +kernel
theorem dX8_makeRests_53 : decode cX8_makeRests 53 = .ok (.aload_n 1, 1) := by decide +kernel
theorem dX8_makeRests_54 : decode cX8_makeRests 54 = .ok (.invokevirtual 68, 3) := by decide +kernel
theorem dX8_makeRests_57 : decode cX8_makeRests 57 = .ok (.aload_n 0, 1) := by decide +kernel
theorem dX8_makeRests_58 : decode cX8_makeRests 58 = .ok (.getfield 23, 3) := by decide +kernel
theorem dX8_makeRests_61 : decode cX8_makeRests 61 = .ok (.aload_n 0, 1) := by decide +kernel
theorem dX8_makeRests_62 : decode cX8_makeRests 62 = .ok (.getfield 26, 3) := by decide +kernel
theorem dX8_makeRests_65 : decode cX8_makeRests 65 = .ok (.aload_n 0, 1) := by decide +kernel
theorem dX8_makeRests_66 : decode cX8_makeRests 66 = .ok (.getfield 48, 3) := by decide +kernel
theorem dX8_makeRests_69 : decode cX8_makeRests 69 = .ok (.iload_n 2, 1) := by decide +kernel
theorem dX8_makeRests_70 : decode cX8_makeRests 70 = .ok (.aaload, 1) := by decide +kernel
theorem dX8_makeRests_71 : decode cX8_makeRests 71 = .ok (.aload_n 0, 1) := by decide +kernel
theorem dX8_makeRests_72 : decode cX8_makeRests 72 = .ok (.getfield 40, 3) := by decide +kernel
theorem dX8_makeRests_75 : decode cX8_makeRests 75 = .ok (.iload_n 2, 1) := by decide +kernel
theorem dX8_makeRests_76 : decode cX8_makeRests 76 = .ok (.iaload, 1) := by decide +kernel
theorem dX8_makeRests_77 : decode cX8_makeRests 77 = .ok (.invokevirtual 71, 3) := by decide +kernel
theorem dX8_makeRests_80 : decode cX8_makeRests 80 = .ok (.aload_n 0, 1) := by decide +kernel
theorem dX8_makeRests_81 : decode cX8_makeRests 81 = .ok (.getfield 48, 3) := by decide +kernel
theorem dX8_makeRests_84 : decode cX8_makeRests 84 = .ok (.iload_n 2, 1) := by decide +kernel
theorem dX8_makeRests_85 : decode cX8_makeRests 85 = .ok (.iconst 1, 1) := by decide +kernel
theorem dX8_makeRests_86 : decode cX8_makeRests 86 = .ok (.iadd, 1) := by decide +kernel
theorem dX8_makeRests_87 : decode cX8_makeRests 87 = .ok (.aaload, 1) := by decide +kernel
theorem dX8_makeRests_88 : decode cX8_makeRests 88 = .ok (.aload_n 0, 1) := by decide +kernel
theorem dX8_makeRests_89 : decode cX8_makeRests 89 = .ok (.getfield 23, 3) := by decide +kernel
theorem dX8_makeRests_92 : decode cX8_makeRests 92 = .ok (.invokevirtual 64, 3) := by decide +kernel
theorem dX8_makeRests_95 : decode cX8_makeRests 95 = .ok (.iinc 2 1, 3) := by decide +kernel
theorem dX8_makeRests_98 : decode cX8_makeRests 98 = .ok (.goto (-64), 3) := by decide +kernel
theorem dX8_makeRests_101 : decode cX8_makeRests 101 = .ok (.return_, 1) := by decide +kernel
theorem dX8_find_0 : decode cX8_find 0 = .ok (.iload_n 2, 1) := by decide +kernel
theorem dX8_find_1 : decode cX8_find 1 = .ok (.aload_n 1, 1) := by decide +kernel
theorem dX8_find_2 : decode cX8_find 2 = .ok (.getfield 75, 3) := by decide +kernel
theorem dX8_find_5 : decode cX8_find 5 = .ok (.if_icmp .lt 5, 3) := by decide +kernel
theorem dX8_find_8 : decode cX8_find 8 = .ok (.iconst (-1), 1) := by decide +kernel
theorem dX8_find_9 : decode cX8_find 9 = .ok (.ireturn, 1) := by decide +kernel
theorem dX8_find_10 : decode cX8_find 10 = .ok (.aload_n 0, 1) := by decide +kernel
theorem dX8_find_11 : decode cX8_find 11 = .ok (.aload_n 1, 1) := by decide +kernel
theorem dX8_find_12 : decode cX8_find 12 = .ok (.invokevirtual 78, 3) := by decide +kernel
theorem dX8_find_15 : decode cX8_find 15 = .ok (.aload_n 0, 1) := by decide +kernel
theorem dX8_find_16 : decode cX8_find 16 = .ok (.getfield 14, 3) := by decide +kernel
theorem dX8_find_19 : decode cX8_find 19 = .ok (.aload_n 1, 1) := by decide +kernel
theorem dX8_find_20 : decode cX8_find 20 = .ok (.invokevirtual 64, 3) := by decide +kernel
theorem dX8_find_23 : decode cX8_find 23 = .ok (.aload_n 0, 1) := by decide +kernel
theorem dX8_find_24 : decode cX8_find 24 = .ok (.getfield 23, 3) := by decide +kernel
theorem dX8_find_27 : decode cX8_find 27 = .ok (.aload_n 0, 1) := by decide +kernel
theorem dX8_find_28 : decode cX8_find 28 = .ok (.getfield 48, 3) := by decide +kernel
theorem dX8_find_31 : decode cX8_find 31 = .ok (.aload_n 0, 1) := by decide +kernel
theorem dX8_find_32 : decode cX8_find 32 = .ok (.getfield 26, 3) := by decide +kernel
theorem dX8_find_35 : decode cX8_find 35 = .ok (.getfield 34, 3) := by decide +kernel
theorem dX8_find_38 : decode cX8_find 38 = .ok (.aaload, 1) := by decide +kernel
theorem dX8_find_39 : decode cX8_find 39 = .ok (.invokevirtual 64, 3) := by decide +kernel
theorem dX8_find_42 : decode cX8_find 42 = .ok (.aload_n 0, 1) := by decide +kernel
theorem dX8_find_43 : decode cX8_find 43 = .ok (.getfield 30, 3) := by decide +kernel
theorem dX8_find_46 : decode cX8_find 46 = .ok (.aload_n 0, 1) := by decide +kernel
theorem dX8_find_47 : decode cX8_find 47 = .ok (.getfield 14, 3) := by decide +kernel
theorem dX8_find_50 : decode cX8_find 50 = .ok (.aload_n 0, 1) := by decide +kernel
theorem dX8_find_51 : decode cX8_find 51 = .ok (.getfield 23, 3) := by decide +kernel
theorem dX8_find_54 : decode cX8_find 54 = .ok (.invokevirtual 81, 3) := by decide +kernel
theorem dX8_find_57 : decode cX8_find 57 = .ok (.iload_n 2, 1) := by decide +kernel
theorem dX8_find_58 : decode cX8_find 58 = .ok (.aload_n 0, 1) := by decide +kernel
theorem dX8_find_59 : decode cX8_find 59 = .ok (.getfield 14, 3) := by decide +kernel
theorem dX8_find_62 : decode cX8_find 62 = .ok (.getfield 75, 3) := by decide +kernel
theorem dX8_find_65 : decode cX8_find 65 = .ok (.if_icmp .lt 5, 3) := by decide +kernel
theorem dX8_find_68 : decode cX8_find 68 = .ok (.iconst (-1), 1) := by decide +kernel
theorem dX8_find_69 : decode cX8_find 69 = .ok (.ireturn, 1) := by decide +kernel
theorem dX8_find_70 : decode cX8_find 70 = .ok (.iconst 0, 1) := by decide +kernel
theorem dX8_find_71 : decode cX8_find 71 = .ok (.istore_n 3, 1) := by decide +kernel
theorem dX8_find_72 : decode cX8_find 72 = .ok (.iload_n 2, 1) := by decide +kernel
theorem dX8_find_73 : decode cX8_find 73 = .ok (.istore 4, 2) := by decide +kernel
theorem dX8_find_75 : decode cX8_find 75 = .ok (.aload_n 0, 1) := by decide +kernel
theorem dX8_find_76 : decode cX8_find 76 = .ok (.getfield 26, 3) := by decide +kernel
theorem dX8_find_79 : decode cX8_find 79 = .ok (.getfield 34, 3) := by decide +kernel
theorem dX8_find_82 : decode cX8_find 82 = .ok (.iconst 1, 1) := by decide +kernel
theorem dX8_find_83 : decode cX8_find 83 = .ok (.isub, 1) := by decide +kernel
theorem dX8_find_84 : decode cX8_find 84 = .ok (.istore 5, 2) := by decide +kernel
theorem dX8_find_86 : decode cX8_find 86 = .ok (.iload 5, 2) := by decide +kernel
theorem dX8_find_88 : decode cX8_find 88 = .ok (.ifCond .lt 87, 3) := by decide +kernel
theorem dX8_find_91 : decode cX8_find 91 = .ok (.aload_n 0, 1) := by decide +kernel
theorem dX8_find_92 : decode cX8_find 92 = .ok (.getfield 14, 3) := by decide +kernel
theorem dX8_find_95 : decode cX8_find 95 = .ok (.getfield 75, 3) := by decide +kernel
theorem dX8_find_98 : decode cX8_find 98 = .ok (.iconst 1, 1) := by decide +kernel
theorem dX8_find_99 : decode cX8_find 99 = .ok (.if_icmp .le 76, 3) := by decide +kernel
theorem dX8_find_102 : decode cX8_find 102 = .ok (.aload_n 0, 1) := by decide +kernel
theorem dX8_find_103 : decode cX8_find 103 = .ok (.iload 5, 2) := by decide +kernel
theorem dX8_find_105 : decode cX8_find 105 = .ok (.iload_n 3, 1) := by decide +kernel
theorem dX8_find_106 : decode cX8_find 106 = .ok (.invokevirtual 84, 3) := by decide +kernel
theorem dX8_find_109 : decode cX8_find 109 = .ok (.iload 4, 2) := by decide +kernel
theorem dX8_find_111 : decode cX8_find 111 = .ok (.aload_n 0, 1) := by decide +kernel
theorem dX8_find_112 : decode cX8_find 112 = .ok (.getfield 20, 3) := by decide +kernel
theorem dX8_find_115 : decode cX8_find 115 = .ok (.getfield 75, 3) := by decide +kernel
theorem dX8_find_118 : decode cX8_find 118 = .ok (.if_icmp .ge 17, 3) := by decide +kernel
theorem dX8_find_121 : decode cX8_find 121 = .ok (.aload_n 0, 1) := by decide +kernel
theorem dX8_find_122 : decode cX8_find 122 = .ok (.getfield 14, 3) := by decide +kernel
theorem dX8_find_125 : decode cX8_find 125 = .ok (.aload_n 0, 1) := by decide +kernel
theorem dX8_find_126 : decode cX8_find 126 = .ok (.getfield 20, 3) := by decide +kernel
theorem dX8_find_129 : decode cX8_find 129 = .ok (.invokevirtual 64, 3) := by decide +kernel
theorem dX8_find_132 : decode cX8_find 132 = .ok (.goto 37, 3) := by decide +kernel
theorem dX8_find_135 : decode cX8_find 135 = .ok (.iload 4, 2) := by decide +kernel
theorem dX8_find_137 : decode cX8_find 137 = .ok (.aload_n 0, 1) := by decide +kernel
theorem dX8_find_138 : decode cX8_find 138 = .ok (.getfield 20, 3) := by decide +kernel
theorem dX8_find_141 : decode cX8_find 141 = .ok (.getfield 75, 3) := by decide +kernel
theorem dX8_find_144 : decode cX8_find 144 = .ok (.isub, 1) := by decide +kernel
theorem dX8_find_145 : decode cX8_find 145 = .ok (.istore 4, 2) := by decide +kernel
theorem dX8_find_147 : decode cX8_find 147 = .ok (.iload_n 3, 1) := by decide +kernel
theorem dX8_find_148 : decode cX8_find 148 = .ok (.iconst 1, 1) := by decide +kernel
theorem dX8_find_149 : decode cX8_find 149 = .ok (.iload 5, 2) := by decide +kernel
theorem dX8_find_151 : decode cX8_find 151 = .ok (.ishl, 1) := by decide +kernel
theorem dX8_find_152 : decode cX8_find 152 = .ok (.ior, 1) := by decide +kernel
theorem dX8_find_153 : decode cX8_find 153 = .ok (.istore_n 3, 1) := by decide +kernel
theorem dX8_find_154 : decode cX8_find 154 = .ok (.aload_n 0, 1) := by decide +kernel
theorem dX8_find_155 : decode cX8_find 155 = .ok (.getfield 30, 3) := by decide +kernel
theorem dX8_find_158 : decode cX8_find 158 = .ok (.aload_n 0, 1) := by decide +kernel
theorem dX8_find_159 : decode cX8_find 159 = .ok (.getfield 14, 3) := by decide +kernel
theorem dX8_find_162 : decode cX8_find 162 = .ok (.aload_n 0, 1) := by decide +kernel
theorem dX8_find_163 : decode cX8_find 163 = .ok (.getfield 20, 3) := by decide +kernel
theorem dX8_find_166 : decode cX8_find 166 = .ok (.invokevirtual 88, 3) := by decide +kernel
theorem dX8_find_169 : decode cX8_find 169 = .ok (.iinc 5 (-1), 3) := by decide +kernel
theorem dX8_find_172 : decode cX8_find 172 = .ok (.goto (-86), 3) := by decide +kernel
theorem dX8_find_175 : decode cX8_find 175 = .ok (.aload_n 0, 1) := by decide +kernel
theorem dX8_find_176 : decode cX8_find 176 = .ok (.getfield 26, 3) := by decide +kernel
theorem dX8_find_179 : decode cX8_find 179 = .ok (.aload_n 0, 1) := by decide +kernel
theorem dX8_find_180 : decode cX8_find 180 = .ok (.getfield 14, 3) := by decide +kernel
theorem dX8_find_183 : decode cX8_find 183 = .ok (.getfield 91, 3) := by decide +kernel
theorem dX8_find_186 : decode cX8_find 186 = .ok (.iconst 0, 1) := by decide +kernel
theorem dX8_find_187 : decode cX8_find 187 = .ok (.iaload, 1) := by decide +kernel
theorem dX8_find_188 : decode cX8_find 188 = .ok (.aload_n 0, 1) := by decide +kernel
theorem dX8_find_189 : decode cX8_find 189 = .ok (.getfield 14, 3) := by decide +kernel
theorem dX8_find_192 : decode cX8_find 192 = .ok (.getfield 91, 3) := by decide +kernel
theorem dX8_find_195 : decode cX8_find 195 = .ok (.iconst 1, 1) := by decide +kernel
theorem dX8_find_196 : decode cX8_find 196 = .ok (.iaload, 1) := by decide +kernel
theorem dX8_find_197 : decode cX8_find 197 = .ok (.invokevirtual 94, 3) := by decide +kernel
theorem dX8_find_200 : decode cX8_find 200 = .ok (.ireturn, 1) := by decide +kernel
theorem dX8_keepLower_0 : decode cX8_keepLower 0 = .ok (.aload_n 0, 1) := by decide +kernel
theorem dX8_keepLower_1 : decode cX8_keepLower 1 = .ok (.getfield 20, 3) := by decide +kernel
theorem dX8_keepLower_4 : decode cX8_keepLower 4 = .ok (.aload_n 0, 1) := by decide +kernel
theorem dX8_keepLower_5 : decode cX8_keepLower 5 = .ok (.getfield 14, 3) := by decide +kernel
theorem dX8_keepLower_8 : decode cX8_keepLower 8 = .ok (.invokevirtual 64, 3) := by decide +kernel
theorem dX8_keepLower_11 : decode cX8_keepLower 11 = .ok (.aload_n 0, 1) := by decide +kernel
theorem dX8_keepLower_12 : decode cX8_keepLower 12 = .ok (.getfield 23, 3) := by decide +kernel
theorem dX8_keepLower_15 : decode cX8_keepLower 15 = .ok (.aload_n 0, 1) := by decide +kernel
theorem dX8_keepLower_16 : decode cX8_keepLower 16 = .ok (.getfield 48, 3) := by decide +kernel
theorem dX8_keepLower_19 : decode cX8_keepLower 19 = .ok (.iload_n 1, 1) := by decide +kernel
theorem dX8_keepLower_20 : decode cX8_keepLower 20 = .ok (.aaload, 1) := by decide +kernel
theorem dX8_keepLower_21 : decode cX8_keepLower 21 = .ok (.invokevirtual 64, 3) := by decide +kernel
theorem dX8_keepLower_24 : decode cX8_keepLower 24 = .ok (.aload_n 0, 1) := by decide +kernel
theorem dX8_keepLower_25 : decode cX8_keepLower 25 = .ok (.getfield 23, 3) := by decide +kernel
theorem dX8_keepLower_28 : decode cX8_keepLower 28 = .ok (.aload_n 0, 1) := by decide +kernel
theorem dX8_keepLower_29 : decode cX8_keepLower 29 = .ok (.iload_n 1, 1) := by decide +kernel
theorem dX8_keepLower_30 : decode cX8_keepLower 30 = .ok (.iload_n 2, 1) := by decide +kernel
theorem dX8_keepLower_31 : decode cX8_keepLower 31 = .ok (.invokevirtual 44, 3) := by decide +kernel
theorem dX8_keepLower_34 : decode cX8_keepLower 34 = .ok (.invokevirtual 97, 3) := by decide +kernel
theorem dX8_keepLower_37 : decode cX8_keepLower 37 = .ok (.aload_n 0, 1) := by decide +kernel
theorem dX8_keepLower_38 : decode cX8_keepLower 38 = .ok (.getfield 30, 3) := by decide +kernel
theorem dX8_keepLower_41 : decode cX8_keepLower 41 = .ok (.aload_n 0, 1) := by decide +kernel
theorem dX8_keepLower_42 : decode cX8_keepLower 42 = .ok (.getfield 20, 3) := by decide +kernel
theorem dX8_keepLower_45 : decode cX8_keepLower 45 = .ok (.aload_n 0, 1) := by decide +kernel
theorem dX8_keepLower_46 : decode cX8_keepLower 46 = .ok (.getfield 23, 3) := by decide +kernel
theorem dX8_keepLower_49 : decode cX8_keepLower 49 = .ok (.invokevirtual 81, 3) := by decide +kernel
theorem dX8_keepLower_52 : decode cX8_keepLower 52 = .ok (.return_, 1) := by decide +kernel
theorem dX9_init_0 : decode cX9_init 0 = .ok (.aload_n 0, 1) := by decide +kernel
theorem dX9_init_1 : decode cX9_init 1 = .ok (.invokespecial 3, 3) := by decide +kernel
theorem dX9_init_4 : decode cX9_init 4 = .ok (.aload_n 0, 1) := by decide +kernel
theorem dX9_init_5 : decode cX9_init 5 = .ok (.new 9, 3) := by decide +kernel
theorem dX9_init_8 : decode cX9_init 8 = .ok (.dup, 1) := by decide +kernel
theorem dX9_init_9 : decode cX9_init 9 = .ok (.sipush 129, 3) := by decide +kernel
theorem dX9_init_12 : decode cX9_init 12 = .ok (.invokespecial 11, 3) := by decide +kernel
theorem dX9_init_15 : decode cX9_init 15 = .ok (.putfield 14, 3) := by decide +kernel
theorem dX9_init_18 : decode cX9_init 18 = .ok (.aload_n 0, 1) := by decide +kernel
theorem dX9_init_19 : decode cX9_init 19 = .ok (.new 9, 3) := by decide +kernel
theorem dX9_init_22 : decode cX9_init 22 = .ok (.dup, 1) := by decide +kernel
theorem dX9_init_23 : decode cX9_init 23 = .ok (.sipush 129, 3) := by decide +kernel
theorem dX9_init_26 : decode cX9_init 26 = .ok (.invokespecial 11, 3) := by decide +kernel
theorem dX9_init_29 : decode cX9_init 29 = .ok (.putfield 18, 3) := by decide +kernel
theorem dX9_init_32 : decode cX9_init 32 = .ok (.aload_n 0, 1) := by decide +kernel
theorem dX9_init_33 : decode cX9_init 33 = .ok (.sipush 130, 3) := by decide +kernel
theorem dX9_init_36 : decode cX9_init 36 = .ok (.newarray .int, 2) := by decide +kernel
theorem dX9_init_38 : decode cX9_init 38 = .ok (.putfield 21, 3) := by decide +kernel
theorem dX9_init_41 : decode cX9_init 41 = .ok (.aload_n 0, 1) := by decide +kernel
theorem dX9_init_42 : decode cX9_init 42 = .ok (.bipush 40, 2) := by decide +kernel
theorem dX9_init_44 : decode cX9_init 44 = .ok (.anewarray 25, 3) := by decide +kernel
theorem dX9_init_47 : decode cX9_init 47 = .ok (.putfield 27, 3) := by decide +kernel
theorem dX9_init_50 : decode cX9_init 50 = .ok (.aload_n 0, 1) := by decide +kernel
theorem dX9_init_51 : decode cX9_init 51 = .ok (.bipush 40, 2) := by decide +kernel
theorem dX9_init_53 : decode cX9_init 53 = .ok (.anewarray 9, 3) := by decide +kernel
theorem dX9_init_56 : decode cX9_init 56 = .ok (.putfield 31, 3) := by decide +kernel
theorem dX9_init_59 : decode cX9_init 59 = .ok (.aload_n 0, 1) := by decide +kernel
theorem dX9_init_60 : decode cX9_init 60 = .ok (.bipush 64, 2) := by decide +kernel
theorem dX9_init_62 : decode cX9_init 62 = .ok (.newarray .int, 2) := by decide +kernel
theorem dX9_init_64 : decode cX9_init 64 = .ok (.putfield 35, 3) := by decide +kernel
theorem dX9_init_67 : decode cX9_init 67 = .ok (.aload_n 0, 1) := by decide +kernel
theorem dX9_init_68 : decode cX9_init 68 = .ok (.new 38, 3) := by decide +kernel
theorem dX9_init_71 : decode cX9_init 71 = .ok (.dup, 1) := by decide +kernel
theorem dX9_init_72 : decode cX9_init 72 = .ok (.iload_n 1, 1) := by decide +kernel
theorem dX9_init_73 : decode cX9_init 73 = .ok (.bipush 16, 2) := by decide +kernel
theorem dX9_init_75 : decode cX9_init 75 = .ok (.if_icmp .ne 8, 3) := by decide +kernel
theorem dX9_init_78 : decode cX9_init 78 = .ok (.bipush 16, 2) := by decide +kernel
theorem dX9_init_80 : decode cX9_init 80 = .ok (.goto 5, 3) := by decide +kernel
theorem dX9_init_83 : decode cX9_init 83 = .ok (.bipush 8, 2) := by decide +kernel
theorem dX9_init_85 : decode cX9_init 85 = .ok (.iload_n 2, 1) := by decide +kernel
theorem dX9_init_86 : decode cX9_init 86 = .ok (.invokespecial 40, 3) := by decide +kernel
theorem dX9_init_89 : decode cX9_init 89 = .ok (.putfield 43, 3) := by decide +kernel
theorem dX9_init_92 : decode cX9_init 92 = .ok (.aload_n 0, 1) := by decide +kernel
theorem dX9_init_93 : decode cX9_init 93 = .ok (.new 47, 3) := by decide +kernel
theorem dX9_init_96 : decode cX9_init 96 = .ok (.dup, 1) := by decide +kernel
theorem dX9_init_97 : decode cX9_init 97 = .ok (.aload_n 0, 1) := by decide +kernel
theorem dX9_init_98 : decode cX9_init 98 = .ok (.getfield 43, 3) := by decide +kernel
theorem dX9_init_101 : decode cX9_init 101 = .ok (.invokespecial 49, 3) := by decide +kernel
theorem dX9_init_104 : decode cX9_init 104 = .ok (.putfield 52, 3) := by decide +kernel
theorem dX9_init_107 : decode cX9_init 107 = .ok (.aload_n 0, 1) := by decide +kernel
theorem dX9_init_108 : decode cX9_init 108 = .ok (.new 56, 3) := by decide +kernel
theorem dX9_init_111 : decode cX9_init 111 = .ok (.dup, 1) := by decide +kernel
theorem dX9_init_112 : decode cX9_init 112 = .ok (.aload_n 0, 1) := by decide +kernel
theorem dX9_init_113 : decode cX9_init 113 = .ok (.getfield 43, 3) := by decide +kernel
theorem dX9_init_116 : decode cX9_init 116 = .ok (.invokespecial 58, 3) := by decide +kernel
theorem dX9_init_119 : decode cX9_init 119 = .ok (.putfield 59, 3) := by decide +kernel
theorem dX9_init_122 : decode cX9_init 122 = .ok (.aload_n 0, 1) := by decide +kernel
theorem dX9_init_123 : decode cX9_init 123 = .ok (.new 63, 3) := by decide +kernel
theorem dX9_init_126 : decode cX9_init 126 = .ok (.dup, 1) := by decide +kernel
theorem dX9_init_127 : decode cX9_init 127 = .ok (.aload_n 0, 1) := by decide +kernel
theorem dX9_init_128 : decode cX9_init 128 = .ok (.getfield 43, 3) := by decide +kernel
theorem dX9_init_131 : decode cX9_init 131 = .ok (.invokespecial 65, 3) := by decide +kernel
theorem dX9_init_134 : decode cX9_init 134 = .ok (.putfield 66, 3) := by decide +kernel
theorem dX9_init_137 : decode cX9_init 137 = .ok (.aload_n 0, 1) := by decide +kernel
theorem dX9_init_138 : decode cX9_init 138 = .ok (.new 70, 3) := by decide +kernel
theorem dX9_init_141 : decode cX9_init 141 = .ok (.dup, 1) := by decide +kernel
theorem dX9_init_142 : decode cX9_init 142 = .ok (.aload_n 0, 1) := by decide +kernel
theorem dX9_init_143 : decode cX9_init 143 = .ok (.getfield 43, 3) := by decide +kernel
theorem dX9_init_146 : decode cX9_init 146 = .ok (.invokespecial 72, 3) := by decide +kernel
theorem dX9_init_149 : decode cX9_init 149 = .ok (.putfield 73, 3) := by decide +kernel
theorem dX9_init_152 : decode cX9_init 152 = .ok (.aload_n 0, 1) := by decide +kernel
theorem dX9_init_153 : decode cX9_init 153 = .ok (.new 77, 3) := by decide +kernel
theorem dX9_init_156 : decode cX9_init 156 = .ok (.dup, 1) := by decide +kernel
theorem dX9_init_157 : decode cX9_init 157 = .ok (.aload_n 0, 1) := by decide +kernel
theorem dX9_init_158 : decode cX9_init 158 = .ok (.getfield 43, 3) := by decide +kernel
theorem dX9_init_161 : decode cX9_init 161 = .ok (.aload_n 0, 1) := by decide +kernel
theorem dX9_init_162 : decode cX9_init 162 = .ok (.getfield 66, 3) := by decide +kernel
theorem dX9_init_165 : decode cX9_init 165 = .ok (.invokespecial 79, 3) := by decide +kernel
theorem dX9_init_168 : decode cX9_init 168 = .ok (.putfield 82, 3) := by decide +kernel
theorem dX9_init_171 : decode cX9_init 171 = .ok (.aload_n 0, 1) := by decide +kernel
theorem dX9_init_172 : decode cX9_init 172 = .ok (.new 86, 3) := by decide +kernel
theorem dX9_init_175 : decode cX9_init 175 = .ok (.dup, 1) := by decide +kernel
theorem dX9_init_176 : decode cX9_init 176 = .ok (.aload_n 0, 1) := by decide +kernel
theorem dX9_init_177 : decode cX9_init 177 = .ok (.getfield 43, 3) := by decide +kernel
theorem dX9_init_180 : decode cX9_init 180 = .ok (.aload_n 0, 1) := by decide +kernel
theorem dX9_init_181 : decode cX9_init 181 = .ok (.getfield 66, 3) := by decide +kernel
theorem dX9_init_184 : decode cX9_init 184 = .ok (.invokespecial 88, 3) := by decide +kernel
theorem dX9_init_187 : decode cX9_init 187 = .ok (.putfield 89, 3) := by decide +kernel
theorem dX9_init_190 : decode cX9_init 190 = .ok (.return_, 1) := by decide +kernel
theorem dX9_poly_0 : decode cX9_poly 0 = .ok (.aload_n 0, 1) := by decide +kernel
theorem dX9_poly_1 : decode cX9_poly 1 = .ok (.getfield 43, 3) := by decide +kernel
theorem dX9_poly_4 : decode cX9_poly 4 = .ok (.getfield 93, 3) := by decide +kernel
theorem dX9_poly_7 : decode cX9_poly 7 = .ok (.ireturn, 1) := by decide +kernel
theorem dX9_generator_0 : decode cX9_generator 0 = .ok (.aload_n 0, 1) := by decide +kernel
theorem dX9_generator_1 : decode cX9_generator 1 = .ok (.getfield 43, 3) := by decide +kernel
theorem dX9_generator_4 : decode cX9_generator 4 = .ok (.getfield 97, 3) := by decide +kernel
theorem dX9_generator_7 : decode cX9_generator 7 = .ok (.ireturn, 1) := by decide +kernel
theorem dX9_product_0 : decode cX9_product 0 = .ok (.aload_n 0, 1) := by decide +kernel
theorem dX9_product_1 : decode cX9_product 1 = .ok (.iload_n 1, 1) := by decide +kernel
theorem dX9_product_2 : decode cX9_product 2 = .ok (.invokevirtual 100, 3) := by decide +kernel
theorem dX9_product_5 : decode cX9_product 5 = .ok (.aload_n 0, 1) := by decide +kernel
theorem dX9_product_6 : decode cX9_product 6 = .ok (.iload_n 2, 1) := by decide +kernel
theorem dX9_product_7 : decode cX9_product 7 = .ok (.invokevirtual 100, 3) := by decide +kernel
theorem dX9_product_10 : decode cX9_product 10 = .ok (.aload_n 0, 1) := by decide +kernel
theorem dX9_product_11 : decode cX9_product 11 = .ok (.getfield 43, 3) := by decide +kernel
theorem dX9_product_14 : decode cX9_product 14 = .ok (.iload_n 1, 1) := by decide +kernel
theorem dX9_product_15 : decode cX9_product 15 = .ok (.iload_n 2, 1) := by decide +kernel
theorem dX9_product_16 : decode cX9_product 16 = .ok (.invokevirtual 103, 3) := by decide +kernel
theorem dX9_product_19 : decode cX9_product 19 = .ok (.ireturn, 1) := by decide +kernel
theorem dX9_quotient_0 : decode cX9_quotient 0 = .ok (.aload_n 0, 1) := by decide +kernel
theorem dX9_quotient_1 : decode cX9_quotient 1 = .ok (.iload_n 1, 1) := by decide +kernel
theorem dX9_quotient_2 : decode cX9_quotient 2 = .ok (.invokevirtual 100, 3) := by decide +kernel
theorem dX9_quotient_5 : decode cX9_quotient 5 = .ok (.aload_n 0, 1) := by decide +kernel
theorem dX9_quotient_6 : decode cX9_quotient 6 = .ok (.iload_n 2, 1) := by decide +kernel
theorem dX9_quotient_7 : decode cX9_quotient 7 = .ok (.invokevirtual 100, 3) := by decide +kernel
theorem dX9_quotient_10 : decode cX9_quotient 10 = .ok (.iload_n 2, 1) := by decide +kernel
theorem dX9_quotient_11 : decode cX9_quotient 11 = .ok (.ifCond .ne 13, 3) := by decide +kernel
theorem dX9_quotient_14 : decode cX9_quotient 14 = .ok (.new 107, 3) := by decide +kernel
theorem dX9_quotient_17 : decode cX9_quotient 17 = .ok (.dup, 1) := by decide +kernel
theorem dX9_quotient_18 : decode cX9_quotient 18 = .ok (.ldc 109, 2) := by decide +kernel
theorem dX9_quotient_20 : decode cX9_quotient 20 = .ok (.invokespecial 111, 3) := by decide +kernel
theorem dX9_quotient_23 : decode cX9_quotient 23 = .ok (.athrow, 1) := by decide +kernel
theorem dX9_quotient_24 : decode cX9_quotient 24 = .ok (.aload_n 0, 1) := by decide +kernel
theorem dX9_quotient_25 : decode cX9_quotient 25 = .ok (.getfield 43, 3) := by decide +kernel
theorem dX9_quotient_28 : decode cX9_quotient 28 = .ok (.iload_n 1, 1) := by decide +kernel
theorem dX9_quotient_29 : decode cX9_quotient 29 = .ok (.iload_n 2, 1) := by decide +kernel
theorem dX9_quotient_30 : decode cX9_quotient 30 = .ok (.invokevirtual 114, 3) := by decide +kernel
theorem dX9_quotient_33 : decode cX9_quotient 33 = .ok (.ireturn, 1) := by decide +kernel
theorem dX9_power_0 : decode cX9_power 0 = .ok (.aload_n 0, 1) := by decide +kernel
theorem dX9_power_1 : decode cX9_power 1 = .ok (.iload_n 1, 1) := by decide +kernel
theorem dX9_power_2 : decode cX9_power 2 = .ok (.invokevirtual 100, 3) := by decide +kernel
theorem dX9_power_5 : decode cX9_power 5 = .ok (.iload_n 1, 1) := by decide +kernel
theorem dX9_power_6 : decode cX9_power 6 = .ok (.ifCond .ne 19, 3) := by decide +kernel
theorem dX9_power_9 : decode cX9_power 9 = .ok (.lload_n 2, 1) := by decide +kernel
theorem dX9_power_10 : decode cX9_power 10 = .ok (.lconst 0, 1) := by decide +kernel
theorem dX9_power_11 : decode cX9_power 11 = .ok (.lcmp, 1) := by decide +kernel
theorem dX9_power_12 : decode cX9_power 12 = .ok (.ifCond .ge 13, 3) := by decide +kernel
theorem dX9_power_15 : decode cX9_power 15 = .ok (.new 107, 3) := by decide +kernel
theorem dX9_power_18 : decode cX9_power 18 = .ok (.dup, 1) := by decide +kernel
theorem dX9_power_19 : decode cX9_power 19 = .ok (.ldc 117, 2) := by decide +kernel
theorem dX9_power_21 : decode cX9_power 21 = .ok (.invokespecial 111, 3) := by decide +kernel
theorem dX9_power_24 : decode cX9_power 24 = .ok (.athrow, 1) := by decide +kernel
theorem dX9_power_25 : decode cX9_power 25 = .ok (.aload_n 0, 1) := by decide +kernel
theorem dX9_power_26 : decode cX9_power 26 = .ok (.getfield 43, 3) := by decide +kernel
theorem dX9_power_29 : decode cX9_power 29 = .ok (.iload_n 1, 1) := by decide +kernel
theorem dX9_power_30 : decode cX9_power 30 = .ok (.lload_n 2, 1) := by decide +kernel
theorem dX9_power_31 : decode cX9_power 31 = .ok (.invokevirtual 119, 3) := by decide +kernel
theorem dX9_power_34 : decode cX9_power 34 = .ok (.ireturn, 1) := by decide +kernel
theorem dX9_log_0 : decode cX9_log 0 = .ok (.aload_n 0, 1) := by decide +kernel
theorem dX9_log_1 : decode cX9_log 1 = .ok (.iload_n 1, 1) := by decide +kernel
theorem dX9_log_2 : decode cX9_log 2 = .ok (.invokevirtual 100, 3) := by decide +kernel
theorem dX9_log_5 : decode cX9_log 5 = .ok (.iload_n 1, 1) := by decide +kernel
theorem dX9_log_6 : decode cX9_log 6 = .ok (.ifCond .ne 13, 3) := by decide +kernel
theorem dX9_log_9 : decode cX9_log 9 = .ok (.new 123, 3) := by decide +kernel
theorem dX9_log_12 : decode cX9_log 12 = .ok (.dup, 1) := by decide +kernel
theorem dX9_log_13 : decode cX9_log 13 = .ok (.ldc 125, 2) := by decide +kernel
theorem dX9_log_15 : decode cX9_log 15 = .ok (.invokespecial 127, 3) := by decide +kernel
theorem dX9_log_18 : decode cX9_log 18 = .ok (.athrow, 1) := by decide +kernel
theorem dX9_log_19 : decode cX9_log 19 = .ok (.aload_n 0, 1) := by decide +kernel
theorem dX9_log_20 : decode cX9_log 20 = .ok (.getfield 43, 3) := by decide +kernel
theorem dX9_log_23 : decode cX9_log 23 = .ok (.iload_n 1, 1) := by decide +kernel
theorem dX9_log_24 : decode cX9_log 24 = .ok (.invokevirtual 128, 3) := by decide +kernel
theorem dX9_log_27 : decode cX9_log 27 = .ok (.ireturn, 1) := by decide +kernel
theorem dX9_order_0 : decode cX9_order 0 = .ok (.aload_n 0, 1) := by decide +kernel
theorem dX9_order_1 : decode cX9_order 1 = .ok (.iload_n 1, 1) := by decide +kernel
theorem dX9_order_2 : decode cX9_order 2 = .ok (.invokevirtual 100, 3) := by decide +kernel
theorem dX9_order_5 : decode cX9_order 5 = .ok (.aload_n 0, 1) := by decide +kernel
theorem dX9_order_6 : decode cX9_order 6 = .ok (.getfield 43, 3) := by decide +kernel
theorem dX9_order_9 : decode cX9_order 9 = .ok (.iload_n 1, 1) := by decide +kernel
theorem dX9_order_10 : decode cX9_order 10 = .ok (.invokevirtual 132, 3) := by decide +kernel
theorem dX9_order_13 : decode cX9_order 13 = .ok (.ireturn, 1) := by decide +kernel
theorem dX9_put_0 : decode cX9_put 0 = .ok (.aload_n 0, 1) := by decide +kernel
theorem dX9_put_1 : decode cX9_put 1 = .ok (.iload_n 1, 1) := by decide +kernel
theorem dX9_put_2 : decode cX9_put 2 = .ok (.invokevirtual 100, 3) := by decide +kernel
theorem dX9_put_5 : decode cX9_put 5 = .ok (.aload_n 0, 1) := by decide +kernel
theorem dX9_put_6 : decode cX9_put 6 = .ok (.getfield 135, 3) := by decide +kernel
theorem dX9_put_9 : decode cX9_put 9 = .ok (.sipush 130, 3) := by decide +kernel
theorem dX9_put_12 : decode cX9_put 12 = .ok (.if_icmp .lt 13, 3) := by decide +kernel
theorem dX9_put_15 : decode cX9_put 15 = .ok (.new 138, 3) := by decide +kernel
theorem dX9_put_18 : decode cX9_put 18 = .ok (.dup, 1) := by decide +kernel
theorem dX9_put_19 : decode cX9_put 19 = .ok (.ldc 140, 2) := by decide +kernel
theorem dX9_put_21 : decode cX9_put 21 = .ok (.invokespecial 142, 3) := by decide +kernel
theorem dX9_put_24 : decode cX9_put 24 = .ok (.athrow, 1) := by decide +kernel
theorem dX9_put_25 : decode cX9_put 25 = .ok (.aload_n 0, 1) := by decide +kernel
theorem dX9_put_26 : decode cX9_put 26 = .ok (.getfield 21, 3) := by decide +kernel
theorem dX9_put_29 : decode cX9_put 29 = .ok (.aload_n 0, 1) := by decide +kernel
theorem dX9_put_30 : decode cX9_put 30 = .ok (.getfield 135, 3) := by decide +kernel
theorem dX9_put_33 : decode cX9_put 33 = .ok (.iload_n 1, 1) := by decide +kernel
theorem dX9_put_34 : decode cX9_put 34 = .ok (.iastore, 1) := by decide +kernel
theorem dX9_put_35 : decode cX9_put 35 = .ok (.aload_n 0, 1) := by decide +kernel
theorem dX9_put_36 : decode cX9_put 36 = .ok (.dup, 1) := by decide +kernel
theorem dX9_put_37 : decode cX9_put 37 = .ok (.getfield 135, 3) := by decide +kernel
theorem dX9_put_40 : decode cX9_put 40 = .ok (.iconst 1, 1) := by decide +kernel
theorem dX9_put_41 : decode cX9_put 41 = .ok (.iadd, 1) := by decide +kernel
theorem dX9_put_42 : decode cX9_put 42 = .ok (.putfield 135, 3) := by decide +kernel
theorem dX9_put_45 : decode cX9_put 45 = .ok (.aload_n 0, 1) := by decide +kernel
theorem dX9_put_46 : decode cX9_put 46 = .ok (.getfield 135, 3) := by decide +kernel
theorem dX9_put_49 : decode cX9_put 49 = .ok (.ireturn, 1) := by decide +kernel
theorem dX9_row_0 : decode cX9_row 0 = .ok (.iload_n 1, 1) := by decide +kernel
theorem dX9_row_1 : decode cX9_row 1 = .ok (.ifCond .ge 13, 3) := by decide +kernel
theorem dX9_row_4 : decode cX9_row 4 = .ok (.new 143, 3) := by decide +kernel
theorem dX9_row_7 : decode cX9_row 7 = .ok (.dup, 1) := by decide +kernel
theorem dX9_row_8 : decode cX9_row 8 = .ok (.ldc 145, 2) := by decide +kernel
theorem dX9_row_10 : decode cX9_row 10 = .ok (.invokespecial 147, 3) := by decide +kernel
theorem dX9_row_13 : decode cX9_row 13 = .ok (.athrow, 1) := by decide +kernel
theorem dX9_row_14 : decode cX9_row 14 = .ok (.iload_n 1, 1) := by decide +kernel
theorem dX9_row_15 : decode cX9_row 15 = .ok (.aload_n 0, 1) := by decide +kernel
theorem dX9_row_16 : decode cX9_row 16 = .ok (.getfield 135, 3) := by decide +kernel
theorem dX9_row_19 : decode cX9_row 19 = .ok (.if_icmp .ge 12, 3) := by decide +kernel
theorem dX9_row_22 : decode cX9_row 22 = .ok (.aload_n 0, 1) := by decide +kernel
theorem dX9_row_23 : decode cX9_row 23 = .ok (.getfield 21, 3) := by decide +kernel
theorem dX9_row_26 : decode cX9_row 26 = .ok (.iload_n 1, 1) := by decide +kernel
theorem dX9_row_27 : decode cX9_row 27 = .ok (.iaload, 1) := by decide +kernel
theorem dX9_row_28 : decode cX9_row 28 = .ok (.goto 4, 3) := by decide +kernel
theorem dX9_row_31 : decode cX9_row 31 = .ok (.iconst (-1), 1) := by decide +kernel
theorem dX9_row_32 : decode cX9_row 32 = .ok (.ireturn, 1) := by decide +kernel
theorem dX9_drop_0 : decode cX9_drop 0 = .ok (.aload_n 0, 1) := by decide +kernel
theorem dX9_drop_1 : decode cX9_drop 1 = .ok (.getfield 135, 3) := by decide +kernel
theorem dX9_drop_4 : decode cX9_drop 4 = .ok (.istore_n 1, 1) := by decide +kernel
theorem dX9_drop_5 : decode cX9_drop 5 = .ok (.aload_n 0, 1) := by decide +kernel
theorem dX9_drop_6 : decode cX9_drop 6 = .ok (.iconst 0, 1) := by decide +kernel
theorem dX9_drop_7 : decode cX9_drop 7 = .ok (.putfield 135, 3) := by decide +kernel
theorem dX9_drop_10 : decode cX9_drop 10 = .ok (.iload_n 1, 1) := by decide +kernel
theorem dX9_drop_11 : decode cX9_drop 11 = .ok (.ireturn, 1) := by decide +kernel
theorem dX9_matrix_0 : decode cX9_matrix 0 = .ok (.iload_n 1, 1) := by decide +kernel
theorem dX9_matrix_1 : decode cX9_matrix 1 = .ok (.iload_n 2, 1) := by decide +kernel
theorem dX9_matrix_2 : decode cX9_matrix 2 = .ok (.invokestatic 148, 3) := by decide +kernel
theorem dX9_matrix_5 : decode cX9_matrix 5 = .ok (.aload_n 0, 1) := by decide +kernel
theorem dX9_matrix_6 : decode cX9_matrix 6 = .ok (.invokevirtual 151, 3) := by decide +kernel
theorem dX9_matrix_9 : decode cX9_matrix 9 = .ok (.aload_n 0, 1) := by decide +kernel
theorem dX9_matrix_10 : decode cX9_matrix 10 = .ok (.new 25, 3) := by decide +kernel
theorem dX9_matrix_13 : decode cX9_matrix 13 = .ok (.dup, 1) := by decide +kernel
theorem dX9_matrix_14 : decode cX9_matrix 14 = .ok (.iload_n 1, 1) := by decide +kernel
theorem dX9_matrix_15 : decode cX9_matrix 15 = .ok (.iload_n 2, 1) := by decide +kernel
theorem dX9_matrix_16 : decode cX9_matrix 16 = .ok (.invokespecial 154, 3) := by decide +kernel
theorem dX9_matrix_19 : decode cX9_matrix 19 = .ok (.invokevirtual 155, 3) := by decide +kernel
theorem dX9_matrix_22 : decode cX9_matrix 22 = .ok (.ireturn, 1) := by decide +kernel
theorem dX9_powers_0 : decode cX9_powers 0 = .ok (.iload_n 1, 1) := by decide +kernel
theorem dX9_powers_1 : decode cX9_powers 1 = .ok (.iload_n 2, 1) := by decide +kernel
theorem dX9_powers_2 : decode cX9_powers 2 = .ok (.invokestatic 148, 3) := by decide +kernel
theorem dX9_powers_5 : decode cX9_powers 5 = .ok (.aload_n 0, 1) := by decide +kernel
theorem dX9_powers_6 : decode cX9_powers 6 = .ok (.getfield 135, 3) := by decide +kernel
theorem dX9_powers_9 : decode cX9_powers 9 = .ok (.iload_n 1, 1) := by decide +kernel
theorem dX9_powers_10 : decode cX9_powers 10 = .ok (.if_icmp .ne 11, 3) := by decide +kernel
theorem dX9_powers_13 : decode cX9_powers 13 = .ok (.aload_n 0, 1) := by decide +kernel
theorem dX9_powers_14 : decode cX9_powers 14 = .ok (.iconst 1, 1) := by decide +kernel
theorem dX9_powers_15 : decode cX9_powers 15 = .ok (.invokevirtual 159, 3) := by decide +kernel
theorem dX9_powers_18 : decode cX9_powers 18 = .ok (.ifCond .eq 13, 3) := by decide +kernel
theorem dX9_powers_21 : decode cX9_powers 21 = .ok (.new 163, 3) := by decide +kernel
theorem dX9_powers_24 : decode cX9_powers 24 = .ok (.dup, 1) := by decide +kernel
theorem dX9_powers_25 : decode cX9_powers 25 = .ok (.ldc 165, 2) := by decide +kernel
theorem dX9_powers_27 : decode cX9_powers 27 = .ok (.invokespecial 167, 3) := by decide +kernel
theorem dX9_powers_30 : decode cX9_powers 30 = .ok (.athrow, 1) := by decide +kernel
theorem dX9_powers_31 : decode cX9_powers 31 = .ok (.aload_n 0, 1) := by decide +kernel
theorem dX9_powers_32 : decode cX9_powers 32 = .ok (.invokevirtual 151, 3) := by decide +kernel
theorem dX9_powers_35 : decode cX9_powers 35 = .ok (.new 25, 3) := by decide +kernel
theorem dX9_powers_38 : decode cX9_powers 38 = .ok (.dup, 1) := by decide +kernel
theorem dX9_powers_39 : decode cX9_powers 39 = .ok (.iload_n 1, 1) := by decide +kernel
theorem dX9_powers_40 : decode cX9_powers 40 = .ok (.iload_n 2, 1) := by decide +kernel
theorem dX9_powers_41 : decode cX9_powers 41 = .ok (.invokespecial 154, 3) := by decide +kernel
theorem dX9_powers_44 : decode cX9_powers 44 = .ok (.astore_n 3, 1) := by decide +kernel
theorem dX9_powers_45 : decode cX9_powers 45 = .ok (.iconst 0, 1) := by decide +kernel
theorem dX9_powers_46 : decode cX9_powers 46 = .ok (.istore 4, 2) := by decide +kernel
theorem dX9_powers_48 : decode cX9_powers 48 = .ok (.iload 4, 2) := by decide +kernel
theorem dX9_powers_50 : decode cX9_powers 50 = .ok (.iload_n 1, 1) := by decide +kernel
theorem dX9_powers_51 : decode cX9_powers 51 = .ok (.if_icmp .ge 59, 3) := by decide +kernel
theorem dX9_powers_54 : decode cX9_powers 54 = .ok (.iconst 1, 1) := by decide +kernel
theorem dX9_powers_55 : decode cX9_powers 55 = .ok (.istore 5, 2) := by decide +kernel
theorem dX9_powers_57 : decode cX9_powers 57 = .ok (.iconst 0, 1) := by decide +kernel
theorem dX9_powers_58 : decode cX9_powers 58 = .ok (.istore 6, 2) := by decide +kernel
theorem dX9_powers_60 : decode cX9_powers 60 = .ok (.iload 6, 2) := by decide +kernel
theorem dX9_powers_62 : decode cX9_powers 62 = .ok (.iload_n 2, 1) := by decide +kernel
theorem dX9_powers_63 : decode cX9_powers 63 = .ok (.if_icmp .ge 41, 3) := by decide +kernel
theorem dX9_powers_66 : decode cX9_powers 66 = .ok (.aload_n 3, 1) := by decide +kernel
theorem dX9_powers_67 : decode cX9_powers 67 = .ok (.getfield 168, 3) := by decide +kernel
theorem dX9_powers_70 : decode cX9_powers 70 = .ok (.iload 4, 2) := by decide +kernel
theorem dX9_powers_72 : decode cX9_powers 72 = .ok (.iload_n 2, 1) := by decide +kernel
theorem dX9_powers_73 : decode cX9_powers 73 = .ok (.imul, 1) := by decide +kernel
theorem dX9_powers_74 : decode cX9_powers 74 = .ok (.iload 6, 2) := by decide +kernel
theorem dX9_powers_76 : decode cX9_powers 76 = .ok (.iadd, 1) := by decide +kernel
theorem dX9_powers_77 : decode cX9_powers 77 = .ok (.iload 5, 2) := by decide +kernel
theorem dX9_powers_79 : decode cX9_powers 79 = .ok (.iastore, 1) := by decide +kernel
theorem dX9_powers_80 : decode cX9_powers 80 = .ok (.aload_n 0, 1) := by decide +kernel
theorem dX9_powers_81 : decode cX9_powers 81 = .ok (.getfield 43, 3) := by decide +kernel
theorem dX9_powers_84 : decode cX9_powers 84 = .ok (.iload 5, 2) := by decide +kernel
theorem dX9_powers_86 : decode cX9_powers 86 = .ok (.aload_n 0, 1) := by decide +kernel
theorem dX9_powers_87 : decode cX9_powers 87 = .ok (.getfield 21, 3) := by decide +kernel
theorem dX9_powers_90 : decode cX9_powers 90 = .ok (.iload 4, 2) := by decide +kernel
theorem dX9_powers_92 : decode cX9_powers 92 = .ok (.iaload, 1) := by decide +kernel
theorem dX9_powers_93 : decode cX9_powers 93 = .ok (.invokevirtual 103, 3) := by decide +kernel
theorem dX9_powers_96 : decode cX9_powers 96 = .ok (.istore 5, 2) := by decide +kernel
theorem dX9_powers_98 : decode cX9_powers 98 = .ok (.iinc 6 1, 3) := by decide +kernel
theorem dX9_powers_101 : decode cX9_powers 101 = .ok (.goto (-41), 3) := by decide +kernel
theorem dX9_powers_104 : decode cX9_powers 104 = .ok (.iinc 4 1, 3) := by decide +kernel
theorem dX9_powers_107 : decode cX9_powers 107 = .ok (.goto (-59), 3) := by decide +kernel
theorem dX9_powers_110 : decode cX9_powers 110 = .ok (.aload_n 0, 1) := by decide +kernel
theorem dX9_powers_111 : decode cX9_powers 111 = .ok (.iconst 0, 1) := by decide +kernel
theorem dX9_powers_112 : decode cX9_powers 112 = .ok (.putfield 135, 3) := by decide +kernel
theorem dX9_powers_115 : decode cX9_powers 115 = .ok (.aload_n 0, 1) := by decide +kernel
theorem dX9_powers_116 : decode cX9_powers 116 = .ok (.aload_n 3, 1) := by decide +kernel
theorem dX9_powers_117 : decode cX9_powers 117 = .ok (.invokevirtual 155, 3) := by decide +kernel
theorem dX9_powers_120 : decode cX9_powers 120 = .ok (.ireturn, 1) := by decide +kernel
theorem dX9_sums_0 : decode cX9_sums 0 = .ok (.iload_n 1, 1) := by decide +kernel
theorem dX9_sums_1 : decode cX9_sums 1 = .ok (.iload_n 2, 1) := by decide +kernel
theorem dX9_sums_2 : decode cX9_sums 2 = .ok (.invokestatic 148, 3) := by decide +kernel
theorem dX9_sums_5 : decode cX9_sums 5 = .ok (.aload_n 0, 1) := by decide +kernel
theorem dX9_sums_6 : decode cX9_sums 6 = .ok (.getfield 135, 3) := by decide +kernel
theorem dX9_sums_9 : decode cX9_sums 9 = .ok (.iload_n 1, 1) := by decide +kernel
theorem dX9_sums_10 : decode cX9_sums 10 = .ok (.iload_n 2, 1) := by decide +kernel
theorem dX9_sums_11 : decode cX9_sums 11 = .ok (.iadd, 1) := by decide +kernel
theorem dX9_sums_12 : decode cX9_sums 12 = .ok (.if_icmp .ne 11, 3) := by decide +kernel
theorem dX9_sums_15 : decode cX9_sums 15 = .ok (.aload_n 0, 1) := by decide +kernel
theorem dX9_sums_16 : decode cX9_sums 16 = .ok (.iconst 1, 1) := by decide +kernel
theorem dX9_sums_17 : decode cX9_sums 17 = .ok (.invokevirtual 159, 3) := by decide +kernel
theorem dX9_sums_20 : decode cX9_sums 20 = .ok (.ifCond .eq 13, 3) := by decide +kernel
theorem dX9_sums_23 : decode cX9_sums 23 = .ok (.new 163, 3) := by decide +kernel
theorem dX9_sums_26 : decode cX9_sums 26 = .ok (.dup, 1) := by decide +kernel
theorem dX9_sums_27 : decode cX9_sums 27 = .ok (.ldc 171, 2) := by decide +kernel
theorem dX9_sums_29 : decode cX9_sums 29 = .ok (.invokespecial 167, 3) := by decide +kernel
theorem dX9_sums_32 : decode cX9_sums 32 = .ok (.athrow, 1) := by decide +kernel
theorem dX9_sums_33 : decode cX9_sums 33 = .ok (.aload_n 0, 1) := by decide +kernel
theorem dX9_sums_34 : decode cX9_sums 34 = .ok (.invokevirtual 151, 3) := by decide +kernel
theorem dX9_sums_37 : decode cX9_sums 37 = .ok (.new 25, 3) := by decide +kernel
theorem dX9_sums_40 : decode cX9_sums 40 = .ok (.dup, 1) := by decide +kernel
theorem dX9_sums_41 : decode cX9_sums 41 = .ok (.iload_n 1, 1) := by decide +kernel
theorem dX9_sums_42 : decode cX9_sums 42 = .ok (.iload_n 2, 1) := by decide +kernel
theorem dX9_sums_43 : decode cX9_sums 43 = .ok (.invokespecial 154, 3) := by decide +kernel
theorem dX9_sums_46 : decode cX9_sums 46 = .ok (.astore_n 3, 1) := by decide +kernel
theorem dX9_sums_47 : decode cX9_sums 47 = .ok (.iconst 0, 1) := by decide +kernel
theorem dX9_sums_48 : decode cX9_sums 48 = .ok (.istore 4, 2) := by decide +kernel
theorem dX9_sums_50 : decode cX9_sums 50 = .ok (.iload 4, 2) := by decide +kernel
theorem dX9_sums_52 : decode cX9_sums 52 = .ok (.iload_n 1, 1) := by decide +kernel
theorem dX9_sums_53 : decode cX9_sums 53 = .ok (.if_icmp .ge 60, 3) := by decide +kernel
theorem dX9_sums_56 : decode cX9_sums 56 = .ok (.iconst 0, 1) := by decide +kernel
theorem dX9_sums_57 : decode cX9_sums 57 = .ok (.istore 5, 2) := by decide +kernel
theorem dX9_sums_59 : decode cX9_sums 59 = .ok (.iload 5, 2) := by decide +kernel
theorem dX9_sums_61 : decode cX9_sums 61 = .ok (.iload_n 2, 1) := by decide +kernel
theorem dX9_sums_62 : decode cX9_sums 62 = .ok (.if_icmp .ge 45, 3) := by decide +kernel
theorem dX9_sums_65 : decode cX9_sums 65 = .ok (.aload_n 3, 1) := by decide +kernel
theorem dX9_sums_66 : decode cX9_sums 66 = .ok (.getfield 168, 3) := by decide +kernel
theorem dX9_sums_69 : decode cX9_sums 69 = .ok (.iload 4, 2) := by decide +kernel
theorem dX9_sums_71 : decode cX9_sums 71 = .ok (.iload_n 2, 1) := by decide +kernel
theorem dX9_sums_72 : decode cX9_sums 72 = .ok (.imul, 1) := by decide +kernel
theorem dX9_sums_73 : decode cX9_sums 73 = .ok (.iload 5, 2) := by decide +kernel
theorem dX9_sums_75 : decode cX9_sums 75 = .ok (.iadd, 1) := by decide +kernel
theorem dX9_sums_76 : decode cX9_sums 76 = .ok (.aload_n 0, 1) := by decide +kernel
theorem dX9_sums_77 : decode cX9_sums 77 = .ok (.getfield 43, 3) := by decide +kernel
theorem dX9_sums_80 : decode cX9_sums 80 = .ok (.aload_n 0, 1) := by decide +kernel
theorem dX9_sums_81 : decode cX9_sums 81 = .ok (.getfield 21, 3) := by decide +kernel
theorem dX9_sums_84 : decode cX9_sums 84 = .ok (.iload 4, 2) := by decide +kernel
theorem dX9_sums_86 : decode cX9_sums 86 = .ok (.iaload, 1) := by decide +kernel
theorem dX9_sums_87 : decode cX9_sums 87 = .ok (.aload_n 0, 1) := by decide +kernel
theorem dX9_sums_88 : decode cX9_sums 88 = .ok (.getfield 21, 3) := by decide +kernel
theorem dX9_sums_91 : decode cX9_sums 91 = .ok (.iload_n 1, 1) := by decide +kernel
theorem dX9_sums_92 : decode cX9_sums 92 = .ok (.iload 5, 2) := by decide +kernel
theorem dX9_sums_94 : decode cX9_sums 94 = .ok (.iadd, 1) := by decide +kernel
theorem dX9_sums_95 : decode cX9_sums 95 = .ok (.iaload, 1) := by decide +kernel
theorem dX9_sums_96 : decode cX9_sums 96 = .ok (.ixor, 1) := by decide +kernel
theorem dX9_sums_97 : decode cX9_sums 97 = .ok (.invokevirtual 173, 3) := by decide +kernel
theorem dX9_sums_100 : decode cX9_sums 100 = .ok (.iastore, 1) := by decide +kernel
theorem dX9_sums_101 : decode cX9_sums 101 = .ok (.iinc 5 1, 3) := by decide +kernel
theorem dX9_sums_104 : decode cX9_sums 104 = .ok (.goto (-45), 3) := by decide +kernel
theorem dX9_sums_107 : decode cX9_sums 107 = .ok (.iinc 4 1, 3) := by decide +kernel
theorem dX9_sums_110 : decode cX9_sums 110 = .ok (.goto (-60), 3) := by decide +kernel
theorem dX9_sums_113 : decode cX9_sums 113 = .ok (.aload_n 0, 1) := by decide +kernel
theorem dX9_sums_114 : decode cX9_sums 114 = .ok (.iconst 0, 1) := by decide +kernel
theorem dX9_sums_115 : decode cX9_sums 115 = .ok (.putfield 135, 3) := by decide +kernel
theorem dX9_sums_118 : decode cX9_sums 118 = .ok (.aload_n 0, 1) := by decide +kernel
theorem dX9_sums_119 : decode cX9_sums 119 = .ok (.aload_n 3, 1) := by decide +kernel
theorem dX9_sums_120 : decode cX9_sums 120 = .ok (.invokevirtual 155, 3) := by decide +kernel
theorem dX9_sums_123 : decode cX9_sums 123 = .ok (.ireturn, 1) := by decide +kernel
theorem dX9_size_0 : decode cX9_size 0 = .ok (.aload_n 0, 1) := by decide +kernel
theorem dX9_size_1 : decode cX9_size 1 = .ok (.iload_n 1, 1) := by decide +kernel
theorem dX9_size_2 : decode cX9_size 2 = .ok (.invokevirtual 176, 3) := by decide +kernel
theorem dX9_size_5 : decode cX9_size 5 = .ok (.astore_n 3, 1) := by decide +kernel
theorem dX9_size_6 : decode cX9_size 6 = .ok (.iload_n 2, 1) := by decide +kernel
theorem dX9_size_7 : decode cX9_size 7 = .ok (.ifCond .eq 18, 3) := by decide +kernel
theorem dX9_size_10 : decode cX9_size 10 = .ok (.iload_n 2, 1) := by decide +kernel
theorem dX9_size_11 : decode cX9_size 11 = .ok (.iconst 1, 1) := by decide +kernel
theorem dX9_size_12 : decode cX9_size 12 = .ok (.if_icmp .eq 13, 3) := by decide +kernel
theorem dX9_size_15 : decode cX9_size 15 = .ok (.new 180, 3) := by decide +kernel
theorem dX9_size_18 : decode cX9_size 18 = .ok (.dup, 1) := by decide +kernel
theorem dX9_size_19 : decode cX9_size 19 = .ok (.ldc 182, 2) := by decide +kernel
theorem dX9_size_21 : decode cX9_size 21 = .ok (.invokespecial 184, 3) := by decide +kernel
theorem dX9_size_24 : decode cX9_size 24 = .ok (.athrow, 1) := by decide +kernel
theorem dX9_size_25 : decode cX9_size 25 = .ok (.iload_n 2, 1) := by decide +kernel
theorem dX9_size_26 : decode cX9_size 26 = .ok (.ifCond .ne 10, 3) := by decide +kernel
theorem dX9_size_29 : decode cX9_size 29 = .ok (.aload_n 3, 1) := by decide +kernel
theorem dX9_size_30 : decode cX9_size 30 = .ok (.getfield 185, 3) := by decide +kernel
theorem dX9_size_33 : decode cX9_size 33 = .ok (.goto 7, 3) := by decide +kernel
theorem dX9_size_36 : decode cX9_size 36 = .ok (.aload_n 3, 1) := by decide +kernel
theorem dX9_size_37 : decode cX9_size 37 = .ok (.getfield 188, 3) := by decide +kernel
theorem dX9_size_40 : decode cX9_size 40 = .ok (.ireturn, 1) := by decide +kernel
theorem dX9_cell_0 : decode cX9_cell 0 = .ok (.aload_n 0, 1) := by decide +kernel
theorem dX9_cell_1 : decode cX9_cell 1 = .ok (.iload_n 1, 1) := by decide +kernel
theorem dX9_cell_2 : decode cX9_cell 2 = .ok (.invokevirtual 176, 3) := by decide +kernel
theorem dX9_cell_5 : decode cX9_cell 5 = .ok (.astore 4, 2) := by decide +kernel
theorem dX9_cell_7 : decode cX9_cell 7 = .ok (.aload 4, 2) := by decide +kernel
theorem dX9_cell_9 : decode cX9_cell 9 = .ok (.getfield 168, 3) := by decide +kernel
theorem dX9_cell_12 : decode cX9_cell 12 = .ok (.aload 4, 2) := by decide +kernel
theorem dX9_cell_14 : decode cX9_cell 14 = .ok (.iload_n 2, 1) := by decide +kernel
theorem dX9_cell_15 : decode cX9_cell 15 = .ok (.iload_n 3, 1) := by decide +kernel
theorem dX9_cell_16 : decode cX9_cell 16 = .ok (.invokestatic 191, 3) := by decide +kernel
theorem dX9_cell_19 : decode cX9_cell 19 = .ok (.iaload, 1) := by decide +kernel
theorem dX9_cell_20 : decode cX9_cell 20 = .ok (.ireturn, 1) := by decide +kernel
theorem dX9_set_0 : decode cX9_set 0 = .ok (.aload_n 0, 1) := by decide +kernel
theorem dX9_set_1 : decode cX9_set 1 = .ok (.iload_n 1, 1) := by decide +kernel
theorem dX9_set_2 : decode cX9_set 2 = .ok (.invokevirtual 176, 3) := by decide +kernel
theorem dX9_set_5 : decode cX9_set 5 = .ok (.astore 5, 2) := by decide +kernel
theorem dX9_set_7 : decode cX9_set 7 = .ok (.aload 5, 2) := by decide +kernel
theorem dX9_set_9 : decode cX9_set 9 = .ok (.iload_n 2, 1) := by decide +kernel
theorem dX9_set_10 : decode cX9_set 10 = .ok (.iload_n 3, 1) := by decide +kernel
theorem dX9_set_11 : decode cX9_set 11 = .ok (.invokestatic 191, 3) := by decide +kernel
theorem dX9_set_14 : decode cX9_set 14 = .ok (.istore 6, 2) := by decide +kernel
theorem dX9_set_16 : decode cX9_set 16 = .ok (.aload_n 0, 1) := by decide +kernel
theorem dX9_set_17 : decode cX9_set 17 = .ok (.iload 4, 2) := by decide +kernel
theorem dX9_set_19 : decode cX9_set 19 = .ok (.invokevirtual 100, 3) := by decide +kernel
theorem dX9_set_22 : decode cX9_set 22 = .ok (.aload 5, 2) := by decide +kernel
theorem dX9_set_24 : decode cX9_set 24 = .ok (.getfield 168, 3) := by decide +kernel
theorem dX9_set_27 : decode cX9_set 27 = .ok (.iload 6, 2) := by decide +kernel
theorem dX9_set_29 : decode cX9_set 29 = .ok (.iaload, 1) := by decide +kernel
theorem dX9_set_30 : decode cX9_set 30 = .ok (.istore 7, 2) := by decide +kernel
theorem dX9_set_32 : decode cX9_set 32 = .ok (.aload 5, 2) := by decide +kernel
theorem dX9_set_34 : decode cX9_set 34 = .ok (.getfield 168, 3) := by decide +kernel
theorem dX9_set_37 : decode cX9_set 37 = .ok (.iload 6, 2) := by decide +kernel
theorem dX9_set_39 : decode cX9_set 39 = .ok (.iload 4, 2) := by decide +kernel
theorem dX9_set_41 : decode cX9_set 41 = .ok (.iastore, 1) := by decide +kernel
theorem dX9_set_42 : decode cX9_set 42 = .ok (.iload 7, 2) := by decide +kernel
theorem dX9_set_44 : decode cX9_set 44 = .ok (.ireturn, 1) := by decide +kernel
theorem dX9_times_0 : decode cX9_times 0 = .ok (.aload_n 0, 1) := by decide +kernel
theorem dX9_times_1 : decode cX9_times 1 = .ok (.iload_n 1, 1) := by decide +kernel
theorem dX9_times_2 : decode cX9_times 2 = .ok (.invokevirtual 176, 3) := by decide +kernel
theorem dX9_times_5 : decode cX9_times 5 = .ok (.astore_n 3, 1) := by decide +kernel
theorem dX9_times_6 : decode cX9_times 6 = .ok (.aload_n 0, 1) := by decide +kernel
theorem dX9_times_7 : decode cX9_times 7 = .ok (.iload_n 2, 1) := by decide +kernel
theorem dX9_times_8 : decode cX9_times 8 = .ok (.invokevirtual 176, 3) := by decide +kernel
theorem dX9_times_11 : decode cX9_times 11 = .ok (.astore 4, 2) := by decide +kernel
theorem dX9_times_13 : decode cX9_times 13 = .ok (.aload_n 3, 1) := by decide +kernel
theorem dX9_times_14 : decode cX9_times 14 = .ok (.getfield 188, 3) := by decide +kernel
theorem dX9_times_17 : decode cX9_times 17 = .ok (.aload 4, 2) := by decide +kernel
theorem dX9_times_19 : decode cX9_times 19 = .ok (.getfield 185, 3) := by decide +kernel
theorem dX9_times_22 : decode cX9_times 22 = .ok (.if_icmp .eq 13, 3) := by decide +kernel
theorem dX9_times_25 : decode cX9_times 25 = .ok (.new 163, 3) := by decide +kernel
theorem dX9_times_28 : decode cX9_times 28 = .ok (.dup, 1) := by decide +kernel
theorem dX9_times_29 : decode cX9_times 29 = .ok (.ldc 195, 2) := by decide +kernel
theorem dX9_times_31 : decode cX9_times 31 = .ok (.invokespecial 167, 3) := by decide +kernel
theorem dX9_times_34 : decode cX9_times 34 = .ok (.athrow, 1) := by decide +kernel
theorem dX9_times_35 : decode cX9_times 35 = .ok (.aload_n 0, 1) := by decide +kernel
theorem dX9_times_36 : decode cX9_times 36 = .ok (.invokevirtual 151, 3) := by decide +kernel
theorem dX9_times_39 : decode cX9_times 39 = .ok (.new 25, 3) := by decide +kernel
theorem dX9_times_42 : decode cX9_times 42 = .ok (.dup, 1) := by decide +kernel
theorem dX9_times_43 : decode cX9_times 43 = .ok (.aload_n 3, 1) := by decide +kernel
theorem dX9_times_44 : decode cX9_times 44 = .ok (.getfield 185, 3) := by decide +kernel
theorem dX9_times_47 : decode cX9_times 47 = .ok (.aload 4, 2) := by decide +kernel
theorem dX9_times_49 : decode cX9_times 49 = .ok (.getfield 188, 3) := by decide +kernel
theorem dX9_times_52 : decode cX9_times 52 = .ok (.invokespecial 154, 3) := by decide +kernel
theorem dX9_times_55 : decode cX9_times 55 = .ok (.astore 5, 2) := by decide +kernel
theorem dX9_times_57 : decode cX9_times 57 = .ok (.iconst 0, 1) := by decide +kernel
theorem dX9_times_58 : decode cX9_times 58 = .ok (.istore 6, 2) := by decide +kernel
theorem dX9_times_60 : decode cX9_times 60 = .ok (.iload 6, 2) := by decide +kernel
theorem dX9_times_62 : decode cX9_times 62 = .ok (.aload_n 3, 1) := by decide +kernel
theorem dX9_times_63 : decode cX9_times 63 = .ok (.getfield 185, 3) := by decide +kernel
theorem dX9_times_66 : decode cX9_times 66 = .ok (.if_icmp .ge 84, 3) := by decide +kernel
theorem dX9_times_69 : decode cX9_times 69 = .ok (.iconst 0, 1) := by decide +kernel
theorem dX9_times_70 : decode cX9_times 70 = .ok (.istore 7, 2) := by decide +kernel
theorem dX9_times_72 : decode cX9_times 72 = .ok (.iload 7, 2) := by decide +kernel
theorem dX9_times_74 : decode cX9_times 74 = .ok (.aload_n 3, 1) := by decide +kernel
theorem dX9_times_75 : decode cX9_times 75 = .ok (.getfield 188, 3) := by decide +kernel
theorem dX9_times_78 : decode cX9_times 78 = .ok (.if_icmp .ge 66, 3) := by decide +kernel
theorem dX9_times_81 : decode cX9_times 81 = .ok (.aload_n 3, 1) := by decide +kernel
theorem dX9_times_82 : decode cX9_times 82 = .ok (.getfield 168, 3) := by decide +kernel
theorem dX9_times_85 : decode cX9_times 85 = .ok (.iload 6, 2) := by decide +kernel
theorem dX9_times_87 : decode cX9_times 87 = .ok (.aload_n 3, 1) := by decide +kernel
theorem dX9_times_88 : decode cX9_times 88 = .ok (.getfield 188, 3) := by decide +kernel
theorem dX9_times_91 : decode cX9_times 91 = .ok (.imul, 1) := by decide +kernel
theorem dX9_times_92 : decode cX9_times 92 = .ok (.iload 7, 2) := by decide +kernel
theorem dX9_times_94 : decode cX9_times 94 = .ok (.iadd, 1) := by decide +kernel
theorem dX9_times_95 : decode cX9_times 95 = .ok (.iaload, 1) := by decide +kernel
theorem dX9_times_96 : decode cX9_times 96 = .ok (.istore 8, 2) := by decide +kernel
theorem dX9_times_98 : decode cX9_times 98 = .ok (.aload_n 0, 1) := by decide +kernel
theorem dX9_times_99 : decode cX9_times 99 = .ok (.getfield 43, 3) := by decide +kernel
theorem dX9_times_102 : decode cX9_times 102 = .ok (.aload 5, 2) := by decide +kernel
theorem dX9_times_104 : decode cX9_times 104 = .ok (.getfield 168, 3) := by decide +kernel
theorem dX9_times_107 : decode cX9_times 107 = .ok (.iload 6, 2) := by decide +kernel
theorem dX9_times_109 : decode cX9_times 109 = .ok (.aload 5, 2) := by decide +kernel
theorem dX9_times_111 : decode cX9_times 111 = .ok (.getfield 188, 3) := by decide +kernel
theorem dX9_times_114 : decode cX9_times 114 = .ok (.imul, 1) := by decide +kernel
theorem dX9_times_115 : decode cX9_times 115 = .ok (.aload 4, 2) := by decide +kernel
theorem dX9_times_117 : decode cX9_times 117 = .ok (.getfield 168, 3) := by decide +kernel
theorem dX9_times_120 : decode cX9_times 120 = .ok (.iload 7, 2) := by decide +kernel
theorem dX9_times_122 : decode cX9_times 122 = .ok (.aload 4, 2) := by decide +kernel
theorem dX9_times_124 : decode cX9_times 124 = .ok (.getfield 188, 3) := by decide +kernel
theorem dX9_times_127 : decode cX9_times 127 = .ok (.imul, 1) := by decide +kernel
theorem dX9_times_128 : decode cX9_times 128 = .ok (.aload 4, 2) := by decide +kernel
theorem dX9_times_130 : decode cX9_times 130 = .ok (.getfield 188, 3) := by decide +kernel
theorem dX9_times_133 : decode cX9_times 133 = .ok (.iload 8, 2) := by decide +kernel
theorem dX9_times_135 : decode cX9_times 135 = .ok (.invokevirtual 197, 3) := by decide +kernel
theorem dX9_times_138 : decode cX9_times 138 = .ok (.iinc 7 1, 3) := by decide +kernel
theorem dX9_times_141 : decode cX9_times 141 = .ok (.goto (-69), 3) := by decide +kernel
theorem dX9_times_144 : decode cX9_times 144 = .ok (.iinc 6 1, 3) := by decide +kernel
theorem dX9_times_147 : decode cX9_times 147 = .ok (.goto (-87), 3) := by decide +kernel
theorem dX9_times_150 : decode cX9_times 150 = .ok (.aload_n 0, 1) := by decide +kernel
theorem dX9_times_151 : decode cX9_times 151 = .ok (.aload 5, 2) := by decide +kernel
theorem dX9_times_153 : decode cX9_times 153 = .ok (.invokevirtual 155, 3) := by decide +kernel
theorem dX9_times_156 : decode cX9_times 156 = .ok (.ireturn, 1) := by decide +kernel
theorem dX9_invert_0 : decode cX9_invert 0 = .ok (.aload_n 0, 1) := by decide +kernel
theorem dX9_invert_1 : decode cX9_invert 1 = .ok (.iload_n 1, 1) := by decide +kernel
theorem dX9_invert_2 : decode cX9_invert 2 = .ok (.invokevirtual 176, 3) := by decide +kernel
theorem dX9_invert_5 : decode cX9_invert 5 = .ok (.astore_n 2, 1) := by decide +kernel
theorem dX9_invert_6 : decode cX9_invert 6 = .ok (.aload_n 2, 1) := by decide +kernel
theorem dX9_invert_7 : decode cX9_invert 7 = .ok (.invokestatic 201, 3) := by decide +kernel
theorem dX9_invert_10 : decode cX9_invert 10 = .ok (.aload_n 0, 1) := by decide +kernel
theorem dX9_invert_11 : decode cX9_invert 11 = .ok (.invokevirtual 151, 3) := by decide +kernel
theorem dX9_invert_14 : decode cX9_invert 14 = .ok (.aload_n 0, 1) := by decide +kernel
theorem dX9_invert_15 : decode cX9_invert 15 = .ok (.getfield 52, 3) := by decide +kernel
theorem dX9_invert_18 : decode cX9_invert 18 = .ok (.aload_n 2, 1) := by decide +kernel
theorem dX9_invert_19 : decode cX9_invert 19 = .ok (.invokevirtual 205, 3) := by decide +kernel
theorem dX9_invert_22 : decode cX9_invert 22 = .ok (.aload_n 0, 1) := by decide +kernel
theorem dX9_invert_23 : decode cX9_invert 23 = .ok (.getfield 52, 3) := by decide +kernel
theorem dX9_invert_26 : decode cX9_invert 26 = .ok (.invokevirtual 208, 3) := by decide +kernel
theorem dX9_invert_29 : decode cX9_invert 29 = .ok (.aload_n 0, 1) := by decide +kernel
theorem dX9_invert_30 : decode cX9_invert 30 = .ok (.getfield 52, 3) := by decide +kernel
theorem dX9_invert_33 : decode cX9_invert 33 = .ok (.aload_n 2, 1) := by decide +kernel
theorem dX9_invert_34 : decode cX9_invert 34 = .ok (.getfield 188, 3) := by decide +kernel
theorem dX9_invert_37 : decode cX9_invert 37 = .ok (.invokevirtual 211, 3) := by decide +kernel
theorem dX9_invert_40 : decode cX9_invert 40 = .ok (.aload_n 2, 1) := by decide +kernel
theorem dX9_invert_41 : decode cX9_invert 41 = .ok (.getfield 185, 3) := by decide +kernel
theorem dX9_invert_44 : decode cX9_invert 44 = .ok (.if_icmp .ge 5, 3) := by decide +kernel
theorem dX9_invert_47 : decode cX9_invert 47 = .ok (.iconst (-1), 1) := by decide +kernel
theorem dX9_invert_48 : decode cX9_invert 48 = .ok (.ireturn, 1) := by decide +kernel
theorem dX9_invert_49 : decode cX9_invert 49 = .ok (.new 25, 3) := by decide +kernel
theorem dX9_invert_52 : decode cX9_invert 52 = .ok (.dup, 1) := by decide +kernel
theorem dX9_invert_53 : decode cX9_invert 53 = .ok (.aload_n 2, 1) := by decide +kernel
theorem dX9_invert_54 : decode cX9_invert 54 = .ok (.getfield 185, 3) := by decide +kernel
theorem dX9_invert_57 : decode cX9_invert 57 = .ok (.aload_n 2, 1) := by decide +kernel
theorem dX9_invert_58 : decode cX9_invert 58 = .ok (.getfield 188, 3) := by decide +kernel
theorem dX9_invert_61 : decode cX9_invert 61 = .ok (.invokespecial 154, 3) := by decide +kernel
theorem dX9_invert_64 : decode cX9_invert 64 = .ok (.astore_n 3, 1) := by decide +kernel
theorem dX9_invert_65 : decode cX9_invert 65 = .ok (.aload_n 0, 1) := by decide +kernel
theorem dX9_invert_66 : decode cX9_invert 66 = .ok (.getfield 52, 3) := by decide +kernel
theorem dX9_invert_69 : decode cX9_invert 69 = .ok (.aload_n 3, 1) := by decide +kernel
theorem dX9_invert_70 : decode cX9_invert 70 = .ok (.invokevirtual 214, 3) := by decide +kernel
theorem dX9_invert_73 : decode cX9_invert 73 = .ok (.aload_n 0, 1) := by decide +kernel
theorem dX9_invert_74 : decode cX9_invert 74 = .ok (.aload_n 3, 1) := by decide +kernel
theorem dX9_invert_75 : decode cX9_invert 75 = .ok (.invokevirtual 155, 3) := by decide +kernel
theorem dX9_invert_78 : decode cX9_invert 78 = .ok (.ireturn, 1) := by decide +kernel
theorem dX9_rank_0 : decode cX9_rank 0 = .ok (.aload_n 0, 1) := by decide +kernel
theorem dX9_rank_1 : decode cX9_rank 1 = .ok (.iload_n 1, 1) := by decide +kernel
theorem dX9_rank_2 : decode cX9_rank 2 = .ok (.invokevirtual 176, 3) := by decide +kernel
theorem dX9_rank_5 : decode cX9_rank 5 = .ok (.astore_n 2, 1) := by decide +kernel
theorem dX9_rank_6 : decode cX9_rank 6 = .ok (.aload_n 0, 1) := by decide +kernel
theorem dX9_rank_7 : decode cX9_rank 7 = .ok (.getfield 52, 3) := by decide +kernel
theorem dX9_rank_10 : decode cX9_rank 10 = .ok (.aload_n 2, 1) := by decide +kernel
theorem dX9_rank_11 : decode cX9_rank 11 = .ok (.invokevirtual 205, 3) := by decide +kernel
theorem dX9_rank_14 : decode cX9_rank 14 = .ok (.aload_n 0, 1) := by decide +kernel
theorem dX9_rank_15 : decode cX9_rank 15 = .ok (.getfield 52, 3) := by decide +kernel
theorem dX9_rank_18 : decode cX9_rank 18 = .ok (.aload_n 2, 1) := by decide +kernel
theorem dX9_rank_19 : decode cX9_rank 19 = .ok (.getfield 188, 3) := by decide +kernel
theorem dX9_rank_22 : decode cX9_rank 22 = .ok (.invokevirtual 211, 3) := by decide +kernel
theorem dX9_rank_25 : decode cX9_rank 25 = .ok (.ireturn, 1) := by decide +kernel
theorem dX9_determinant_0 : decode cX9_determinant 0 = .ok (.aload_n 0, 1) := by decide +kernel
theorem dX9_determinant_1 : decode cX9_determinant 1 = .ok (.iload_n 1, 1) := by decide +kernel
theorem dX9_determinant_2 : decode cX9_determinant 2 = .ok (.invokevirtual 176, 3) := by decide +kernel
theorem dX9_determinant_5 : decode cX9_determinant 5 = .ok (.astore_n 2, 1) := by decide +kernel
theorem dX9_determinant_6 : decode cX9_determinant 6 = .ok (.aload_n 2, 1) := by decide +kernel
theorem dX9_determinant_7 : decode cX9_determinant 7 = .ok (.invokestatic 201, 3) := by decide +kernel
theorem dX9_determinant_10 : decode cX9_determinant 10 = .ok (.aload_n 0, 1) := by decide +kernel
theorem dX9_determinant_11 : decode cX9_determinant 11 = .ok (.getfield 52, 3) := by decide +kernel
theorem dX9_determinant_14 : decode cX9_determinant 14 = .ok (.aload_n 2, 1) := by decide +kernel
theorem dX9_determinant_15 : decode cX9_determinant 15 = .ok (.invokevirtual 205, 3) := by decide +kernel
theorem dX9_determinant_18 : decode cX9_determinant 18 = .ok (.aload_n 0, 1) := by decide +kernel
theorem dX9_determinant_19 : decode cX9_determinant 19 = .ok (.getfield 52, 3) := by decide +kernel
theorem dX9_determinant_22 : decode cX9_determinant 22 = .ok (.aload_n 2, 1) := by decide +kernel
theorem dX9_determinant_23 : decode cX9_determinant 23 = .ok (.getfield 188, 3) := by decide +kernel
theorem dX9_determinant_26 : decode cX9_determinant 26 = .ok (.invokevirtual 211, 3) := by decide +kernel
theorem dX9_determinant_29 : decode cX9_determinant 29 = .ok (.aload_n 2, 1) := by decide +kernel
theorem dX9_determinant_30 : decode cX9_determinant 30 = .ok (.getfield 185, 3) := by decide +kernel
theorem dX9_determinant_33 : decode cX9_determinant 33 = .ok (.if_icmp .ge 7, 3) := by decide +kernel
theorem dX9_determinant_36 : decode cX9_determinant 36 = .ok (.iconst 0, 1) := by decide +kernel
theorem dX9_determinant_37 : decode cX9_determinant 37 = .ok (.goto 10, 3) := by decide +kernel
theorem dX9_determinant_40 : decode cX9_determinant 40 = .ok (.aload_n 0, 1) := by decide +kernel
theorem dX9_determinant_41 : decode cX9_determinant 41 = .ok (.getfield 52, 3) := by decide +kernel
theorem dX9_determinant_44 : decode cX9_determinant 44 = .ok (.getfield 217, 3) := by decide +kernel
theorem dX9_determinant_47 : decode cX9_determinant 47 = .ok (.ireturn, 1) := by decide +kernel
theorem dX9_singular_0 : decode cX9_singular 0 = .ok (.aload_n 0, 1) := by decide +kernel
theorem dX9_singular_1 : decode cX9_singular 1 = .ok (.getfield 59, 3) := by decide +kernel
theorem dX9_singular_4 : decode cX9_singular 4 = .ok (.aload_n 0, 1) := by decide +kernel
theorem dX9_singular_5 : decode cX9_singular 5 = .ok (.iload_n 1, 1) := by decide +kernel
theorem dX9_singular_6 : decode cX9_singular 6 = .ok (.invokevirtual 176, 3) := by decide +kernel
theorem dX9_singular_9 : decode cX9_singular 9 = .ok (.invokevirtual 220, 3) := by decide +kernel
theorem dX9_singular_12 : decode cX9_singular 12 = .ok (.ireturn, 1) := by decide +kernel
theorem dX9_solve_0 : decode cX9_solve 0 = .ok (.aload_n 0, 1) := by decide +kernel
theorem dX9_solve_1 : decode cX9_solve 1 = .ok (.iload_n 1, 1) := by decide +kernel
theorem dX9_solve_2 : decode cX9_solve 2 = .ok (.invokevirtual 176, 3) := by decide +kernel
theorem dX9_solve_5 : decode cX9_solve 5 = .ok (.astore_n 2, 1) := by decide +kernel
theorem dX9_solve_6 : decode cX9_solve 6 = .ok (.aload_n 0, 1) := by decide +kernel
theorem dX9_solve_7 : decode cX9_solve 7 = .ok (.getfield 135, 3) := by decide +kernel
theorem dX9_solve_10 : decode cX9_solve 10 = .ok (.aload_n 2, 1) := by decide +kernel
theorem dX9_solve_11 : decode cX9_solve 11 = .ok (.getfield 185, 3) := by decide +kernel
theorem dX9_solve_14 : decode cX9_solve 14 = .ok (.if_icmp .eq 13, 3) := by decide +kernel
theorem dX9_solve_17 : decode cX9_solve 17 = .ok (.new 163, 3) := by decide +kernel
theorem dX9_solve_20 : decode cX9_solve 20 = .ok (.dup, 1) := by decide +kernel
theorem dX9_solve_21 : decode cX9_solve 21 = .ok (.ldc 223, 2) := by decide +kernel
theorem dX9_solve_23 : decode cX9_solve 23 = .ok (.invokespecial 167, 3) := by decide +kernel
theorem dX9_solve_26 : decode cX9_solve 26 = .ok (.athrow, 1) := by decide +kernel
theorem dX9_solve_27 : decode cX9_solve 27 = .ok (.aload_n 0, 1) := by decide +kernel
theorem dX9_solve_28 : decode cX9_solve 28 = .ok (.getfield 52, 3) := by decide +kernel
theorem dX9_solve_31 : decode cX9_solve 31 = .ok (.aload_n 2, 1) := by decide +kernel
theorem dX9_solve_32 : decode cX9_solve 32 = .ok (.invokevirtual 205, 3) := by decide +kernel
theorem dX9_solve_35 : decode cX9_solve 35 = .ok (.aload_n 0, 1) := by decide +kernel
theorem dX9_solve_36 : decode cX9_solve 36 = .ok (.getfield 52, 3) := by decide +kernel
theorem dX9_solve_39 : decode cX9_solve 39 = .ok (.aload_n 0, 1) := by decide +kernel
theorem dX9_solve_40 : decode cX9_solve 40 = .ok (.getfield 21, 3) := by decide +kernel
theorem dX9_solve_43 : decode cX9_solve 43 = .ok (.invokevirtual 225, 3) := by decide +kernel
theorem dX9_solve_46 : decode cX9_solve 46 = .ok (.aload_n 0, 1) := by decide +kernel
theorem dX9_solve_47 : decode cX9_solve 47 = .ok (.getfield 52, 3) := by decide +kernel
theorem dX9_solve_50 : decode cX9_solve 50 = .ok (.aload_n 2, 1) := by decide +kernel
theorem dX9_solve_51 : decode cX9_solve 51 = .ok (.getfield 188, 3) := by decide +kernel
theorem dX9_solve_54 : decode cX9_solve 54 = .ok (.invokevirtual 211, 3) := by decide +kernel
theorem dX9_solve_57 : decode cX9_solve 57 = .ok (.istore_n 3, 1) := by decide +kernel
theorem dX9_solve_58 : decode cX9_solve 58 = .ok (.aload_n 0, 1) := by decide +kernel
theorem dX9_solve_59 : decode cX9_solve 59 = .ok (.iconst 0, 1) := by decide +kernel
theorem dX9_solve_60 : decode cX9_solve 60 = .ok (.putfield 135, 3) := by decide +kernel
theorem dX9_solve_63 : decode cX9_solve 63 = .ok (.aload_n 0, 1) := by decide +kernel
theorem dX9_solve_64 : decode cX9_solve 64 = .ok (.getfield 52, 3) := by decide +kernel
theorem dX9_solve_67 : decode cX9_solve 67 = .ok (.aload_n 2, 1) := by decide +kernel
theorem dX9_solve_68 : decode cX9_solve 68 = .ok (.getfield 188, 3) := by decide +kernel
theorem dX9_solve_71 : decode cX9_solve 71 = .ok (.invokevirtual 229, 3) := by decide +kernel
theorem dX9_solve_74 : decode cX9_solve 74 = .ok (.ifCond .eq 5, 3) := by decide +kernel
theorem dX9_solve_77 : decode cX9_solve 77 = .ok (.iconst (-1), 1) := by decide +kernel
theorem dX9_solve_78 : decode cX9_solve 78 = .ok (.ireturn, 1) := by decide +kernel
theorem dX9_solve_79 : decode cX9_solve 79 = .ok (.iconst 0, 1) := by decide +kernel
theorem dX9_solve_80 : decode cX9_solve 80 = .ok (.istore 4, 2) := by decide +kernel
theorem dX9_solve_82 : decode cX9_solve 82 = .ok (.iload 4, 2) := by decide +kernel
theorem dX9_solve_84 : decode cX9_solve 84 = .ok (.aload_n 2, 1) := by decide +kernel
theorem dX9_solve_85 : decode cX9_solve 85 = .ok (.getfield 188, 3) := by decide +kernel
theorem dX9_solve_88 : decode cX9_solve 88 = .ok (.if_icmp .ge 29, 3) := by decide +kernel
theorem dX9_solve_91 : decode cX9_solve 91 = .ok (.aload_n 0, 1) := by decide +kernel
theorem dX9_solve_92 : decode cX9_solve 92 = .ok (.getfield 21, 3) := by decide +kernel
theorem dX9_solve_95 : decode cX9_solve 95 = .ok (.iload 4, 2) := by decide +kernel
theorem dX9_solve_97 : decode cX9_solve 97 = .ok (.aload_n 0, 1) := by decide +kernel
theorem dX9_solve_98 : decode cX9_solve 98 = .ok (.getfield 52, 3) := by decide +kernel
theorem dX9_solve_101 : decode cX9_solve 101 = .ok (.iload 4, 2) := by decide +kernel
theorem dX9_solve_103 : decode cX9_solve 103 = .ok (.aload_n 2, 1) := by decide +kernel
theorem dX9_solve_104 : decode cX9_solve 104 = .ok (.getfield 188, 3) := by decide +kernel
theorem dX9_solve_107 : decode cX9_solve 107 = .ok (.invokevirtual 232, 3) := by decide +kernel
theorem dX9_solve_110 : decode cX9_solve 110 = .ok (.iastore, 1) := by decide +kernel
theorem dX9_solve_111 : decode cX9_solve 111 = .ok (.iinc 4 1, 3) := by decide +kernel
theorem dX9_solve_114 : decode cX9_solve 114 = .ok (.goto (-32), 3) := by decide +kernel
theorem dX9_solve_117 : decode cX9_solve 117 = .ok (.aload_n 0, 1) := by decide +kernel
theorem dX9_solve_118 : decode cX9_solve 118 = .ok (.aload_n 2, 1) := by decide +kernel
theorem dX9_solve_119 : decode cX9_solve 119 = .ok (.getfield 188, 3) := by decide +kernel
theorem dX9_solve_122 : decode cX9_solve 122 = .ok (.putfield 135, 3) := by decide +kernel
theorem dX9_solve_125 : decode cX9_solve 125 = .ok (.aload_n 2, 1) := by decide +kernel
theorem dX9_solve_126 : decode cX9_solve 126 = .ok (.getfield 188, 3) := by decide +kernel
theorem dX9_solve_129 : decode cX9_solve 129 = .ok (.iload_n 3, 1) := by decide +kernel
theorem dX9_solve_130 : decode cX9_solve 130 = .ok (.isub, 1) := by decide +kernel
theorem dX9_solve_131 : decode cX9_solve 131 = .ok (.ireturn, 1) := by decide +kernel
theorem dX9_polynomial_0 : decode cX9_polynomial 0 = .ok (.aload_n 0, 1) := by decide +kernel
theorem dX9_polynomial_1 : decode cX9_polynomial 1 = .ok (.getfield 135, 3) := by decide +kernel
theorem dX9_polynomial_4 : decode cX9_polynomial 4 = .ok (.iconst 1, 1) := by decide +kernel
theorem dX9_polynomial_5 : decode cX9_polynomial 5 = .ok (.isub, 1) := by decide +kernel
theorem dX9_polynomial_6 : decode cX9_polynomial 6 = .ok (.istore_n 1, 1) := by decide +kernel
theorem dX9_polynomial_7 : decode cX9_polynomial 7 = .ok (.iload_n 1, 1) := by decide +kernel
theorem dX9_polynomial_8 : decode cX9_polynomial 8 = .ok (.ifCond .lt 18, 3) := by decide +kernel
theorem dX9_polynomial_11 : decode cX9_polynomial 11 = .ok (.aload_n 0, 1) := by decide +kernel
theorem dX9_polynomial_12 : decode cX9_polynomial 12 = .ok (.getfield 21, 3) := by decide +kernel
theorem dX9_polynomial_15 : decode cX9_polynomial 15 = .ok (.iload_n 1, 1) := by decide +kernel
theorem dX9_polynomial_16 : decode cX9_polynomial 16 = .ok (.iaload, 1) := by decide +kernel
theorem dX9_polynomial_17 : decode cX9_polynomial 17 = .ok (.ifCond .ne 9, 3) := by decide +kernel
theorem dX9_polynomial_20 : decode cX9_polynomial 20 = .ok (.iinc 1 (-1), 3) := by decide +kernel
theorem dX9_polynomial_23 : decode cX9_polynomial 23 = .ok (.goto (-16), 3) := by decide +kernel
theorem dX9_polynomial_26 : decode cX9_polynomial 26 = .ok (.iload_n 1, 1) := by decide +kernel
theorem dX9_polynomial_27 : decode cX9_polynomial 27 = .ok (.bipush 64, 2) := by decide +kernel
theorem dX9_polynomial_29 : decode cX9_polynomial 29 = .ok (.if_icmp .le 13, 3) := by decide +kernel
theorem dX9_polynomial_32 : decode cX9_polynomial 32 = .ok (.new 138, 3) := by decide +kernel
theorem dX9_polynomial_35 : decode cX9_polynomial 35 = .ok (.dup, 1) := by decide +kernel
theorem dX9_polynomial_36 : decode cX9_polynomial 36 = .ok (.ldc 235, 2) := by decide +kernel
theorem dX9_polynomial_38 : decode cX9_polynomial 38 = .ok (.invokespecial 142, 3) := by decide +kernel
theorem dX9_polynomial_41 : decode cX9_polynomial 41 = .ok (.athrow, 1) := by decide +kernel
theorem dX9_polynomial_42 : decode cX9_polynomial 42 = .ok (.aload_n 0, 1) := by decide +kernel
theorem dX9_polynomial_43 : decode cX9_polynomial 43 = .ok (.invokevirtual 237, 3) := by decide +kernel
theorem dX9_polynomial_46 : decode cX9_polynomial 46 = .ok (.aload_n 0, 1) := by decide +kernel
theorem dX9_polynomial_47 : decode cX9_polynomial 47 = .ok (.getfield 14, 3) := by decide +kernel
theorem dX9_polynomial_50 : decode cX9_polynomial 50 = .ok (.aload_n 0, 1) := by decide +kernel
theorem dX9_polynomial_51 : decode cX9_polynomial 51 = .ok (.getfield 21, 3) := by decide +kernel
theorem dX9_polynomial_54 : decode cX9_polynomial 54 = .ok (.iload_n 1, 1) := by decide +kernel
theorem dX9_polynomial_55 : decode cX9_polynomial 55 = .ok (.iconst 1, 1) := by decide +kernel
theorem dX9_polynomial_56 : decode cX9_polynomial 56 = .ok (.iadd, 1) := by decide +kernel
theorem dX9_polynomial_57 : decode cX9_polynomial 57 = .ok (.invokevirtual 240, 3) := by decide +kernel
theorem dX9_polynomial_60 : decode cX9_polynomial 60 = .ok (.aload_n 0, 1) := by decide +kernel
theorem dX9_polynomial_61 : decode cX9_polynomial 61 = .ok (.iconst 0, 1) := by decide +kernel
theorem dX9_polynomial_62 : decode cX9_polynomial 62 = .ok (.putfield 135, 3) := by decide +kernel
theorem dX9_polynomial_65 : decode cX9_polynomial 65 = .ok (.aload_n 0, 1) := by decide +kernel
theorem dX9_polynomial_66 : decode cX9_polynomial 66 = .ok (.aload_n 0, 1) := by decide +kernel
theorem dX9_polynomial_67 : decode cX9_polynomial 67 = .ok (.getfield 14, 3) := by decide +kernel
theorem dX9_polynomial_70 : decode cX9_polynomial 70 = .ok (.invokevirtual 243, 3) := by decide +kernel
theorem dX9_polynomial_73 : decode cX9_polynomial 73 = .ok (.ireturn, 1) := by decide +kernel
theorem dX9_through_0 : decode cX9_through 0 = .ok (.aload_n 0, 1) := by decide +kernel
theorem dX9_through_1 : decode cX9_through 1 = .ok (.getfield 135, 3) := by decide +kernel
theorem dX9_through_4 : decode cX9_through 4 = .ok (.iconst 2, 1) := by decide +kernel
theorem dX9_through_5 : decode cX9_through 5 = .ok (.irem, 1) := by decide +kernel
theorem dX9_through_6 : decode cX9_through 6 = .ok (.ifCond .ne 11, 3) := by decide +kernel
theorem dX9_through_9 : decode cX9_through 9 = .ok (.aload_n 0, 1) := by decide +kernel
theorem dX9_through_10 : decode cX9_through 10 = .ok (.iconst 2, 1) := by decide +kernel
theorem dX9_through_11 : decode cX9_through 11 = .ok (.invokevirtual 159, 3) := by decide +kernel
theorem dX9_through_14 : decode cX9_through 14 = .ok (.ifCond .eq 13, 3) := by decide +kernel
theorem dX9_through_17 : decode cX9_through 17 = .ok (.new 163, 3) := by decide +kernel
theorem dX9_through_20 : decode cX9_through 20 = .ok (.dup, 1) := by decide +kernel
theorem dX9_through_21 : decode cX9_through 21 = .ok (.ldc 247, 2) := by decide +kernel
theorem dX9_through_23 : decode cX9_through 23 = .ok (.invokespecial 167, 3) := by decide +kernel
theorem dX9_through_26 : decode cX9_through 26 = .ok (.athrow, 1) := by decide +kernel
theorem dX9_through_27 : decode cX9_through 27 = .ok (.aload_n 0, 1) := by decide +kernel
theorem dX9_through_28 : decode cX9_through 28 = .ok (.invokevirtual 237, 3) := by decide +kernel
theorem dX9_through_31 : decode cX9_through 31 = .ok (.aload_n 0, 1) := by decide +kernel
theorem dX9_through_32 : decode cX9_through 32 = .ok (.getfield 135, 3) := by decide +kernel
theorem dX9_through_35 : decode cX9_through 35 = .ok (.iconst 2, 1) := by decide +kernel
theorem dX9_through_36 : decode cX9_through 36 = .ok (.idiv, 1) := by decide +kernel
theorem dX9_through_37 : decode cX9_through 37 = .ok (.istore_n 1, 1) := by decide +kernel
theorem dX9_through_38 : decode cX9_through 38 = .ok (.iconst 0, 1) := by decide +kernel
theorem dX9_through_39 : decode cX9_through 39 = .ok (.istore_n 2, 1) := by decide +kernel
theorem dX9_through_40 : decode cX9_through 40 = .ok (.iload_n 2, 1) := by decide +kernel
theorem dX9_through_41 : decode cX9_through 41 = .ok (.iload_n 1, 1) := by decide +kernel
theorem dX9_through_42 : decode cX9_through 42 = .ok (.if_icmp .ge 35, 3) := by decide +kernel
theorem dX9_through_45 : decode cX9_through 45 = .ok (.aload_n 0, 1) := by decide +kernel
theorem dX9_through_46 : decode cX9_through 46 = .ok (.getfield 73, 3) := by decide +kernel
theorem dX9_through_49 : decode cX9_through 49 = .ok (.iload_n 2, 1) := by decide +kernel
theorem dX9_through_50 : decode cX9_through 50 = .ok (.aload_n 0, 1) := by decide +kernel
theorem dX9_through_51 : decode cX9_through 51 = .ok (.getfield 21, 3) := by decide +kernel
theorem dX9_through_54 : decode cX9_through 54 = .ok (.iconst 2, 1) := by decide +kernel
theorem dX9_through_55 : decode cX9_through 55 = .ok (.iload_n 2, 1) := by decide +kernel
theorem dX9_through_56 : decode cX9_through 56 = .ok (.imul, 1) := by decide +kernel
theorem dX9_through_57 : decode cX9_through 57 = .ok (.iaload, 1) := by decide +kernel
theorem dX9_through_58 : decode cX9_through 58 = .ok (.aload_n 0, 1) := by decide +kernel
theorem dX9_through_59 : decode cX9_through 59 = .ok (.getfield 21, 3) := by decide +kernel
theorem dX9_through_62 : decode cX9_through 62 = .ok (.iconst 2, 1) := by decide +kernel
theorem dX9_through_63 : decode cX9_through 63 = .ok (.iload_n 2, 1) := by decide +kernel
theorem dX9_through_64 : decode cX9_through 64 = .ok (.imul, 1) := by decide +kernel
theorem dX9_through_65 : decode cX9_through 65 = .ok (.iconst 1, 1) := by decide +kernel
theorem dX9_through_66 : decode cX9_through 66 = .ok (.iadd, 1) := by decide +kernel
theorem dX9_through_67 : decode cX9_through 67 = .ok (.iaload, 1) := by decide +kernel
theorem dX9_through_68 : decode cX9_through 68 = .ok (.invokevirtual 249, 3) := by decide +kernel
theorem dX9_through_71 : decode cX9_through 71 = .ok (.iinc 2 1, 3) := by decide +kernel
theorem dX9_through_74 : decode cX9_through 74 = .ok (.goto (-34), 3) := by decide +kernel
theorem dX9_through_77 : decode cX9_through 77 = .ok (.aload_n 0, 1) := by decide +kernel
theorem dX9_through_78 : decode cX9_through 78 = .ok (.getfield 73, 3) := by decide +kernel
theorem dX9_through_81 : decode cX9_through 81 = .ok (.iload_n 1, 1) := by decide +kernel
theorem dX9_through_82 : decode cX9_through 82 = .ok (.aload_n 0, 1) := by decide +kernel
theorem dX9_through_83 : decode cX9_through 83 = .ok (.getfield 14, 3) := by decide +kernel
theorem dX9_through_86 : decode cX9_through 86 = .ok (.invokevirtual 253, 3) := by decide +kernel
theorem dX9_through_89 : decode cX9_through 89 = .ok (.aload_n 0, 1) := by decide +kernel
theorem dX9_through_90 : decode cX9_through 90 = .ok (.iconst 0, 1) := by decide +kernel
theorem dX9_through_91 : decode cX9_through 91 = .ok (.putfield 135, 3) := by decide +kernel
theorem dX9_through_94 : decode cX9_through 94 = .ok (.aload_n 0, 1) := by decide +kernel
theorem dX9_through_95 : decode cX9_through 95 = .ok (.aload_n 0, 1) := by decide +kernel
theorem dX9_through_96 : decode cX9_through 96 = .ok (.getfield 14, 3) := by decide +kernel
theorem dX9_through_99 : decode cX9_through 99 = .ok (.invokevirtual 243, 3) := by decide +kernel
theorem dX9_through_102 : decode cX9_through 102 = .ok (.ireturn, 1) := by decide +kernel
theorem dX9_degree_0 : decode cX9_degree 0 = .ok (.aload_n 0, 1) := by decide +kernel
theorem dX9_degree_1 : decode cX9_degree 1 = .ok (.iload_n 1, 1) := by decide +kernel
theorem dX9_degree_2 : decode cX9_degree 2 = .ok (.invokevirtual 257, 3) := by decide +kernel
theorem dX9_degree_5 : decode cX9_degree 5 = .ok (.getfield 261, 3) := by decide +kernel
theorem dX9_degree_8 : decode cX9_degree 8 = .ok (.ireturn, 1) := by decide +kernel
theorem dX9_coefficient_0 : decode cX9_coefficient 0 = .ok (.aload_n 0, 1) := by decide +kernel
theorem dX9_coefficient_1 : decode cX9_coefficient 1 = .ok (.iload_n 1, 1) := by decide +kernel
theorem dX9_coefficient_2 : decode cX9_coefficient 2 = .ok (.invokevirtual 257, 3) := by decide +kernel
theorem dX9_coefficient_5 : decode cX9_coefficient 5 = .ok (.astore_n 3, 1) := by decide +kernel
theorem dX9_coefficient_6 : decode cX9_coefficient 6 = .ok (.iload_n 2, 1) := by decide +kernel
theorem dX9_coefficient_7 : decode cX9_coefficient 7 = .ok (.ifCond .ge 14, 3) := by decide +kernel
theorem dX9_coefficient_10 : decode cX9_coefficient 10 = .ok (.new 143, 3) := by decide +kernel
theorem dX9_coefficient_13 : decode cX9_coefficient 13 = .ok (.dup, 1) := by decide +kernel
theorem dX9_coefficient_14 : decode cX9_coefficient 14 = .ok (.ldc_w 264, 3) := by decide +kernel
theorem dX9_coefficient_17 : decode cX9_coefficient 17 = .ok (.invokespecial 147, 3) := by decide +kernel
theorem dX9_coefficient_20 : decode cX9_coefficient 20 = .ok (.athrow, 1) := by decide +kernel
theorem dX9_coefficient_21 : decode cX9_coefficient 21 = .ok (.iload_n 2, 1) := by decide +kernel
theorem dX9_coefficient_22 : decode cX9_coefficient 22 = .ok (.aload_n 3, 1) := by decide +kernel
theorem dX9_coefficient_23 : decode cX9_coefficient 23 = .ok (.getfield 261, 3) := by decide +kernel
theorem dX9_coefficient_26 : decode cX9_coefficient 26 = .ok (.if_icmp .gt 12, 3) := by decide +kernel
theorem dX9_coefficient_29 : decode cX9_coefficient 29 = .ok (.aload_n 3, 1) := by decide +kernel
theorem dX9_coefficient_30 : decode cX9_coefficient 30 = .ok (.getfield 266, 3) := by decide +kernel
theorem dX9_coefficient_33 : decode cX9_coefficient 33 = .ok (.iload_n 2, 1) := by decide +kernel
theorem dX9_coefficient_34 : decode cX9_coefficient 34 = .ok (.iaload, 1) := by decide +kernel
theorem dX9_coefficient_35 : decode cX9_coefficient 35 = .ok (.goto 4, 3) := by decide +kernel
theorem dX9_coefficient_38 : decode cX9_coefficient 38 = .ok (.iconst 0, 1) := by decide +kernel
theorem dX9_coefficient_39 : decode cX9_coefficient 39 = .ok (.ireturn, 1) := by decide +kernel
theorem dX9_value_0 : decode cX9_value 0 = .ok (.aload_n 0, 1) := by decide +kernel
theorem dX9_value_1 : decode cX9_value 1 = .ok (.iload_n 1, 1) := by decide +kernel
theorem dX9_value_2 : decode cX9_value 2 = .ok (.invokevirtual 257, 3) := by decide +kernel
theorem dX9_value_5 : decode cX9_value 5 = .ok (.astore_n 3, 1) := by decide +kernel
theorem dX9_value_6 : decode cX9_value 6 = .ok (.aload_n 0, 1) := by decide +kernel
theorem dX9_value_7 : decode cX9_value 7 = .ok (.iload_n 2, 1) := by decide +kernel
theorem dX9_value_8 : decode cX9_value 8 = .ok (.invokevirtual 100, 3) := by decide +kernel
theorem dX9_value_11 : decode cX9_value 11 = .ok (.aload_n 0, 1) := by decide +kernel
theorem dX9_value_12 : decode cX9_value 12 = .ok (.aload_n 3, 1) := by decide +kernel
theorem dX9_value_13 : decode cX9_value 13 = .ok (.iload_n 2, 1) := by decide +kernel
theorem dX9_value_14 : decode cX9_value 14 = .ok (.invokevirtual 269, 3) := by decide +kernel
theorem dX9_value_17 : decode cX9_value 17 = .ok (.ireturn, 1) := by decide +kernel
theorem dX9_plus_0 : decode cX9_plus 0 = .ok (.aload_n 0, 1) := by decide +kernel
theorem dX9_plus_1 : decode cX9_plus 1 = .ok (.iload_n 1, 1) := by decide +kernel
theorem dX9_plus_2 : decode cX9_plus 2 = .ok (.invokevirtual 257, 3) := by decide +kernel
theorem dX9_plus_5 : decode cX9_plus 5 = .ok (.astore_n 3, 1) := by decide +kernel
theorem dX9_plus_6 : decode cX9_plus 6 = .ok (.aload_n 0, 1) := by decide +kernel
theorem dX9_plus_7 : decode cX9_plus 7 = .ok (.iload_n 2, 1) := by decide +kernel
theorem dX9_plus_8 : decode cX9_plus 8 = .ok (.invokevirtual 257, 3) := by decide +kernel
theorem dX9_plus_11 : decode cX9_plus 11 = .ok (.astore 4, 2) := by decide +kernel
theorem dX9_plus_13 : decode cX9_plus 13 = .ok (.aload_n 0, 1) := by decide +kernel
theorem dX9_plus_14 : decode cX9_plus 14 = .ok (.invokevirtual 237, 3) := by decide +kernel
theorem dX9_plus_17 : decode cX9_plus 17 = .ok (.aload_n 0, 1) := by decide +kernel
theorem dX9_plus_18 : decode cX9_plus 18 = .ok (.getfield 14, 3) := by decide +kernel
theorem dX9_plus_21 : decode cX9_plus 21 = .ok (.aload_n 3, 1) := by decide +kernel
theorem dX9_plus_22 : decode cX9_plus 22 = .ok (.invokevirtual 273, 3) := by decide +kernel
theorem dX9_plus_25 : decode cX9_plus 25 = .ok (.aload_n 0, 1) := by decide +kernel
theorem dX9_plus_26 : decode cX9_plus 26 = .ok (.getfield 14, 3) := by decide +kernel
theorem dX9_plus_29 : decode cX9_plus 29 = .ok (.aload_n 0, 1) := by decide +kernel
theorem dX9_plus_30 : decode cX9_plus 30 = .ok (.getfield 43, 3) := by decide +kernel
theorem dX9_plus_33 : decode cX9_plus 33 = .ok (.aload 4, 2) := by decide +kernel
theorem dX9_plus_35 : decode cX9_plus 35 = .ok (.iconst 1, 1) := by decide +kernel
theorem dX9_plus_36 : decode cX9_plus 36 = .ok (.invokevirtual 277, 3) := by decide +kernel
theorem dX9_plus_39 : decode cX9_plus 39 = .ok (.aload_n 0, 1) := by decide +kernel
theorem dX9_plus_40 : decode cX9_plus 40 = .ok (.aload_n 0, 1) := by decide +kernel
theorem dX9_plus_41 : decode cX9_plus 41 = .ok (.getfield 14, 3) := by decide +kernel
theorem dX9_plus_44 : decode cX9_plus 44 = .ok (.invokevirtual 243, 3) := by decide +kernel
theorem dX9_plus_47 : decode cX9_plus 47 = .ok (.ireturn, 1) := by decide +kernel
theorem dX9_multiply_0 : decode cX9_multiply 0 = .ok (.aload_n 0, 1) := by decide +kernel
theorem dX9_multiply_1 : decode cX9_multiply 1 = .ok (.iload_n 1, 1) := by decide +kernel
theorem dX9_multiply_2 : decode cX9_multiply 2 = .ok (.invokevirtual 257, 3) := by decide +kernel
theorem dX9_multiply_5 : decode cX9_multiply 5 = .ok (.astore_n 3, 1) := by decide +kernel
theorem dX9_multiply_6 : decode cX9_multiply 6 = .ok (.aload_n 0, 1) := by decide +kernel
theorem dX9_multiply_7 : decode cX9_multiply 7 = .ok (.iload_n 2, 1) := by decide +kernel
theorem dX9_multiply_8 : decode cX9_multiply 8 = .ok (.invokevirtual 257, 3) := by decide +kernel
theorem dX9_multiply_11 : decode cX9_multiply 11 = .ok (.astore 4, 2) := by decide +kernel
theorem dX9_multiply_13 : decode cX9_multiply 13 = .ok (.aload_n 3, 1) := by decide +kernel
theorem dX9_multiply_14 : decode cX9_multiply 14 = .ok (.getfield 261, 3) := by decide +kernel
theorem dX9_multiply_17 : decode cX9_multiply 17 = .ok (.aload 4, 2) := by decide +kernel
theorem dX9_multiply_19 : decode cX9_multiply 19 = .ok (.getfield 261, 3) := by decide +kernel
theorem dX9_multiply_22 : decode cX9_multiply 22 = .ok (.iadd, 1) := by decide +kernel
theorem dX9_multiply_23 : decode cX9_multiply 23 = .ok (.bipush 64, 2) := by decide +kernel
theorem dX9_multiply_25 : decode cX9_multiply 25 = .ok (.if_icmp .le 13, 3) := by decide +kernel
theorem dX9_multiply_28 : decode cX9_multiply 28 = .ok (.new 138, 3) := by decide +kernel
theorem dX9_multiply_31 : decode cX9_multiply 31 = .ok (.dup, 1) := by decide +kernel
theorem dX9_multiply_32 : decode cX9_multiply 32 = .ok (.ldc 235, 2) := by decide +kernel
theorem dX9_multiply_34 : decode cX9_multiply 34 = .ok (.invokespecial 142, 3) := by decide +kernel
theorem dX9_multiply_37 : decode cX9_multiply 37 = .ok (.athrow, 1) := by decide +kernel
theorem dX9_multiply_38 : decode cX9_multiply 38 = .ok (.aload_n 0, 1) := by decide +kernel
theorem dX9_multiply_39 : decode cX9_multiply 39 = .ok (.invokevirtual 237, 3) := by decide +kernel
theorem dX9_multiply_42 : decode cX9_multiply 42 = .ok (.aload_n 0, 1) := by decide +kernel
theorem dX9_multiply_43 : decode cX9_multiply 43 = .ok (.getfield 14, 3) := by decide +kernel
theorem dX9_multiply_46 : decode cX9_multiply 46 = .ok (.invokevirtual 281, 3) := by decide +kernel
theorem dX9_multiply_49 : decode cX9_multiply 49 = .ok (.iconst 0, 1) := by decide +kernel
theorem dX9_multiply_50 : decode cX9_multiply 50 = .ok (.istore 5, 2) := by decide +kernel
theorem dX9_multiply_52 : decode cX9_multiply 52 = .ok (.iload 5, 2) := by decide +kernel
theorem dX9_multiply_54 : decode cX9_multiply 54 = .ok (.aload_n 3, 1) := by decide +kernel
theorem dX9_multiply_55 : decode cX9_multiply 55 = .ok (.getfield 261, 3) := by decide +kernel
theorem dX9_multiply_58 : decode cX9_multiply 58 = .ok (.if_icmp .gt 45, 3) := by decide +kernel
theorem dX9_multiply_61 : decode cX9_multiply 61 = .ok (.aload_n 0, 1) := by decide +kernel
theorem dX9_multiply_62 : decode cX9_multiply 62 = .ok (.getfield 43, 3) := by decide +kernel
theorem dX9_multiply_65 : decode cX9_multiply 65 = .ok (.aload_n 0, 1) := by decide +kernel
theorem dX9_multiply_66 : decode cX9_multiply 66 = .ok (.getfield 14, 3) := by decide +kernel
theorem dX9_multiply_69 : decode cX9_multiply 69 = .ok (.getfield 266, 3) := by decide +kernel
theorem dX9_multiply_72 : decode cX9_multiply 72 = .ok (.iload 5, 2) := by decide +kernel
theorem dX9_multiply_74 : decode cX9_multiply 74 = .ok (.aload 4, 2) := by decide +kernel
theorem dX9_multiply_76 : decode cX9_multiply 76 = .ok (.getfield 266, 3) := by decide +kernel
theorem dX9_multiply_79 : decode cX9_multiply 79 = .ok (.iconst 0, 1) := by decide +kernel
theorem dX9_multiply_80 : decode cX9_multiply 80 = .ok (.aload 4, 2) := by decide +kernel
theorem dX9_multiply_82 : decode cX9_multiply 82 = .ok (.getfield 261, 3) := by decide +kernel
theorem dX9_multiply_85 : decode cX9_multiply 85 = .ok (.iconst 1, 1) := by decide +kernel
theorem dX9_multiply_86 : decode cX9_multiply 86 = .ok (.iadd, 1) := by decide +kernel
theorem dX9_multiply_87 : decode cX9_multiply 87 = .ok (.aload_n 3, 1) := by decide +kernel
theorem dX9_multiply_88 : decode cX9_multiply 88 = .ok (.getfield 266, 3) := by decide +kernel
theorem dX9_multiply_91 : decode cX9_multiply 91 = .ok (.iload 5, 2) := by decide +kernel
theorem dX9_multiply_93 : decode cX9_multiply 93 = .ok (.iaload, 1) := by decide +kernel
theorem dX9_multiply_94 : decode cX9_multiply 94 = .ok (.invokevirtual 197, 3) := by decide +kernel
theorem dX9_multiply_97 : decode cX9_multiply 97 = .ok (.iinc 5 1, 3) := by decide +kernel
theorem dX9_multiply_100 : decode cX9_multiply 100 = .ok (.goto (-48), 3) := by decide +kernel
theorem dX9_multiply_103 : decode cX9_multiply 103 = .ok (.aload_n 0, 1) := by decide +kernel
theorem dX9_multiply_104 : decode cX9_multiply 104 = .ok (.getfield 14, 3) := by decide +kernel
theorem dX9_multiply_107 : decode cX9_multiply 107 = .ok (.aload_n 3, 1) := by decide +kernel
theorem dX9_multiply_108 : decode cX9_multiply 108 = .ok (.getfield 261, 3) := by decide +kernel
theorem dX9_multiply_111 : decode cX9_multiply 111 = .ok (.aload 4, 2) := by decide +kernel
theorem dX9_multiply_113 : decode cX9_multiply 113 = .ok (.getfield 261, 3) := by decide +kernel
theorem dX9_multiply_116 : decode cX9_multiply 116 = .ok (.iadd, 1) := by decide +kernel
theorem dX9_multiply_117 : decode cX9_multiply 117 = .ok (.invokevirtual 284, 3) := by decide +kernel
theorem dX9_multiply_120 : decode cX9_multiply 120 = .ok (.aload_n 0, 1) := by decide +kernel
theorem dX9_multiply_121 : decode cX9_multiply 121 = .ok (.aload_n 0, 1) := by decide +kernel
theorem dX9_multiply_122 : decode cX9_multiply 122 = .ok (.getfield 14, 3) := by decide +kernel
theorem dX9_multiply_125 : decode cX9_multiply 125 = .ok (.invokevirtual 243, 3) := by decide +kernel
theorem dX9_multiply_128 : decode cX9_multiply 128 = .ok (.ireturn, 1) := by decide +kernel
theorem dX9_divide_0 : decode cX9_divide 0 = .ok (.aload_n 0, 1) := by decide +kernel
theorem dX9_divide_1 : decode cX9_divide 1 = .ok (.iload_n 1, 1) := by decide +kernel
theorem dX9_divide_2 : decode cX9_divide 2 = .ok (.invokevirtual 257, 3) := by decide +kernel
theorem dX9_divide_5 : decode cX9_divide 5 = .ok (.astore 4, 2) := by decide +kernel
theorem dX9_divide_7 : decode cX9_divide 7 = .ok (.aload_n 0, 1) := by decide +kernel
theorem dX9_divide_8 : decode cX9_divide 8 = .ok (.iload_n 2, 1) := by decide +kernel
theorem dX9_divide_9 : decode cX9_divide 9 = .ok (.invokevirtual 257, 3) := by decide +kernel
theorem dX9_divide_12 : decode cX9_divide 12 = .ok (.astore 5, 2) := by decide +kernel
theorem dX9_divide_14 : decode cX9_divide 14 = .ok (.aload 5, 2) := by decide +kernel
theorem dX9_divide_16 : decode cX9_divide 16 = .ok (.getfield 261, 3) := by decide +kernel
theorem dX9_divide_19 : decode cX9_divide 19 = .ok (.ifCond .ge 14, 3) := by decide +kernel
theorem dX9_divide_22 : decode cX9_divide 22 = .ok (.new 107, 3) := by decide +kernel
theorem dX9_divide_25 : decode cX9_divide 25 = .ok (.dup, 1) := by decide +kernel
theorem dX9_divide_26 : decode cX9_divide 26 = .ok (.ldc_w 287, 3) := by decide +kernel
theorem dX9_divide_29 : decode cX9_divide 29 = .ok (.invokespecial 111, 3) := by decide +kernel
theorem dX9_divide_32 : decode cX9_divide 32 = .ok (.athrow, 1) := by decide +kernel
theorem dX9_divide_33 : decode cX9_divide 33 = .ok (.aload_n 0, 1) := by decide +kernel
theorem dX9_divide_34 : decode cX9_divide 34 = .ok (.invokevirtual 237, 3) := by decide +kernel
theorem dX9_divide_37 : decode cX9_divide 37 = .ok (.aload_n 0, 1) := by decide +kernel
theorem dX9_divide_38 : decode cX9_divide 38 = .ok (.getfield 14, 3) := by decide +kernel
theorem dX9_divide_41 : decode cX9_divide 41 = .ok (.aload 4, 2) := by decide +kernel
theorem dX9_divide_43 : decode cX9_divide 43 = .ok (.invokevirtual 273, 3) := by decide +kernel
theorem dX9_divide_46 : decode cX9_divide 46 = .ok (.iload_n 3, 1) := by decide +kernel
theorem dX9_divide_47 : decode cX9_divide 47 = .ok (.ifCond .eq 19, 3) := by decide +kernel
theorem dX9_divide_50 : decode cX9_divide 50 = .ok (.aload_n 0, 1) := by decide +kernel
theorem dX9_divide_51 : decode cX9_divide 51 = .ok (.getfield 66, 3) := by decide +kernel
theorem dX9_divide_54 : decode cX9_divide 54 = .ok (.aload_n 0, 1) := by decide +kernel
theorem dX9_divide_55 : decode cX9_divide 55 = .ok (.getfield 14, 3) := by decide +kernel
theorem dX9_divide_58 : decode cX9_divide 58 = .ok (.aload 5, 2) := by decide +kernel
theorem dX9_divide_60 : decode cX9_divide 60 = .ok (.invokevirtual 289, 3) := by decide +kernel
theorem dX9_divide_63 : decode cX9_divide 63 = .ok (.goto 16, 3) := by decide +kernel
theorem dX9_divide_66 : decode cX9_divide 66 = .ok (.aload_n 0, 1) := by decide +kernel
theorem dX9_divide_67 : decode cX9_divide 67 = .ok (.getfield 66, 3) := by decide +kernel
theorem dX9_divide_70 : decode cX9_divide 70 = .ok (.aload_n 0, 1) := by decide +kernel
theorem dX9_divide_71 : decode cX9_divide 71 = .ok (.getfield 14, 3) := by decide +kernel
theorem dX9_divide_74 : decode cX9_divide 74 = .ok (.aload 5, 2) := by decide +kernel
theorem dX9_divide_76 : decode cX9_divide 76 = .ok (.invokevirtual 293, 3) := by decide +kernel
theorem dX9_divide_79 : decode cX9_divide 79 = .ok (.aload_n 0, 1) := by decide +kernel
theorem dX9_divide_80 : decode cX9_divide 80 = .ok (.aload_n 0, 1) := by decide +kernel
theorem dX9_divide_81 : decode cX9_divide 81 = .ok (.getfield 14, 3) := by decide +kernel
theorem dX9_divide_84 : decode cX9_divide 84 = .ok (.invokevirtual 243, 3) := by decide +kernel
theorem dX9_divide_87 : decode cX9_divide 87 = .ok (.ireturn, 1) := by decide +kernel
theorem dX9_common_0 : decode cX9_common 0 = .ok (.aload_n 0, 1) := by decide +kernel
theorem dX9_common_1 : decode cX9_common 1 = .ok (.iload_n 1, 1) := by decide +kernel
theorem dX9_common_2 : decode cX9_common 2 = .ok (.invokevirtual 257, 3) := by decide +kernel
theorem dX9_common_5 : decode cX9_common 5 = .ok (.astore_n 3, 1) := by decide +kernel
theorem dX9_common_6 : decode cX9_common 6 = .ok (.aload_n 0, 1) := by decide +kernel
theorem dX9_common_7 : decode cX9_common 7 = .ok (.iload_n 2, 1) := by decide +kernel
theorem dX9_common_8 : decode cX9_common 8 = .ok (.invokevirtual 257, 3) := by decide +kernel
theorem dX9_common_11 : decode cX9_common 11 = .ok (.astore 4, 2) := by decide +kernel
theorem dX9_common_13 : decode cX9_common 13 = .ok (.aload_n 0, 1) := by decide +kernel
theorem dX9_common_14 : decode cX9_common 14 = .ok (.invokevirtual 237, 3) := by decide +kernel
theorem dX9_common_17 : decode cX9_common 17 = .ok (.aload_n 0, 1) := by decide +kernel
theorem dX9_common_18 : decode cX9_common 18 = .ok (.getfield 14, 3) := by decide +kernel
theorem dX9_common_21 : decode cX9_common 21 = .ok (.aload_n 3, 1) := by decide +kernel
theorem dX9_common_22 : decode cX9_common 22 = .ok (.invokevirtual 273, 3) := by decide +kernel
theorem dX9_common_25 : decode cX9_common 25 = .ok (.aload_n 0, 1) := by decide +kernel
theorem dX9_common_26 : decode cX9_common 26 = .ok (.getfield 18, 3) := by decide +kernel
theorem dX9_common_29 : decode cX9_common 29 = .ok (.aload 4, 2) := by decide +kernel
theorem dX9_common_31 : decode cX9_common 31 = .ok (.invokevirtual 273, 3) := by decide +kernel
theorem dX9_common_34 : decode cX9_common 34 = .ok (.aload_n 0, 1) := by decide +kernel
theorem dX9_common_35 : decode cX9_common 35 = .ok (.getfield 66, 3) := by decide +kernel
theorem dX9_common_38 : decode cX9_common 38 = .ok (.aload_n 0, 1) := by decide +kernel
theorem dX9_common_39 : decode cX9_common 39 = .ok (.getfield 14, 3) := by decide +kernel
theorem dX9_common_42 : decode cX9_common 42 = .ok (.aload_n 0, 1) := by decide +kernel
theorem dX9_common_43 : decode cX9_common 43 = .ok (.getfield 18, 3) := by decide +kernel
theorem dX9_common_46 : decode cX9_common 46 = .ok (.invokevirtual 296, 3) := by decide +kernel
theorem dX9_common_49 : decode cX9_common 49 = .ok (.aload_n 0, 1) := by decide +kernel
theorem dX9_common_50 : decode cX9_common 50 = .ok (.aload_n 0, 1) := by decide +kernel
theorem dX9_common_51 : decode cX9_common 51 = .ok (.getfield 14, 3) := by decide +kernel
theorem dX9_common_54 : decode cX9_common 54 = .ok (.invokevirtual 243, 3) := by decide +kernel
theorem dX9_common_57 : decode cX9_common 57 = .ok (.ireturn, 1) := by decide +kernel
theorem dX9_root_0 : decode cX9_root 0 = .ok (.aload_n 0, 1) := by decide +kernel
theorem dX9_root_1 : decode cX9_root 1 = .ok (.iload_n 1, 1) := by decide +kernel
theorem dX9_root_2 : decode cX9_root 2 = .ok (.invokevirtual 257, 3) := by decide +kernel
theorem dX9_root_5 : decode cX9_root 5 = .ok (.astore_n 3, 1) := by decide +kernel
theorem dX9_root_6 : decode cX9_root 6 = .ok (.iload_n 2, 1) := by decide +kernel
theorem dX9_root_7 : decode cX9_root 7 = .ok (.ifCond .ge 14, 3) := by decide +kernel
theorem dX9_root_10 : decode cX9_root 10 = .ok (.new 143, 3) := by decide +kernel
theorem dX9_root_13 : decode cX9_root 13 = .ok (.dup, 1) := by decide +kernel
theorem dX9_root_14 : decode cX9_root 14 = .ok (.ldc_w 299, 3) := by decide +kernel
theorem dX9_root_17 : decode cX9_root 17 = .ok (.invokespecial 147, 3) := by decide +kernel
theorem dX9_root_20 : decode cX9_root 20 = .ok (.athrow, 1) := by decide +kernel
theorem dX9_root_21 : decode cX9_root 21 = .ok (.aload_n 3, 1) := by decide +kernel
theorem dX9_root_22 : decode cX9_root 22 = .ok (.getfield 261, 3) := by decide +kernel
theorem dX9_root_25 : decode cX9_root 25 = .ok (.ifCond .ge 20, 3) := by decide +kernel
theorem dX9_root_28 : decode cX9_root 28 = .ok (.iload_n 2, 1) := by decide +kernel
theorem dX9_root_29 : decode cX9_root 29 = .ok (.aload_n 0, 1) := by decide +kernel
theorem dX9_root_30 : decode cX9_root 30 = .ok (.getfield 43, 3) := by decide +kernel
theorem dX9_root_33 : decode cX9_root 33 = .ok (.getfield 301, 3) := by decide +kernel
theorem dX9_root_36 : decode cX9_root 36 = .ok (.if_icmp .ge 7, 3) := by decide +kernel
theorem dX9_root_39 : decode cX9_root 39 = .ok (.iload_n 2, 1) := by decide +kernel
theorem dX9_root_40 : decode cX9_root 40 = .ok (.goto 4, 3) := by decide +kernel
theorem dX9_root_43 : decode cX9_root 43 = .ok (.iconst (-1), 1) := by decide +kernel
theorem dX9_root_44 : decode cX9_root 44 = .ok (.ireturn, 1) := by decide +kernel
theorem dX9_root_45 : decode cX9_root 45 = .ok (.aload_n 0, 1) := by decide +kernel
theorem dX9_root_46 : decode cX9_root 46 = .ok (.getfield 82, 3) := by decide +kernel
theorem dX9_root_49 : decode cX9_root 49 = .ok (.aload_n 3, 1) := by decide +kernel
theorem dX9_root_50 : decode cX9_root 50 = .ok (.iload_n 2, 1) := by decide +kernel
theorem dX9_root_51 : decode cX9_root 51 = .ok (.invokevirtual 304, 3) := by decide +kernel
theorem dX9_root_54 : decode cX9_root 54 = .ok (.ireturn, 1) := by decide +kernel
theorem dX9_often_0 : decode cX9_often 0 = .ok (.aload_n 0, 1) := by decide +kernel
theorem dX9_often_1 : decode cX9_often 1 = .ok (.iload_n 1, 1) := by decide +kernel
theorem dX9_often_2 : decode cX9_often 2 = .ok (.invokevirtual 257, 3) := by decide +kernel
theorem dX9_often_5 : decode cX9_often 5 = .ok (.astore_n 3, 1) := by decide +kernel
theorem dX9_often_6 : decode cX9_often 6 = .ok (.aload_n 0, 1) := by decide +kernel
theorem dX9_often_7 : decode cX9_often 7 = .ok (.iload_n 2, 1) := by decide +kernel
theorem dX9_often_8 : decode cX9_often 8 = .ok (.invokevirtual 100, 3) := by decide +kernel
theorem dX9_often_11 : decode cX9_often 11 = .ok (.aload_n 3, 1) := by decide +kernel
theorem dX9_often_12 : decode cX9_often 12 = .ok (.getfield 261, 3) := by decide +kernel
theorem dX9_often_15 : decode cX9_often 15 = .ok (.ifCond .ge 5, 3) := by decide +kernel
theorem dX9_often_18 : decode cX9_often 18 = .ok (.iconst (-1), 1) := by decide +kernel
theorem dX9_often_19 : decode cX9_often 19 = .ok (.ireturn, 1) := by decide +kernel
theorem dX9_often_20 : decode cX9_often 20 = .ok (.aload_n 0, 1) := by decide +kernel
theorem dX9_often_21 : decode cX9_often 21 = .ok (.getfield 14, 3) := by decide +kernel
theorem dX9_often_24 : decode cX9_often 24 = .ok (.aload_n 3, 1) := by decide +kernel
theorem dX9_often_25 : decode cX9_often 25 = .ok (.invokevirtual 273, 3) := by decide +kernel
theorem dX9_often_28 : decode cX9_often 28 = .ok (.iconst 0, 1) := by decide +kernel
theorem dX9_often_29 : decode cX9_often 29 = .ok (.istore 4, 2) := by decide +kernel
theorem dX9_often_31 : decode cX9_often 31 = .ok (.iload 4, 2) := by decide +kernel
theorem dX9_often_33 : decode cX9_often 33 = .ok (.aload_n 3, 1) := by decide +kernel
theorem dX9_often_34 : decode cX9_often 34 = .ok (.getfield 261, 3) := by decide +kernel
theorem dX9_often_37 : decode cX9_often 37 = .ok (.if_icmp .ge 24, 3) := by decide +kernel
theorem dX9_often_40 : decode cX9_often 40 = .ok (.aload_n 0, 1) := by decide +kernel
theorem dX9_often_41 : decode cX9_often 41 = .ok (.getfield 66, 3) := by decide +kernel
theorem dX9_often_44 : decode cX9_often 44 = .ok (.aload_n 0, 1) := by decide +kernel
theorem dX9_often_45 : decode cX9_often 45 = .ok (.getfield 14, 3) := by decide +kernel
theorem dX9_often_48 : decode cX9_often 48 = .ok (.iload_n 2, 1) := by decide +kernel
theorem dX9_often_49 : decode cX9_often 49 = .ok (.invokevirtual 307, 3) := by decide +kernel
theorem dX9_often_52 : decode cX9_often 52 = .ok (.ifCond .eq 9, 3) := by decide +kernel
theorem dX9_often_55 : decode cX9_often 55 = .ok (.iinc 4 1, 3) := by decide +kernel
theorem dX9_often_58 : decode cX9_often 58 = .ok (.goto (-27), 3) := by decide +kernel
theorem dX9_often_61 : decode cX9_often 61 = .ok (.iload 4, 2) := by decide +kernel
theorem dX9_often_63 : decode cX9_often 63 = .ok (.ireturn, 1) := by decide +kernel
theorem dX9_parts_0 : decode cX9_parts 0 = .ok (.aload_n 0, 1) := by decide +kernel
theorem dX9_parts_1 : decode cX9_parts 1 = .ok (.iload_n 1, 1) := by decide +kernel
theorem dX9_parts_2 : decode cX9_parts 2 = .ok (.invokevirtual 257, 3) := by decide +kernel
theorem dX9_parts_5 : decode cX9_parts 5 = .ok (.astore_n 3, 1) := by decide +kernel
theorem dX9_parts_6 : decode cX9_parts 6 = .ok (.iload_n 2, 1) := by decide +kernel
theorem dX9_parts_7 : decode cX9_parts 7 = .ok (.iconst 1, 1) := by decide +kernel
theorem dX9_parts_8 : decode cX9_parts 8 = .ok (.if_icmp .lt 9, 3) := by decide +kernel
theorem dX9_parts_11 : decode cX9_parts 11 = .ok (.iload_n 2, 1) := by decide +kernel
theorem dX9_parts_12 : decode cX9_parts 12 = .ok (.bipush 64, 2) := by decide +kernel
theorem dX9_parts_14 : decode cX9_parts 14 = .ok (.if_icmp .le 14, 3) := by decide +kernel
theorem dX9_parts_17 : decode cX9_parts 17 = .ok (.new 180, 3) := by decide +kernel
theorem dX9_parts_20 : decode cX9_parts 20 = .ok (.dup, 1) := by decide +kernel
theorem dX9_parts_21 : decode cX9_parts 21 = .ok (.ldc_w 311, 3) := by decide +kernel
theorem dX9_parts_24 : decode cX9_parts 24 = .ok (.invokespecial 184, 3) := by decide +kernel
theorem dX9_parts_27 : decode cX9_parts 27 = .ok (.athrow, 1) := by decide +kernel
theorem dX9_parts_28 : decode cX9_parts 28 = .ok (.aload_n 3, 1) := by decide +kernel
theorem dX9_parts_29 : decode cX9_parts 29 = .ok (.getfield 261, 3) := by decide +kernel
