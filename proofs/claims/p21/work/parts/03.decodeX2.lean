theorem dX2_init_0 : decode cX2_init 0 = .ok (.aload_n 0, 1) := by decide +kernel
theorem dX2_init_1 : decode cX2_init 1 = .ok (.invokespecial 1, 3) := by decide +kernel
theorem dX2_init_4 : decode cX2_init 4 = .ok (.aload_n 0, 1) := by decide +kernel
theorem dX2_init_5 : decode cX2_init 5 = .ok (.new 7, 3) := by decide +kernel
theorem dX2_init_8 : decode cX2_init 8 = .ok (.dup, 1) := by decide +kernel
theorem dX2_init_9 : decode cX2_init 9 = .ok (.invokespecial 9, 3) := by decide +kernel
theorem dX2_init_12 : decode cX2_init 12 = .ok (.putfield 10, 3) := by decide +kernel
theorem dX2_init_15 : decode cX2_init 15 = .ok (.aload_n 0, 1) := by decide +kernel
theorem dX2_init_16 : decode cX2_init 16 = .ok (.new 7, 3) := by decide +kernel
theorem dX2_init_19 : decode cX2_init 19 = .ok (.dup, 1) := by decide +kernel
theorem dX2_init_20 : decode cX2_init 20 = .ok (.invokespecial 9, 3) := by decide +kernel
theorem dX2_init_23 : decode cX2_init 23 = .ok (.putfield 16, 3) := by decide +kernel
theorem dX2_init_26 : decode cX2_init 26 = .ok (.aload_n 0, 1) := by decide +kernel
theorem dX2_init_27 : decode cX2_init 27 = .ok (.new 19, 3) := by decide +kernel
theorem dX2_init_30 : decode cX2_init 30 = .ok (.dup, 1) := by decide +kernel
theorem dX2_init_31 : decode cX2_init 31 = .ok (.invokespecial 21, 3) := by decide +kernel
theorem dX2_init_34 : decode cX2_init 34 = .ok (.putfield 22, 3) := by decide +kernel
theorem dX2_init_37 : decode cX2_init 37 = .ok (.return_, 1) := by decide +kernel
theorem dX2_conjure_0 : decode cX2_conjure 0 = .ok (.iload_n 1, 1) := by decide +kernel
theorem dX2_conjure_1 : decode cX2_conjure 1 = .ok (.iload_n 2, 1) := by decide +kernel
theorem dX2_conjure_2 : decode cX2_conjure 2 = .ok (.invokestatic 26, 3) := by decide +kernel
theorem dX2_conjure_5 : decode cX2_conjure 5 = .ok (.ifCond .eq 14, 3) := by decide +kernel
theorem dX2_conjure_8 : decode cX2_conjure 8 = .ok (.iload_n 3, 1) := by decide +kernel
theorem dX2_conjure_9 : decode cX2_conjure 9 = .ok (.iconst 1, 1) := by decide +kernel
theorem dX2_conjure_10 : decode cX2_conjure 10 = .ok (.sipush 200, 3) := by decide +kernel
theorem dX2_conjure_13 : decode cX2_conjure 13 = .ok (.invokestatic 30, 3) := by decide +kernel
theorem dX2_conjure_16 : decode cX2_conjure 16 = .ok (.ifCond .ne 13, 3) := by decide +kernel
theorem dX2_conjure_19 : decode cX2_conjure 19 = .ok (.new 34, 3) := by decide +kernel
theorem dX2_conjure_22 : decode cX2_conjure 22 = .ok (.dup, 1) := by decide +kernel
theorem dX2_conjure_23 : decode cX2_conjure 23 = .ok (.ldc 36, 2) := by decide +kernel
theorem dX2_conjure_25 : decode cX2_conjure 25 = .ok (.invokespecial 38, 3) := by decide +kernel
theorem dX2_conjure_28 : decode cX2_conjure 28 = .ok (.athrow, 1) := by decide +kernel
theorem dX2_conjure_29 : decode cX2_conjure 29 = .ok (.aload_n 0, 1) := by decide +kernel
theorem dX2_conjure_30 : decode cX2_conjure 30 = .ok (.getfield 10, 3) := by decide +kernel
theorem dX2_conjure_33 : decode cX2_conjure 33 = .ok (.invokevirtual 41, 3) := by decide +kernel
theorem dX2_conjure_36 : decode cX2_conjure 36 = .ok (.ifCond .eq 13, 3) := by decide +kernel
theorem dX2_conjure_39 : decode cX2_conjure 39 = .ok (.new 45, 3) := by decide +kernel
theorem dX2_conjure_42 : decode cX2_conjure 42 = .ok (.dup, 1) := by decide +kernel
theorem dX2_conjure_43 : decode cX2_conjure 43 = .ok (.ldc 47, 2) := by decide +kernel
theorem dX2_conjure_45 : decode cX2_conjure 45 = .ok (.invokespecial 49, 3) := by decide +kernel
theorem dX2_conjure_48 : decode cX2_conjure 48 = .ok (.athrow, 1) := by decide +kernel
theorem dX2_conjure_49 : decode cX2_conjure 49 = .ok (.aload_n 0, 1) := by decide +kernel
theorem dX2_conjure_50 : decode cX2_conjure 50 = .ok (.getfield 10, 3) := by decide +kernel
theorem dX2_conjure_53 : decode cX2_conjure 53 = .ok (.iload_n 1, 1) := by decide +kernel
theorem dX2_conjure_54 : decode cX2_conjure 54 = .ok (.iload_n 2, 1) := by decide +kernel
theorem dX2_conjure_55 : decode cX2_conjure 55 = .ok (.iload_n 3, 1) := by decide +kernel
theorem dX2_conjure_56 : decode cX2_conjure 56 = .ok (.invokevirtual 50, 3) := by decide +kernel
theorem dX2_conjure_59 : decode cX2_conjure 59 = .ok (.istore 4, 2) := by decide +kernel
theorem dX2_conjure_61 : decode cX2_conjure 61 = .ok (.aload_n 0, 1) := by decide +kernel
theorem dX2_conjure_62 : decode cX2_conjure 62 = .ok (.getfield 10, 3) := by decide +kernel
theorem dX2_conjure_65 : decode cX2_conjure 65 = .ok (.invokevirtual 54, 3) := by decide +kernel
theorem dX2_conjure_68 : decode cX2_conjure 68 = .ok (.iload 4, 2) := by decide +kernel
theorem dX2_conjure_70 : decode cX2_conjure 70 = .ok (.ireturn, 1) := by decide +kernel
theorem dX2_hang_0 : decode cX2_hang 0 = .ok (.iload_n 1, 1) := by decide +kernel
theorem dX2_hang_1 : decode cX2_hang 1 = .ok (.iload_n 2, 1) := by decide +kernel
theorem dX2_hang_2 : decode cX2_hang 2 = .ok (.invokestatic 26, 3) := by decide +kernel
theorem dX2_hang_5 : decode cX2_hang 5 = .ok (.ifCond .eq 9, 3) := by decide +kernel
theorem dX2_hang_8 : decode cX2_hang 8 = .ok (.iload_n 3, 1) := by decide +kernel
theorem dX2_hang_9 : decode cX2_hang 9 = .ok (.iload 4, 2) := by decide +kernel
theorem dX2_hang_11 : decode cX2_hang 11 = .ok (.if_icmp .ne 13, 3) := by decide +kernel
theorem dX2_hang_14 : decode cX2_hang 14 = .ok (.new 34, 3) := by decide +kernel
theorem dX2_hang_17 : decode cX2_hang 17 = .ok (.dup, 1) := by decide +kernel
theorem dX2_hang_18 : decode cX2_hang 18 = .ok (.ldc 57, 2) := by decide +kernel
theorem dX2_hang_20 : decode cX2_hang 20 = .ok (.invokespecial 38, 3) := by decide +kernel
theorem dX2_hang_23 : decode cX2_hang 23 = .ok (.athrow, 1) := by decide +kernel
theorem dX2_hang_24 : decode cX2_hang 24 = .ok (.aload_n 0, 1) := by decide +kernel
theorem dX2_hang_25 : decode cX2_hang 25 = .ok (.getfield 10, 3) := by decide +kernel
theorem dX2_hang_28 : decode cX2_hang 28 = .ok (.iload_n 3, 1) := by decide +kernel
theorem dX2_hang_29 : decode cX2_hang 29 = .ok (.invokevirtual 59, 3) := by decide +kernel
theorem dX2_hang_32 : decode cX2_hang 32 = .ok (.ifCond .eq 21, 3) := by decide +kernel
theorem dX2_hang_35 : decode cX2_hang 35 = .ok (.iload 4, 2) := by decide +kernel
theorem dX2_hang_37 : decode cX2_hang 37 = .ok (.iconst (-1), 1) := by decide +kernel
theorem dX2_hang_38 : decode cX2_hang 38 = .ok (.if_icmp .eq 25, 3) := by decide +kernel
theorem dX2_hang_41 : decode cX2_hang 41 = .ok (.aload_n 0, 1) := by decide +kernel
theorem dX2_hang_42 : decode cX2_hang 42 = .ok (.getfield 10, 3) := by decide +kernel
theorem dX2_hang_45 : decode cX2_hang 45 = .ok (.iload 4, 2) := by decide +kernel
theorem dX2_hang_47 : decode cX2_hang 47 = .ok (.invokevirtual 59, 3) := by decide +kernel
theorem dX2_hang_50 : decode cX2_hang 50 = .ok (.ifCond .ne 13, 3) := by decide +kernel
theorem dX2_hang_53 : decode cX2_hang 53 = .ok (.new 63, 3) := by decide +kernel
theorem dX2_hang_56 : decode cX2_hang 56 = .ok (.dup, 1) := by decide +kernel
theorem dX2_hang_57 : decode cX2_hang 57 = .ok (.ldc 65, 2) := by decide +kernel
theorem dX2_hang_59 : decode cX2_hang 59 = .ok (.invokespecial 67, 3) := by decide +kernel
theorem dX2_hang_62 : decode cX2_hang 62 = .ok (.athrow, 1) := by decide +kernel
theorem dX2_hang_63 : decode cX2_hang 63 = .ok (.aload_n 0, 1) := by decide +kernel
theorem dX2_hang_64 : decode cX2_hang 64 = .ok (.getfield 10, 3) := by decide +kernel
theorem dX2_hang_67 : decode cX2_hang 67 = .ok (.invokevirtual 41, 3) := by decide +kernel
theorem dX2_hang_70 : decode cX2_hang 70 = .ok (.ifCond .ne 32, 3) := by decide +kernel
theorem dX2_hang_73 : decode cX2_hang 73 = .ok (.aload_n 0, 1) := by decide +kernel
theorem dX2_hang_74 : decode cX2_hang 74 = .ok (.getfield 10, 3) := by decide +kernel
theorem dX2_hang_77 : decode cX2_hang 77 = .ok (.iload_n 3, 1) := by decide +kernel
theorem dX2_hang_78 : decode cX2_hang 78 = .ok (.invokevirtual 68, 3) := by decide +kernel
theorem dX2_hang_81 : decode cX2_hang 81 = .ok (.ifCond .eq 21, 3) := by decide +kernel
theorem dX2_hang_84 : decode cX2_hang 84 = .ok (.iload 4, 2) := by decide +kernel
theorem dX2_hang_86 : decode cX2_hang 86 = .ok (.iconst (-1), 1) := by decide +kernel
theorem dX2_hang_87 : decode cX2_hang 87 = .ok (.if_icmp .eq 25, 3) := by decide +kernel
theorem dX2_hang_90 : decode cX2_hang 90 = .ok (.aload_n 0, 1) := by decide +kernel
theorem dX2_hang_91 : decode cX2_hang 91 = .ok (.getfield 10, 3) := by decide +kernel
theorem dX2_hang_94 : decode cX2_hang 94 = .ok (.iload 4, 2) := by decide +kernel
theorem dX2_hang_96 : decode cX2_hang 96 = .ok (.invokevirtual 68, 3) := by decide +kernel
theorem dX2_hang_99 : decode cX2_hang 99 = .ok (.ifCond .ne 13, 3) := by decide +kernel
theorem dX2_hang_102 : decode cX2_hang 102 = .ok (.new 45, 3) := by decide +kernel
theorem dX2_hang_105 : decode cX2_hang 105 = .ok (.dup, 1) := by decide +kernel
theorem dX2_hang_106 : decode cX2_hang 106 = .ok (.ldc 71, 2) := by decide +kernel
theorem dX2_hang_108 : decode cX2_hang 108 = .ok (.invokespecial 49, 3) := by decide +kernel
theorem dX2_hang_111 : decode cX2_hang 111 = .ok (.athrow, 1) := by decide +kernel
theorem dX2_hang_112 : decode cX2_hang 112 = .ok (.aload_n 0, 1) := by decide +kernel
theorem dX2_hang_113 : decode cX2_hang 113 = .ok (.getfield 10, 3) := by decide +kernel
theorem dX2_hang_116 : decode cX2_hang 116 = .ok (.iload_n 1, 1) := by decide +kernel
theorem dX2_hang_117 : decode cX2_hang 117 = .ok (.iload_n 2, 1) := by decide +kernel
theorem dX2_hang_118 : decode cX2_hang 118 = .ok (.iload_n 3, 1) := by decide +kernel
theorem dX2_hang_119 : decode cX2_hang 119 = .ok (.iload 4, 2) := by decide +kernel
theorem dX2_hang_121 : decode cX2_hang 121 = .ok (.invokevirtual 73, 3) := by decide +kernel
theorem dX2_hang_124 : decode cX2_hang 124 = .ok (.istore 5, 2) := by decide +kernel
theorem dX2_hang_126 : decode cX2_hang 126 = .ok (.aload_n 0, 1) := by decide +kernel
theorem dX2_hang_127 : decode cX2_hang 127 = .ok (.getfield 10, 3) := by decide +kernel
theorem dX2_hang_130 : decode cX2_hang 130 = .ok (.invokevirtual 54, 3) := by decide +kernel
theorem dX2_hang_133 : decode cX2_hang 133 = .ok (.iload 5, 2) := by decide +kernel
theorem dX2_hang_135 : decode cX2_hang 135 = .ok (.ireturn, 1) := by decide +kernel
theorem dX2_prop_0 : decode cX2_prop 0 = .ok (.aload_n 0, 1) := by decide +kernel
theorem dX2_prop_1 : decode cX2_prop 1 = .ok (.getfield 10, 3) := by decide +kernel
theorem dX2_prop_4 : decode cX2_prop 4 = .ok (.iload_n 1, 1) := by decide +kernel
theorem dX2_prop_5 : decode cX2_prop 5 = .ok (.invokevirtual 59, 3) := by decide +kernel
theorem dX2_prop_8 : decode cX2_prop 8 = .ok (.ifCond .ne 13, 3) := by decide +kernel
theorem dX2_prop_11 : decode cX2_prop 11 = .ok (.new 63, 3) := by decide +kernel
theorem dX2_prop_14 : decode cX2_prop 14 = .ok (.dup, 1) := by decide +kernel
theorem dX2_prop_15 : decode cX2_prop 15 = .ok (.ldc 65, 2) := by decide +kernel
theorem dX2_prop_17 : decode cX2_prop 17 = .ok (.invokespecial 67, 3) := by decide +kernel
theorem dX2_prop_20 : decode cX2_prop 20 = .ok (.athrow, 1) := by decide +kernel
theorem dX2_prop_21 : decode cX2_prop 21 = .ok (.iload_n 2, 1) := by decide +kernel
theorem dX2_prop_22 : decode cX2_prop 22 = .ok (.iconst 0, 1) := by decide +kernel
theorem dX2_prop_23 : decode cX2_prop 23 = .ok (.bipush 60, 2) := by decide +kernel
theorem dX2_prop_25 : decode cX2_prop 25 = .ok (.invokestatic 30, 3) := by decide +kernel
theorem dX2_prop_28 : decode cX2_prop 28 = .ok (.ifCond .ne 13, 3) := by decide +kernel
theorem dX2_prop_31 : decode cX2_prop 31 = .ok (.new 34, 3) := by decide +kernel
theorem dX2_prop_34 : decode cX2_prop 34 = .ok (.dup, 1) := by decide +kernel
theorem dX2_prop_35 : decode cX2_prop 35 = .ok (.ldc 77, 2) := by decide +kernel
theorem dX2_prop_37 : decode cX2_prop 37 = .ok (.invokespecial 38, 3) := by decide +kernel
theorem dX2_prop_40 : decode cX2_prop 40 = .ok (.athrow, 1) := by decide +kernel
theorem dX2_prop_41 : decode cX2_prop 41 = .ok (.aload_n 0, 1) := by decide +kernel
theorem dX2_prop_42 : decode cX2_prop 42 = .ok (.getfield 10, 3) := by decide +kernel
theorem dX2_prop_45 : decode cX2_prop 45 = .ok (.iload_n 1, 1) := by decide +kernel
theorem dX2_prop_46 : decode cX2_prop 46 = .ok (.invokevirtual 68, 3) := by decide +kernel
theorem dX2_prop_49 : decode cX2_prop 49 = .ok (.ifCond .ne 13, 3) := by decide +kernel
theorem dX2_prop_52 : decode cX2_prop 52 = .ok (.new 45, 3) := by decide +kernel
theorem dX2_prop_55 : decode cX2_prop 55 = .ok (.dup, 1) := by decide +kernel
theorem dX2_prop_56 : decode cX2_prop 56 = .ok (.ldc 79, 2) := by decide +kernel
theorem dX2_prop_58 : decode cX2_prop 58 = .ok (.invokespecial 49, 3) := by decide +kernel
theorem dX2_prop_61 : decode cX2_prop 61 = .ok (.athrow, 1) := by decide +kernel
theorem dX2_prop_62 : decode cX2_prop 62 = .ok (.aload_n 0, 1) := by decide +kernel
theorem dX2_prop_63 : decode cX2_prop 63 = .ok (.getfield 10, 3) := by decide +kernel
theorem dX2_prop_66 : decode cX2_prop 66 = .ok (.getfield 81, 3) := by decide +kernel
theorem dX2_prop_69 : decode cX2_prop 69 = .ok (.istore_n 3, 1) := by decide +kernel
theorem dX2_prop_70 : decode cX2_prop 70 = .ok (.aload_n 0, 1) := by decide +kernel
theorem dX2_prop_71 : decode cX2_prop 71 = .ok (.getfield 10, 3) := by decide +kernel
theorem dX2_prop_74 : decode cX2_prop 74 = .ok (.iload_n 1, 1) := by decide +kernel
theorem dX2_prop_75 : decode cX2_prop 75 = .ok (.iload_n 2, 1) := by decide +kernel
theorem dX2_prop_76 : decode cX2_prop 76 = .ok (.invokevirtual 85, 3) := by decide +kernel
theorem dX2_prop_79 : decode cX2_prop 79 = .ok (.aload_n 0, 1) := by decide +kernel
theorem dX2_prop_80 : decode cX2_prop 80 = .ok (.getfield 10, 3) := by decide +kernel
theorem dX2_prop_83 : decode cX2_prop 83 = .ok (.invokevirtual 54, 3) := by decide +kernel
theorem dX2_prop_86 : decode cX2_prop 86 = .ok (.iload_n 3, 1) := by decide +kernel
theorem dX2_prop_87 : decode cX2_prop 87 = .ok (.aload_n 0, 1) := by decide +kernel
theorem dX2_prop_88 : decode cX2_prop 88 = .ok (.getfield 10, 3) := by decide +kernel
theorem dX2_prop_91 : decode cX2_prop 91 = .ok (.getfield 81, 3) := by decide +kernel
theorem dX2_prop_94 : decode cX2_prop 94 = .ok (.isub, 1) := by decide +kernel
theorem dX2_prop_95 : decode cX2_prop 95 = .ok (.ireturn, 1) := by decide +kernel
theorem dX2_renew_0 : decode cX2_renew 0 = .ok (.aload_n 0, 1) := by decide +kernel
theorem dX2_renew_1 : decode cX2_renew 1 = .ok (.getfield 10, 3) := by decide +kernel
theorem dX2_renew_4 : decode cX2_renew 4 = .ok (.iload_n 1, 1) := by decide +kernel
theorem dX2_renew_5 : decode cX2_renew 5 = .ok (.invokevirtual 59, 3) := by decide +kernel
theorem dX2_renew_8 : decode cX2_renew 8 = .ok (.ifCond .ne 13, 3) := by decide +kernel
theorem dX2_renew_11 : decode cX2_renew 11 = .ok (.new 63, 3) := by decide +kernel
theorem dX2_renew_14 : decode cX2_renew 14 = .ok (.dup, 1) := by decide +kernel
theorem dX2_renew_15 : decode cX2_renew 15 = .ok (.ldc 65, 2) := by decide +kernel
theorem dX2_renew_17 : decode cX2_renew 17 = .ok (.invokespecial 67, 3) := by decide +kernel
theorem dX2_renew_20 : decode cX2_renew 20 = .ok (.athrow, 1) := by decide +kernel
theorem dX2_renew_21 : decode cX2_renew 21 = .ok (.iload_n 2, 1) := by decide +kernel
theorem dX2_renew_22 : decode cX2_renew 22 = .ok (.iconst 1, 1) := by decide +kernel
theorem dX2_renew_23 : decode cX2_renew 23 = .ok (.sipush 200, 3) := by decide +kernel
theorem dX2_renew_26 : decode cX2_renew 26 = .ok (.invokestatic 30, 3) := by decide +kernel
theorem dX2_renew_29 : decode cX2_renew 29 = .ok (.ifCond .ne 13, 3) := by decide +kernel
theorem dX2_renew_32 : decode cX2_renew 32 = .ok (.new 34, 3) := by decide +kernel
theorem dX2_renew_35 : decode cX2_renew 35 = .ok (.dup, 1) := by decide +kernel
theorem dX2_renew_36 : decode cX2_renew 36 = .ok (.ldc 89, 2) := by decide +kernel
theorem dX2_renew_38 : decode cX2_renew 38 = .ok (.invokespecial 38, 3) := by decide +kernel
theorem dX2_renew_41 : decode cX2_renew 41 = .ok (.athrow, 1) := by decide +kernel
theorem dX2_renew_42 : decode cX2_renew 42 = .ok (.aload_n 0, 1) := by decide +kernel
theorem dX2_renew_43 : decode cX2_renew 43 = .ok (.getfield 10, 3) := by decide +kernel
theorem dX2_renew_46 : decode cX2_renew 46 = .ok (.iload_n 1, 1) := by decide +kernel
theorem dX2_renew_47 : decode cX2_renew 47 = .ok (.invokevirtual 91, 3) := by decide +kernel
theorem dX2_renew_50 : decode cX2_renew 50 = .ok (.ifCond .eq 16, 3) := by decide +kernel
theorem dX2_renew_53 : decode cX2_renew 53 = .ok (.iload_n 2, 1) := by decide +kernel
theorem dX2_renew_54 : decode cX2_renew 54 = .ok (.aload_n 0, 1) := by decide +kernel
theorem dX2_renew_55 : decode cX2_renew 55 = .ok (.getfield 10, 3) := by decide +kernel
theorem dX2_renew_58 : decode cX2_renew 58 = .ok (.getfield 94, 3) := by decide +kernel
theorem dX2_renew_61 : decode cX2_renew 61 = .ok (.iload_n 1, 1) := by decide +kernel
theorem dX2_renew_62 : decode cX2_renew 62 = .ok (.iaload, 1) := by decide +kernel
theorem dX2_renew_63 : decode cX2_renew 63 = .ok (.if_icmp .ge 13, 3) := by decide +kernel
theorem dX2_renew_66 : decode cX2_renew 66 = .ok (.new 45, 3) := by decide +kernel
theorem dX2_renew_69 : decode cX2_renew 69 = .ok (.dup, 1) := by decide +kernel
theorem dX2_renew_70 : decode cX2_renew 70 = .ok (.ldc 98, 2) := by decide +kernel
theorem dX2_renew_72 : decode cX2_renew 72 = .ok (.invokespecial 49, 3) := by decide +kernel
theorem dX2_renew_75 : decode cX2_renew 75 = .ok (.athrow, 1) := by decide +kernel
theorem dX2_renew_76 : decode cX2_renew 76 = .ok (.aload_n 0, 1) := by decide +kernel
theorem dX2_renew_77 : decode cX2_renew 77 = .ok (.getfield 10, 3) := by decide +kernel
theorem dX2_renew_80 : decode cX2_renew 80 = .ok (.getfield 100, 3) := by decide +kernel
theorem dX2_renew_83 : decode cX2_renew 83 = .ok (.iload_n 1, 1) := by decide +kernel
theorem dX2_renew_84 : decode cX2_renew 84 = .ok (.iaload, 1) := by decide +kernel
theorem dX2_renew_85 : decode cX2_renew 85 = .ok (.istore_n 3, 1) := by decide +kernel
theorem dX2_renew_86 : decode cX2_renew 86 = .ok (.aload_n 0, 1) := by decide +kernel
theorem dX2_renew_87 : decode cX2_renew 87 = .ok (.getfield 10, 3) := by decide +kernel
theorem dX2_renew_90 : decode cX2_renew 90 = .ok (.getfield 100, 3) := by decide +kernel
theorem dX2_renew_93 : decode cX2_renew 93 = .ok (.iload_n 1, 1) := by decide +kernel
theorem dX2_renew_94 : decode cX2_renew 94 = .ok (.iload_n 2, 1) := by decide +kernel
theorem dX2_renew_95 : decode cX2_renew 95 = .ok (.iastore, 1) := by decide +kernel
theorem dX2_renew_96 : decode cX2_renew 96 = .ok (.iload_n 3, 1) := by decide +kernel
theorem dX2_renew_97 : decode cX2_renew 97 = .ok (.ireturn, 1) := by decide +kernel
theorem dX2_stair_0 : decode cX2_stair 0 = .ok (.aload_n 0, 1) := by decide +kernel
theorem dX2_stair_1 : decode cX2_stair 1 = .ok (.getfield 10, 3) := by decide +kernel
theorem dX2_stair_4 : decode cX2_stair 4 = .ok (.iload_n 1, 1) := by decide +kernel
theorem dX2_stair_5 : decode cX2_stair 5 = .ok (.invokevirtual 59, 3) := by decide +kernel
theorem dX2_stair_8 : decode cX2_stair 8 = .ok (.ifCond .eq 14, 3) := by decide +kernel
theorem dX2_stair_11 : decode cX2_stair 11 = .ok (.aload_n 0, 1) := by decide +kernel
theorem dX2_stair_12 : decode cX2_stair 12 = .ok (.getfield 10, 3) := by decide +kernel
theorem dX2_stair_15 : decode cX2_stair 15 = .ok (.iload_n 2, 1) := by decide +kernel
theorem dX2_stair_16 : decode cX2_stair 16 = .ok (.invokevirtual 59, 3) := by decide +kernel
theorem dX2_stair_19 : decode cX2_stair 19 = .ok (.ifCond .ne 13, 3) := by decide +kernel
theorem dX2_stair_22 : decode cX2_stair 22 = .ok (.new 63, 3) := by decide +kernel
theorem dX2_stair_25 : decode cX2_stair 25 = .ok (.dup, 1) := by decide +kernel
theorem dX2_stair_26 : decode cX2_stair 26 = .ok (.ldc 65, 2) := by decide +kernel
theorem dX2_stair_28 : decode cX2_stair 28 = .ok (.invokespecial 67, 3) := by decide +kernel
theorem dX2_stair_31 : decode cX2_stair 31 = .ok (.athrow, 1) := by decide +kernel
theorem dX2_stair_32 : decode cX2_stair 32 = .ok (.iload_n 1, 1) := by decide +kernel
theorem dX2_stair_33 : decode cX2_stair 33 = .ok (.iload_n 2, 1) := by decide +kernel
theorem dX2_stair_34 : decode cX2_stair 34 = .ok (.if_icmp .ne 13, 3) := by decide +kernel
theorem dX2_stair_37 : decode cX2_stair 37 = .ok (.new 34, 3) := by decide +kernel
theorem dX2_stair_40 : decode cX2_stair 40 = .ok (.dup, 1) := by decide +kernel
theorem dX2_stair_41 : decode cX2_stair 41 = .ok (.ldc 103, 2) := by decide +kernel
theorem dX2_stair_43 : decode cX2_stair 43 = .ok (.invokespecial 38, 3) := by decide +kernel
theorem dX2_stair_46 : decode cX2_stair 46 = .ok (.athrow, 1) := by decide +kernel
theorem dX2_stair_47 : decode cX2_stair 47 = .ok (.aload_n 0, 1) := by decide +kernel
theorem dX2_stair_48 : decode cX2_stair 48 = .ok (.getfield 22, 3) := by decide +kernel
theorem dX2_stair_51 : decode cX2_stair 51 = .ok (.invokevirtual 105, 3) := by decide +kernel
theorem dX2_stair_54 : decode cX2_stair 54 = .ok (.ifCond .ne 25, 3) := by decide +kernel
theorem dX2_stair_57 : decode cX2_stair 57 = .ok (.aload_n 0, 1) := by decide +kernel
theorem dX2_stair_58 : decode cX2_stair 58 = .ok (.getfield 10, 3) := by decide +kernel
theorem dX2_stair_61 : decode cX2_stair 61 = .ok (.iload_n 1, 1) := by decide +kernel
theorem dX2_stair_62 : decode cX2_stair 62 = .ok (.invokevirtual 68, 3) := by decide +kernel
theorem dX2_stair_65 : decode cX2_stair 65 = .ok (.ifCond .eq 14, 3) := by decide +kernel
theorem dX2_stair_68 : decode cX2_stair 68 = .ok (.aload_n 0, 1) := by decide +kernel
theorem dX2_stair_69 : decode cX2_stair 69 = .ok (.getfield 10, 3) := by decide +kernel
theorem dX2_stair_72 : decode cX2_stair 72 = .ok (.iload_n 2, 1) := by decide +kernel
theorem dX2_stair_73 : decode cX2_stair 73 = .ok (.invokevirtual 68, 3) := by decide +kernel
theorem dX2_stair_76 : decode cX2_stair 76 = .ok (.ifCond .ne 13, 3) := by decide +kernel
theorem dX2_stair_79 : decode cX2_stair 79 = .ok (.new 45, 3) := by decide +kernel
theorem dX2_stair_82 : decode cX2_stair 82 = .ok (.dup, 1) := by decide +kernel
theorem dX2_stair_83 : decode cX2_stair 83 = .ok (.ldc 106, 2) := by decide +kernel
theorem dX2_stair_85 : decode cX2_stair 85 = .ok (.invokespecial 49, 3) := by decide +kernel
theorem dX2_stair_88 : decode cX2_stair 88 = .ok (.athrow, 1) := by decide +kernel
theorem dX2_stair_89 : decode cX2_stair 89 = .ok (.aload_n 0, 1) := by decide +kernel
theorem dX2_stair_90 : decode cX2_stair 90 = .ok (.getfield 22, 3) := by decide +kernel
theorem dX2_stair_93 : decode cX2_stair 93 = .ok (.iload_n 1, 1) := by decide +kernel
theorem dX2_stair_94 : decode cX2_stair 94 = .ok (.iload_n 2, 1) := by decide +kernel
theorem dX2_stair_95 : decode cX2_stair 95 = .ok (.invokevirtual 108, 3) := by decide +kernel
theorem dX2_stair_98 : decode cX2_stair 98 = .ok (.ireturn, 1) := by decide +kernel
theorem dX2_swap_0 : decode cX2_swap 0 = .ok (.aload_n 0, 1) := by decide +kernel
theorem dX2_swap_1 : decode cX2_swap 1 = .ok (.getfield 22, 3) := by decide +kernel
theorem dX2_swap_4 : decode cX2_swap 4 = .ok (.iload_n 1, 1) := by decide +kernel
theorem dX2_swap_5 : decode cX2_swap 5 = .ok (.invokevirtual 112, 3) := by decide +kernel
theorem dX2_swap_8 : decode cX2_swap 8 = .ok (.ifCond .eq 14, 3) := by decide +kernel
theorem dX2_swap_11 : decode cX2_swap 11 = .ok (.aload_n 0, 1) := by decide +kernel
theorem dX2_swap_12 : decode cX2_swap 12 = .ok (.getfield 22, 3) := by decide +kernel
theorem dX2_swap_15 : decode cX2_swap 15 = .ok (.iload_n 2, 1) := by decide +kernel
theorem dX2_swap_16 : decode cX2_swap 16 = .ok (.invokevirtual 112, 3) := by decide +kernel
theorem dX2_swap_19 : decode cX2_swap 19 = .ok (.ifCond .ne 13, 3) := by decide +kernel
theorem dX2_swap_22 : decode cX2_swap 22 = .ok (.new 63, 3) := by decide +kernel
theorem dX2_swap_25 : decode cX2_swap 25 = .ok (.dup, 1) := by decide +kernel
theorem dX2_swap_26 : decode cX2_swap 26 = .ok (.ldc 113, 2) := by decide +kernel
theorem dX2_swap_28 : decode cX2_swap 28 = .ok (.invokespecial 67, 3) := by decide +kernel
theorem dX2_swap_31 : decode cX2_swap 31 = .ok (.athrow, 1) := by decide +kernel
theorem dX2_swap_32 : decode cX2_swap 32 = .ok (.iload_n 1, 1) := by decide +kernel
theorem dX2_swap_33 : decode cX2_swap 33 = .ok (.iload_n 2, 1) := by decide +kernel
theorem dX2_swap_34 : decode cX2_swap 34 = .ok (.if_icmp .ne 13, 3) := by decide +kernel
theorem dX2_swap_37 : decode cX2_swap 37 = .ok (.new 34, 3) := by decide +kernel
theorem dX2_swap_40 : decode cX2_swap 40 = .ok (.dup, 1) := by decide +kernel
theorem dX2_swap_41 : decode cX2_swap 41 = .ok (.ldc 103, 2) := by decide +kernel
theorem dX2_swap_43 : decode cX2_swap 43 = .ok (.invokespecial 38, 3) := by decide +kernel
theorem dX2_swap_46 : decode cX2_swap 46 = .ok (.athrow, 1) := by decide +kernel
theorem dX2_swap_47 : decode cX2_swap 47 = .ok (.aload_n 0, 1) := by decide +kernel
theorem dX2_swap_48 : decode cX2_swap 48 = .ok (.getfield 22, 3) := by decide +kernel
theorem dX2_swap_51 : decode cX2_swap 51 = .ok (.iload_n 1, 1) := by decide +kernel
theorem dX2_swap_52 : decode cX2_swap 52 = .ok (.aload_n 0, 1) := by decide +kernel
theorem dX2_swap_53 : decode cX2_swap 53 = .ok (.getfield 10, 3) := by decide +kernel
theorem dX2_swap_56 : decode cX2_swap 56 = .ok (.invokevirtual 115, 3) := by decide +kernel
theorem dX2_swap_59 : decode cX2_swap 59 = .ok (.ifCond .ne 18, 3) := by decide +kernel
theorem dX2_swap_62 : decode cX2_swap 62 = .ok (.aload_n 0, 1) := by decide +kernel
theorem dX2_swap_63 : decode cX2_swap 63 = .ok (.getfield 22, 3) := by decide +kernel
theorem dX2_swap_66 : decode cX2_swap 66 = .ok (.iload_n 2, 1) := by decide +kernel
theorem dX2_swap_67 : decode cX2_swap 67 = .ok (.aload_n 0, 1) := by decide +kernel
theorem dX2_swap_68 : decode cX2_swap 68 = .ok (.getfield 10, 3) := by decide +kernel
theorem dX2_swap_71 : decode cX2_swap 71 = .ok (.invokevirtual 115, 3) := by decide +kernel
theorem dX2_swap_74 : decode cX2_swap 74 = .ok (.ifCond .eq 13, 3) := by decide +kernel
theorem dX2_swap_77 : decode cX2_swap 77 = .ok (.new 45, 3) := by decide +kernel
theorem dX2_swap_80 : decode cX2_swap 80 = .ok (.dup, 1) := by decide +kernel
theorem dX2_swap_81 : decode cX2_swap 81 = .ok (.ldc 119, 2) := by decide +kernel
theorem dX2_swap_83 : decode cX2_swap 83 = .ok (.invokespecial 49, 3) := by decide +kernel
theorem dX2_swap_86 : decode cX2_swap 86 = .ok (.athrow, 1) := by decide +kernel
theorem dX2_swap_87 : decode cX2_swap 87 = .ok (.aload_n 0, 1) := by decide +kernel
theorem dX2_swap_88 : decode cX2_swap 88 = .ok (.getfield 22, 3) := by decide +kernel
theorem dX2_swap_91 : decode cX2_swap 91 = .ok (.iload_n 1, 1) := by decide +kernel
theorem dX2_swap_92 : decode cX2_swap 92 = .ok (.iload_n 2, 1) := by decide +kernel
theorem dX2_swap_93 : decode cX2_swap 93 = .ok (.invokevirtual 121, 3) := by decide +kernel
theorem dX2_swap_96 : decode cX2_swap 96 = .ok (.ireturn, 1) := by decide +kernel
theorem dX2_joins_0 : decode cX2_joins 0 = .ok (.aload_n 0, 1) := by decide +kernel
theorem dX2_joins_1 : decode cX2_joins 1 = .ok (.getfield 22, 3) := by decide +kernel
theorem dX2_joins_4 : decode cX2_joins 4 = .ok (.iload_n 1, 1) := by decide +kernel
theorem dX2_joins_5 : decode cX2_joins 5 = .ok (.invokevirtual 112, 3) := by decide +kernel
theorem dX2_joins_8 : decode cX2_joins 8 = .ok (.ifCond .eq 12, 3) := by decide +kernel
theorem dX2_joins_11 : decode cX2_joins 11 = .ok (.iload_n 2, 1) := by decide +kernel
theorem dX2_joins_12 : decode cX2_joins 12 = .ok (.iconst 0, 1) := by decide +kernel
theorem dX2_joins_13 : decode cX2_joins 13 = .ok (.iconst 2, 1) := by decide +kernel
theorem dX2_joins_14 : decode cX2_joins 14 = .ok (.invokestatic 30, 3) := by decide +kernel
theorem dX2_joins_17 : decode cX2_joins 17 = .ok (.ifCond .ne 13, 3) := by decide +kernel
theorem dX2_joins_20 : decode cX2_joins 20 = .ok (.new 63, 3) := by decide +kernel
theorem dX2_joins_23 : decode cX2_joins 23 = .ok (.dup, 1) := by decide +kernel
theorem dX2_joins_24 : decode cX2_joins 24 = .ok (.ldc 124, 2) := by decide +kernel
theorem dX2_joins_26 : decode cX2_joins 26 = .ok (.invokespecial 67, 3) := by decide +kernel
theorem dX2_joins_29 : decode cX2_joins 29 = .ok (.athrow, 1) := by decide +kernel
theorem dX2_joins_30 : decode cX2_joins 30 = .ok (.aload_n 0, 1) := by decide +kernel
theorem dX2_joins_31 : decode cX2_joins 31 = .ok (.getfield 22, 3) := by decide +kernel
theorem dX2_joins_34 : decode cX2_joins 34 = .ok (.iload_n 1, 1) := by decide +kernel
theorem dX2_joins_35 : decode cX2_joins 35 = .ok (.iload_n 2, 1) := by decide +kernel
theorem dX2_joins_36 : decode cX2_joins 36 = .ok (.aload_n 0, 1) := by decide +kernel
theorem dX2_joins_37 : decode cX2_joins 37 = .ok (.getfield 10, 3) := by decide +kernel
theorem dX2_joins_40 : decode cX2_joins 40 = .ok (.invokevirtual 126, 3) := by decide +kernel
theorem dX2_joins_43 : decode cX2_joins 43 = .ok (.ireturn, 1) := by decide +kernel
theorem dX2_steps_0 : decode cX2_steps 0 = .ok (.aload_n 0, 1) := by decide +kernel
theorem dX2_steps_1 : decode cX2_steps 1 = .ok (.getfield 10, 3) := by decide +kernel
theorem dX2_steps_4 : decode cX2_steps 4 = .ok (.iload_n 1, 1) := by decide +kernel
theorem dX2_steps_5 : decode cX2_steps 5 = .ok (.invokevirtual 59, 3) := by decide +kernel
theorem dX2_steps_8 : decode cX2_steps 8 = .ok (.ifCond .eq 14, 3) := by decide +kernel
theorem dX2_steps_11 : decode cX2_steps 11 = .ok (.aload_n 0, 1) := by decide +kernel
theorem dX2_steps_12 : decode cX2_steps 12 = .ok (.getfield 10, 3) := by decide +kernel
theorem dX2_steps_15 : decode cX2_steps 15 = .ok (.iload_n 2, 1) := by decide +kernel
theorem dX2_steps_16 : decode cX2_steps 16 = .ok (.invokevirtual 59, 3) := by decide +kernel
theorem dX2_steps_19 : decode cX2_steps 19 = .ok (.ifCond .ne 13, 3) := by decide +kernel
theorem dX2_steps_22 : decode cX2_steps 22 = .ok (.new 63, 3) := by decide +kernel
theorem dX2_steps_25 : decode cX2_steps 25 = .ok (.dup, 1) := by decide +kernel
theorem dX2_steps_26 : decode cX2_steps 26 = .ok (.ldc 65, 2) := by decide +kernel
theorem dX2_steps_28 : decode cX2_steps 28 = .ok (.invokespecial 67, 3) := by decide +kernel
theorem dX2_steps_31 : decode cX2_steps 31 = .ok (.athrow, 1) := by decide +kernel
theorem dX2_steps_32 : decode cX2_steps 32 = .ok (.aload_n 0, 1) := by decide +kernel
theorem dX2_steps_33 : decode cX2_steps 33 = .ok (.getfield 10, 3) := by decide +kernel
theorem dX2_steps_36 : decode cX2_steps 36 = .ok (.iload_n 1, 1) := by decide +kernel
theorem dX2_steps_37 : decode cX2_steps 37 = .ok (.invokevirtual 68, 3) := by decide +kernel
theorem dX2_steps_40 : decode cX2_steps 40 = .ok (.ifCond .eq 14, 3) := by decide +kernel
theorem dX2_steps_43 : decode cX2_steps 43 = .ok (.aload_n 0, 1) := by decide +kernel
theorem dX2_steps_44 : decode cX2_steps 44 = .ok (.getfield 10, 3) := by decide +kernel
theorem dX2_steps_47 : decode cX2_steps 47 = .ok (.iload_n 2, 1) := by decide +kernel
theorem dX2_steps_48 : decode cX2_steps 48 = .ok (.invokevirtual 68, 3) := by decide +kernel
theorem dX2_steps_51 : decode cX2_steps 51 = .ok (.ifCond .ne 5, 3) := by decide +kernel
theorem dX2_steps_54 : decode cX2_steps 54 = .ok (.iconst (-1), 1) := by decide +kernel
theorem dX2_steps_55 : decode cX2_steps 55 = .ok (.ireturn, 1) := by decide +kernel
theorem dX2_steps_56 : decode cX2_steps 56 = .ok (.aload_n 0, 1) := by decide +kernel
theorem dX2_steps_57 : decode cX2_steps 57 = .ok (.getfield 22, 3) := by decide +kernel
theorem dX2_steps_60 : decode cX2_steps 60 = .ok (.iload_n 1, 1) := by decide +kernel
theorem dX2_steps_61 : decode cX2_steps 61 = .ok (.iload_n 2, 1) := by decide +kernel
theorem dX2_steps_62 : decode cX2_steps 62 = .ok (.aload_n 0, 1) := by decide +kernel
theorem dX2_steps_63 : decode cX2_steps 63 = .ok (.getfield 10, 3) := by decide +kernel
theorem dX2_steps_66 : decode cX2_steps 66 = .ok (.invokevirtual 130, 3) := by decide +kernel
theorem dX2_steps_69 : decode cX2_steps 69 = .ok (.ireturn, 1) := by decide +kernel
theorem dX2_stone_0 : decode cX2_stone 0 = .ok (.aload_n 0, 1) := by decide +kernel
theorem dX2_stone_1 : decode cX2_stone 1 = .ok (.getfield 10, 3) := by decide +kernel
theorem dX2_stone_4 : decode cX2_stone 4 = .ok (.iload_n 1, 1) := by decide +kernel
theorem dX2_stone_5 : decode cX2_stone 5 = .ok (.invokevirtual 59, 3) := by decide +kernel
theorem dX2_stone_8 : decode cX2_stone 8 = .ok (.ifCond .eq 13, 3) := by decide +kernel
theorem dX2_stone_11 : decode cX2_stone 11 = .ok (.iload_n 2, 1) := by decide +kernel
theorem dX2_stone_12 : decode cX2_stone 12 = .ok (.iconst 0, 1) := by decide +kernel
theorem dX2_stone_13 : decode cX2_stone 13 = .ok (.bipush 9, 2) := by decide +kernel
theorem dX2_stone_15 : decode cX2_stone 15 = .ok (.invokestatic 30, 3) := by decide +kernel
theorem dX2_stone_18 : decode cX2_stone 18 = .ok (.ifCond .ne 13, 3) := by decide +kernel
theorem dX2_stone_21 : decode cX2_stone 21 = .ok (.new 63, 3) := by decide +kernel
theorem dX2_stone_24 : decode cX2_stone 24 = .ok (.dup, 1) := by decide +kernel
theorem dX2_stone_25 : decode cX2_stone 25 = .ok (.ldc 133, 2) := by decide +kernel
theorem dX2_stone_27 : decode cX2_stone 27 = .ok (.invokespecial 67, 3) := by decide +kernel
theorem dX2_stone_30 : decode cX2_stone 30 = .ok (.athrow, 1) := by decide +kernel
theorem dX2_stone_31 : decode cX2_stone 31 = .ok (.aload_n 0, 1) := by decide +kernel
theorem dX2_stone_32 : decode cX2_stone 32 = .ok (.getfield 10, 3) := by decide +kernel
theorem dX2_stone_35 : decode cX2_stone 35 = .ok (.iload_n 1, 1) := by decide +kernel
theorem dX2_stone_36 : decode cX2_stone 36 = .ok (.iload_n 2, 1) := by decide +kernel
theorem dX2_stone_37 : decode cX2_stone 37 = .ok (.invokevirtual 135, 3) := by decide +kernel
theorem dX2_stone_40 : decode cX2_stone 40 = .ok (.ireturn, 1) := by decide +kernel
theorem dX2_first_0 : decode cX2_first 0 = .ok (.aload_n 0, 1) := by decide +kernel
theorem dX2_first_1 : decode cX2_first 1 = .ok (.getfield 10, 3) := by decide +kernel
theorem dX2_first_4 : decode cX2_first 4 = .ok (.iload_n 1, 1) := by decide +kernel
theorem dX2_first_5 : decode cX2_first 5 = .ok (.invokevirtual 59, 3) := by decide +kernel
theorem dX2_first_8 : decode cX2_first 8 = .ok (.ifCond .ne 13, 3) := by decide +kernel
theorem dX2_first_11 : decode cX2_first 11 = .ok (.new 63, 3) := by decide +kernel
theorem dX2_first_14 : decode cX2_first 14 = .ok (.dup, 1) := by decide +kernel
theorem dX2_first_15 : decode cX2_first 15 = .ok (.ldc 65, 2) := by decide +kernel
theorem dX2_first_17 : decode cX2_first 17 = .ok (.invokespecial 67, 3) := by decide +kernel
theorem dX2_first_20 : decode cX2_first 20 = .ok (.athrow, 1) := by decide +kernel
theorem dX2_first_21 : decode cX2_first 21 = .ok (.aload_n 0, 1) := by decide +kernel
theorem dX2_first_22 : decode cX2_first 22 = .ok (.getfield 10, 3) := by decide +kernel
theorem dX2_first_25 : decode cX2_first 25 = .ok (.iload_n 1, 1) := by decide +kernel
theorem dX2_first_26 : decode cX2_first 26 = .ok (.invokevirtual 137, 3) := by decide +kernel
theorem dX2_first_29 : decode cX2_first 29 = .ok (.ireturn, 1) := by decide +kernel
theorem dX2_count_0 : decode cX2_count 0 = .ok (.iload_n 1, 1) := by decide +kernel
theorem dX2_count_1 : decode cX2_count 1 = .ok (.iconst 0, 1) := by decide +kernel
theorem dX2_count_2 : decode cX2_count 2 = .ok (.bipush 7, 2) := by decide +kernel
theorem dX2_count_4 : decode cX2_count 4 = .ok (.invokestatic 30, 3) := by decide +kernel
theorem dX2_count_7 : decode cX2_count 7 = .ok (.ifCond .ne 13, 3) := by decide +kernel
theorem dX2_count_10 : decode cX2_count 10 = .ok (.new 63, 3) := by decide +kernel
theorem dX2_count_13 : decode cX2_count 13 = .ok (.dup, 1) := by decide +kernel
theorem dX2_count_14 : decode cX2_count 14 = .ok (.ldc 141, 2) := by decide +kernel
theorem dX2_count_16 : decode cX2_count 16 = .ok (.invokespecial 67, 3) := by decide +kernel
theorem dX2_count_19 : decode cX2_count 19 = .ok (.athrow, 1) := by decide +kernel
theorem dX2_count_20 : decode cX2_count 20 = .ok (.aload_n 0, 1) := by decide +kernel
theorem dX2_count_21 : decode cX2_count 21 = .ok (.iload_n 1, 1) := by decide +kernel
theorem dX2_count_22 : decode cX2_count 22 = .ok (.invokevirtual 143, 3) := by decide +kernel
theorem dX2_count_25 : decode cX2_count 25 = .ok (.ireturn, 1) := by decide +kernel
theorem dX2_pass_0 : decode cX2_pass 0 = .ok (.iload_n 1, 1) := by decide +kernel
theorem dX2_pass_1 : decode cX2_pass 1 = .ok (.iconst 1, 1) := by decide +kernel
theorem dX2_pass_2 : decode cX2_pass 2 = .ok (.bipush 120, 2) := by decide +kernel
theorem dX2_pass_4 : decode cX2_pass 4 = .ok (.invokestatic 30, 3) := by decide +kernel
theorem dX2_pass_7 : decode cX2_pass 7 = .ok (.ifCond .ne 13, 3) := by decide +kernel
theorem dX2_pass_10 : decode cX2_pass 10 = .ok (.new 34, 3) := by decide +kernel
theorem dX2_pass_13 : decode cX2_pass 13 = .ok (.dup, 1) := by decide +kernel
theorem dX2_pass_14 : decode cX2_pass 14 = .ok (.ldc 146, 2) := by decide +kernel
theorem dX2_pass_16 : decode cX2_pass 16 = .ok (.invokespecial 38, 3) := by decide +kernel
theorem dX2_pass_19 : decode cX2_pass 19 = .ok (.athrow, 1) := by decide +kernel
theorem dX2_pass_20 : decode cX2_pass 20 = .ok (.aload_n 0, 1) := by decide +kernel
theorem dX2_pass_21 : decode cX2_pass 21 = .ok (.getfield 10, 3) := by decide +kernel
theorem dX2_pass_24 : decode cX2_pass 24 = .ok (.getfield 81, 3) := by decide +kernel
theorem dX2_pass_27 : decode cX2_pass 27 = .ok (.istore_n 2, 1) := by decide +kernel
theorem dX2_pass_28 : decode cX2_pass 28 = .ok (.aload_n 0, 1) := by decide +kernel
theorem dX2_pass_29 : decode cX2_pass 29 = .ok (.getfield 10, 3) := by decide +kernel
theorem dX2_pass_32 : decode cX2_pass 32 = .ok (.iload_n 1, 1) := by decide +kernel
theorem dX2_pass_33 : decode cX2_pass 33 = .ok (.invokevirtual 148, 3) := by decide +kernel
theorem dX2_pass_36 : decode cX2_pass 36 = .ok (.iload_n 2, 1) := by decide +kernel
theorem dX2_pass_37 : decode cX2_pass 37 = .ok (.aload_n 0, 1) := by decide +kernel
theorem dX2_pass_38 : decode cX2_pass 38 = .ok (.getfield 10, 3) := by decide +kernel
theorem dX2_pass_41 : decode cX2_pass 41 = .ok (.getfield 81, 3) := by decide +kernel
theorem dX2_pass_44 : decode cX2_pass 44 = .ok (.isub, 1) := by decide +kernel
theorem dX2_pass_45 : decode cX2_pass 45 = .ok (.ireturn, 1) := by decide +kernel
theorem dX2_without_0 : decode cX2_without 0 = .ok (.aload_n 0, 1) := by decide +kernel
theorem dX2_without_1 : decode cX2_without 1 = .ok (.getfield 10, 3) := by decide +kernel
theorem dX2_without_4 : decode cX2_without 4 = .ok (.iload_n 1, 1) := by decide +kernel
theorem dX2_without_5 : decode cX2_without 5 = .ok (.invokevirtual 59, 3) := by decide +kernel
theorem dX2_without_8 : decode cX2_without 8 = .ok (.ifCond .ne 13, 3) := by decide +kernel
theorem dX2_without_11 : decode cX2_without 11 = .ok (.new 63, 3) := by decide +kernel
theorem dX2_without_14 : decode cX2_without 14 = .ok (.dup, 1) := by decide +kernel
theorem dX2_without_15 : decode cX2_without 15 = .ok (.ldc 65, 2) := by decide +kernel
theorem dX2_without_17 : decode cX2_without 17 = .ok (.invokespecial 67, 3) := by decide +kernel
theorem dX2_without_20 : decode cX2_without 20 = .ok (.athrow, 1) := by decide +kernel
theorem dX2_without_21 : decode cX2_without 21 = .ok (.aload_n 0, 1) := by decide +kernel
theorem dX2_without_22 : decode cX2_without 22 = .ok (.getfield 10, 3) := by decide +kernel
theorem dX2_without_25 : decode cX2_without 25 = .ok (.iload_n 1, 1) := by decide +kernel
theorem dX2_without_26 : decode cX2_without 26 = .ok (.invokevirtual 68, 3) := by decide +kernel
theorem dX2_without_29 : decode cX2_without 29 = .ok (.ifCond .ne 5, 3) := by decide +kernel
theorem dX2_without_32 : decode cX2_without 32 = .ok (.iconst 0, 1) := by decide +kernel
theorem dX2_without_33 : decode cX2_without 33 = .ok (.ireturn, 1) := by decide +kernel
theorem dX2_without_34 : decode cX2_without 34 = .ok (.aload_n 0, 1) := by decide +kernel
theorem dX2_without_35 : decode cX2_without 35 = .ok (.getfield 16, 3) := by decide +kernel
theorem dX2_without_38 : decode cX2_without 38 = .ok (.aload_n 0, 1) := by decide +kernel
theorem dX2_without_39 : decode cX2_without 39 = .ok (.getfield 10, 3) := by decide +kernel
theorem dX2_without_42 : decode cX2_without 42 = .ok (.invokevirtual 152, 3) := by decide +kernel
theorem dX2_without_45 : decode cX2_without 45 = .ok (.aload_n 0, 1) := by decide +kernel
theorem dX2_without_46 : decode cX2_without 46 = .ok (.getfield 16, 3) := by decide +kernel
theorem dX2_without_49 : decode cX2_without 49 = .ok (.iload_n 1, 1) := by decide +kernel
theorem dX2_without_50 : decode cX2_without 50 = .ok (.invokevirtual 156, 3) := by decide +kernel
theorem dX2_without_53 : decode cX2_without 53 = .ok (.aload_n 0, 1) := by decide +kernel
theorem dX2_without_54 : decode cX2_without 54 = .ok (.getfield 10, 3) := by decide +kernel
theorem dX2_without_57 : decode cX2_without 57 = .ok (.getfield 81, 3) := by decide +kernel
theorem dX2_without_60 : decode cX2_without 60 = .ok (.aload_n 0, 1) := by decide +kernel
theorem dX2_without_61 : decode cX2_without 61 = .ok (.getfield 16, 3) := by decide +kernel
theorem dX2_without_64 : decode cX2_without 64 = .ok (.getfield 81, 3) := by decide +kernel
theorem dX2_without_67 : decode cX2_without 67 = .ok (.isub, 1) := by decide +kernel
theorem dX2_without_68 : decode cX2_without 68 = .ok (.ireturn, 1) := by decide +kernel
theorem dX2_lasts_0 : decode cX2_lasts 0 = .ok (.aload_n 0, 1) := by decide +kernel
theorem dX2_lasts_1 : decode cX2_lasts 1 = .ok (.getfield 10, 3) := by decide +kernel
theorem dX2_lasts_4 : decode cX2_lasts 4 = .ok (.iload_n 1, 1) := by decide +kernel
theorem dX2_lasts_5 : decode cX2_lasts 5 = .ok (.invokevirtual 59, 3) := by decide +kernel
theorem dX2_lasts_8 : decode cX2_lasts 8 = .ok (.ifCond .ne 13, 3) := by decide +kernel
theorem dX2_lasts_11 : decode cX2_lasts 11 = .ok (.new 63, 3) := by decide +kernel
theorem dX2_lasts_14 : decode cX2_lasts 14 = .ok (.dup, 1) := by decide +kernel
theorem dX2_lasts_15 : decode cX2_lasts 15 = .ok (.ldc 65, 2) := by decide +kernel
theorem dX2_lasts_17 : decode cX2_lasts 17 = .ok (.invokespecial 67, 3) := by decide +kernel
theorem dX2_lasts_20 : decode cX2_lasts 20 = .ok (.athrow, 1) := by decide +kernel
theorem dX2_lasts_21 : decode cX2_lasts 21 = .ok (.aload_n 0, 1) := by decide +kernel
theorem dX2_lasts_22 : decode cX2_lasts 22 = .ok (.getfield 16, 3) := by decide +kernel
theorem dX2_lasts_25 : decode cX2_lasts 25 = .ok (.aload_n 0, 1) := by decide +kernel
theorem dX2_lasts_26 : decode cX2_lasts 26 = .ok (.getfield 10, 3) := by decide +kernel
theorem dX2_lasts_29 : decode cX2_lasts 29 = .ok (.invokevirtual 152, 3) := by decide +kernel
theorem dX2_lasts_32 : decode cX2_lasts 32 = .ok (.iconst 0, 1) := by decide +kernel
theorem dX2_lasts_33 : decode cX2_lasts 33 = .ok (.istore_n 2, 1) := by decide +kernel
theorem dX2_lasts_34 : decode cX2_lasts 34 = .ok (.iload_n 2, 1) := by decide +kernel
theorem dX2_lasts_35 : decode cX2_lasts 35 = .ok (.bipush 120, 2) := by decide +kernel
theorem dX2_lasts_37 : decode cX2_lasts 37 = .ok (.if_icmp .gt 29, 3) := by decide +kernel
theorem dX2_lasts_40 : decode cX2_lasts 40 = .ok (.aload_n 0, 1) := by decide +kernel
theorem dX2_lasts_41 : decode cX2_lasts 41 = .ok (.getfield 16, 3) := by decide +kernel
theorem dX2_lasts_44 : decode cX2_lasts 44 = .ok (.iload_n 1, 1) := by decide +kernel
theorem dX2_lasts_45 : decode cX2_lasts 45 = .ok (.invokevirtual 68, 3) := by decide +kernel
theorem dX2_lasts_48 : decode cX2_lasts 48 = .ok (.ifCond .ne 5, 3) := by decide +kernel
theorem dX2_lasts_51 : decode cX2_lasts 51 = .ok (.iload_n 2, 1) := by decide +kernel
theorem dX2_lasts_52 : decode cX2_lasts 52 = .ok (.ireturn, 1) := by decide +kernel
theorem dX2_lasts_53 : decode cX2_lasts 53 = .ok (.aload_n 0, 1) := by decide +kernel
theorem dX2_lasts_54 : decode cX2_lasts 54 = .ok (.getfield 16, 3) := by decide +kernel
theorem dX2_lasts_57 : decode cX2_lasts 57 = .ok (.invokevirtual 159, 3) := by decide +kernel
theorem dX2_lasts_60 : decode cX2_lasts 60 = .ok (.iinc 2 1, 3) := by decide +kernel
theorem dX2_lasts_63 : decode cX2_lasts 63 = .ok (.goto (-29), 3) := by decide +kernel
theorem dX2_lasts_66 : decode cX2_lasts 66 = .ok (.iconst (-1), 1) := by decide +kernel
theorem dX2_lasts_67 : decode cX2_lasts 67 = .ok (.ireturn, 1) := by decide +kernel
theorem dX2_foresee_0 : decode cX2_foresee 0 = .ok (.iload_n 1, 1) := by decide +kernel
theorem dX2_foresee_1 : decode cX2_foresee 1 = .ok (.iconst 1, 1) := by decide +kernel
theorem dX2_foresee_2 : decode cX2_foresee 2 = .ok (.bipush 120, 2) := by decide +kernel
theorem dX2_foresee_4 : decode cX2_foresee 4 = .ok (.invokestatic 30, 3) := by decide +kernel
theorem dX2_foresee_7 : decode cX2_foresee 7 = .ok (.ifCond .ne 13, 3) := by decide +kernel
theorem dX2_foresee_10 : decode cX2_foresee 10 = .ok (.new 34, 3) := by decide +kernel
theorem dX2_foresee_13 : decode cX2_foresee 13 = .ok (.dup, 1) := by decide +kernel
theorem dX2_foresee_14 : decode cX2_foresee 14 = .ok (.ldc 146, 2) := by decide +kernel
theorem dX2_foresee_16 : decode cX2_foresee 16 = .ok (.invokespecial 38, 3) := by decide +kernel
theorem dX2_foresee_19 : decode cX2_foresee 19 = .ok (.athrow, 1) := by decide +kernel
theorem dX2_foresee_20 : decode cX2_foresee 20 = .ok (.iload_n 2, 1) := by decide +kernel
theorem dX2_foresee_21 : decode cX2_foresee 21 = .ok (.iconst 0, 1) := by decide +kernel
theorem dX2_foresee_22 : decode cX2_foresee 22 = .ok (.iconst 2, 1) := by decide +kernel
theorem dX2_foresee_23 : decode cX2_foresee 23 = .ok (.invokestatic 30, 3) := by decide +kernel
theorem dX2_foresee_26 : decode cX2_foresee 26 = .ok (.ifCond .ne 13, 3) := by decide +kernel
theorem dX2_foresee_29 : decode cX2_foresee 29 = .ok (.new 63, 3) := by decide +kernel
theorem dX2_foresee_32 : decode cX2_foresee 32 = .ok (.dup, 1) := by decide +kernel
theorem dX2_foresee_33 : decode cX2_foresee 33 = .ok (.ldc 141, 2) := by decide +kernel
theorem dX2_foresee_35 : decode cX2_foresee 35 = .ok (.invokespecial 67, 3) := by decide +kernel
theorem dX2_foresee_38 : decode cX2_foresee 38 = .ok (.athrow, 1) := by decide +kernel
theorem dX2_foresee_39 : decode cX2_foresee 39 = .ok (.aload_n 0, 1) := by decide +kernel
theorem dX2_foresee_40 : decode cX2_foresee 40 = .ok (.getfield 16, 3) := by decide +kernel
theorem dX2_foresee_43 : decode cX2_foresee 43 = .ok (.aload_n 0, 1) := by decide +kernel
theorem dX2_foresee_44 : decode cX2_foresee 44 = .ok (.getfield 10, 3) := by decide +kernel
theorem dX2_foresee_47 : decode cX2_foresee 47 = .ok (.invokevirtual 152, 3) := by decide +kernel
theorem dX2_foresee_50 : decode cX2_foresee 50 = .ok (.aload_n 0, 1) := by decide +kernel
theorem dX2_foresee_51 : decode cX2_foresee 51 = .ok (.getfield 16, 3) := by decide +kernel
theorem dX2_foresee_54 : decode cX2_foresee 54 = .ok (.iload_n 1, 1) := by decide +kernel
theorem dX2_foresee_55 : decode cX2_foresee 55 = .ok (.invokevirtual 148, 3) := by decide +kernel
theorem dX2_foresee_58 : decode cX2_foresee 58 = .ok (.iload_n 2, 1) := by decide +kernel
theorem dX2_foresee_59 : decode cX2_foresee 59 = .ok (.lookupswitch 45 #[(0, 25), (1, 33)], 25) := by decide +kernel
theorem dX2_foresee_84 : decode cX2_foresee 84 = .ok (.aload_n 0, 1) := by decide +kernel
theorem dX2_foresee_85 : decode cX2_foresee 85 = .ok (.getfield 16, 3) := by decide +kernel
theorem dX2_foresee_88 : decode cX2_foresee 88 = .ok (.getfield 81, 3) := by decide +kernel
theorem dX2_foresee_91 : decode cX2_foresee 91 = .ok (.ireturn, 1) := by decide +kernel
theorem dX2_foresee_92 : decode cX2_foresee 92 = .ok (.aload_n 0, 1) := by decide +kernel
theorem dX2_foresee_93 : decode cX2_foresee 93 = .ok (.getfield 22, 3) := by decide +kernel
theorem dX2_foresee_96 : decode cX2_foresee 96 = .ok (.aload_n 0, 1) := by decide +kernel
theorem dX2_foresee_97 : decode cX2_foresee 97 = .ok (.getfield 16, 3) := by decide +kernel
theorem dX2_foresee_100 : decode cX2_foresee 100 = .ok (.invokevirtual 162, 3) := by decide +kernel
theorem dX2_foresee_103 : decode cX2_foresee 103 = .ok (.ireturn, 1) := by decide +kernel
theorem dX2_foresee_104 : decode cX2_foresee 104 = .ok (.aload_n 0, 1) := by decide +kernel
theorem dX2_foresee_105 : decode cX2_foresee 105 = .ok (.getfield 16, 3) := by decide +kernel
theorem dX2_foresee_108 : decode cX2_foresee 108 = .ok (.invokevirtual 166, 3) := by decide +kernel
theorem dX2_foresee_111 : decode cX2_foresee 111 = .ok (.ireturn, 1) := by decide +kernel
theorem dX2_mean_0 : decode cX2_mean 0 = .ok (.aload_n 0, 1) := by decide +kernel
theorem dX2_mean_1 : decode cX2_mean 1 = .ok (.getfield 10, 3) := by decide +kernel
theorem dX2_mean_4 : decode cX2_mean 4 = .ok (.getfield 81, 3) := by decide +kernel
theorem dX2_mean_7 : decode cX2_mean 7 = .ok (.ifCond .gt 5, 3) := by decide +kernel
theorem dX2_mean_10 : decode cX2_mean 10 = .ok (.dconst 0, 1) := by decide +kernel
theorem dX2_mean_11 : decode cX2_mean 11 = .ok (.dreturn, 1) := by decide +kernel
theorem dX2_mean_12 : decode cX2_mean 12 = .ok (.aload_n 0, 1) := by decide +kernel
theorem dX2_mean_13 : decode cX2_mean 13 = .ok (.getfield 10, 3) := by decide +kernel
theorem dX2_mean_16 : decode cX2_mean 16 = .ok (.invokevirtual 186, 3) := by decide +kernel
theorem dX2_mean_19 : decode cX2_mean 19 = .ok (.i2d, 1) := by decide +kernel
theorem dX2_mean_20 : decode cX2_mean 20 = .ok (.aload_n 0, 1) := by decide +kernel
theorem dX2_mean_21 : decode cX2_mean 21 = .ok (.getfield 10, 3) := by decide +kernel
theorem dX2_mean_24 : decode cX2_mean 24 = .ok (.getfield 81, 3) := by decide +kernel
theorem dX2_mean_27 : decode cX2_mean 27 = .ok (.i2d, 1) := by decide +kernel
theorem dX2_mean_28 : decode cX2_mean 28 = .ok (.ddiv, 1) := by decide +kernel
theorem dX2_mean_29 : decode cX2_mean 29 = .ok (.dreturn, 1) := by decide +kernel
theorem dX2_isWithin_0 : decode cX2_isWithin 0 = .ok (.iload_n 0, 1) := by decide +kernel
theorem dX2_isWithin_1 : decode cX2_isWithin 1 = .ok (.iload_n 1, 1) := by decide +kernel
theorem dX2_isWithin_2 : decode cX2_isWithin 2 = .ok (.if_icmp .lt 12, 3) := by decide +kernel
theorem dX2_isWithin_5 : decode cX2_isWithin 5 = .ok (.iload_n 0, 1) := by decide +kernel
theorem dX2_isWithin_6 : decode cX2_isWithin 6 = .ok (.iload_n 2, 1) := by decide +kernel
theorem dX2_isWithin_7 : decode cX2_isWithin 7 = .ok (.if_icmp .gt 7, 3) := by decide +kernel
theorem dX2_isWithin_10 : decode cX2_isWithin 10 = .ok (.iconst 1, 1) := by decide +kernel
theorem dX2_isWithin_11 : decode cX2_isWithin 11 = .ok (.goto 4, 3) := by decide +kernel
theorem dX2_isWithin_14 : decode cX2_isWithin 14 = .ok (.iconst 0, 1) := by decide +kernel
theorem dX2_isWithin_15 : decode cX2_isWithin 15 = .ok (.ireturn, 1) := by decide +kernel
theorem dX2_isBody_0 : decode cX2_isBody 0 = .ok (.iload_n 0, 1) := by decide +kernel
theorem dX2_isBody_1 : decode cX2_isBody 1 = .ok (.iconst 1, 1) := by decide +kernel
theorem dX2_isBody_2 : decode cX2_isBody 2 = .ok (.bipush 20, 2) := by decide +kernel
theorem dX2_isBody_4 : decode cX2_isBody 4 = .ok (.invokestatic 30, 3) := by decide +kernel
theorem dX2_isBody_7 : decode cX2_isBody 7 = .ok (.ifCond .eq 17, 3) := by decide +kernel
theorem dX2_isBody_10 : decode cX2_isBody 10 = .ok (.iload_n 1, 1) := by decide +kernel
theorem dX2_isBody_11 : decode cX2_isBody 11 = .ok (.iconst 1, 1) := by decide +kernel
theorem dX2_isBody_12 : decode cX2_isBody 12 = .ok (.bipush 60, 2) := by decide +kernel
theorem dX2_isBody_14 : decode cX2_isBody 14 = .ok (.invokestatic 30, 3) := by decide +kernel
theorem dX2_isBody_17 : decode cX2_isBody 17 = .ok (.ifCond .eq 7, 3) := by decide +kernel
theorem dX2_isBody_20 : decode cX2_isBody 20 = .ok (.iconst 1, 1) := by decide +kernel
theorem dX2_isBody_21 : decode cX2_isBody 21 = .ok (.goto 4, 3) := by decide +kernel
theorem dX2_isBody_24 : decode cX2_isBody 24 = .ok (.iconst 0, 1) := by decide +kernel
theorem dX2_isBody_25 : decode cX2_isBody 25 = .ok (.ireturn, 1) := by decide +kernel
theorem dX2_tellSky_0 : decode cX2_tellSky 0 = .ok (.iload_n 1, 1) := by decide +kernel
theorem dX2_tellSky_1 : decode cX2_tellSky 1 = .ok (.tableswitch 103 0 6 #[43, 51, 59, 67, 75, 87, 95], 43) := by decide +kernel
theorem dX2_tellSky_44 : decode cX2_tellSky 44 = .ok (.aload_n 0, 1) := by decide +kernel
theorem dX2_tellSky_45 : decode cX2_tellSky 45 = .ok (.getfield 10, 3) := by decide +kernel
theorem dX2_tellSky_48 : decode cX2_tellSky 48 = .ok (.getfield 196, 3) := by decide +kernel
theorem dX2_tellSky_51 : decode cX2_tellSky 51 = .ok (.ireturn, 1) := by decide +kernel
theorem dX2_tellSky_52 : decode cX2_tellSky 52 = .ok (.aload_n 0, 1) := by decide +kernel
theorem dX2_tellSky_53 : decode cX2_tellSky 53 = .ok (.getfield 10, 3) := by decide +kernel
theorem dX2_tellSky_56 : decode cX2_tellSky 56 = .ok (.getfield 172, 3) := by decide +kernel
theorem dX2_tellSky_59 : decode cX2_tellSky 59 = .ok (.ireturn, 1) := by decide +kernel
theorem dX2_tellSky_60 : decode cX2_tellSky 60 = .ok (.aload_n 0, 1) := by decide +kernel
theorem dX2_tellSky_61 : decode cX2_tellSky 61 = .ok (.getfield 10, 3) := by decide +kernel
theorem dX2_tellSky_64 : decode cX2_tellSky 64 = .ok (.getfield 81, 3) := by decide +kernel
theorem dX2_tellSky_67 : decode cX2_tellSky 67 = .ok (.ireturn, 1) := by decide +kernel
theorem dX2_tellSky_68 : decode cX2_tellSky 68 = .ok (.aload_n 0, 1) := by decide +kernel
theorem dX2_tellSky_69 : decode cX2_tellSky 69 = .ok (.getfield 10, 3) := by decide +kernel
theorem dX2_tellSky_72 : decode cX2_tellSky 72 = .ok (.invokevirtual 199, 3) := by decide +kernel
theorem dX2_tellSky_75 : decode cX2_tellSky 75 = .ok (.ireturn, 1) := by decide +kernel
theorem dX2_tellSky_76 : decode cX2_tellSky 76 = .ok (.aload_n 0, 1) := by decide +kernel
theorem dX2_tellSky_77 : decode cX2_tellSky 77 = .ok (.getfield 22, 3) := by decide +kernel
theorem dX2_tellSky_80 : decode cX2_tellSky 80 = .ok (.aload_n 0, 1) := by decide +kernel
theorem dX2_tellSky_81 : decode cX2_tellSky 81 = .ok (.getfield 10, 3) := by decide +kernel
theorem dX2_tellSky_84 : decode cX2_tellSky 84 = .ok (.invokevirtual 162, 3) := by decide +kernel
theorem dX2_tellSky_87 : decode cX2_tellSky 87 = .ok (.ireturn, 1) := by decide +kernel
theorem dX2_tellSky_88 : decode cX2_tellSky 88 = .ok (.aload_n 0, 1) := by decide +kernel
theorem dX2_tellSky_89 : decode cX2_tellSky 89 = .ok (.getfield 10, 3) := by decide +kernel
theorem dX2_tellSky_92 : decode cX2_tellSky 92 = .ok (.invokevirtual 166, 3) := by decide +kernel
theorem dX2_tellSky_95 : decode cX2_tellSky 95 = .ok (.ireturn, 1) := by decide +kernel
theorem dX2_tellSky_96 : decode cX2_tellSky 96 = .ok (.aload_n 0, 1) := by decide +kernel
theorem dX2_tellSky_97 : decode cX2_tellSky 97 = .ok (.getfield 10, 3) := by decide +kernel
theorem dX2_tellSky_100 : decode cX2_tellSky 100 = .ok (.invokevirtual 202, 3) := by decide +kernel
theorem dX2_tellSky_103 : decode cX2_tellSky 103 = .ok (.ireturn, 1) := by decide +kernel
theorem dX2_tellSky_104 : decode cX2_tellSky 104 = .ok (.aload_n 0, 1) := by decide +kernel
theorem dX2_tellSky_105 : decode cX2_tellSky 105 = .ok (.getfield 10, 3) := by decide +kernel
theorem dX2_tellSky_108 : decode cX2_tellSky 108 = .ok (.invokevirtual 205, 3) := by decide +kernel
theorem dX2_tellSky_111 : decode cX2_tellSky 111 = .ok (.ireturn, 1) := by decide +kernel
