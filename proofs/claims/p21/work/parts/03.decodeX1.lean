theorem dX1_init_0 : decode cX1_init 0 = .ok (.aload_n 0, 1) := by decide +kernel
theorem dX1_init_1 : decode cX1_init 1 = .ok (.invokespecial 3, 3) := by decide +kernel
theorem dX1_init_4 : decode cX1_init 4 = .ok (.aload_n 0, 1) := by decide +kernel
theorem dX1_init_5 : decode cX1_init 5 = .ok (.bipush 40, 2) := by decide +kernel
theorem dX1_init_7 : decode cX1_init 7 = .ok (.newarray .int, 2) := by decide +kernel
theorem dX1_init_9 : decode cX1_init 9 = .ok (.putfield 9, 3) := by decide +kernel
theorem dX1_init_12 : decode cX1_init 12 = .ok (.aload_n 0, 1) := by decide +kernel
theorem dX1_init_13 : decode cX1_init 13 = .ok (.bipush 40, 2) := by decide +kernel
theorem dX1_init_15 : decode cX1_init 15 = .ok (.newarray .int, 2) := by decide +kernel
theorem dX1_init_17 : decode cX1_init 17 = .ok (.putfield 15, 3) := by decide +kernel
theorem dX1_init_20 : decode cX1_init 20 = .ok (.aload_n 0, 1) := by decide +kernel
theorem dX1_init_21 : decode cX1_init 21 = .ok (.bipush 40, 2) := by decide +kernel
theorem dX1_init_23 : decode cX1_init 23 = .ok (.newarray .int, 2) := by decide +kernel
theorem dX1_init_25 : decode cX1_init 25 = .ok (.putfield 18, 3) := by decide +kernel
theorem dX1_init_28 : decode cX1_init 28 = .ok (.aload_n 0, 1) := by decide +kernel
theorem dX1_init_29 : decode cX1_init 29 = .ok (.bipush 40, 2) := by decide +kernel
theorem dX1_init_31 : decode cX1_init 31 = .ok (.newarray .int, 2) := by decide +kernel
theorem dX1_init_33 : decode cX1_init 33 = .ok (.putfield 21, 3) := by decide +kernel
theorem dX1_init_36 : decode cX1_init 36 = .ok (.aload_n 0, 1) := by decide +kernel
theorem dX1_init_37 : decode cX1_init 37 = .ok (.bipush 40, 2) := by decide +kernel
theorem dX1_init_39 : decode cX1_init 39 = .ok (.newarray .int, 2) := by decide +kernel
theorem dX1_init_41 : decode cX1_init 41 = .ok (.putfield 24, 3) := by decide +kernel
theorem dX1_init_44 : decode cX1_init 44 = .ok (.aload_n 0, 1) := by decide +kernel
theorem dX1_init_45 : decode cX1_init 45 = .ok (.bipush 40, 2) := by decide +kernel
theorem dX1_init_47 : decode cX1_init 47 = .ok (.newarray .int, 2) := by decide +kernel
theorem dX1_init_49 : decode cX1_init 49 = .ok (.putfield 27, 3) := by decide +kernel
theorem dX1_init_52 : decode cX1_init 52 = .ok (.aload_n 0, 1) := by decide +kernel
theorem dX1_init_53 : decode cX1_init 53 = .ok (.bipush 40, 2) := by decide +kernel
theorem dX1_init_55 : decode cX1_init 55 = .ok (.newarray .boolean, 2) := by decide +kernel
theorem dX1_init_57 : decode cX1_init 57 = .ok (.putfield 30, 3) := by decide +kernel
theorem dX1_init_60 : decode cX1_init 60 = .ok (.aload_n 0, 1) := by decide +kernel
theorem dX1_init_61 : decode cX1_init 61 = .ok (.bipush 40, 2) := by decide +kernel
theorem dX1_init_63 : decode cX1_init 63 = .ok (.newarray .int, 2) := by decide +kernel
theorem dX1_init_65 : decode cX1_init 65 = .ok (.putfield 34, 3) := by decide +kernel
theorem dX1_init_68 : decode cX1_init 68 = .ok (.aload_n 0, 1) := by decide +kernel
theorem dX1_init_69 : decode cX1_init 69 = .ok (.bipush 40, 2) := by decide +kernel
theorem dX1_init_71 : decode cX1_init 71 = .ok (.newarray .int, 2) := by decide +kernel
theorem dX1_init_73 : decode cX1_init 73 = .ok (.putfield 37, 3) := by decide +kernel
theorem dX1_init_76 : decode cX1_init 76 = .ok (.return_, 1) := by decide +kernel
theorem dX1_has_0 : decode cX1_has 0 = .ok (.iload_n 1, 1) := by decide +kernel
theorem dX1_has_1 : decode cX1_has 1 = .ok (.ifCond .lt 15, 3) := by decide +kernel
theorem dX1_has_4 : decode cX1_has 4 = .ok (.iload_n 1, 1) := by decide +kernel
theorem dX1_has_5 : decode cX1_has 5 = .ok (.aload_n 0, 1) := by decide +kernel
theorem dX1_has_6 : decode cX1_has 6 = .ok (.getfield 40, 3) := by decide +kernel
theorem dX1_has_9 : decode cX1_has 9 = .ok (.if_icmp .ge 7, 3) := by decide +kernel
theorem dX1_has_12 : decode cX1_has 12 = .ok (.iconst 1, 1) := by decide +kernel
theorem dX1_has_13 : decode cX1_has 13 = .ok (.goto 4, 3) := by decide +kernel
theorem dX1_has_16 : decode cX1_has 16 = .ok (.iconst 0, 1) := by decide +kernel
theorem dX1_has_17 : decode cX1_has 17 = .ok (.ireturn, 1) := by decide +kernel
theorem dX1_isFull_0 : decode cX1_isFull 0 = .ok (.aload_n 0, 1) := by decide +kernel
theorem dX1_isFull_1 : decode cX1_isFull 1 = .ok (.getfield 40, 3) := by decide +kernel
theorem dX1_isFull_4 : decode cX1_isFull 4 = .ok (.bipush 40, 2) := by decide +kernel
theorem dX1_isFull_6 : decode cX1_isFull 6 = .ok (.if_icmp .lt 7, 3) := by decide +kernel
theorem dX1_isFull_9 : decode cX1_isFull 9 = .ok (.iconst 1, 1) := by decide +kernel
theorem dX1_isFull_10 : decode cX1_isFull 10 = .ok (.goto 4, 3) := by decide +kernel
theorem dX1_isFull_13 : decode cX1_isFull 13 = .ok (.iconst 0, 1) := by decide +kernel
theorem dX1_isFull_14 : decode cX1_isFull 14 = .ok (.ireturn, 1) := by decide +kernel
theorem dX1_isHanging_0 : decode cX1_isHanging 0 = .ok (.aload_n 0, 1) := by decide +kernel
theorem dX1_isHanging_1 : decode cX1_isHanging 1 = .ok (.iload_n 1, 1) := by decide +kernel
theorem dX1_isHanging_2 : decode cX1_isHanging 2 = .ok (.invokevirtual 44, 3) := by decide +kernel
theorem dX1_isHanging_5 : decode cX1_isHanging 5 = .ok (.ifCond .eq 16, 3) := by decide +kernel
theorem dX1_isHanging_8 : decode cX1_isHanging 8 = .ok (.aload_n 0, 1) := by decide +kernel
theorem dX1_isHanging_9 : decode cX1_isHanging 9 = .ok (.getfield 30, 3) := by decide +kernel
theorem dX1_isHanging_12 : decode cX1_isHanging 12 = .ok (.iload_n 1, 1) := by decide +kernel
theorem dX1_isHanging_13 : decode cX1_isHanging 13 = .ok (.baload, 1) := by decide +kernel
theorem dX1_isHanging_14 : decode cX1_isHanging 14 = .ok (.ifCond .eq 7, 3) := by decide +kernel
theorem dX1_isHanging_17 : decode cX1_isHanging 17 = .ok (.iconst 1, 1) := by decide +kernel
theorem dX1_isHanging_18 : decode cX1_isHanging 18 = .ok (.goto 4, 3) := by decide +kernel
theorem dX1_isHanging_21 : decode cX1_isHanging 21 = .ok (.iconst 0, 1) := by decide +kernel
theorem dX1_isHanging_22 : decode cX1_isHanging 22 = .ok (.ireturn, 1) := by decide +kernel
theorem dX1_hasSpell_0 : decode cX1_hasSpell 0 = .ok (.aload_n 0, 1) := by decide +kernel
theorem dX1_hasSpell_1 : decode cX1_hasSpell 1 = .ok (.iload_n 1, 1) := by decide +kernel
theorem dX1_hasSpell_2 : decode cX1_hasSpell 2 = .ok (.invokevirtual 44, 3) := by decide +kernel
theorem dX1_hasSpell_5 : decode cX1_hasSpell 5 = .ok (.ifCond .eq 16, 3) := by decide +kernel
theorem dX1_hasSpell_8 : decode cX1_hasSpell 8 = .ok (.aload_n 0, 1) := by decide +kernel
theorem dX1_hasSpell_9 : decode cX1_hasSpell 9 = .ok (.getfield 21, 3) := by decide +kernel
theorem dX1_hasSpell_12 : decode cX1_hasSpell 12 = .ok (.iload_n 1, 1) := by decide +kernel
theorem dX1_hasSpell_13 : decode cX1_hasSpell 13 = .ok (.iaload, 1) := by decide +kernel
theorem dX1_hasSpell_14 : decode cX1_hasSpell 14 = .ok (.ifCond .le 7, 3) := by decide +kernel
theorem dX1_hasSpell_17 : decode cX1_hasSpell 17 = .ok (.iconst 1, 1) := by decide +kernel
theorem dX1_hasSpell_18 : decode cX1_hasSpell 18 = .ok (.goto 4, 3) := by decide +kernel
theorem dX1_hasSpell_21 : decode cX1_hasSpell 21 = .ok (.iconst 0, 1) := by decide +kernel
theorem dX1_hasSpell_22 : decode cX1_hasSpell 22 = .ok (.ireturn, 1) := by decide +kernel
theorem dX1_addBySpell_0 : decode cX1_addBySpell 0 = .ok (.aload_n 0, 1) := by decide +kernel
theorem dX1_addBySpell_1 : decode cX1_addBySpell 1 = .ok (.iload_n 1, 1) := by decide +kernel
theorem dX1_addBySpell_2 : decode cX1_addBySpell 2 = .ok (.iload_n 2, 1) := by decide +kernel
theorem dX1_addBySpell_3 : decode cX1_addBySpell 3 = .ok (.iconst (-1), 1) := by decide +kernel
theorem dX1_addBySpell_4 : decode cX1_addBySpell 4 = .ok (.iconst (-1), 1) := by decide +kernel
theorem dX1_addBySpell_5 : decode cX1_addBySpell 5 = .ok (.invokevirtual 48, 3) := by decide +kernel
theorem dX1_addBySpell_8 : decode cX1_addBySpell 8 = .ok (.istore 4, 2) := by decide +kernel
theorem dX1_addBySpell_10 : decode cX1_addBySpell 10 = .ok (.aload_n 0, 1) := by decide +kernel
theorem dX1_addBySpell_11 : decode cX1_addBySpell 11 = .ok (.iload 4, 2) := by decide +kernel
theorem dX1_addBySpell_13 : decode cX1_addBySpell 13 = .ok (.invokevirtual 44, 3) := by decide +kernel
theorem dX1_addBySpell_16 : decode cX1_addBySpell 16 = .ok (.ifCond .eq 11, 3) := by decide +kernel
theorem dX1_addBySpell_19 : decode cX1_addBySpell 19 = .ok (.aload_n 0, 1) := by decide +kernel
theorem dX1_addBySpell_20 : decode cX1_addBySpell 20 = .ok (.getfield 21, 3) := by decide +kernel
theorem dX1_addBySpell_23 : decode cX1_addBySpell 23 = .ok (.iload 4, 2) := by decide +kernel
theorem dX1_addBySpell_25 : decode cX1_addBySpell 25 = .ok (.iload_n 3, 1) := by decide +kernel
theorem dX1_addBySpell_26 : decode cX1_addBySpell 26 = .ok (.iastore, 1) := by decide +kernel
theorem dX1_addBySpell_27 : decode cX1_addBySpell 27 = .ok (.iload 4, 2) := by decide +kernel
theorem dX1_addBySpell_29 : decode cX1_addBySpell 29 = .ok (.ireturn, 1) := by decide +kernel
theorem dX1_addByHolds_0 : decode cX1_addByHolds 0 = .ok (.aload_n 0, 1) := by decide +kernel
theorem dX1_addByHolds_1 : decode cX1_addByHolds 1 = .ok (.invokevirtual 52, 3) := by decide +kernel
theorem dX1_addByHolds_4 : decode cX1_addByHolds 4 = .ok (.ifCond .eq 5, 3) := by decide +kernel
theorem dX1_addByHolds_7 : decode cX1_addByHolds 7 = .ok (.iconst (-1), 1) := by decide +kernel
theorem dX1_addByHolds_8 : decode cX1_addByHolds 8 = .ok (.ireturn, 1) := by decide +kernel
theorem dX1_addByHolds_9 : decode cX1_addByHolds 9 = .ok (.aload_n 0, 1) := by decide +kernel
theorem dX1_addByHolds_10 : decode cX1_addByHolds 10 = .ok (.getfield 40, 3) := by decide +kernel
theorem dX1_addByHolds_13 : decode cX1_addByHolds 13 = .ok (.istore 5, 2) := by decide +kernel
theorem dX1_addByHolds_15 : decode cX1_addByHolds 15 = .ok (.aload_n 0, 1) := by decide +kernel
theorem dX1_addByHolds_16 : decode cX1_addByHolds 16 = .ok (.getfield 9, 3) := by decide +kernel
theorem dX1_addByHolds_19 : decode cX1_addByHolds 19 = .ok (.iload 5, 2) := by decide +kernel
theorem dX1_addByHolds_21 : decode cX1_addByHolds 21 = .ok (.iload_n 1, 1) := by decide +kernel
theorem dX1_addByHolds_22 : decode cX1_addByHolds 22 = .ok (.iastore, 1) := by decide +kernel
theorem dX1_addByHolds_23 : decode cX1_addByHolds 23 = .ok (.aload_n 0, 1) := by decide +kernel
theorem dX1_addByHolds_24 : decode cX1_addByHolds 24 = .ok (.getfield 15, 3) := by decide +kernel
theorem dX1_addByHolds_27 : decode cX1_addByHolds 27 = .ok (.iload 5, 2) := by decide +kernel
theorem dX1_addByHolds_29 : decode cX1_addByHolds 29 = .ok (.iload_n 2, 1) := by decide +kernel
theorem dX1_addByHolds_30 : decode cX1_addByHolds 30 = .ok (.iastore, 1) := by decide +kernel
theorem dX1_addByHolds_31 : decode cX1_addByHolds 31 = .ok (.aload_n 0, 1) := by decide +kernel
theorem dX1_addByHolds_32 : decode cX1_addByHolds 32 = .ok (.getfield 24, 3) := by decide +kernel
theorem dX1_addByHolds_35 : decode cX1_addByHolds 35 = .ok (.iload 5, 2) := by decide +kernel
theorem dX1_addByHolds_37 : decode cX1_addByHolds 37 = .ok (.iload_n 3, 1) := by decide +kernel
theorem dX1_addByHolds_38 : decode cX1_addByHolds 38 = .ok (.iastore, 1) := by decide +kernel
theorem dX1_addByHolds_39 : decode cX1_addByHolds 39 = .ok (.aload_n 0, 1) := by decide +kernel
theorem dX1_addByHolds_40 : decode cX1_addByHolds 40 = .ok (.getfield 27, 3) := by decide +kernel
theorem dX1_addByHolds_43 : decode cX1_addByHolds 43 = .ok (.iload 5, 2) := by decide +kernel
theorem dX1_addByHolds_45 : decode cX1_addByHolds 45 = .ok (.iload 4, 2) := by decide +kernel
theorem dX1_addByHolds_47 : decode cX1_addByHolds 47 = .ok (.iastore, 1) := by decide +kernel
theorem dX1_addByHolds_48 : decode cX1_addByHolds 48 = .ok (.aload_n 0, 1) := by decide +kernel
theorem dX1_addByHolds_49 : decode cX1_addByHolds 49 = .ok (.getfield 30, 3) := by decide +kernel
theorem dX1_addByHolds_52 : decode cX1_addByHolds 52 = .ok (.iload 5, 2) := by decide +kernel
theorem dX1_addByHolds_54 : decode cX1_addByHolds 54 = .ok (.iconst 1, 1) := by decide +kernel
theorem dX1_addByHolds_55 : decode cX1_addByHolds 55 = .ok (.bastore, 1) := by decide +kernel
theorem dX1_addByHolds_56 : decode cX1_addByHolds 56 = .ok (.aload_n 0, 1) := by decide +kernel
theorem dX1_addByHolds_57 : decode cX1_addByHolds 57 = .ok (.dup, 1) := by decide +kernel
theorem dX1_addByHolds_58 : decode cX1_addByHolds 58 = .ok (.getfield 40, 3) := by decide +kernel
theorem dX1_addByHolds_61 : decode cX1_addByHolds 61 = .ok (.iconst 1, 1) := by decide +kernel
theorem dX1_addByHolds_62 : decode cX1_addByHolds 62 = .ok (.iadd, 1) := by decide +kernel
theorem dX1_addByHolds_63 : decode cX1_addByHolds 63 = .ok (.putfield 40, 3) := by decide +kernel
theorem dX1_addByHolds_66 : decode cX1_addByHolds 66 = .ok (.aload_n 0, 1) := by decide +kernel
theorem dX1_addByHolds_67 : decode cX1_addByHolds 67 = .ok (.dup, 1) := by decide +kernel
theorem dX1_addByHolds_68 : decode cX1_addByHolds 68 = .ok (.getfield 56, 3) := by decide +kernel
theorem dX1_addByHolds_71 : decode cX1_addByHolds 71 = .ok (.iconst 1, 1) := by decide +kernel
theorem dX1_addByHolds_72 : decode cX1_addByHolds 72 = .ok (.iadd, 1) := by decide +kernel
theorem dX1_addByHolds_73 : decode cX1_addByHolds 73 = .ok (.putfield 56, 3) := by decide +kernel
theorem dX1_addByHolds_76 : decode cX1_addByHolds 76 = .ok (.aload_n 0, 1) := by decide +kernel
theorem dX1_addByHolds_77 : decode cX1_addByHolds 77 = .ok (.iconst 1, 1) := by decide +kernel
theorem dX1_addByHolds_78 : decode cX1_addByHolds 78 = .ok (.putfield 59, 3) := by decide +kernel
theorem dX1_addByHolds_81 : decode cX1_addByHolds 81 = .ok (.iload 5, 2) := by decide +kernel
theorem dX1_addByHolds_83 : decode cX1_addByHolds 83 = .ok (.ireturn, 1) := by decide +kernel
theorem dX1_setProp_0 : decode cX1_setProp 0 = .ok (.aload_n 0, 1) := by decide +kernel
theorem dX1_setProp_1 : decode cX1_setProp 1 = .ok (.iload_n 1, 1) := by decide +kernel
theorem dX1_setProp_2 : decode cX1_setProp 2 = .ok (.invokevirtual 44, 3) := by decide +kernel
theorem dX1_setProp_5 : decode cX1_setProp 5 = .ok (.ifCond .eq 15, 3) := by decide +kernel
theorem dX1_setProp_8 : decode cX1_setProp 8 = .ok (.aload_n 0, 1) := by decide +kernel
theorem dX1_setProp_9 : decode cX1_setProp 9 = .ok (.getfield 18, 3) := by decide +kernel
theorem dX1_setProp_12 : decode cX1_setProp 12 = .ok (.iload_n 1, 1) := by decide +kernel
theorem dX1_setProp_13 : decode cX1_setProp 13 = .ok (.iload_n 2, 1) := by decide +kernel
theorem dX1_setProp_14 : decode cX1_setProp 14 = .ok (.iastore, 1) := by decide +kernel
theorem dX1_setProp_15 : decode cX1_setProp 15 = .ok (.aload_n 0, 1) := by decide +kernel
theorem dX1_setProp_16 : decode cX1_setProp 16 = .ok (.iconst 1, 1) := by decide +kernel
theorem dX1_setProp_17 : decode cX1_setProp 17 = .ok (.putfield 59, 3) := by decide +kernel
theorem dX1_setProp_20 : decode cX1_setProp 20 = .ok (.return_, 1) := by decide +kernel
theorem dX1_copyFrom_0 : decode cX1_copyFrom 0 = .ok (.iconst 0, 1) := by decide +kernel
theorem dX1_copyFrom_1 : decode cX1_copyFrom 1 = .ok (.istore_n 2, 1) := by decide +kernel
theorem dX1_copyFrom_2 : decode cX1_copyFrom 2 = .ok (.iload_n 2, 1) := by decide +kernel
theorem dX1_copyFrom_3 : decode cX1_copyFrom 3 = .ok (.aload_n 1, 1) := by decide +kernel
theorem dX1_copyFrom_4 : decode cX1_copyFrom 4 = .ok (.getfield 40, 3) := by decide +kernel
theorem dX1_copyFrom_7 : decode cX1_copyFrom 7 = .ok (.if_icmp .ge 117, 3) := by decide +kernel
theorem dX1_copyFrom_10 : decode cX1_copyFrom 10 = .ok (.aload_n 0, 1) := by decide +kernel
theorem dX1_copyFrom_11 : decode cX1_copyFrom 11 = .ok (.getfield 9, 3) := by decide +kernel
theorem dX1_copyFrom_14 : decode cX1_copyFrom 14 = .ok (.iload_n 2, 1) := by decide +kernel
theorem dX1_copyFrom_15 : decode cX1_copyFrom 15 = .ok (.aload_n 1, 1) := by decide +kernel
theorem dX1_copyFrom_16 : decode cX1_copyFrom 16 = .ok (.getfield 9, 3) := by decide +kernel
theorem dX1_copyFrom_19 : decode cX1_copyFrom 19 = .ok (.iload_n 2, 1) := by decide +kernel
theorem dX1_copyFrom_20 : decode cX1_copyFrom 20 = .ok (.iaload, 1) := by decide +kernel
theorem dX1_copyFrom_21 : decode cX1_copyFrom 21 = .ok (.iastore, 1) := by decide +kernel
theorem dX1_copyFrom_22 : decode cX1_copyFrom 22 = .ok (.aload_n 0, 1) := by decide +kernel
theorem dX1_copyFrom_23 : decode cX1_copyFrom 23 = .ok (.getfield 15, 3) := by decide +kernel
theorem dX1_copyFrom_26 : decode cX1_copyFrom 26 = .ok (.iload_n 2, 1) := by decide +kernel
theorem dX1_copyFrom_27 : decode cX1_copyFrom 27 = .ok (.aload_n 1, 1) := by decide +kernel
theorem dX1_copyFrom_28 : decode cX1_copyFrom 28 = .ok (.getfield 15, 3) := by decide +kernel
theorem dX1_copyFrom_31 : decode cX1_copyFrom 31 = .ok (.iload_n 2, 1) := by decide +kernel
theorem dX1_copyFrom_32 : decode cX1_copyFrom 32 = .ok (.iaload, 1) := by decide +kernel
theorem dX1_copyFrom_33 : decode cX1_copyFrom 33 = .ok (.iastore, 1) := by decide +kernel
theorem dX1_copyFrom_34 : decode cX1_copyFrom 34 = .ok (.aload_n 0, 1) := by decide +kernel
theorem dX1_copyFrom_35 : decode cX1_copyFrom 35 = .ok (.getfield 18, 3) := by decide +kernel
theorem dX1_copyFrom_38 : decode cX1_copyFrom 38 = .ok (.iload_n 2, 1) := by decide +kernel
theorem dX1_copyFrom_39 : decode cX1_copyFrom 39 = .ok (.aload_n 1, 1) := by decide +kernel
theorem dX1_copyFrom_40 : decode cX1_copyFrom 40 = .ok (.getfield 18, 3) := by decide +kernel
theorem dX1_copyFrom_43 : decode cX1_copyFrom 43 = .ok (.iload_n 2, 1) := by decide +kernel
theorem dX1_copyFrom_44 : decode cX1_copyFrom 44 = .ok (.iaload, 1) := by decide +kernel
theorem dX1_copyFrom_45 : decode cX1_copyFrom 45 = .ok (.iastore, 1) := by decide +kernel
theorem dX1_copyFrom_46 : decode cX1_copyFrom 46 = .ok (.aload_n 0, 1) := by decide +kernel
theorem dX1_copyFrom_47 : decode cX1_copyFrom 47 = .ok (.getfield 21, 3) := by decide +kernel
theorem dX1_copyFrom_50 : decode cX1_copyFrom 50 = .ok (.iload_n 2, 1) := by decide +kernel
theorem dX1_copyFrom_51 : decode cX1_copyFrom 51 = .ok (.aload_n 1, 1) := by decide +kernel
theorem dX1_copyFrom_52 : decode cX1_copyFrom 52 = .ok (.getfield 21, 3) := by decide +kernel
theorem dX1_copyFrom_55 : decode cX1_copyFrom 55 = .ok (.iload_n 2, 1) := by decide +kernel
theorem dX1_copyFrom_56 : decode cX1_copyFrom 56 = .ok (.iaload, 1) := by decide +kernel
theorem dX1_copyFrom_57 : decode cX1_copyFrom 57 = .ok (.iastore, 1) := by decide +kernel
theorem dX1_copyFrom_58 : decode cX1_copyFrom 58 = .ok (.aload_n 0, 1) := by decide +kernel
theorem dX1_copyFrom_59 : decode cX1_copyFrom 59 = .ok (.getfield 24, 3) := by decide +kernel
theorem dX1_copyFrom_62 : decode cX1_copyFrom 62 = .ok (.iload_n 2, 1) := by decide +kernel
theorem dX1_copyFrom_63 : decode cX1_copyFrom 63 = .ok (.aload_n 1, 1) := by decide +kernel
theorem dX1_copyFrom_64 : decode cX1_copyFrom 64 = .ok (.getfield 24, 3) := by decide +kernel
theorem dX1_copyFrom_67 : decode cX1_copyFrom 67 = .ok (.iload_n 2, 1) := by decide +kernel
theorem dX1_copyFrom_68 : decode cX1_copyFrom 68 = .ok (.iaload, 1) := by decide +kernel
theorem dX1_copyFrom_69 : decode cX1_copyFrom 69 = .ok (.iastore, 1) := by decide +kernel
theorem dX1_copyFrom_70 : decode cX1_copyFrom 70 = .ok (.aload_n 0, 1) := by decide +kernel
theorem dX1_copyFrom_71 : decode cX1_copyFrom 71 = .ok (.getfield 27, 3) := by decide +kernel
theorem dX1_copyFrom_74 : decode cX1_copyFrom 74 = .ok (.iload_n 2, 1) := by decide +kernel
theorem dX1_copyFrom_75 : decode cX1_copyFrom 75 = .ok (.aload_n 1, 1) := by decide +kernel
theorem dX1_copyFrom_76 : decode cX1_copyFrom 76 = .ok (.getfield 27, 3) := by decide +kernel
theorem dX1_copyFrom_79 : decode cX1_copyFrom 79 = .ok (.iload_n 2, 1) := by decide +kernel
theorem dX1_copyFrom_80 : decode cX1_copyFrom 80 = .ok (.iaload, 1) := by decide +kernel
theorem dX1_copyFrom_81 : decode cX1_copyFrom 81 = .ok (.iastore, 1) := by decide +kernel
theorem dX1_copyFrom_82 : decode cX1_copyFrom 82 = .ok (.aload_n 0, 1) := by decide +kernel
theorem dX1_copyFrom_83 : decode cX1_copyFrom 83 = .ok (.getfield 30, 3) := by decide +kernel
theorem dX1_copyFrom_86 : decode cX1_copyFrom 86 = .ok (.iload_n 2, 1) := by decide +kernel
theorem dX1_copyFrom_87 : decode cX1_copyFrom 87 = .ok (.aload_n 1, 1) := by decide +kernel
theorem dX1_copyFrom_88 : decode cX1_copyFrom 88 = .ok (.getfield 30, 3) := by decide +kernel
theorem dX1_copyFrom_91 : decode cX1_copyFrom 91 = .ok (.iload_n 2, 1) := by decide +kernel
theorem dX1_copyFrom_92 : decode cX1_copyFrom 92 = .ok (.baload, 1) := by decide +kernel
theorem dX1_copyFrom_93 : decode cX1_copyFrom 93 = .ok (.bastore, 1) := by decide +kernel
theorem dX1_copyFrom_94 : decode cX1_copyFrom 94 = .ok (.aload_n 0, 1) := by decide +kernel
theorem dX1_copyFrom_95 : decode cX1_copyFrom 95 = .ok (.getfield 34, 3) := by decide +kernel
theorem dX1_copyFrom_98 : decode cX1_copyFrom 98 = .ok (.iload_n 2, 1) := by decide +kernel
theorem dX1_copyFrom_99 : decode cX1_copyFrom 99 = .ok (.aload_n 1, 1) := by decide +kernel
theorem dX1_copyFrom_100 : decode cX1_copyFrom 100 = .ok (.getfield 34, 3) := by decide +kernel
theorem dX1_copyFrom_103 : decode cX1_copyFrom 103 = .ok (.iload_n 2, 1) := by decide +kernel
theorem dX1_copyFrom_104 : decode cX1_copyFrom 104 = .ok (.iaload, 1) := by decide +kernel
theorem dX1_copyFrom_105 : decode cX1_copyFrom 105 = .ok (.iastore, 1) := by decide +kernel
theorem dX1_copyFrom_106 : decode cX1_copyFrom 106 = .ok (.aload_n 0, 1) := by decide +kernel
theorem dX1_copyFrom_107 : decode cX1_copyFrom 107 = .ok (.getfield 37, 3) := by decide +kernel
theorem dX1_copyFrom_110 : decode cX1_copyFrom 110 = .ok (.iload_n 2, 1) := by decide +kernel
theorem dX1_copyFrom_111 : decode cX1_copyFrom 111 = .ok (.aload_n 1, 1) := by decide +kernel
theorem dX1_copyFrom_112 : decode cX1_copyFrom 112 = .ok (.getfield 37, 3) := by decide +kernel
theorem dX1_copyFrom_115 : decode cX1_copyFrom 115 = .ok (.iload_n 2, 1) := by decide +kernel
theorem dX1_copyFrom_116 : decode cX1_copyFrom 116 = .ok (.iaload, 1) := by decide +kernel
theorem dX1_copyFrom_117 : decode cX1_copyFrom 117 = .ok (.iastore, 1) := by decide +kernel
theorem dX1_copyFrom_118 : decode cX1_copyFrom 118 = .ok (.iinc 2 1, 3) := by decide +kernel
theorem dX1_copyFrom_121 : decode cX1_copyFrom 121 = .ok (.goto (-119), 3) := by decide +kernel
theorem dX1_copyFrom_124 : decode cX1_copyFrom 124 = .ok (.aload_n 0, 1) := by decide +kernel
theorem dX1_copyFrom_125 : decode cX1_copyFrom 125 = .ok (.aload_n 1, 1) := by decide +kernel
theorem dX1_copyFrom_126 : decode cX1_copyFrom 126 = .ok (.getfield 40, 3) := by decide +kernel
theorem dX1_copyFrom_129 : decode cX1_copyFrom 129 = .ok (.putfield 40, 3) := by decide +kernel
theorem dX1_copyFrom_132 : decode cX1_copyFrom 132 = .ok (.aload_n 0, 1) := by decide +kernel
theorem dX1_copyFrom_133 : decode cX1_copyFrom 133 = .ok (.aload_n 1, 1) := by decide +kernel
theorem dX1_copyFrom_134 : decode cX1_copyFrom 134 = .ok (.getfield 56, 3) := by decide +kernel
theorem dX1_copyFrom_137 : decode cX1_copyFrom 137 = .ok (.putfield 56, 3) := by decide +kernel
theorem dX1_copyFrom_140 : decode cX1_copyFrom 140 = .ok (.aload_n 0, 1) := by decide +kernel
theorem dX1_copyFrom_141 : decode cX1_copyFrom 141 = .ok (.aload_n 1, 1) := by decide +kernel
theorem dX1_copyFrom_142 : decode cX1_copyFrom 142 = .ok (.getfield 63, 3) := by decide +kernel
theorem dX1_copyFrom_145 : decode cX1_copyFrom 145 = .ok (.putfield 63, 3) := by decide +kernel
theorem dX1_copyFrom_148 : decode cX1_copyFrom 148 = .ok (.aload_n 0, 1) := by decide +kernel
theorem dX1_copyFrom_149 : decode cX1_copyFrom 149 = .ok (.aload_n 1, 1) := by decide +kernel
theorem dX1_copyFrom_150 : decode cX1_copyFrom 150 = .ok (.getfield 59, 3) := by decide +kernel
theorem dX1_copyFrom_153 : decode cX1_copyFrom 153 = .ok (.putfield 59, 3) := by decide +kernel
theorem dX1_copyFrom_156 : decode cX1_copyFrom 156 = .ok (.return_, 1) := by decide +kernel
theorem dX1_giveWay_0 : decode cX1_giveWay 0 = .ok (.iconst 1, 1) := by decide +kernel
theorem dX1_giveWay_1 : decode cX1_giveWay 1 = .ok (.istore_n 1, 1) := by decide +kernel
theorem dX1_giveWay_2 : decode cX1_giveWay 2 = .ok (.iconst 0, 1) := by decide +kernel
theorem dX1_giveWay_3 : decode cX1_giveWay 3 = .ok (.istore_n 2, 1) := by decide +kernel
theorem dX1_giveWay_4 : decode cX1_giveWay 4 = .ok (.iload_n 1, 1) := by decide +kernel
theorem dX1_giveWay_5 : decode cX1_giveWay 5 = .ok (.ifCond .eq 48, 3) := by decide +kernel
theorem dX1_giveWay_8 : decode cX1_giveWay 8 = .ok (.iload_n 2, 1) := by decide +kernel
theorem dX1_giveWay_9 : decode cX1_giveWay 9 = .ok (.sipush 1000, 3) := by decide +kernel
theorem dX1_giveWay_12 : decode cX1_giveWay 12 = .ok (.if_icmp .ge 41, 3) := by decide +kernel
theorem dX1_giveWay_15 : decode cX1_giveWay 15 = .ok (.aload_n 0, 1) := by decide +kernel
theorem dX1_giveWay_16 : decode cX1_giveWay 16 = .ok (.getfield 59, 3) := by decide +kernel
theorem dX1_giveWay_19 : decode cX1_giveWay 19 = .ok (.ifCond .eq 7, 3) := by decide +kernel
theorem dX1_giveWay_22 : decode cX1_giveWay 22 = .ok (.aload_n 0, 1) := by decide +kernel
theorem dX1_giveWay_23 : decode cX1_giveWay 23 = .ok (.invokevirtual 66, 3) := by decide +kernel
theorem dX1_giveWay_26 : decode cX1_giveWay 26 = .ok (.aload_n 0, 1) := by decide +kernel
theorem dX1_giveWay_27 : decode cX1_giveWay 27 = .ok (.invokevirtual 69, 3) := by decide +kernel
theorem dX1_giveWay_30 : decode cX1_giveWay 30 = .ok (.aload_n 0, 1) := by decide +kernel
theorem dX1_giveWay_31 : decode cX1_giveWay 31 = .ok (.invokevirtual 72, 3) := by decide +kernel
theorem dX1_giveWay_34 : decode cX1_giveWay 34 = .ok (.aload_n 0, 1) := by decide +kernel
theorem dX1_giveWay_35 : decode cX1_giveWay 35 = .ok (.getfield 59, 3) := by decide +kernel
theorem dX1_giveWay_38 : decode cX1_giveWay 38 = .ok (.istore_n 1, 1) := by decide +kernel
theorem dX1_giveWay_39 : decode cX1_giveWay 39 = .ok (.iload_n 1, 1) := by decide +kernel
theorem dX1_giveWay_40 : decode cX1_giveWay 40 = .ok (.ifCond .eq 7, 3) := by decide +kernel
theorem dX1_giveWay_43 : decode cX1_giveWay 43 = .ok (.aload_n 0, 1) := by decide +kernel
theorem dX1_giveWay_44 : decode cX1_giveWay 44 = .ok (.invokevirtual 75, 3) := by decide +kernel
theorem dX1_giveWay_47 : decode cX1_giveWay 47 = .ok (.iinc 2 1, 3) := by decide +kernel
theorem dX1_giveWay_50 : decode cX1_giveWay 50 = .ok (.goto (-46), 3) := by decide +kernel
theorem dX1_giveWay_53 : decode cX1_giveWay 53 = .ok (.return_, 1) := by decide +kernel
theorem dX1_measure_0 : decode cX1_measure 0 = .ok (.iconst 0, 1) := by decide +kernel
theorem dX1_measure_1 : decode cX1_measure 1 = .ok (.istore_n 1, 1) := by decide +kernel
theorem dX1_measure_2 : decode cX1_measure 2 = .ok (.iload_n 1, 1) := by decide +kernel
theorem dX1_measure_3 : decode cX1_measure 3 = .ok (.aload_n 0, 1) := by decide +kernel
theorem dX1_measure_4 : decode cX1_measure 4 = .ok (.getfield 40, 3) := by decide +kernel
theorem dX1_measure_7 : decode cX1_measure 7 = .ok (.if_icmp .ge 16, 3) := by decide +kernel
theorem dX1_measure_10 : decode cX1_measure 10 = .ok (.aload_n 0, 1) := by decide +kernel
theorem dX1_measure_11 : decode cX1_measure 11 = .ok (.getfield 37, 3) := by decide +kernel
theorem dX1_measure_14 : decode cX1_measure 14 = .ok (.iload_n 1, 1) := by decide +kernel
theorem dX1_measure_15 : decode cX1_measure 15 = .ok (.iconst 0, 1) := by decide +kernel
theorem dX1_measure_16 : decode cX1_measure 16 = .ok (.iastore, 1) := by decide +kernel
theorem dX1_measure_17 : decode cX1_measure 17 = .ok (.iinc 1 1, 3) := by decide +kernel
theorem dX1_measure_20 : decode cX1_measure 20 = .ok (.goto (-18), 3) := by decide +kernel
theorem dX1_measure_23 : decode cX1_measure 23 = .ok (.aload_n 0, 1) := by decide +kernel
theorem dX1_measure_24 : decode cX1_measure 24 = .ok (.getfield 40, 3) := by decide +kernel
theorem dX1_measure_27 : decode cX1_measure 27 = .ok (.iconst 1, 1) := by decide +kernel
theorem dX1_measure_28 : decode cX1_measure 28 = .ok (.isub, 1) := by decide +kernel
theorem dX1_measure_29 : decode cX1_measure 29 = .ok (.istore_n 1, 1) := by decide +kernel
theorem dX1_measure_30 : decode cX1_measure 30 = .ok (.iload_n 1, 1) := by decide +kernel
theorem dX1_measure_31 : decode cX1_measure 31 = .ok (.ifCond .lt 119, 3) := by decide +kernel
theorem dX1_measure_34 : decode cX1_measure 34 = .ok (.aload_n 0, 1) := by decide +kernel
theorem dX1_measure_35 : decode cX1_measure 35 = .ok (.getfield 34, 3) := by decide +kernel
theorem dX1_measure_38 : decode cX1_measure 38 = .ok (.iload_n 1, 1) := by decide +kernel
theorem dX1_measure_39 : decode cX1_measure 39 = .ok (.aload_n 0, 1) := by decide +kernel
theorem dX1_measure_40 : decode cX1_measure 40 = .ok (.getfield 30, 3) := by decide +kernel
theorem dX1_measure_43 : decode cX1_measure 43 = .ok (.iload_n 1, 1) := by decide +kernel
theorem dX1_measure_44 : decode cX1_measure 44 = .ok (.baload, 1) := by decide +kernel
theorem dX1_measure_45 : decode cX1_measure 45 = .ok (.ifCond .eq 30, 3) := by decide +kernel
theorem dX1_measure_48 : decode cX1_measure 48 = .ok (.iconst 0, 1) := by decide +kernel
theorem dX1_measure_49 : decode cX1_measure 49 = .ok (.aload_n 0, 1) := by decide +kernel
theorem dX1_measure_50 : decode cX1_measure 50 = .ok (.getfield 9, 3) := by decide +kernel
theorem dX1_measure_53 : decode cX1_measure 53 = .ok (.iload_n 1, 1) := by decide +kernel
theorem dX1_measure_54 : decode cX1_measure 54 = .ok (.iaload, 1) := by decide +kernel
theorem dX1_measure_55 : decode cX1_measure 55 = .ok (.aload_n 0, 1) := by decide +kernel
theorem dX1_measure_56 : decode cX1_measure 56 = .ok (.getfield 37, 3) := by decide +kernel
theorem dX1_measure_59 : decode cX1_measure 59 = .ok (.iload_n 1, 1) := by decide +kernel
theorem dX1_measure_60 : decode cX1_measure 60 = .ok (.iaload, 1) := by decide +kernel
theorem dX1_measure_61 : decode cX1_measure 61 = .ok (.iadd, 1) := by decide +kernel
theorem dX1_measure_62 : decode cX1_measure 62 = .ok (.aload_n 0, 1) := by decide +kernel
theorem dX1_measure_63 : decode cX1_measure 63 = .ok (.getfield 18, 3) := by decide +kernel
theorem dX1_measure_66 : decode cX1_measure 66 = .ok (.iload_n 1, 1) := by decide +kernel
theorem dX1_measure_67 : decode cX1_measure 67 = .ok (.iaload, 1) := by decide +kernel
theorem dX1_measure_68 : decode cX1_measure 68 = .ok (.isub, 1) := by decide +kernel
theorem dX1_measure_69 : decode cX1_measure 69 = .ok (.invokestatic 78, 3) := by decide +kernel
theorem dX1_measure_72 : decode cX1_measure 72 = .ok (.goto 4, 3) := by decide +kernel
theorem dX1_measure_75 : decode cX1_measure 75 = .ok (.iconst 0, 1) := by decide +kernel
theorem dX1_measure_76 : decode cX1_measure 76 = .ok (.iastore, 1) := by decide +kernel
theorem dX1_measure_77 : decode cX1_measure 77 = .ok (.aload_n 0, 1) := by decide +kernel
theorem dX1_measure_78 : decode cX1_measure 78 = .ok (.getfield 27, 3) := by decide +kernel
theorem dX1_measure_81 : decode cX1_measure 81 = .ok (.iload_n 1, 1) := by decide +kernel
theorem dX1_measure_82 : decode cX1_measure 82 = .ok (.iaload, 1) := by decide +kernel
theorem dX1_measure_83 : decode cX1_measure 83 = .ok (.iconst (-1), 1) := by decide +kernel
theorem dX1_measure_84 : decode cX1_measure 84 = .ok (.if_icmp .ne 22, 3) := by decide +kernel
theorem dX1_measure_87 : decode cX1_measure 87 = .ok (.aload_n 0, 1) := by decide +kernel
theorem dX1_measure_88 : decode cX1_measure 88 = .ok (.aload_n 0, 1) := by decide +kernel
theorem dX1_measure_89 : decode cX1_measure 89 = .ok (.getfield 24, 3) := by decide +kernel
theorem dX1_measure_92 : decode cX1_measure 92 = .ok (.iload_n 1, 1) := by decide +kernel
theorem dX1_measure_93 : decode cX1_measure 93 = .ok (.iaload, 1) := by decide +kernel
theorem dX1_measure_94 : decode cX1_measure 94 = .ok (.aload_n 0, 1) := by decide +kernel
theorem dX1_measure_95 : decode cX1_measure 95 = .ok (.getfield 34, 3) := by decide +kernel
theorem dX1_measure_98 : decode cX1_measure 98 = .ok (.iload_n 1, 1) := by decide +kernel
theorem dX1_measure_99 : decode cX1_measure 99 = .ok (.iaload, 1) := by decide +kernel
theorem dX1_measure_100 : decode cX1_measure 100 = .ok (.invokevirtual 84, 3) := by decide +kernel
theorem dX1_measure_103 : decode cX1_measure 103 = .ok (.goto 41, 3) := by decide +kernel
theorem dX1_measure_106 : decode cX1_measure 106 = .ok (.aload_n 0, 1) := by decide +kernel
theorem dX1_measure_107 : decode cX1_measure 107 = .ok (.aload_n 0, 1) := by decide +kernel
theorem dX1_measure_108 : decode cX1_measure 108 = .ok (.getfield 24, 3) := by decide +kernel
theorem dX1_measure_111 : decode cX1_measure 111 = .ok (.iload_n 1, 1) := by decide +kernel
theorem dX1_measure_112 : decode cX1_measure 112 = .ok (.iaload, 1) := by decide +kernel
theorem dX1_measure_113 : decode cX1_measure 113 = .ok (.aload_n 0, 1) := by decide +kernel
theorem dX1_measure_114 : decode cX1_measure 114 = .ok (.getfield 34, 3) := by decide +kernel
theorem dX1_measure_117 : decode cX1_measure 117 = .ok (.iload_n 1, 1) := by decide +kernel
theorem dX1_measure_118 : decode cX1_measure 118 = .ok (.iaload, 1) := by decide +kernel
theorem dX1_measure_119 : decode cX1_measure 119 = .ok (.iconst 1, 1) := by decide +kernel
theorem dX1_measure_120 : decode cX1_measure 120 = .ok (.iadd, 1) := by decide +kernel
theorem dX1_measure_121 : decode cX1_measure 121 = .ok (.iconst 2, 1) := by decide +kernel
theorem dX1_measure_122 : decode cX1_measure 122 = .ok (.idiv, 1) := by decide +kernel
theorem dX1_measure_123 : decode cX1_measure 123 = .ok (.invokevirtual 84, 3) := by decide +kernel
theorem dX1_measure_126 : decode cX1_measure 126 = .ok (.aload_n 0, 1) := by decide +kernel
theorem dX1_measure_127 : decode cX1_measure 127 = .ok (.aload_n 0, 1) := by decide +kernel
theorem dX1_measure_128 : decode cX1_measure 128 = .ok (.getfield 27, 3) := by decide +kernel
theorem dX1_measure_131 : decode cX1_measure 131 = .ok (.iload_n 1, 1) := by decide +kernel
theorem dX1_measure_132 : decode cX1_measure 132 = .ok (.iaload, 1) := by decide +kernel
theorem dX1_measure_133 : decode cX1_measure 133 = .ok (.aload_n 0, 1) := by decide +kernel
theorem dX1_measure_134 : decode cX1_measure 134 = .ok (.getfield 34, 3) := by decide +kernel
theorem dX1_measure_137 : decode cX1_measure 137 = .ok (.iload_n 1, 1) := by decide +kernel
theorem dX1_measure_138 : decode cX1_measure 138 = .ok (.iaload, 1) := by decide +kernel
theorem dX1_measure_139 : decode cX1_measure 139 = .ok (.iconst 2, 1) := by decide +kernel
theorem dX1_measure_140 : decode cX1_measure 140 = .ok (.idiv, 1) := by decide +kernel
theorem dX1_measure_141 : decode cX1_measure 141 = .ok (.invokevirtual 84, 3) := by decide +kernel
theorem dX1_measure_144 : decode cX1_measure 144 = .ok (.iinc 1 (-1), 3) := by decide +kernel
theorem dX1_measure_147 : decode cX1_measure 147 = .ok (.goto (-117), 3) := by decide +kernel
theorem dX1_measure_150 : decode cX1_measure 150 = .ok (.aload_n 0, 1) := by decide +kernel
theorem dX1_measure_151 : decode cX1_measure 151 = .ok (.iconst 0, 1) := by decide +kernel
theorem dX1_measure_152 : decode cX1_measure 152 = .ok (.putfield 59, 3) := by decide +kernel
theorem dX1_measure_155 : decode cX1_measure 155 = .ok (.return_, 1) := by decide +kernel
theorem dX1_bear_0 : decode cX1_bear 0 = .ok (.iload_n 1, 1) := by decide +kernel
theorem dX1_bear_1 : decode cX1_bear 1 = .ok (.ifCond .lt 21, 3) := by decide +kernel
theorem dX1_bear_4 : decode cX1_bear 4 = .ok (.iload_n 1, 1) := by decide +kernel
theorem dX1_bear_5 : decode cX1_bear 5 = .ok (.aload_n 0, 1) := by decide +kernel
theorem dX1_bear_6 : decode cX1_bear 6 = .ok (.getfield 40, 3) := by decide +kernel
theorem dX1_bear_9 : decode cX1_bear 9 = .ok (.if_icmp .ge 13, 3) := by decide +kernel
theorem dX1_bear_12 : decode cX1_bear 12 = .ok (.aload_n 0, 1) := by decide +kernel
theorem dX1_bear_13 : decode cX1_bear 13 = .ok (.getfield 37, 3) := by decide +kernel
theorem dX1_bear_16 : decode cX1_bear 16 = .ok (.iload_n 1, 1) := by decide +kernel
theorem dX1_bear_17 : decode cX1_bear 17 = .ok (.dup2, 1) := by decide +kernel
theorem dX1_bear_18 : decode cX1_bear 18 = .ok (.iaload, 1) := by decide +kernel
theorem dX1_bear_19 : decode cX1_bear 19 = .ok (.iload_n 2, 1) := by decide +kernel
theorem dX1_bear_20 : decode cX1_bear 20 = .ok (.iadd, 1) := by decide +kernel
theorem dX1_bear_21 : decode cX1_bear 21 = .ok (.iastore, 1) := by decide +kernel
theorem dX1_bear_22 : decode cX1_bear 22 = .ok (.return_, 1) := by decide +kernel
theorem dX1_tearOverpulled_0 : decode cX1_tearOverpulled 0 = .ok (.iconst 0, 1) := by decide +kernel
theorem dX1_tearOverpulled_1 : decode cX1_tearOverpulled 1 = .ok (.istore_n 1, 1) := by decide +kernel
theorem dX1_tearOverpulled_2 : decode cX1_tearOverpulled 2 = .ok (.iload_n 1, 1) := by decide +kernel
theorem dX1_tearOverpulled_3 : decode cX1_tearOverpulled 3 = .ok (.aload_n 0, 1) := by decide +kernel
theorem dX1_tearOverpulled_4 : decode cX1_tearOverpulled 4 = .ok (.getfield 40, 3) := by decide +kernel
theorem dX1_tearOverpulled_7 : decode cX1_tearOverpulled 7 = .ok (.if_icmp .ge 29, 3) := by decide +kernel
theorem dX1_tearOverpulled_10 : decode cX1_tearOverpulled 10 = .ok (.aload_n 0, 1) := by decide +kernel
theorem dX1_tearOverpulled_11 : decode cX1_tearOverpulled 11 = .ok (.getfield 37, 3) := by decide +kernel
theorem dX1_tearOverpulled_14 : decode cX1_tearOverpulled 14 = .ok (.iload_n 1, 1) := by decide +kernel
theorem dX1_tearOverpulled_15 : decode cX1_tearOverpulled 15 = .ok (.iaload, 1) := by decide +kernel
theorem dX1_tearOverpulled_16 : decode cX1_tearOverpulled 16 = .ok (.aload_n 0, 1) := by decide +kernel
theorem dX1_tearOverpulled_17 : decode cX1_tearOverpulled 17 = .ok (.getfield 15, 3) := by decide +kernel
theorem dX1_tearOverpulled_20 : decode cX1_tearOverpulled 20 = .ok (.iload_n 1, 1) := by decide +kernel
theorem dX1_tearOverpulled_21 : decode cX1_tearOverpulled 21 = .ok (.iaload, 1) := by decide +kernel
theorem dX1_tearOverpulled_22 : decode cX1_tearOverpulled 22 = .ok (.if_icmp .le 8, 3) := by decide +kernel
theorem dX1_tearOverpulled_25 : decode cX1_tearOverpulled 25 = .ok (.aload_n 0, 1) := by decide +kernel
theorem dX1_tearOverpulled_26 : decode cX1_tearOverpulled 26 = .ok (.iload_n 1, 1) := by decide +kernel
theorem dX1_tearOverpulled_27 : decode cX1_tearOverpulled 27 = .ok (.invokevirtual 88, 3) := by decide +kernel
theorem dX1_tearOverpulled_30 : decode cX1_tearOverpulled 30 = .ok (.iinc 1 1, 3) := by decide +kernel
theorem dX1_tearOverpulled_33 : decode cX1_tearOverpulled 33 = .ok (.goto (-31), 3) := by decide +kernel
theorem dX1_tearOverpulled_36 : decode cX1_tearOverpulled 36 = .ok (.return_, 1) := by decide +kernel
theorem dX1_endOverloaded_0 : decode cX1_endOverloaded 0 = .ok (.iconst 0, 1) := by decide +kernel
theorem dX1_endOverloaded_1 : decode cX1_endOverloaded 1 = .ok (.istore_n 1, 1) := by decide +kernel
theorem dX1_endOverloaded_2 : decode cX1_endOverloaded 2 = .ok (.iload_n 1, 1) := by decide +kernel
theorem dX1_endOverloaded_3 : decode cX1_endOverloaded 3 = .ok (.aload_n 0, 1) := by decide +kernel
theorem dX1_endOverloaded_4 : decode cX1_endOverloaded 4 = .ok (.getfield 40, 3) := by decide +kernel
theorem dX1_endOverloaded_7 : decode cX1_endOverloaded 7 = .ok (.if_icmp .ge 38, 3) := by decide +kernel
theorem dX1_endOverloaded_10 : decode cX1_endOverloaded 10 = .ok (.aload_n 0, 1) := by decide +kernel
theorem dX1_endOverloaded_11 : decode cX1_endOverloaded 11 = .ok (.getfield 21, 3) := by decide +kernel
theorem dX1_endOverloaded_14 : decode cX1_endOverloaded 14 = .ok (.iload_n 1, 1) := by decide +kernel
theorem dX1_endOverloaded_15 : decode cX1_endOverloaded 15 = .ok (.iaload, 1) := by decide +kernel
theorem dX1_endOverloaded_16 : decode cX1_endOverloaded 16 = .ok (.ifCond .le 23, 3) := by decide +kernel
theorem dX1_endOverloaded_19 : decode cX1_endOverloaded 19 = .ok (.aload_n 0, 1) := by decide +kernel
theorem dX1_endOverloaded_20 : decode cX1_endOverloaded 20 = .ok (.getfield 21, 3) := by decide +kernel
theorem dX1_endOverloaded_23 : decode cX1_endOverloaded 23 = .ok (.iload_n 1, 1) := by decide +kernel
theorem dX1_endOverloaded_24 : decode cX1_endOverloaded 24 = .ok (.iaload, 1) := by decide +kernel
theorem dX1_endOverloaded_25 : decode cX1_endOverloaded 25 = .ok (.aload_n 0, 1) := by decide +kernel
theorem dX1_endOverloaded_26 : decode cX1_endOverloaded 26 = .ok (.getfield 34, 3) := by decide +kernel
theorem dX1_endOverloaded_29 : decode cX1_endOverloaded 29 = .ok (.iload_n 1, 1) := by decide +kernel
theorem dX1_endOverloaded_30 : decode cX1_endOverloaded 30 = .ok (.iaload, 1) := by decide +kernel
theorem dX1_endOverloaded_31 : decode cX1_endOverloaded 31 = .ok (.if_icmp .ge 8, 3) := by decide +kernel
theorem dX1_endOverloaded_34 : decode cX1_endOverloaded 34 = .ok (.aload_n 0, 1) := by decide +kernel
theorem dX1_endOverloaded_35 : decode cX1_endOverloaded 35 = .ok (.iload_n 1, 1) := by decide +kernel
theorem dX1_endOverloaded_36 : decode cX1_endOverloaded 36 = .ok (.invokevirtual 92, 3) := by decide +kernel
theorem dX1_endOverloaded_39 : decode cX1_endOverloaded 39 = .ok (.iinc 1 1, 3) := by decide +kernel
theorem dX1_endOverloaded_42 : decode cX1_endOverloaded 42 = .ok (.goto (-40), 3) := by decide +kernel
theorem dX1_endOverloaded_45 : decode cX1_endOverloaded 45 = .ok (.return_, 1) := by decide +kernel
theorem dX1_endSpell_0 : decode cX1_endSpell 0 = .ok (.iload_n 1, 1) := by decide +kernel
theorem dX1_endSpell_1 : decode cX1_endSpell 1 = .ok (.ifCond .lt 23, 3) := by decide +kernel
theorem dX1_endSpell_4 : decode cX1_endSpell 4 = .ok (.iload_n 1, 1) := by decide +kernel
theorem dX1_endSpell_5 : decode cX1_endSpell 5 = .ok (.aload_n 0, 1) := by decide +kernel
theorem dX1_endSpell_6 : decode cX1_endSpell 6 = .ok (.getfield 40, 3) := by decide +kernel
theorem dX1_endSpell_9 : decode cX1_endSpell 9 = .ok (.if_icmp .ge 15, 3) := by decide +kernel
theorem dX1_endSpell_12 : decode cX1_endSpell 12 = .ok (.aload_n 0, 1) := by decide +kernel
theorem dX1_endSpell_13 : decode cX1_endSpell 13 = .ok (.getfield 21, 3) := by decide +kernel
theorem dX1_endSpell_16 : decode cX1_endSpell 16 = .ok (.iload_n 1, 1) := by decide +kernel
theorem dX1_endSpell_17 : decode cX1_endSpell 17 = .ok (.iconst 0, 1) := by decide +kernel
theorem dX1_endSpell_18 : decode cX1_endSpell 18 = .ok (.iastore, 1) := by decide +kernel
theorem dX1_endSpell_19 : decode cX1_endSpell 19 = .ok (.aload_n 0, 1) := by decide +kernel
theorem dX1_endSpell_20 : decode cX1_endSpell 20 = .ok (.iconst 1, 1) := by decide +kernel
theorem dX1_endSpell_21 : decode cX1_endSpell 21 = .ok (.putfield 59, 3) := by decide +kernel
theorem dX1_endSpell_24 : decode cX1_endSpell 24 = .ok (.return_, 1) := by decide +kernel
theorem dX1_tearHoldsFrom_0 : decode cX1_tearHoldsFrom 0 = .ok (.iconst 0, 1) := by decide +kernel
theorem dX1_tearHoldsFrom_1 : decode cX1_tearHoldsFrom 1 = .ok (.istore_n 2, 1) := by decide +kernel
theorem dX1_tearHoldsFrom_2 : decode cX1_tearHoldsFrom 2 = .ok (.iload_n 2, 1) := by decide +kernel
theorem dX1_tearHoldsFrom_3 : decode cX1_tearHoldsFrom 3 = .ok (.aload_n 0, 1) := by decide +kernel
theorem dX1_tearHoldsFrom_4 : decode cX1_tearHoldsFrom 4 = .ok (.getfield 40, 3) := by decide +kernel
theorem dX1_tearHoldsFrom_7 : decode cX1_tearHoldsFrom 7 = .ok (.if_icmp .ge 68, 3) := by decide +kernel
theorem dX1_tearHoldsFrom_10 : decode cX1_tearHoldsFrom 10 = .ok (.aload_n 0, 1) := by decide +kernel
theorem dX1_tearHoldsFrom_11 : decode cX1_tearHoldsFrom 11 = .ok (.getfield 24, 3) := by decide +kernel
theorem dX1_tearHoldsFrom_14 : decode cX1_tearHoldsFrom 14 = .ok (.iload_n 2, 1) := by decide +kernel
theorem dX1_tearHoldsFrom_15 : decode cX1_tearHoldsFrom 15 = .ok (.iaload, 1) := by decide +kernel
theorem dX1_tearHoldsFrom_16 : decode cX1_tearHoldsFrom 16 = .ok (.iload_n 1, 1) := by decide +kernel
theorem dX1_tearHoldsFrom_17 : decode cX1_tearHoldsFrom 17 = .ok (.if_icmp .ne 30, 3) := by decide +kernel
theorem dX1_tearHoldsFrom_20 : decode cX1_tearHoldsFrom 20 = .ok (.aload_n 0, 1) := by decide +kernel
theorem dX1_tearHoldsFrom_21 : decode cX1_tearHoldsFrom 21 = .ok (.getfield 24, 3) := by decide +kernel
theorem dX1_tearHoldsFrom_24 : decode cX1_tearHoldsFrom 24 = .ok (.iload_n 2, 1) := by decide +kernel
theorem dX1_tearHoldsFrom_25 : decode cX1_tearHoldsFrom 25 = .ok (.aload_n 0, 1) := by decide +kernel
theorem dX1_tearHoldsFrom_26 : decode cX1_tearHoldsFrom 26 = .ok (.getfield 27, 3) := by decide +kernel
theorem dX1_tearHoldsFrom_29 : decode cX1_tearHoldsFrom 29 = .ok (.iload_n 2, 1) := by decide +kernel
theorem dX1_tearHoldsFrom_30 : decode cX1_tearHoldsFrom 30 = .ok (.iaload, 1) := by decide +kernel
theorem dX1_tearHoldsFrom_31 : decode cX1_tearHoldsFrom 31 = .ok (.iastore, 1) := by decide +kernel
theorem dX1_tearHoldsFrom_32 : decode cX1_tearHoldsFrom 32 = .ok (.aload_n 0, 1) := by decide +kernel
theorem dX1_tearHoldsFrom_33 : decode cX1_tearHoldsFrom 33 = .ok (.getfield 27, 3) := by decide +kernel
theorem dX1_tearHoldsFrom_36 : decode cX1_tearHoldsFrom 36 = .ok (.iload_n 2, 1) := by decide +kernel
theorem dX1_tearHoldsFrom_37 : decode cX1_tearHoldsFrom 37 = .ok (.iconst (-1), 1) := by decide +kernel
theorem dX1_tearHoldsFrom_38 : decode cX1_tearHoldsFrom 38 = .ok (.iastore, 1) := by decide +kernel
theorem dX1_tearHoldsFrom_39 : decode cX1_tearHoldsFrom 39 = .ok (.aload_n 0, 1) := by decide +kernel
theorem dX1_tearHoldsFrom_40 : decode cX1_tearHoldsFrom 40 = .ok (.iconst 1, 1) := by decide +kernel
theorem dX1_tearHoldsFrom_41 : decode cX1_tearHoldsFrom 41 = .ok (.putfield 59, 3) := by decide +kernel
theorem dX1_tearHoldsFrom_44 : decode cX1_tearHoldsFrom 44 = .ok (.goto 25, 3) := by decide +kernel
theorem dX1_tearHoldsFrom_47 : decode cX1_tearHoldsFrom 47 = .ok (.aload_n 0, 1) := by decide +kernel
theorem dX1_tearHoldsFrom_48 : decode cX1_tearHoldsFrom 48 = .ok (.getfield 27, 3) := by decide +kernel
theorem dX1_tearHoldsFrom_51 : decode cX1_tearHoldsFrom 51 = .ok (.iload_n 2, 1) := by decide +kernel
theorem dX1_tearHoldsFrom_52 : decode cX1_tearHoldsFrom 52 = .ok (.iaload, 1) := by decide +kernel
theorem dX1_tearHoldsFrom_53 : decode cX1_tearHoldsFrom 53 = .ok (.iload_n 1, 1) := by decide +kernel
theorem dX1_tearHoldsFrom_54 : decode cX1_tearHoldsFrom 54 = .ok (.if_icmp .ne 15, 3) := by decide +kernel
theorem dX1_tearHoldsFrom_57 : decode cX1_tearHoldsFrom 57 = .ok (.aload_n 0, 1) := by decide +kernel
theorem dX1_tearHoldsFrom_58 : decode cX1_tearHoldsFrom 58 = .ok (.getfield 27, 3) := by decide +kernel
theorem dX1_tearHoldsFrom_61 : decode cX1_tearHoldsFrom 61 = .ok (.iload_n 2, 1) := by decide +kernel
theorem dX1_tearHoldsFrom_62 : decode cX1_tearHoldsFrom 62 = .ok (.iconst (-1), 1) := by decide +kernel
theorem dX1_tearHoldsFrom_63 : decode cX1_tearHoldsFrom 63 = .ok (.iastore, 1) := by decide +kernel
theorem dX1_tearHoldsFrom_64 : decode cX1_tearHoldsFrom 64 = .ok (.aload_n 0, 1) := by decide +kernel
theorem dX1_tearHoldsFrom_65 : decode cX1_tearHoldsFrom 65 = .ok (.iconst 1, 1) := by decide +kernel
theorem dX1_tearHoldsFrom_66 : decode cX1_tearHoldsFrom 66 = .ok (.putfield 59, 3) := by decide +kernel
theorem dX1_tearHoldsFrom_69 : decode cX1_tearHoldsFrom 69 = .ok (.iinc 2 1, 3) := by decide +kernel
theorem dX1_tearHoldsFrom_72 : decode cX1_tearHoldsFrom 72 = .ok (.goto (-70), 3) := by decide +kernel
theorem dX1_tearHoldsFrom_75 : decode cX1_tearHoldsFrom 75 = .ok (.return_, 1) := by decide +kernel
theorem dX1_dropLoose_0 : decode cX1_dropLoose 0 = .ok (.iconst 0, 1) := by decide +kernel
theorem dX1_dropLoose_1 : decode cX1_dropLoose 1 = .ok (.istore_n 1, 1) := by decide +kernel
theorem dX1_dropLoose_2 : decode cX1_dropLoose 2 = .ok (.iload_n 1, 1) := by decide +kernel
theorem dX1_dropLoose_3 : decode cX1_dropLoose 3 = .ok (.aload_n 0, 1) := by decide +kernel
theorem dX1_dropLoose_4 : decode cX1_dropLoose 4 = .ok (.getfield 40, 3) := by decide +kernel
theorem dX1_dropLoose_7 : decode cX1_dropLoose 7 = .ok (.if_icmp .ge 64, 3) := by decide +kernel
theorem dX1_dropLoose_10 : decode cX1_dropLoose 10 = .ok (.aload_n 0, 1) := by decide +kernel
theorem dX1_dropLoose_11 : decode cX1_dropLoose 11 = .ok (.getfield 30, 3) := by decide +kernel
theorem dX1_dropLoose_14 : decode cX1_dropLoose 14 = .ok (.iload_n 1, 1) := by decide +kernel
theorem dX1_dropLoose_15 : decode cX1_dropLoose 15 = .ok (.baload, 1) := by decide +kernel
theorem dX1_dropLoose_16 : decode cX1_dropLoose 16 = .ok (.ifCond .eq 49, 3) := by decide +kernel
theorem dX1_dropLoose_19 : decode cX1_dropLoose 19 = .ok (.aload_n 0, 1) := by decide +kernel
theorem dX1_dropLoose_20 : decode cX1_dropLoose 20 = .ok (.getfield 21, 3) := by decide +kernel
theorem dX1_dropLoose_23 : decode cX1_dropLoose 23 = .ok (.iload_n 1, 1) := by decide +kernel
theorem dX1_dropLoose_24 : decode cX1_dropLoose 24 = .ok (.iaload, 1) := by decide +kernel
theorem dX1_dropLoose_25 : decode cX1_dropLoose 25 = .ok (.ifCond .gt 40, 3) := by decide +kernel
theorem dX1_dropLoose_28 : decode cX1_dropLoose 28 = .ok (.aload_n 0, 1) := by decide +kernel
theorem dX1_dropLoose_29 : decode cX1_dropLoose 29 = .ok (.getfield 24, 3) := by decide +kernel
theorem dX1_dropLoose_32 : decode cX1_dropLoose 32 = .ok (.iload_n 1, 1) := by decide +kernel
theorem dX1_dropLoose_33 : decode cX1_dropLoose 33 = .ok (.iaload, 1) := by decide +kernel
theorem dX1_dropLoose_34 : decode cX1_dropLoose 34 = .ok (.iconst (-1), 1) := by decide +kernel
theorem dX1_dropLoose_35 : decode cX1_dropLoose 35 = .ok (.if_icmp .ne 30, 3) := by decide +kernel
theorem dX1_dropLoose_38 : decode cX1_dropLoose 38 = .ok (.aload_n 0, 1) := by decide +kernel
theorem dX1_dropLoose_39 : decode cX1_dropLoose 39 = .ok (.getfield 30, 3) := by decide +kernel
theorem dX1_dropLoose_42 : decode cX1_dropLoose 42 = .ok (.iload_n 1, 1) := by decide +kernel
theorem dX1_dropLoose_43 : decode cX1_dropLoose 43 = .ok (.iconst 0, 1) := by decide +kernel
theorem dX1_dropLoose_44 : decode cX1_dropLoose 44 = .ok (.bastore, 1) := by decide +kernel
theorem dX1_dropLoose_45 : decode cX1_dropLoose 45 = .ok (.aload_n 0, 1) := by decide +kernel
theorem dX1_dropLoose_46 : decode cX1_dropLoose 46 = .ok (.dup, 1) := by decide +kernel
theorem dX1_dropLoose_47 : decode cX1_dropLoose 47 = .ok (.getfield 56, 3) := by decide +kernel
theorem dX1_dropLoose_50 : decode cX1_dropLoose 50 = .ok (.iconst 1, 1) := by decide +kernel
theorem dX1_dropLoose_51 : decode cX1_dropLoose 51 = .ok (.isub, 1) := by decide +kernel
theorem dX1_dropLoose_52 : decode cX1_dropLoose 52 = .ok (.putfield 56, 3) := by decide +kernel
theorem dX1_dropLoose_55 : decode cX1_dropLoose 55 = .ok (.aload_n 0, 1) := by decide +kernel
theorem dX1_dropLoose_56 : decode cX1_dropLoose 56 = .ok (.iconst 1, 1) := by decide +kernel
theorem dX1_dropLoose_57 : decode cX1_dropLoose 57 = .ok (.putfield 59, 3) := by decide +kernel
theorem dX1_dropLoose_60 : decode cX1_dropLoose 60 = .ok (.aload_n 0, 1) := by decide +kernel
theorem dX1_dropLoose_61 : decode cX1_dropLoose 61 = .ok (.iload_n 1, 1) := by decide +kernel
theorem dX1_dropLoose_62 : decode cX1_dropLoose 62 = .ok (.invokevirtual 88, 3) := by decide +kernel
theorem dX1_dropLoose_65 : decode cX1_dropLoose 65 = .ok (.iinc 1 1, 3) := by decide +kernel
theorem dX1_dropLoose_68 : decode cX1_dropLoose 68 = .ok (.goto (-66), 3) := by decide +kernel
theorem dX1_dropLoose_71 : decode cX1_dropLoose 71 = .ok (.return_, 1) := by decide +kernel
theorem dX1_cutLoose_0 : decode cX1_cutLoose 0 = .ok (.aload_n 0, 1) := by decide +kernel
theorem dX1_cutLoose_1 : decode cX1_cutLoose 1 = .ok (.iload_n 1, 1) := by decide +kernel
theorem dX1_cutLoose_2 : decode cX1_cutLoose 2 = .ok (.invokevirtual 44, 3) := by decide +kernel
theorem dX1_cutLoose_5 : decode cX1_cutLoose 5 = .ok (.ifCond .ne 4, 3) := by decide +kernel
theorem dX1_cutLoose_8 : decode cX1_cutLoose 8 = .ok (.return_, 1) := by decide +kernel
theorem dX1_cutLoose_9 : decode cX1_cutLoose 9 = .ok (.aload_n 0, 1) := by decide +kernel
theorem dX1_cutLoose_10 : decode cX1_cutLoose 10 = .ok (.iload_n 1, 1) := by decide +kernel
theorem dX1_cutLoose_11 : decode cX1_cutLoose 11 = .ok (.invokevirtual 92, 3) := by decide +kernel
theorem dX1_cutLoose_14 : decode cX1_cutLoose 14 = .ok (.aload_n 0, 1) := by decide +kernel
theorem dX1_cutLoose_15 : decode cX1_cutLoose 15 = .ok (.getfield 24, 3) := by decide +kernel
theorem dX1_cutLoose_18 : decode cX1_cutLoose 18 = .ok (.iload_n 1, 1) := by decide +kernel
theorem dX1_cutLoose_19 : decode cX1_cutLoose 19 = .ok (.iconst (-1), 1) := by decide +kernel
theorem dX1_cutLoose_20 : decode cX1_cutLoose 20 = .ok (.iastore, 1) := by decide +kernel
theorem dX1_cutLoose_21 : decode cX1_cutLoose 21 = .ok (.aload_n 0, 1) := by decide +kernel
theorem dX1_cutLoose_22 : decode cX1_cutLoose 22 = .ok (.getfield 27, 3) := by decide +kernel
theorem dX1_cutLoose_25 : decode cX1_cutLoose 25 = .ok (.iload_n 1, 1) := by decide +kernel
theorem dX1_cutLoose_26 : decode cX1_cutLoose 26 = .ok (.iconst (-1), 1) := by decide +kernel
theorem dX1_cutLoose_27 : decode cX1_cutLoose 27 = .ok (.iastore, 1) := by decide +kernel
theorem dX1_cutLoose_28 : decode cX1_cutLoose 28 = .ok (.aload_n 0, 1) := by decide +kernel
theorem dX1_cutLoose_29 : decode cX1_cutLoose 29 = .ok (.invokevirtual 75, 3) := by decide +kernel
theorem dX1_cutLoose_32 : decode cX1_cutLoose 32 = .ok (.aload_n 0, 1) := by decide +kernel
theorem dX1_cutLoose_33 : decode cX1_cutLoose 33 = .ok (.invokevirtual 95, 3) := by decide +kernel
theorem dX1_cutLoose_36 : decode cX1_cutLoose 36 = .ok (.return_, 1) := by decide +kernel
theorem dX1_liveDays_0 : decode cX1_liveDays 0 = .ok (.iconst 0, 1) := by decide +kernel
theorem dX1_liveDays_1 : decode cX1_liveDays 1 = .ok (.istore_n 2, 1) := by decide +kernel
theorem dX1_liveDays_2 : decode cX1_liveDays 2 = .ok (.iload_n 2, 1) := by decide +kernel
theorem dX1_liveDays_3 : decode cX1_liveDays 3 = .ok (.iload_n 1, 1) := by decide +kernel
theorem dX1_liveDays_4 : decode cX1_liveDays 4 = .ok (.if_icmp .ge 19, 3) := by decide +kernel
theorem dX1_liveDays_7 : decode cX1_liveDays 7 = .ok (.iload_n 2, 1) := by decide +kernel
theorem dX1_liveDays_8 : decode cX1_liveDays 8 = .ok (.bipush 120, 2) := by decide +kernel
theorem dX1_liveDays_10 : decode cX1_liveDays 10 = .ok (.if_icmp .ge 13, 3) := by decide +kernel
theorem dX1_liveDays_13 : decode cX1_liveDays 13 = .ok (.aload_n 0, 1) := by decide +kernel
theorem dX1_liveDays_14 : decode cX1_liveDays 14 = .ok (.invokevirtual 98, 3) := by decide +kernel
theorem dX1_liveDays_17 : decode cX1_liveDays 17 = .ok (.iinc 2 1, 3) := by decide +kernel
theorem dX1_liveDays_20 : decode cX1_liveDays 20 = .ok (.goto (-18), 3) := by decide +kernel
theorem dX1_liveDays_23 : decode cX1_liveDays 23 = .ok (.return_, 1) := by decide +kernel
theorem dX1_liveDay_0 : decode cX1_liveDay 0 = .ok (.aload_n 0, 1) := by decide +kernel
theorem dX1_liveDay_1 : decode cX1_liveDay 1 = .ok (.invokevirtual 101, 3) := by decide +kernel
theorem dX1_liveDay_4 : decode cX1_liveDay 4 = .ok (.aload_n 0, 1) := by decide +kernel
theorem dX1_liveDay_5 : decode cX1_liveDay 5 = .ok (.getfield 59, 3) := by decide +kernel
theorem dX1_liveDay_8 : decode cX1_liveDay 8 = .ok (.ifCond .eq 7, 3) := by decide +kernel
theorem dX1_liveDay_11 : decode cX1_liveDay 11 = .ok (.aload_n 0, 1) := by decide +kernel
theorem dX1_liveDay_12 : decode cX1_liveDay 12 = .ok (.invokevirtual 75, 3) := by decide +kernel
theorem dX1_liveDay_15 : decode cX1_liveDay 15 = .ok (.aload_n 0, 1) := by decide +kernel
theorem dX1_liveDay_16 : decode cX1_liveDay 16 = .ok (.invokevirtual 95, 3) := by decide +kernel
theorem dX1_liveDay_19 : decode cX1_liveDay 19 = .ok (.aload_n 0, 1) := by decide +kernel
theorem dX1_liveDay_20 : decode cX1_liveDay 20 = .ok (.dup, 1) := by decide +kernel
theorem dX1_liveDay_21 : decode cX1_liveDay 21 = .ok (.getfield 63, 3) := by decide +kernel
theorem dX1_liveDay_24 : decode cX1_liveDay 24 = .ok (.iconst 1, 1) := by decide +kernel
theorem dX1_liveDay_25 : decode cX1_liveDay 25 = .ok (.iadd, 1) := by decide +kernel
theorem dX1_liveDay_26 : decode cX1_liveDay 26 = .ok (.putfield 63, 3) := by decide +kernel
theorem dX1_liveDay_29 : decode cX1_liveDay 29 = .ok (.return_, 1) := by decide +kernel
theorem dX1_fade_0 : decode cX1_fade 0 = .ok (.iconst 0, 1) := by decide +kernel
theorem dX1_fade_1 : decode cX1_fade 1 = .ok (.istore_n 1, 1) := by decide +kernel
theorem dX1_fade_2 : decode cX1_fade 2 = .ok (.iload_n 1, 1) := by decide +kernel
theorem dX1_fade_3 : decode cX1_fade 3 = .ok (.aload_n 0, 1) := by decide +kernel
theorem dX1_fade_4 : decode cX1_fade 4 = .ok (.getfield 40, 3) := by decide +kernel
theorem dX1_fade_7 : decode cX1_fade 7 = .ok (.if_icmp .ge 46, 3) := by decide +kernel
theorem dX1_fade_10 : decode cX1_fade 10 = .ok (.aload_n 0, 1) := by decide +kernel
theorem dX1_fade_11 : decode cX1_fade 11 = .ok (.getfield 21, 3) := by decide +kernel
theorem dX1_fade_14 : decode cX1_fade 14 = .ok (.iload_n 1, 1) := by decide +kernel
theorem dX1_fade_15 : decode cX1_fade 15 = .ok (.iaload, 1) := by decide +kernel
theorem dX1_fade_16 : decode cX1_fade 16 = .ok (.iconst 2, 1) := by decide +kernel
theorem dX1_fade_17 : decode cX1_fade 17 = .ok (.if_icmp .le 16, 3) := by decide +kernel
theorem dX1_fade_20 : decode cX1_fade 20 = .ok (.aload_n 0, 1) := by decide +kernel
theorem dX1_fade_21 : decode cX1_fade 21 = .ok (.getfield 21, 3) := by decide +kernel
theorem dX1_fade_24 : decode cX1_fade 24 = .ok (.iload_n 1, 1) := by decide +kernel
theorem dX1_fade_25 : decode cX1_fade 25 = .ok (.dup2, 1) := by decide +kernel
theorem dX1_fade_26 : decode cX1_fade 26 = .ok (.iaload, 1) := by decide +kernel
theorem dX1_fade_27 : decode cX1_fade 27 = .ok (.iconst 2, 1) := by decide +kernel
theorem dX1_fade_28 : decode cX1_fade 28 = .ok (.isub, 1) := by decide +kernel
theorem dX1_fade_29 : decode cX1_fade 29 = .ok (.iastore, 1) := by decide +kernel
theorem dX1_fade_30 : decode cX1_fade 30 = .ok (.goto 17, 3) := by decide +kernel
theorem dX1_fade_33 : decode cX1_fade 33 = .ok (.aload_n 0, 1) := by decide +kernel
theorem dX1_fade_34 : decode cX1_fade 34 = .ok (.getfield 21, 3) := by decide +kernel
theorem dX1_fade_37 : decode cX1_fade 37 = .ok (.iload_n 1, 1) := by decide +kernel
theorem dX1_fade_38 : decode cX1_fade 38 = .ok (.iaload, 1) := by decide +kernel
theorem dX1_fade_39 : decode cX1_fade 39 = .ok (.ifCond .le 8, 3) := by decide +kernel
theorem dX1_fade_42 : decode cX1_fade 42 = .ok (.aload_n 0, 1) := by decide +kernel
theorem dX1_fade_43 : decode cX1_fade 43 = .ok (.iload_n 1, 1) := by decide +kernel
theorem dX1_fade_44 : decode cX1_fade 44 = .ok (.invokevirtual 92, 3) := by decide +kernel
theorem dX1_fade_47 : decode cX1_fade 47 = .ok (.iinc 1 1, 3) := by decide +kernel
theorem dX1_fade_50 : decode cX1_fade 50 = .ok (.goto (-48), 3) := by decide +kernel
theorem dX1_fade_53 : decode cX1_fade 53 = .ok (.return_, 1) := by decide +kernel
theorem dX1_tell_0 : decode cX1_tell 0 = .ok (.aload_n 0, 1) := by decide +kernel
theorem dX1_tell_1 : decode cX1_tell 1 = .ok (.iload_n 1, 1) := by decide +kernel
theorem dX1_tell_2 : decode cX1_tell 2 = .ok (.invokevirtual 44, 3) := by decide +kernel
theorem dX1_tell_5 : decode cX1_tell 5 = .ok (.ifCond .ne 5, 3) := by decide +kernel
theorem dX1_tell_8 : decode cX1_tell 8 = .ok (.iconst 0, 1) := by decide +kernel
theorem dX1_tell_9 : decode cX1_tell 9 = .ok (.ireturn, 1) := by decide +kernel
theorem dX1_tell_10 : decode cX1_tell 10 = .ok (.iload_n 2, 1) := by decide +kernel
theorem dX1_tell_11 : decode cX1_tell 11 = .ok (.tableswitch 120 0 8 #[49, 56, 63, 78, 85, 92, 99, 106, 113], 49) := by decide +kernel
theorem dX1_tell_60 : decode cX1_tell 60 = .ok (.aload_n 0, 1) := by decide +kernel
theorem dX1_tell_61 : decode cX1_tell 61 = .ok (.getfield 9, 3) := by decide +kernel
theorem dX1_tell_64 : decode cX1_tell 64 = .ok (.iload_n 1, 1) := by decide +kernel
theorem dX1_tell_65 : decode cX1_tell 65 = .ok (.iaload, 1) := by decide +kernel
theorem dX1_tell_66 : decode cX1_tell 66 = .ok (.ireturn, 1) := by decide +kernel
theorem dX1_tell_67 : decode cX1_tell 67 = .ok (.aload_n 0, 1) := by decide +kernel
theorem dX1_tell_68 : decode cX1_tell 68 = .ok (.getfield 15, 3) := by decide +kernel
theorem dX1_tell_71 : decode cX1_tell 71 = .ok (.iload_n 1, 1) := by decide +kernel
theorem dX1_tell_72 : decode cX1_tell 72 = .ok (.iaload, 1) := by decide +kernel
theorem dX1_tell_73 : decode cX1_tell 73 = .ok (.ireturn, 1) := by decide +kernel
theorem dX1_tell_74 : decode cX1_tell 74 = .ok (.aload_n 0, 1) := by decide +kernel
theorem dX1_tell_75 : decode cX1_tell 75 = .ok (.getfield 30, 3) := by decide +kernel
theorem dX1_tell_78 : decode cX1_tell 78 = .ok (.iload_n 1, 1) := by decide +kernel
theorem dX1_tell_79 : decode cX1_tell 79 = .ok (.baload, 1) := by decide +kernel
theorem dX1_tell_80 : decode cX1_tell 80 = .ok (.ifCond .eq 7, 3) := by decide +kernel
theorem dX1_tell_83 : decode cX1_tell 83 = .ok (.iconst 1, 1) := by decide +kernel
theorem dX1_tell_84 : decode cX1_tell 84 = .ok (.goto 4, 3) := by decide +kernel
theorem dX1_tell_87 : decode cX1_tell 87 = .ok (.iconst 0, 1) := by decide +kernel
theorem dX1_tell_88 : decode cX1_tell 88 = .ok (.ireturn, 1) := by decide +kernel
theorem dX1_tell_89 : decode cX1_tell 89 = .ok (.aload_n 0, 1) := by decide +kernel
theorem dX1_tell_90 : decode cX1_tell 90 = .ok (.getfield 21, 3) := by decide +kernel
theorem dX1_tell_93 : decode cX1_tell 93 = .ok (.iload_n 1, 1) := by decide +kernel
theorem dX1_tell_94 : decode cX1_tell 94 = .ok (.iaload, 1) := by decide +kernel
theorem dX1_tell_95 : decode cX1_tell 95 = .ok (.ireturn, 1) := by decide +kernel
theorem dX1_tell_96 : decode cX1_tell 96 = .ok (.aload_n 0, 1) := by decide +kernel
theorem dX1_tell_97 : decode cX1_tell 97 = .ok (.getfield 24, 3) := by decide +kernel
theorem dX1_tell_100 : decode cX1_tell 100 = .ok (.iload_n 1, 1) := by decide +kernel
theorem dX1_tell_101 : decode cX1_tell 101 = .ok (.iaload, 1) := by decide +kernel
theorem dX1_tell_102 : decode cX1_tell 102 = .ok (.ireturn, 1) := by decide +kernel
theorem dX1_tell_103 : decode cX1_tell 103 = .ok (.aload_n 0, 1) := by decide +kernel
theorem dX1_tell_104 : decode cX1_tell 104 = .ok (.getfield 27, 3) := by decide +kernel
theorem dX1_tell_107 : decode cX1_tell 107 = .ok (.iload_n 1, 1) := by decide +kernel
theorem dX1_tell_108 : decode cX1_tell 108 = .ok (.iaload, 1) := by decide +kernel
theorem dX1_tell_109 : decode cX1_tell 109 = .ok (.ireturn, 1) := by decide +kernel
theorem dX1_tell_110 : decode cX1_tell 110 = .ok (.aload_n 0, 1) := by decide +kernel
theorem dX1_tell_111 : decode cX1_tell 111 = .ok (.getfield 18, 3) := by decide +kernel
theorem dX1_tell_114 : decode cX1_tell 114 = .ok (.iload_n 1, 1) := by decide +kernel
theorem dX1_tell_115 : decode cX1_tell 115 = .ok (.iaload, 1) := by decide +kernel
theorem dX1_tell_116 : decode cX1_tell 116 = .ok (.ireturn, 1) := by decide +kernel
theorem dX1_tell_117 : decode cX1_tell 117 = .ok (.aload_n 0, 1) := by decide +kernel
theorem dX1_tell_118 : decode cX1_tell 118 = .ok (.getfield 34, 3) := by decide +kernel
theorem dX1_tell_121 : decode cX1_tell 121 = .ok (.iload_n 1, 1) := by decide +kernel
theorem dX1_tell_122 : decode cX1_tell 122 = .ok (.iaload, 1) := by decide +kernel
theorem dX1_tell_123 : decode cX1_tell 123 = .ok (.ireturn, 1) := by decide +kernel
theorem dX1_tell_124 : decode cX1_tell 124 = .ok (.aload_n 0, 1) := by decide +kernel
theorem dX1_tell_125 : decode cX1_tell 125 = .ok (.getfield 37, 3) := by decide +kernel
theorem dX1_tell_128 : decode cX1_tell 128 = .ok (.iload_n 1, 1) := by decide +kernel
theorem dX1_tell_129 : decode cX1_tell 129 = .ok (.iaload, 1) := by decide +kernel
theorem dX1_tell_130 : decode cX1_tell 130 = .ok (.ireturn, 1) := by decide +kernel
theorem dX1_tell_131 : decode cX1_tell 131 = .ok (.aload_n 0, 1) := by decide +kernel
theorem dX1_tell_132 : decode cX1_tell 132 = .ok (.iload_n 1, 1) := by decide +kernel
theorem dX1_tell_133 : decode cX1_tell 133 = .ok (.invokevirtual 104, 3) := by decide +kernel
theorem dX1_tell_136 : decode cX1_tell 136 = .ok (.ireturn, 1) := by decide +kernel
theorem dX1_countHeldBy_0 : decode cX1_countHeldBy 0 = .ok (.iconst 0, 1) := by decide +kernel
theorem dX1_countHeldBy_1 : decode cX1_countHeldBy 1 = .ok (.istore_n 2, 1) := by decide +kernel
theorem dX1_countHeldBy_2 : decode cX1_countHeldBy 2 = .ok (.iconst 0, 1) := by decide +kernel
theorem dX1_countHeldBy_3 : decode cX1_countHeldBy 3 = .ok (.istore_n 3, 1) := by decide +kernel
theorem dX1_countHeldBy_4 : decode cX1_countHeldBy 4 = .ok (.iload_n 3, 1) := by decide +kernel
theorem dX1_countHeldBy_5 : decode cX1_countHeldBy 5 = .ok (.aload_n 0, 1) := by decide +kernel
theorem dX1_countHeldBy_6 : decode cX1_countHeldBy 6 = .ok (.getfield 40, 3) := by decide +kernel
theorem dX1_countHeldBy_9 : decode cX1_countHeldBy 9 = .ok (.if_icmp .ge 32, 3) := by decide +kernel
theorem dX1_countHeldBy_12 : decode cX1_countHeldBy 12 = .ok (.aload_n 0, 1) := by decide +kernel
theorem dX1_countHeldBy_13 : decode cX1_countHeldBy 13 = .ok (.getfield 24, 3) := by decide +kernel
theorem dX1_countHeldBy_16 : decode cX1_countHeldBy 16 = .ok (.iload_n 3, 1) := by decide +kernel
theorem dX1_countHeldBy_17 : decode cX1_countHeldBy 17 = .ok (.iaload, 1) := by decide +kernel
theorem dX1_countHeldBy_18 : decode cX1_countHeldBy 18 = .ok (.iload_n 1, 1) := by decide +kernel
theorem dX1_countHeldBy_19 : decode cX1_countHeldBy 19 = .ok (.if_icmp .eq 13, 3) := by decide +kernel
theorem dX1_countHeldBy_22 : decode cX1_countHeldBy 22 = .ok (.aload_n 0, 1) := by decide +kernel
theorem dX1_countHeldBy_23 : decode cX1_countHeldBy 23 = .ok (.getfield 27, 3) := by decide +kernel
theorem dX1_countHeldBy_26 : decode cX1_countHeldBy 26 = .ok (.iload_n 3, 1) := by decide +kernel
theorem dX1_countHeldBy_27 : decode cX1_countHeldBy 27 = .ok (.iaload, 1) := by decide +kernel
theorem dX1_countHeldBy_28 : decode cX1_countHeldBy 28 = .ok (.iload_n 1, 1) := by decide +kernel
theorem dX1_countHeldBy_29 : decode cX1_countHeldBy 29 = .ok (.if_icmp .ne 6, 3) := by decide +kernel
theorem dX1_countHeldBy_32 : decode cX1_countHeldBy 32 = .ok (.iinc 2 1, 3) := by decide +kernel
theorem dX1_countHeldBy_35 : decode cX1_countHeldBy 35 = .ok (.iinc 3 1, 3) := by decide +kernel
theorem dX1_countHeldBy_38 : decode cX1_countHeldBy 38 = .ok (.goto (-34), 3) := by decide +kernel
theorem dX1_countHeldBy_41 : decode cX1_countHeldBy 41 = .ok (.iload_n 2, 1) := by decide +kernel
theorem dX1_countHeldBy_42 : decode cX1_countHeldBy 42 = .ok (.ireturn, 1) := by decide +kernel
theorem dX1_topOf_0 : decode cX1_topOf 0 = .ok (.iload_n 1, 1) := by decide +kernel
theorem dX1_topOf_1 : decode cX1_topOf 1 = .ok (.istore_n 2, 1) := by decide +kernel
theorem dX1_topOf_2 : decode cX1_topOf 2 = .ok (.iconst 0, 1) := by decide +kernel
theorem dX1_topOf_3 : decode cX1_topOf 3 = .ok (.istore_n 3, 1) := by decide +kernel
theorem dX1_topOf_4 : decode cX1_topOf 4 = .ok (.aload_n 0, 1) := by decide +kernel
theorem dX1_topOf_5 : decode cX1_topOf 5 = .ok (.iload_n 2, 1) := by decide +kernel
theorem dX1_topOf_6 : decode cX1_topOf 6 = .ok (.invokevirtual 44, 3) := by decide +kernel
theorem dX1_topOf_9 : decode cX1_topOf 9 = .ok (.ifCond .eq 33, 3) := by decide +kernel
theorem dX1_topOf_12 : decode cX1_topOf 12 = .ok (.iload_n 3, 1) := by decide +kernel
theorem dX1_topOf_13 : decode cX1_topOf 13 = .ok (.bipush 40, 2) := by decide +kernel
theorem dX1_topOf_15 : decode cX1_topOf 15 = .ok (.if_icmp .ge 27, 3) := by decide +kernel
theorem dX1_topOf_18 : decode cX1_topOf 18 = .ok (.aload_n 0, 1) := by decide +kernel
theorem dX1_topOf_19 : decode cX1_topOf 19 = .ok (.getfield 21, 3) := by decide +kernel
theorem dX1_topOf_22 : decode cX1_topOf 22 = .ok (.iload_n 2, 1) := by decide +kernel
theorem dX1_topOf_23 : decode cX1_topOf 23 = .ok (.iaload, 1) := by decide +kernel
theorem dX1_topOf_24 : decode cX1_topOf 24 = .ok (.ifCond .le 5, 3) := by decide +kernel
theorem dX1_topOf_27 : decode cX1_topOf 27 = .ok (.iload_n 2, 1) := by decide +kernel
theorem dX1_topOf_28 : decode cX1_topOf 28 = .ok (.ireturn, 1) := by decide +kernel
theorem dX1_topOf_29 : decode cX1_topOf 29 = .ok (.aload_n 0, 1) := by decide +kernel
theorem dX1_topOf_30 : decode cX1_topOf 30 = .ok (.getfield 24, 3) := by decide +kernel
theorem dX1_topOf_33 : decode cX1_topOf 33 = .ok (.iload_n 2, 1) := by decide +kernel
theorem dX1_topOf_34 : decode cX1_topOf 34 = .ok (.iaload, 1) := by decide +kernel
theorem dX1_topOf_35 : decode cX1_topOf 35 = .ok (.istore_n 2, 1) := by decide +kernel
theorem dX1_topOf_36 : decode cX1_topOf 36 = .ok (.iinc 3 1, 3) := by decide +kernel
theorem dX1_topOf_39 : decode cX1_topOf 39 = .ok (.goto (-35), 3) := by decide +kernel
theorem dX1_topOf_42 : decode cX1_topOf 42 = .ok (.iconst (-1), 1) := by decide +kernel
theorem dX1_topOf_43 : decode cX1_topOf 43 = .ok (.ireturn, 1) := by decide +kernel
theorem dX1_countSpells_0 : decode cX1_countSpells 0 = .ok (.iconst 0, 1) := by decide +kernel
theorem dX1_countSpells_1 : decode cX1_countSpells 1 = .ok (.istore_n 1, 1) := by decide +kernel
theorem dX1_countSpells_2 : decode cX1_countSpells 2 = .ok (.iconst 0, 1) := by decide +kernel
theorem dX1_countSpells_3 : decode cX1_countSpells 3 = .ok (.istore_n 2, 1) := by decide +kernel
theorem dX1_countSpells_4 : decode cX1_countSpells 4 = .ok (.iload_n 2, 1) := by decide +kernel
theorem dX1_countSpells_5 : decode cX1_countSpells 5 = .ok (.aload_n 0, 1) := by decide +kernel
theorem dX1_countSpells_6 : decode cX1_countSpells 6 = .ok (.getfield 40, 3) := by decide +kernel
theorem dX1_countSpells_9 : decode cX1_countSpells 9 = .ok (.if_icmp .ge 26, 3) := by decide +kernel
theorem dX1_countSpells_12 : decode cX1_countSpells 12 = .ok (.iload_n 1, 1) := by decide +kernel
theorem dX1_countSpells_13 : decode cX1_countSpells 13 = .ok (.aload_n 0, 1) := by decide +kernel
theorem dX1_countSpells_14 : decode cX1_countSpells 14 = .ok (.getfield 21, 3) := by decide +kernel
theorem dX1_countSpells_17 : decode cX1_countSpells 17 = .ok (.iload_n 2, 1) := by decide +kernel
theorem dX1_countSpells_18 : decode cX1_countSpells 18 = .ok (.iaload, 1) := by decide +kernel
theorem dX1_countSpells_19 : decode cX1_countSpells 19 = .ok (.ifCond .le 7, 3) := by decide +kernel
theorem dX1_countSpells_22 : decode cX1_countSpells 22 = .ok (.iconst 1, 1) := by decide +kernel
theorem dX1_countSpells_23 : decode cX1_countSpells 23 = .ok (.goto 4, 3) := by decide +kernel
theorem dX1_countSpells_26 : decode cX1_countSpells 26 = .ok (.iconst 0, 1) := by decide +kernel
theorem dX1_countSpells_27 : decode cX1_countSpells 27 = .ok (.iadd, 1) := by decide +kernel
theorem dX1_countSpells_28 : decode cX1_countSpells 28 = .ok (.istore_n 1, 1) := by decide +kernel
theorem dX1_countSpells_29 : decode cX1_countSpells 29 = .ok (.iinc 2 1, 3) := by decide +kernel
theorem dX1_countSpells_32 : decode cX1_countSpells 32 = .ok (.goto (-28), 3) := by decide +kernel
theorem dX1_countSpells_35 : decode cX1_countSpells 35 = .ok (.iload_n 1, 1) := by decide +kernel
theorem dX1_countSpells_36 : decode cX1_countSpells 36 = .ok (.ireturn, 1) := by decide +kernel
theorem dX1_sumOfPowers_0 : decode cX1_sumOfPowers 0 = .ok (.iconst 0, 1) := by decide +kernel
theorem dX1_sumOfPowers_1 : decode cX1_sumOfPowers 1 = .ok (.istore_n 1, 1) := by decide +kernel
theorem dX1_sumOfPowers_2 : decode cX1_sumOfPowers 2 = .ok (.iconst 0, 1) := by decide +kernel
theorem dX1_sumOfPowers_3 : decode cX1_sumOfPowers 3 = .ok (.istore_n 2, 1) := by decide +kernel
theorem dX1_sumOfPowers_4 : decode cX1_sumOfPowers 4 = .ok (.iload_n 2, 1) := by decide +kernel
theorem dX1_sumOfPowers_5 : decode cX1_sumOfPowers 5 = .ok (.aload_n 0, 1) := by decide +kernel
theorem dX1_sumOfPowers_6 : decode cX1_sumOfPowers 6 = .ok (.getfield 40, 3) := by decide +kernel
theorem dX1_sumOfPowers_9 : decode cX1_sumOfPowers 9 = .ok (.if_icmp .ge 18, 3) := by decide +kernel
theorem dX1_sumOfPowers_12 : decode cX1_sumOfPowers 12 = .ok (.iload_n 1, 1) := by decide +kernel
theorem dX1_sumOfPowers_13 : decode cX1_sumOfPowers 13 = .ok (.aload_n 0, 1) := by decide +kernel
theorem dX1_sumOfPowers_14 : decode cX1_sumOfPowers 14 = .ok (.getfield 21, 3) := by decide +kernel
theorem dX1_sumOfPowers_17 : decode cX1_sumOfPowers 17 = .ok (.iload_n 2, 1) := by decide +kernel
theorem dX1_sumOfPowers_18 : decode cX1_sumOfPowers 18 = .ok (.iaload, 1) := by decide +kernel
theorem dX1_sumOfPowers_19 : decode cX1_sumOfPowers 19 = .ok (.iadd, 1) := by decide +kernel
theorem dX1_sumOfPowers_20 : decode cX1_sumOfPowers 20 = .ok (.istore_n 1, 1) := by decide +kernel
theorem dX1_sumOfPowers_21 : decode cX1_sumOfPowers 21 = .ok (.iinc 2 1, 3) := by decide +kernel
theorem dX1_sumOfPowers_24 : decode cX1_sumOfPowers 24 = .ok (.goto (-20), 3) := by decide +kernel
theorem dX1_sumOfPowers_27 : decode cX1_sumOfPowers 27 = .ok (.iload_n 1, 1) := by decide +kernel
theorem dX1_sumOfPowers_28 : decode cX1_sumOfPowers 28 = .ok (.ireturn, 1) := by decide +kernel
theorem dX1_sumOfProps_0 : decode cX1_sumOfProps 0 = .ok (.iconst 0, 1) := by decide +kernel
theorem dX1_sumOfProps_1 : decode cX1_sumOfProps 1 = .ok (.istore_n 1, 1) := by decide +kernel
theorem dX1_sumOfProps_2 : decode cX1_sumOfProps 2 = .ok (.iconst 0, 1) := by decide +kernel
theorem dX1_sumOfProps_3 : decode cX1_sumOfProps 3 = .ok (.istore_n 2, 1) := by decide +kernel
theorem dX1_sumOfProps_4 : decode cX1_sumOfProps 4 = .ok (.iload_n 2, 1) := by decide +kernel
theorem dX1_sumOfProps_5 : decode cX1_sumOfProps 5 = .ok (.aload_n 0, 1) := by decide +kernel
theorem dX1_sumOfProps_6 : decode cX1_sumOfProps 6 = .ok (.getfield 40, 3) := by decide +kernel
theorem dX1_sumOfProps_9 : decode cX1_sumOfProps 9 = .ok (.if_icmp .ge 31, 3) := by decide +kernel
theorem dX1_sumOfProps_12 : decode cX1_sumOfProps 12 = .ok (.iload_n 1, 1) := by decide +kernel
theorem dX1_sumOfProps_13 : decode cX1_sumOfProps 13 = .ok (.aload_n 0, 1) := by decide +kernel
theorem dX1_sumOfProps_14 : decode cX1_sumOfProps 14 = .ok (.getfield 30, 3) := by decide +kernel
theorem dX1_sumOfProps_17 : decode cX1_sumOfProps 17 = .ok (.iload_n 2, 1) := by decide +kernel
theorem dX1_sumOfProps_18 : decode cX1_sumOfProps 18 = .ok (.baload, 1) := by decide +kernel
theorem dX1_sumOfProps_19 : decode cX1_sumOfProps 19 = .ok (.ifCond .eq 12, 3) := by decide +kernel
theorem dX1_sumOfProps_22 : decode cX1_sumOfProps 22 = .ok (.aload_n 0, 1) := by decide +kernel
theorem dX1_sumOfProps_23 : decode cX1_sumOfProps 23 = .ok (.getfield 18, 3) := by decide +kernel
theorem dX1_sumOfProps_26 : decode cX1_sumOfProps 26 = .ok (.iload_n 2, 1) := by decide +kernel
theorem dX1_sumOfProps_27 : decode cX1_sumOfProps 27 = .ok (.iaload, 1) := by decide +kernel
theorem dX1_sumOfProps_28 : decode cX1_sumOfProps 28 = .ok (.goto 4, 3) := by decide +kernel
theorem dX1_sumOfProps_31 : decode cX1_sumOfProps 31 = .ok (.iconst 0, 1) := by decide +kernel
theorem dX1_sumOfProps_32 : decode cX1_sumOfProps 32 = .ok (.iadd, 1) := by decide +kernel
theorem dX1_sumOfProps_33 : decode cX1_sumOfProps 33 = .ok (.istore_n 1, 1) := by decide +kernel
theorem dX1_sumOfProps_34 : decode cX1_sumOfProps 34 = .ok (.iinc 2 1, 3) := by decide +kernel
theorem dX1_sumOfProps_37 : decode cX1_sumOfProps 37 = .ok (.goto (-33), 3) := by decide +kernel
theorem dX1_sumOfProps_40 : decode cX1_sumOfProps 40 = .ok (.iload_n 1, 1) := by decide +kernel
theorem dX1_sumOfProps_41 : decode cX1_sumOfProps 41 = .ok (.ireturn, 1) := by decide +kernel
theorem dX1_sumOfLoads_0 : decode cX1_sumOfLoads 0 = .ok (.iconst 0, 1) := by decide +kernel
theorem dX1_sumOfLoads_1 : decode cX1_sumOfLoads 1 = .ok (.istore_n 1, 1) := by decide +kernel
theorem dX1_sumOfLoads_2 : decode cX1_sumOfLoads 2 = .ok (.iconst 0, 1) := by decide +kernel
theorem dX1_sumOfLoads_3 : decode cX1_sumOfLoads 3 = .ok (.istore_n 2, 1) := by decide +kernel
theorem dX1_sumOfLoads_4 : decode cX1_sumOfLoads 4 = .ok (.iload_n 2, 1) := by decide +kernel
theorem dX1_sumOfLoads_5 : decode cX1_sumOfLoads 5 = .ok (.aload_n 0, 1) := by decide +kernel
theorem dX1_sumOfLoads_6 : decode cX1_sumOfLoads 6 = .ok (.getfield 40, 3) := by decide +kernel
theorem dX1_sumOfLoads_9 : decode cX1_sumOfLoads 9 = .ok (.if_icmp .ge 18, 3) := by decide +kernel
theorem dX1_sumOfLoads_12 : decode cX1_sumOfLoads 12 = .ok (.iload_n 1, 1) := by decide +kernel
theorem dX1_sumOfLoads_13 : decode cX1_sumOfLoads 13 = .ok (.aload_n 0, 1) := by decide +kernel
theorem dX1_sumOfLoads_14 : decode cX1_sumOfLoads 14 = .ok (.getfield 34, 3) := by decide +kernel
theorem dX1_sumOfLoads_17 : decode cX1_sumOfLoads 17 = .ok (.iload_n 2, 1) := by decide +kernel
theorem dX1_sumOfLoads_18 : decode cX1_sumOfLoads 18 = .ok (.iaload, 1) := by decide +kernel
theorem dX1_sumOfLoads_19 : decode cX1_sumOfLoads 19 = .ok (.iadd, 1) := by decide +kernel
theorem dX1_sumOfLoads_20 : decode cX1_sumOfLoads 20 = .ok (.istore_n 1, 1) := by decide +kernel
theorem dX1_sumOfLoads_21 : decode cX1_sumOfLoads 21 = .ok (.iinc 2 1, 3) := by decide +kernel
theorem dX1_sumOfLoads_24 : decode cX1_sumOfLoads 24 = .ok (.goto (-20), 3) := by decide +kernel
theorem dX1_sumOfLoads_27 : decode cX1_sumOfLoads 27 = .ok (.iload_n 1, 1) := by decide +kernel
theorem dX1_sumOfLoads_28 : decode cX1_sumOfLoads 28 = .ok (.ireturn, 1) := by decide +kernel
theorem dX1_sumOfSpelledLoads_0 : decode cX1_sumOfSpelledLoads 0 = .ok (.iconst 0, 1) := by decide +kernel
theorem dX1_sumOfSpelledLoads_1 : decode cX1_sumOfSpelledLoads 1 = .ok (.istore_n 1, 1) := by decide +kernel
theorem dX1_sumOfSpelledLoads_2 : decode cX1_sumOfSpelledLoads 2 = .ok (.iconst 0, 1) := by decide +kernel
theorem dX1_sumOfSpelledLoads_3 : decode cX1_sumOfSpelledLoads 3 = .ok (.istore_n 2, 1) := by decide +kernel
theorem dX1_sumOfSpelledLoads_4 : decode cX1_sumOfSpelledLoads 4 = .ok (.iload_n 2, 1) := by decide +kernel
theorem dX1_sumOfSpelledLoads_5 : decode cX1_sumOfSpelledLoads 5 = .ok (.aload_n 0, 1) := by decide +kernel
theorem dX1_sumOfSpelledLoads_6 : decode cX1_sumOfSpelledLoads 6 = .ok (.getfield 40, 3) := by decide +kernel
theorem dX1_sumOfSpelledLoads_9 : decode cX1_sumOfSpelledLoads 9 = .ok (.if_icmp .ge 31, 3) := by decide +kernel
theorem dX1_sumOfSpelledLoads_12 : decode cX1_sumOfSpelledLoads 12 = .ok (.iload_n 1, 1) := by decide +kernel
theorem dX1_sumOfSpelledLoads_13 : decode cX1_sumOfSpelledLoads 13 = .ok (.aload_n 0, 1) := by decide +kernel
theorem dX1_sumOfSpelledLoads_14 : decode cX1_sumOfSpelledLoads 14 = .ok (.getfield 21, 3) := by decide +kernel
theorem dX1_sumOfSpelledLoads_17 : decode cX1_sumOfSpelledLoads 17 = .ok (.iload_n 2, 1) := by decide +kernel
theorem dX1_sumOfSpelledLoads_18 : decode cX1_sumOfSpelledLoads 18 = .ok (.iaload, 1) := by decide +kernel
theorem dX1_sumOfSpelledLoads_19 : decode cX1_sumOfSpelledLoads 19 = .ok (.ifCond .le 12, 3) := by decide +kernel
theorem dX1_sumOfSpelledLoads_22 : decode cX1_sumOfSpelledLoads 22 = .ok (.aload_n 0, 1) := by decide +kernel
theorem dX1_sumOfSpelledLoads_23 : decode cX1_sumOfSpelledLoads 23 = .ok (.getfield 34, 3) := by decide +kernel
theorem dX1_sumOfSpelledLoads_26 : decode cX1_sumOfSpelledLoads 26 = .ok (.iload_n 2, 1) := by decide +kernel
theorem dX1_sumOfSpelledLoads_27 : decode cX1_sumOfSpelledLoads 27 = .ok (.iaload, 1) := by decide +kernel
theorem dX1_sumOfSpelledLoads_28 : decode cX1_sumOfSpelledLoads 28 = .ok (.goto 4, 3) := by decide +kernel
theorem dX1_sumOfSpelledLoads_31 : decode cX1_sumOfSpelledLoads 31 = .ok (.iconst 0, 1) := by decide +kernel
theorem dX1_sumOfSpelledLoads_32 : decode cX1_sumOfSpelledLoads 32 = .ok (.iadd, 1) := by decide +kernel
theorem dX1_sumOfSpelledLoads_33 : decode cX1_sumOfSpelledLoads 33 = .ok (.istore_n 1, 1) := by decide +kernel
theorem dX1_sumOfSpelledLoads_34 : decode cX1_sumOfSpelledLoads 34 = .ok (.iinc 2 1, 3) := by decide +kernel
theorem dX1_sumOfSpelledLoads_37 : decode cX1_sumOfSpelledLoads 37 = .ok (.goto (-33), 3) := by decide +kernel
theorem dX1_sumOfSpelledLoads_40 : decode cX1_sumOfSpelledLoads 40 = .ok (.iload_n 1, 1) := by decide +kernel
theorem dX1_sumOfSpelledLoads_41 : decode cX1_sumOfSpelledLoads 41 = .ok (.ireturn, 1) := by decide +kernel
