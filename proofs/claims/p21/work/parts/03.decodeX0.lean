theorem dX0_init_0 : decode cX0_init 0 = .ok (.aload_n 0, 1) := by decide +kernel
theorem dX0_init_1 : decode cX0_init 1 = .ok (.invokespecial 3, 3) := by decide +kernel
theorem dX0_init_4 : decode cX0_init 4 = .ok (.aload_n 0, 1) := by decide +kernel
theorem dX0_init_5 : decode cX0_init 5 = .ok (.bipush 30, 2) := by decide +kernel
theorem dX0_init_7 : decode cX0_init 7 = .ok (.newarray .int, 2) := by decide +kernel
theorem dX0_init_9 : decode cX0_init 9 = .ok (.putfield 9, 3) := by decide +kernel
theorem dX0_init_12 : decode cX0_init 12 = .ok (.aload_n 0, 1) := by decide +kernel
theorem dX0_init_13 : decode cX0_init 13 = .ok (.bipush 30, 2) := by decide +kernel
theorem dX0_init_15 : decode cX0_init 15 = .ok (.newarray .int, 2) := by decide +kernel
theorem dX0_init_17 : decode cX0_init 17 = .ok (.putfield 15, 3) := by decide +kernel
theorem dX0_init_20 : decode cX0_init 20 = .ok (.aload_n 0, 1) := by decide +kernel
theorem dX0_init_21 : decode cX0_init 21 = .ok (.bipush 40, 2) := by decide +kernel
theorem dX0_init_23 : decode cX0_init 23 = .ok (.newarray .int, 2) := by decide +kernel
theorem dX0_init_25 : decode cX0_init 25 = .ok (.putfield 18, 3) := by decide +kernel
theorem dX0_init_28 : decode cX0_init 28 = .ok (.return_, 1) := by decide +kernel
theorem dX0_has_0 : decode cX0_has 0 = .ok (.iload_n 1, 1) := by decide +kernel
theorem dX0_has_1 : decode cX0_has 1 = .ok (.ifCond .lt 15, 3) := by decide +kernel
theorem dX0_has_4 : decode cX0_has 4 = .ok (.iload_n 1, 1) := by decide +kernel
theorem dX0_has_5 : decode cX0_has 5 = .ok (.aload_n 0, 1) := by decide +kernel
theorem dX0_has_6 : decode cX0_has 6 = .ok (.getfield 21, 3) := by decide +kernel
theorem dX0_has_9 : decode cX0_has 9 = .ok (.if_icmp .ge 7, 3) := by decide +kernel
theorem dX0_has_12 : decode cX0_has 12 = .ok (.iconst 1, 1) := by decide +kernel
theorem dX0_has_13 : decode cX0_has 13 = .ok (.goto 4, 3) := by decide +kernel
theorem dX0_has_16 : decode cX0_has 16 = .ok (.iconst 0, 1) := by decide +kernel
theorem dX0_has_17 : decode cX0_has 17 = .ok (.ireturn, 1) := by decide +kernel
theorem dX0_isFull_0 : decode cX0_isFull 0 = .ok (.aload_n 0, 1) := by decide +kernel
theorem dX0_isFull_1 : decode cX0_isFull 1 = .ok (.getfield 21, 3) := by decide +kernel
theorem dX0_isFull_4 : decode cX0_isFull 4 = .ok (.bipush 30, 2) := by decide +kernel
theorem dX0_isFull_6 : decode cX0_isFull 6 = .ok (.if_icmp .lt 7, 3) := by decide +kernel
theorem dX0_isFull_9 : decode cX0_isFull 9 = .ok (.iconst 1, 1) := by decide +kernel
theorem dX0_isFull_10 : decode cX0_isFull 10 = .ok (.goto 4, 3) := by decide +kernel
theorem dX0_isFull_13 : decode cX0_isFull 13 = .ok (.iconst 0, 1) := by decide +kernel
theorem dX0_isFull_14 : decode cX0_isFull 14 = .ok (.ireturn, 1) := by decide +kernel
theorem dX0_isGone_0 : decode cX0_isGone 0 = .ok (.aload_n 0, 1) := by decide +kernel
theorem dX0_isGone_1 : decode cX0_isGone 1 = .ok (.iload_n 1, 1) := by decide +kernel
theorem dX0_isGone_2 : decode cX0_isGone 2 = .ok (.invokevirtual 25, 3) := by decide +kernel
theorem dX0_isGone_5 : decode cX0_isGone 5 = .ok (.ifCond .eq 29, 3) := by decide +kernel
theorem dX0_isGone_8 : decode cX0_isGone 8 = .ok (.aload_n 2, 1) := by decide +kernel
theorem dX0_isGone_9 : decode cX0_isGone 9 = .ok (.aload_n 0, 1) := by decide +kernel
theorem dX0_isGone_10 : decode cX0_isGone 10 = .ok (.getfield 9, 3) := by decide +kernel
theorem dX0_isGone_13 : decode cX0_isGone 13 = .ok (.iload_n 1, 1) := by decide +kernel
theorem dX0_isGone_14 : decode cX0_isGone 14 = .ok (.iaload, 1) := by decide +kernel
theorem dX0_isGone_15 : decode cX0_isGone 15 = .ok (.invokevirtual 29, 3) := by decide +kernel
theorem dX0_isGone_18 : decode cX0_isGone 18 = .ok (.ifCond .eq 16, 3) := by decide +kernel
theorem dX0_isGone_21 : decode cX0_isGone 21 = .ok (.aload_n 2, 1) := by decide +kernel
theorem dX0_isGone_22 : decode cX0_isGone 22 = .ok (.aload_n 0, 1) := by decide +kernel
theorem dX0_isGone_23 : decode cX0_isGone 23 = .ok (.getfield 15, 3) := by decide +kernel
theorem dX0_isGone_26 : decode cX0_isGone 26 = .ok (.iload_n 1, 1) := by decide +kernel
theorem dX0_isGone_27 : decode cX0_isGone 27 = .ok (.iaload, 1) := by decide +kernel
theorem dX0_isGone_28 : decode cX0_isGone 28 = .ok (.invokevirtual 29, 3) := by decide +kernel
theorem dX0_isGone_31 : decode cX0_isGone 31 = .ok (.ifCond .ne 7, 3) := by decide +kernel
theorem dX0_isGone_34 : decode cX0_isGone 34 = .ok (.iconst 1, 1) := by decide +kernel
theorem dX0_isGone_35 : decode cX0_isGone 35 = .ok (.goto 4, 3) := by decide +kernel
theorem dX0_isGone_38 : decode cX0_isGone 38 = .ok (.iconst 0, 1) := by decide +kernel
theorem dX0_isGone_39 : decode cX0_isGone 39 = .ok (.ireturn, 1) := by decide +kernel
theorem dX0_add_0 : decode cX0_add 0 = .ok (.aload_n 0, 1) := by decide +kernel
theorem dX0_add_1 : decode cX0_add 1 = .ok (.invokevirtual 34, 3) := by decide +kernel
theorem dX0_add_4 : decode cX0_add 4 = .ok (.ifCond .eq 5, 3) := by decide +kernel
theorem dX0_add_7 : decode cX0_add 7 = .ok (.iconst (-1), 1) := by decide +kernel
theorem dX0_add_8 : decode cX0_add 8 = .ok (.ireturn, 1) := by decide +kernel
theorem dX0_add_9 : decode cX0_add 9 = .ok (.aload_n 0, 1) := by decide +kernel
theorem dX0_add_10 : decode cX0_add 10 = .ok (.getfield 21, 3) := by decide +kernel
theorem dX0_add_13 : decode cX0_add 13 = .ok (.istore_n 3, 1) := by decide +kernel
theorem dX0_add_14 : decode cX0_add 14 = .ok (.aload_n 0, 1) := by decide +kernel
theorem dX0_add_15 : decode cX0_add 15 = .ok (.getfield 9, 3) := by decide +kernel
theorem dX0_add_18 : decode cX0_add 18 = .ok (.iload_n 3, 1) := by decide +kernel
theorem dX0_add_19 : decode cX0_add 19 = .ok (.iload_n 1, 1) := by decide +kernel
theorem dX0_add_20 : decode cX0_add 20 = .ok (.iastore, 1) := by decide +kernel
theorem dX0_add_21 : decode cX0_add 21 = .ok (.aload_n 0, 1) := by decide +kernel
theorem dX0_add_22 : decode cX0_add 22 = .ok (.getfield 15, 3) := by decide +kernel
theorem dX0_add_25 : decode cX0_add 25 = .ok (.iload_n 3, 1) := by decide +kernel
theorem dX0_add_26 : decode cX0_add 26 = .ok (.iload_n 2, 1) := by decide +kernel
theorem dX0_add_27 : decode cX0_add 27 = .ok (.iastore, 1) := by decide +kernel
theorem dX0_add_28 : decode cX0_add 28 = .ok (.aload_n 0, 1) := by decide +kernel
theorem dX0_add_29 : decode cX0_add 29 = .ok (.dup, 1) := by decide +kernel
theorem dX0_add_30 : decode cX0_add 30 = .ok (.getfield 21, 3) := by decide +kernel
theorem dX0_add_33 : decode cX0_add 33 = .ok (.iconst 1, 1) := by decide +kernel
theorem dX0_add_34 : decode cX0_add 34 = .ok (.iadd, 1) := by decide +kernel
theorem dX0_add_35 : decode cX0_add 35 = .ok (.putfield 21, 3) := by decide +kernel
theorem dX0_add_38 : decode cX0_add 38 = .ok (.iload_n 3, 1) := by decide +kernel
theorem dX0_add_39 : decode cX0_add 39 = .ok (.ireturn, 1) := by decide +kernel
theorem dX0_exchangeEnds_0 : decode cX0_exchangeEnds 0 = .ok (.aload_n 0, 1) := by decide +kernel
theorem dX0_exchangeEnds_1 : decode cX0_exchangeEnds 1 = .ok (.iload_n 1, 1) := by decide +kernel
theorem dX0_exchangeEnds_2 : decode cX0_exchangeEnds 2 = .ok (.invokevirtual 25, 3) := by decide +kernel
theorem dX0_exchangeEnds_5 : decode cX0_exchangeEnds 5 = .ok (.ifCond .eq 41, 3) := by decide +kernel
theorem dX0_exchangeEnds_8 : decode cX0_exchangeEnds 8 = .ok (.aload_n 0, 1) := by decide +kernel
theorem dX0_exchangeEnds_9 : decode cX0_exchangeEnds 9 = .ok (.iload_n 2, 1) := by decide +kernel
theorem dX0_exchangeEnds_10 : decode cX0_exchangeEnds 10 = .ok (.invokevirtual 25, 3) := by decide +kernel
theorem dX0_exchangeEnds_13 : decode cX0_exchangeEnds 13 = .ok (.ifCond .eq 33, 3) := by decide +kernel
theorem dX0_exchangeEnds_16 : decode cX0_exchangeEnds 16 = .ok (.aload_n 0, 1) := by decide +kernel
theorem dX0_exchangeEnds_17 : decode cX0_exchangeEnds 17 = .ok (.getfield 9, 3) := by decide +kernel
theorem dX0_exchangeEnds_20 : decode cX0_exchangeEnds 20 = .ok (.iload_n 1, 1) := by decide +kernel
theorem dX0_exchangeEnds_21 : decode cX0_exchangeEnds 21 = .ok (.iaload, 1) := by decide +kernel
theorem dX0_exchangeEnds_22 : decode cX0_exchangeEnds 22 = .ok (.aload_n 0, 1) := by decide +kernel
theorem dX0_exchangeEnds_23 : decode cX0_exchangeEnds 23 = .ok (.getfield 15, 3) := by decide +kernel
theorem dX0_exchangeEnds_26 : decode cX0_exchangeEnds 26 = .ok (.iload_n 2, 1) := by decide +kernel
theorem dX0_exchangeEnds_27 : decode cX0_exchangeEnds 27 = .ok (.iaload, 1) := by decide +kernel
theorem dX0_exchangeEnds_28 : decode cX0_exchangeEnds 28 = .ok (.if_icmp .eq 18, 3) := by decide +kernel
theorem dX0_exchangeEnds_31 : decode cX0_exchangeEnds 31 = .ok (.aload_n 0, 1) := by decide +kernel
theorem dX0_exchangeEnds_32 : decode cX0_exchangeEnds 32 = .ok (.getfield 9, 3) := by decide +kernel
theorem dX0_exchangeEnds_35 : decode cX0_exchangeEnds 35 = .ok (.iload_n 2, 1) := by decide +kernel
theorem dX0_exchangeEnds_36 : decode cX0_exchangeEnds 36 = .ok (.iaload, 1) := by decide +kernel
theorem dX0_exchangeEnds_37 : decode cX0_exchangeEnds 37 = .ok (.aload_n 0, 1) := by decide +kernel
theorem dX0_exchangeEnds_38 : decode cX0_exchangeEnds 38 = .ok (.getfield 15, 3) := by decide +kernel
theorem dX0_exchangeEnds_41 : decode cX0_exchangeEnds 41 = .ok (.iload_n 1, 1) := by decide +kernel
theorem dX0_exchangeEnds_42 : decode cX0_exchangeEnds 42 = .ok (.iaload, 1) := by decide +kernel
theorem dX0_exchangeEnds_43 : decode cX0_exchangeEnds 43 = .ok (.if_icmp .ne 5, 3) := by decide +kernel
theorem dX0_exchangeEnds_46 : decode cX0_exchangeEnds 46 = .ok (.iconst 0, 1) := by decide +kernel
theorem dX0_exchangeEnds_47 : decode cX0_exchangeEnds 47 = .ok (.ireturn, 1) := by decide +kernel
theorem dX0_exchangeEnds_48 : decode cX0_exchangeEnds 48 = .ok (.aload_n 0, 1) := by decide +kernel
theorem dX0_exchangeEnds_49 : decode cX0_exchangeEnds 49 = .ok (.getfield 15, 3) := by decide +kernel
theorem dX0_exchangeEnds_52 : decode cX0_exchangeEnds 52 = .ok (.iload_n 1, 1) := by decide +kernel
theorem dX0_exchangeEnds_53 : decode cX0_exchangeEnds 53 = .ok (.iaload, 1) := by decide +kernel
theorem dX0_exchangeEnds_54 : decode cX0_exchangeEnds 54 = .ok (.istore_n 3, 1) := by decide +kernel
theorem dX0_exchangeEnds_55 : decode cX0_exchangeEnds 55 = .ok (.aload_n 0, 1) := by decide +kernel
theorem dX0_exchangeEnds_56 : decode cX0_exchangeEnds 56 = .ok (.getfield 15, 3) := by decide +kernel
theorem dX0_exchangeEnds_59 : decode cX0_exchangeEnds 59 = .ok (.iload_n 1, 1) := by decide +kernel
theorem dX0_exchangeEnds_60 : decode cX0_exchangeEnds 60 = .ok (.aload_n 0, 1) := by decide +kernel
theorem dX0_exchangeEnds_61 : decode cX0_exchangeEnds 61 = .ok (.getfield 15, 3) := by decide +kernel
theorem dX0_exchangeEnds_64 : decode cX0_exchangeEnds 64 = .ok (.iload_n 2, 1) := by decide +kernel
theorem dX0_exchangeEnds_65 : decode cX0_exchangeEnds 65 = .ok (.iaload, 1) := by decide +kernel
theorem dX0_exchangeEnds_66 : decode cX0_exchangeEnds 66 = .ok (.iastore, 1) := by decide +kernel
theorem dX0_exchangeEnds_67 : decode cX0_exchangeEnds 67 = .ok (.aload_n 0, 1) := by decide +kernel
theorem dX0_exchangeEnds_68 : decode cX0_exchangeEnds 68 = .ok (.getfield 15, 3) := by decide +kernel
theorem dX0_exchangeEnds_71 : decode cX0_exchangeEnds 71 = .ok (.iload_n 2, 1) := by decide +kernel
theorem dX0_exchangeEnds_72 : decode cX0_exchangeEnds 72 = .ok (.iload_n 3, 1) := by decide +kernel
theorem dX0_exchangeEnds_73 : decode cX0_exchangeEnds 73 = .ok (.iastore, 1) := by decide +kernel
theorem dX0_exchangeEnds_74 : decode cX0_exchangeEnds 74 = .ok (.iconst 1, 1) := by decide +kernel
theorem dX0_exchangeEnds_75 : decode cX0_exchangeEnds 75 = .ok (.ireturn, 1) := by decide +kernel
theorem dX0_tell_0 : decode cX0_tell 0 = .ok (.aload_n 0, 1) := by decide +kernel
theorem dX0_tell_1 : decode cX0_tell 1 = .ok (.iload_n 1, 1) := by decide +kernel
theorem dX0_tell_2 : decode cX0_tell 2 = .ok (.invokevirtual 25, 3) := by decide +kernel
theorem dX0_tell_5 : decode cX0_tell 5 = .ok (.ifCond .ne 5, 3) := by decide +kernel
theorem dX0_tell_8 : decode cX0_tell 8 = .ok (.iconst 0, 1) := by decide +kernel
theorem dX0_tell_9 : decode cX0_tell 9 = .ok (.ireturn, 1) := by decide +kernel
theorem dX0_tell_10 : decode cX0_tell 10 = .ok (.iload_n 2, 1) := by decide +kernel
theorem dX0_tell_11 : decode cX0_tell 11 = .ok (.lookupswitch 39 #[(0, 25), (1, 32)], 25) := by decide +kernel
theorem dX0_tell_36 : decode cX0_tell 36 = .ok (.aload_n 0, 1) := by decide +kernel
theorem dX0_tell_37 : decode cX0_tell 37 = .ok (.getfield 9, 3) := by decide +kernel
theorem dX0_tell_40 : decode cX0_tell 40 = .ok (.iload_n 1, 1) := by decide +kernel
theorem dX0_tell_41 : decode cX0_tell 41 = .ok (.iaload, 1) := by decide +kernel
theorem dX0_tell_42 : decode cX0_tell 42 = .ok (.ireturn, 1) := by decide +kernel
theorem dX0_tell_43 : decode cX0_tell 43 = .ok (.aload_n 0, 1) := by decide +kernel
theorem dX0_tell_44 : decode cX0_tell 44 = .ok (.getfield 15, 3) := by decide +kernel
theorem dX0_tell_47 : decode cX0_tell 47 = .ok (.iload_n 1, 1) := by decide +kernel
theorem dX0_tell_48 : decode cX0_tell 48 = .ok (.iaload, 1) := by decide +kernel
theorem dX0_tell_49 : decode cX0_tell 49 = .ok (.ireturn, 1) := by decide +kernel
theorem dX0_tell_50 : decode cX0_tell 50 = .ok (.aload_n 0, 1) := by decide +kernel
theorem dX0_tell_51 : decode cX0_tell 51 = .ok (.iload_n 1, 1) := by decide +kernel
theorem dX0_tell_52 : decode cX0_tell 52 = .ok (.aload_n 3, 1) := by decide +kernel
theorem dX0_tell_53 : decode cX0_tell 53 = .ok (.invokevirtual 38, 3) := by decide +kernel
theorem dX0_tell_56 : decode cX0_tell 56 = .ok (.ifCond .eq 7, 3) := by decide +kernel
theorem dX0_tell_59 : decode cX0_tell 59 = .ok (.iconst 1, 1) := by decide +kernel
theorem dX0_tell_60 : decode cX0_tell 60 = .ok (.goto 4, 3) := by decide +kernel
theorem dX0_tell_63 : decode cX0_tell 63 = .ok (.iconst 0, 1) := by decide +kernel
theorem dX0_tell_64 : decode cX0_tell 64 = .ok (.ireturn, 1) := by decide +kernel
theorem dX0_countLeft_0 : decode cX0_countLeft 0 = .ok (.iconst 0, 1) := by decide +kernel
theorem dX0_countLeft_1 : decode cX0_countLeft 1 = .ok (.istore_n 2, 1) := by decide +kernel
theorem dX0_countLeft_2 : decode cX0_countLeft 2 = .ok (.iconst 0, 1) := by decide +kernel
theorem dX0_countLeft_3 : decode cX0_countLeft 3 = .ok (.istore_n 3, 1) := by decide +kernel
theorem dX0_countLeft_4 : decode cX0_countLeft 4 = .ok (.iload_n 3, 1) := by decide +kernel
theorem dX0_countLeft_5 : decode cX0_countLeft 5 = .ok (.aload_n 0, 1) := by decide +kernel
theorem dX0_countLeft_6 : decode cX0_countLeft 6 = .ok (.getfield 21, 3) := by decide +kernel
theorem dX0_countLeft_9 : decode cX0_countLeft 9 = .ok (.if_icmp .ge 26, 3) := by decide +kernel
theorem dX0_countLeft_12 : decode cX0_countLeft 12 = .ok (.iload_n 2, 1) := by decide +kernel
theorem dX0_countLeft_13 : decode cX0_countLeft 13 = .ok (.aload_n 0, 1) := by decide +kernel
theorem dX0_countLeft_14 : decode cX0_countLeft 14 = .ok (.iload_n 3, 1) := by decide +kernel
theorem dX0_countLeft_15 : decode cX0_countLeft 15 = .ok (.aload_n 1, 1) := by decide +kernel
theorem dX0_countLeft_16 : decode cX0_countLeft 16 = .ok (.invokevirtual 38, 3) := by decide +kernel
theorem dX0_countLeft_19 : decode cX0_countLeft 19 = .ok (.ifCond .eq 7, 3) := by decide +kernel
theorem dX0_countLeft_22 : decode cX0_countLeft 22 = .ok (.iconst 0, 1) := by decide +kernel
theorem dX0_countLeft_23 : decode cX0_countLeft 23 = .ok (.goto 4, 3) := by decide +kernel
theorem dX0_countLeft_26 : decode cX0_countLeft 26 = .ok (.iconst 1, 1) := by decide +kernel
theorem dX0_countLeft_27 : decode cX0_countLeft 27 = .ok (.iadd, 1) := by decide +kernel
theorem dX0_countLeft_28 : decode cX0_countLeft 28 = .ok (.istore_n 2, 1) := by decide +kernel
theorem dX0_countLeft_29 : decode cX0_countLeft 29 = .ok (.iinc 3 1, 3) := by decide +kernel
theorem dX0_countLeft_32 : decode cX0_countLeft 32 = .ok (.goto (-28), 3) := by decide +kernel
theorem dX0_countLeft_35 : decode cX0_countLeft 35 = .ok (.iload_n 2, 1) := by decide +kernel
theorem dX0_countLeft_36 : decode cX0_countLeft 36 = .ok (.ireturn, 1) := by decide +kernel
theorem dX0_fewestSteps_0 : decode cX0_fewestSteps 0 = .ok (.aload_n 3, 1) := by decide +kernel
theorem dX0_fewestSteps_1 : decode cX0_fewestSteps 1 = .ok (.iload_n 1, 1) := by decide +kernel
theorem dX0_fewestSteps_2 : decode cX0_fewestSteps 2 = .ok (.invokevirtual 42, 3) := by decide +kernel
theorem dX0_fewestSteps_5 : decode cX0_fewestSteps 5 = .ok (.ifCond .eq 11, 3) := by decide +kernel
theorem dX0_fewestSteps_8 : decode cX0_fewestSteps 8 = .ok (.aload_n 3, 1) := by decide +kernel
theorem dX0_fewestSteps_9 : decode cX0_fewestSteps 9 = .ok (.iload_n 2, 1) := by decide +kernel
theorem dX0_fewestSteps_10 : decode cX0_fewestSteps 10 = .ok (.invokevirtual 42, 3) := by decide +kernel
theorem dX0_fewestSteps_13 : decode cX0_fewestSteps 13 = .ok (.ifCond .ne 5, 3) := by decide +kernel
theorem dX0_fewestSteps_16 : decode cX0_fewestSteps 16 = .ok (.iconst (-1), 1) := by decide +kernel
theorem dX0_fewestSteps_17 : decode cX0_fewestSteps 17 = .ok (.ireturn, 1) := by decide +kernel
theorem dX0_fewestSteps_18 : decode cX0_fewestSteps 18 = .ok (.iconst 0, 1) := by decide +kernel
theorem dX0_fewestSteps_19 : decode cX0_fewestSteps 19 = .ok (.istore 4, 2) := by decide +kernel
theorem dX0_fewestSteps_21 : decode cX0_fewestSteps 21 = .ok (.iload 4, 2) := by decide +kernel
theorem dX0_fewestSteps_23 : decode cX0_fewestSteps 23 = .ok (.bipush 40, 2) := by decide +kernel
theorem dX0_fewestSteps_25 : decode cX0_fewestSteps 25 = .ok (.if_icmp .ge 17, 3) := by decide +kernel
theorem dX0_fewestSteps_28 : decode cX0_fewestSteps 28 = .ok (.aload_n 0, 1) := by decide +kernel
theorem dX0_fewestSteps_29 : decode cX0_fewestSteps 29 = .ok (.getfield 18, 3) := by decide +kernel
theorem dX0_fewestSteps_32 : decode cX0_fewestSteps 32 = .ok (.iload 4, 2) := by decide +kernel
theorem dX0_fewestSteps_34 : decode cX0_fewestSteps 34 = .ok (.iconst (-1), 1) := by decide +kernel
theorem dX0_fewestSteps_35 : decode cX0_fewestSteps 35 = .ok (.iastore, 1) := by decide +kernel
theorem dX0_fewestSteps_36 : decode cX0_fewestSteps 36 = .ok (.iinc 4 1, 3) := by decide +kernel
theorem dX0_fewestSteps_39 : decode cX0_fewestSteps 39 = .ok (.goto (-18), 3) := by decide +kernel
theorem dX0_fewestSteps_42 : decode cX0_fewestSteps 42 = .ok (.aload_n 0, 1) := by decide +kernel
theorem dX0_fewestSteps_43 : decode cX0_fewestSteps 43 = .ok (.getfield 18, 3) := by decide +kernel
theorem dX0_fewestSteps_46 : decode cX0_fewestSteps 46 = .ok (.iload_n 1, 1) := by decide +kernel
theorem dX0_fewestSteps_47 : decode cX0_fewestSteps 47 = .ok (.iconst 0, 1) := by decide +kernel
theorem dX0_fewestSteps_48 : decode cX0_fewestSteps 48 = .ok (.iastore, 1) := by decide +kernel
theorem dX0_fewestSteps_49 : decode cX0_fewestSteps 49 = .ok (.iconst 1, 1) := by decide +kernel
theorem dX0_fewestSteps_50 : decode cX0_fewestSteps 50 = .ok (.istore 4, 2) := by decide +kernel
theorem dX0_fewestSteps_52 : decode cX0_fewestSteps 52 = .ok (.iconst 0, 1) := by decide +kernel
theorem dX0_fewestSteps_53 : decode cX0_fewestSteps 53 = .ok (.istore 5, 2) := by decide +kernel
theorem dX0_fewestSteps_55 : decode cX0_fewestSteps 55 = .ok (.iload 4, 2) := by decide +kernel
theorem dX0_fewestSteps_57 : decode cX0_fewestSteps 57 = .ok (.ifCond .eq 35, 3) := by decide +kernel
theorem dX0_fewestSteps_60 : decode cX0_fewestSteps 60 = .ok (.aload_n 0, 1) := by decide +kernel
theorem dX0_fewestSteps_61 : decode cX0_fewestSteps 61 = .ok (.getfield 18, 3) := by decide +kernel
theorem dX0_fewestSteps_64 : decode cX0_fewestSteps 64 = .ok (.iload_n 2, 1) := by decide +kernel
theorem dX0_fewestSteps_65 : decode cX0_fewestSteps 65 = .ok (.iaload, 1) := by decide +kernel
theorem dX0_fewestSteps_66 : decode cX0_fewestSteps 66 = .ok (.iconst (-1), 1) := by decide +kernel
theorem dX0_fewestSteps_67 : decode cX0_fewestSteps 67 = .ok (.if_icmp .ne 25, 3) := by decide +kernel
theorem dX0_fewestSteps_70 : decode cX0_fewestSteps 70 = .ok (.iload 5, 2) := by decide +kernel
theorem dX0_fewestSteps_72 : decode cX0_fewestSteps 72 = .ok (.bipush 40, 2) := by decide +kernel
theorem dX0_fewestSteps_74 : decode cX0_fewestSteps 74 = .ok (.if_icmp .ge 18, 3) := by decide +kernel
theorem dX0_fewestSteps_77 : decode cX0_fewestSteps 77 = .ok (.aload_n 0, 1) := by decide +kernel
theorem dX0_fewestSteps_78 : decode cX0_fewestSteps 78 = .ok (.iload 5, 2) := by decide +kernel
theorem dX0_fewestSteps_80 : decode cX0_fewestSteps 80 = .ok (.aload_n 3, 1) := by decide +kernel
theorem dX0_fewestSteps_81 : decode cX0_fewestSteps 81 = .ok (.invokevirtual 43, 3) := by decide +kernel
theorem dX0_fewestSteps_84 : decode cX0_fewestSteps 84 = .ok (.istore 4, 2) := by decide +kernel
theorem dX0_fewestSteps_86 : decode cX0_fewestSteps 86 = .ok (.iinc 5 1, 3) := by decide +kernel
theorem dX0_fewestSteps_89 : decode cX0_fewestSteps 89 = .ok (.goto (-34), 3) := by decide +kernel
theorem dX0_fewestSteps_92 : decode cX0_fewestSteps 92 = .ok (.aload_n 0, 1) := by decide +kernel
theorem dX0_fewestSteps_93 : decode cX0_fewestSteps 93 = .ok (.getfield 18, 3) := by decide +kernel
theorem dX0_fewestSteps_96 : decode cX0_fewestSteps 96 = .ok (.iload_n 2, 1) := by decide +kernel
theorem dX0_fewestSteps_97 : decode cX0_fewestSteps 97 = .ok (.iaload, 1) := by decide +kernel
theorem dX0_fewestSteps_98 : decode cX0_fewestSteps 98 = .ok (.ireturn, 1) := by decide +kernel
theorem dX0_reachFrom_0 : decode cX0_reachFrom 0 = .ok (.iconst 0, 1) := by decide +kernel
theorem dX0_reachFrom_1 : decode cX0_reachFrom 1 = .ok (.istore_n 3, 1) := by decide +kernel
theorem dX0_reachFrom_2 : decode cX0_reachFrom 2 = .ok (.iconst 0, 1) := by decide +kernel
theorem dX0_reachFrom_3 : decode cX0_reachFrom 3 = .ok (.istore 4, 2) := by decide +kernel
theorem dX0_reachFrom_5 : decode cX0_reachFrom 5 = .ok (.iload 4, 2) := by decide +kernel
theorem dX0_reachFrom_7 : decode cX0_reachFrom 7 = .ok (.aload_n 0, 1) := by decide +kernel
theorem dX0_reachFrom_8 : decode cX0_reachFrom 8 = .ok (.getfield 21, 3) := by decide +kernel
theorem dX0_reachFrom_11 : decode cX0_reachFrom 11 = .ok (.if_icmp .ge 65, 3) := by decide +kernel
theorem dX0_reachFrom_14 : decode cX0_reachFrom 14 = .ok (.aload_n 0, 1) := by decide +kernel
theorem dX0_reachFrom_15 : decode cX0_reachFrom 15 = .ok (.iload 4, 2) := by decide +kernel
theorem dX0_reachFrom_17 : decode cX0_reachFrom 17 = .ok (.aload_n 2, 1) := by decide +kernel
theorem dX0_reachFrom_18 : decode cX0_reachFrom 18 = .ok (.invokevirtual 38, 3) := by decide +kernel
theorem dX0_reachFrom_21 : decode cX0_reachFrom 21 = .ok (.ifCond .ne 49, 3) := by decide +kernel
theorem dX0_reachFrom_24 : decode cX0_reachFrom 24 = .ok (.aload_n 0, 1) := by decide +kernel
theorem dX0_reachFrom_25 : decode cX0_reachFrom 25 = .ok (.aload_n 0, 1) := by decide +kernel
theorem dX0_reachFrom_26 : decode cX0_reachFrom 26 = .ok (.getfield 9, 3) := by decide +kernel
theorem dX0_reachFrom_29 : decode cX0_reachFrom 29 = .ok (.iload 4, 2) := by decide +kernel
theorem dX0_reachFrom_31 : decode cX0_reachFrom 31 = .ok (.iaload, 1) := by decide +kernel
theorem dX0_reachFrom_32 : decode cX0_reachFrom 32 = .ok (.aload_n 0, 1) := by decide +kernel
theorem dX0_reachFrom_33 : decode cX0_reachFrom 33 = .ok (.getfield 15, 3) := by decide +kernel
theorem dX0_reachFrom_36 : decode cX0_reachFrom 36 = .ok (.iload 4, 2) := by decide +kernel
theorem dX0_reachFrom_38 : decode cX0_reachFrom 38 = .ok (.iaload, 1) := by decide +kernel
theorem dX0_reachFrom_39 : decode cX0_reachFrom 39 = .ok (.iload_n 1, 1) := by decide +kernel
theorem dX0_reachFrom_40 : decode cX0_reachFrom 40 = .ok (.invokevirtual 46, 3) := by decide +kernel
theorem dX0_reachFrom_43 : decode cX0_reachFrom 43 = .ok (.ifCond .ne 25, 3) := by decide +kernel
theorem dX0_reachFrom_46 : decode cX0_reachFrom 46 = .ok (.aload_n 0, 1) := by decide +kernel
theorem dX0_reachFrom_47 : decode cX0_reachFrom 47 = .ok (.aload_n 0, 1) := by decide +kernel
theorem dX0_reachFrom_48 : decode cX0_reachFrom 48 = .ok (.getfield 15, 3) := by decide +kernel
theorem dX0_reachFrom_51 : decode cX0_reachFrom 51 = .ok (.iload 4, 2) := by decide +kernel
theorem dX0_reachFrom_53 : decode cX0_reachFrom 53 = .ok (.iaload, 1) := by decide +kernel
theorem dX0_reachFrom_54 : decode cX0_reachFrom 54 = .ok (.aload_n 0, 1) := by decide +kernel
theorem dX0_reachFrom_55 : decode cX0_reachFrom 55 = .ok (.getfield 9, 3) := by decide +kernel
theorem dX0_reachFrom_58 : decode cX0_reachFrom 58 = .ok (.iload 4, 2) := by decide +kernel
theorem dX0_reachFrom_60 : decode cX0_reachFrom 60 = .ok (.iaload, 1) := by decide +kernel
theorem dX0_reachFrom_61 : decode cX0_reachFrom 61 = .ok (.iload_n 1, 1) := by decide +kernel
theorem dX0_reachFrom_62 : decode cX0_reachFrom 62 = .ok (.invokevirtual 46, 3) := by decide +kernel
theorem dX0_reachFrom_65 : decode cX0_reachFrom 65 = .ok (.ifCond .eq 5, 3) := by decide +kernel
theorem dX0_reachFrom_68 : decode cX0_reachFrom 68 = .ok (.iconst 1, 1) := by decide +kernel
theorem dX0_reachFrom_69 : decode cX0_reachFrom 69 = .ok (.istore_n 3, 1) := by decide +kernel
theorem dX0_reachFrom_70 : decode cX0_reachFrom 70 = .ok (.iinc 4 1, 3) := by decide +kernel
theorem dX0_reachFrom_73 : decode cX0_reachFrom 73 = .ok (.goto (-68), 3) := by decide +kernel
theorem dX0_reachFrom_76 : decode cX0_reachFrom 76 = .ok (.iload_n 3, 1) := by decide +kernel
theorem dX0_reachFrom_77 : decode cX0_reachFrom 77 = .ok (.ireturn, 1) := by decide +kernel
theorem dX0_stepOver_0 : decode cX0_stepOver 0 = .ok (.iload_n 1, 1) := by decide +kernel
theorem dX0_stepOver_1 : decode cX0_stepOver 1 = .ok (.invokestatic 50, 3) := by decide +kernel
theorem dX0_stepOver_4 : decode cX0_stepOver 4 = .ok (.ifCond .eq 30, 3) := by decide +kernel
theorem dX0_stepOver_7 : decode cX0_stepOver 7 = .ok (.iload_n 2, 1) := by decide +kernel
theorem dX0_stepOver_8 : decode cX0_stepOver 8 = .ok (.invokestatic 50, 3) := by decide +kernel
theorem dX0_stepOver_11 : decode cX0_stepOver 11 = .ok (.ifCond .eq 23, 3) := by decide +kernel
theorem dX0_stepOver_14 : decode cX0_stepOver 14 = .ok (.aload_n 0, 1) := by decide +kernel
theorem dX0_stepOver_15 : decode cX0_stepOver 15 = .ok (.getfield 18, 3) := by decide +kernel
theorem dX0_stepOver_18 : decode cX0_stepOver 18 = .ok (.iload_n 1, 1) := by decide +kernel
theorem dX0_stepOver_19 : decode cX0_stepOver 19 = .ok (.iaload, 1) := by decide +kernel
theorem dX0_stepOver_20 : decode cX0_stepOver 20 = .ok (.iload_n 3, 1) := by decide +kernel
theorem dX0_stepOver_21 : decode cX0_stepOver 21 = .ok (.if_icmp .ne 13, 3) := by decide +kernel
theorem dX0_stepOver_24 : decode cX0_stepOver 24 = .ok (.aload_n 0, 1) := by decide +kernel
theorem dX0_stepOver_25 : decode cX0_stepOver 25 = .ok (.getfield 18, 3) := by decide +kernel
theorem dX0_stepOver_28 : decode cX0_stepOver 28 = .ok (.iload_n 2, 1) := by decide +kernel
theorem dX0_stepOver_29 : decode cX0_stepOver 29 = .ok (.iaload, 1) := by decide +kernel
theorem dX0_stepOver_30 : decode cX0_stepOver 30 = .ok (.iconst (-1), 1) := by decide +kernel
theorem dX0_stepOver_31 : decode cX0_stepOver 31 = .ok (.if_icmp .eq 5, 3) := by decide +kernel
theorem dX0_stepOver_34 : decode cX0_stepOver 34 = .ok (.iconst 0, 1) := by decide +kernel
theorem dX0_stepOver_35 : decode cX0_stepOver 35 = .ok (.ireturn, 1) := by decide +kernel
theorem dX0_stepOver_36 : decode cX0_stepOver 36 = .ok (.aload_n 0, 1) := by decide +kernel
theorem dX0_stepOver_37 : decode cX0_stepOver 37 = .ok (.getfield 18, 3) := by decide +kernel
theorem dX0_stepOver_40 : decode cX0_stepOver 40 = .ok (.iload_n 2, 1) := by decide +kernel
theorem dX0_stepOver_41 : decode cX0_stepOver 41 = .ok (.iload_n 3, 1) := by decide +kernel
theorem dX0_stepOver_42 : decode cX0_stepOver 42 = .ok (.iconst 1, 1) := by decide +kernel
theorem dX0_stepOver_43 : decode cX0_stepOver 43 = .ok (.iadd, 1) := by decide +kernel
theorem dX0_stepOver_44 : decode cX0_stepOver 44 = .ok (.iastore, 1) := by decide +kernel
theorem dX0_stepOver_45 : decode cX0_stepOver 45 = .ok (.iconst 1, 1) := by decide +kernel
theorem dX0_stepOver_46 : decode cX0_stepOver 46 = .ok (.ireturn, 1) := by decide +kernel
theorem dX0_isPlace_0 : decode cX0_isPlace 0 = .ok (.iload_n 0, 1) := by decide +kernel
theorem dX0_isPlace_1 : decode cX0_isPlace 1 = .ok (.ifCond .lt 13, 3) := by decide +kernel
theorem dX0_isPlace_4 : decode cX0_isPlace 4 = .ok (.iload_n 0, 1) := by decide +kernel
theorem dX0_isPlace_5 : decode cX0_isPlace 5 = .ok (.bipush 40, 2) := by decide +kernel
theorem dX0_isPlace_7 : decode cX0_isPlace 7 = .ok (.if_icmp .ge 7, 3) := by decide +kernel
theorem dX0_isPlace_10 : decode cX0_isPlace 10 = .ok (.iconst 1, 1) := by decide +kernel
theorem dX0_isPlace_11 : decode cX0_isPlace 11 = .ok (.goto 4, 3) := by decide +kernel
theorem dX0_isPlace_14 : decode cX0_isPlace 14 = .ok (.iconst 0, 1) := by decide +kernel
theorem dX0_isPlace_15 : decode cX0_isPlace 15 = .ok (.ireturn, 1) := by decide +kernel
