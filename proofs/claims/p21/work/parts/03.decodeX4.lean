theorem dX4_init_0 : decode cX4_init 0 = .ok (.aload_n 0, 1) := by decide +kernel
theorem dX4_init_1 : decode cX4_init 1 = .ok (.invokespecial 1, 3) := by decide +kernel
theorem dX4_init_4 : decode cX4_init 4 = .ok (.aload_n 0, 1) := by decide +kernel
theorem dX4_init_5 : decode cX4_init 5 = .ok (.iconst 1, 1) := by decide +kernel
theorem dX4_init_6 : decode cX4_init 6 = .ok (.putfield 7, 3) := by decide +kernel
theorem dX4_init_9 : decode cX4_init 9 = .ok (.aload_n 0, 1) := by decide +kernel
theorem dX4_init_10 : decode cX4_init 10 = .ok (.iconst 0, 1) := by decide +kernel
theorem dX4_init_11 : decode cX4_init 11 = .ok (.newarray .int, 2) := by decide +kernel
theorem dX4_init_13 : decode cX4_init 13 = .ok (.putfield 13, 3) := by decide +kernel
theorem dX4_init_16 : decode cX4_init 16 = .ok (.return_, 1) := by decide +kernel
theorem dX4_isFrom_0 : decode cX4_isFrom 0 = .ok (.aload_n 0, 1) := by decide +kernel
theorem dX4_isFrom_1 : decode cX4_isFrom 1 = .ok (.getfield 13, 3) := by decide +kernel
theorem dX4_isFrom_4 : decode cX4_isFrom 4 = .ok (.astore_n 2, 1) := by decide +kernel
theorem dX4_isFrom_5 : decode cX4_isFrom 5 = .ok (.aload_n 2, 1) := by decide +kernel
theorem dX4_isFrom_6 : decode cX4_isFrom 6 = .ok (.arraylength, 1) := by decide +kernel
theorem dX4_isFrom_7 : decode cX4_isFrom 7 = .ok (.istore_n 3, 1) := by decide +kernel
theorem dX4_isFrom_8 : decode cX4_isFrom 8 = .ok (.iconst 0, 1) := by decide +kernel
theorem dX4_isFrom_9 : decode cX4_isFrom 9 = .ok (.istore 4, 2) := by decide +kernel
theorem dX4_isFrom_11 : decode cX4_isFrom 11 = .ok (.iload 4, 2) := by decide +kernel
theorem dX4_isFrom_13 : decode cX4_isFrom 13 = .ok (.iload_n 3, 1) := by decide +kernel
theorem dX4_isFrom_14 : decode cX4_isFrom 14 = .ok (.if_icmp .ge 23, 3) := by decide +kernel
theorem dX4_isFrom_17 : decode cX4_isFrom 17 = .ok (.aload_n 2, 1) := by decide +kernel
theorem dX4_isFrom_18 : decode cX4_isFrom 18 = .ok (.iload 4, 2) := by decide +kernel
theorem dX4_isFrom_20 : decode cX4_isFrom 20 = .ok (.iaload, 1) := by decide +kernel
theorem dX4_isFrom_21 : decode cX4_isFrom 21 = .ok (.istore 5, 2) := by decide +kernel
theorem dX4_isFrom_23 : decode cX4_isFrom 23 = .ok (.iload 5, 2) := by decide +kernel
theorem dX4_isFrom_25 : decode cX4_isFrom 25 = .ok (.iload_n 1, 1) := by decide +kernel
theorem dX4_isFrom_26 : decode cX4_isFrom 26 = .ok (.if_icmp .ne 5, 3) := by decide +kernel
theorem dX4_isFrom_29 : decode cX4_isFrom 29 = .ok (.iconst 1, 1) := by decide +kernel
theorem dX4_isFrom_30 : decode cX4_isFrom 30 = .ok (.ireturn, 1) := by decide +kernel
theorem dX4_isFrom_31 : decode cX4_isFrom 31 = .ok (.iinc 4 1, 3) := by decide +kernel
theorem dX4_isFrom_34 : decode cX4_isFrom 34 = .ok (.goto (-23), 3) := by decide +kernel
theorem dX4_isFrom_37 : decode cX4_isFrom 37 = .ok (.iconst 0, 1) := by decide +kernel
theorem dX4_isFrom_38 : decode cX4_isFrom 38 = .ok (.ireturn, 1) := by decide +kernel
theorem dX4_lose_0 : decode cX4_lose 0 = .ok (.aload_n 0, 1) := by decide +kernel
theorem dX4_lose_1 : decode cX4_lose 1 = .ok (.iload_n 1, 1) := by decide +kernel
theorem dX4_lose_2 : decode cX4_lose 2 = .ok (.invokevirtual 31, 3) := by decide +kernel
theorem dX4_lose_5 : decode cX4_lose 5 = .ok (.ifCond .ne 4, 3) := by decide +kernel
theorem dX4_lose_8 : decode cX4_lose 8 = .ok (.return_, 1) := by decide +kernel
theorem dX4_lose_9 : decode cX4_lose 9 = .ok (.aload_n 0, 1) := by decide +kernel
theorem dX4_lose_10 : decode cX4_lose 10 = .ok (.getfield 13, 3) := by decide +kernel
theorem dX4_lose_13 : decode cX4_lose 13 = .ok (.arraylength, 1) := by decide +kernel
theorem dX4_lose_14 : decode cX4_lose 14 = .ok (.iconst 1, 1) := by decide +kernel
theorem dX4_lose_15 : decode cX4_lose 15 = .ok (.isub, 1) := by decide +kernel
theorem dX4_lose_16 : decode cX4_lose 16 = .ok (.newarray .int, 2) := by decide +kernel
theorem dX4_lose_18 : decode cX4_lose 18 = .ok (.astore_n 2, 1) := by decide +kernel
theorem dX4_lose_19 : decode cX4_lose 19 = .ok (.iconst 0, 1) := by decide +kernel
theorem dX4_lose_20 : decode cX4_lose 20 = .ok (.istore_n 3, 1) := by decide +kernel
theorem dX4_lose_21 : decode cX4_lose 21 = .ok (.aload_n 0, 1) := by decide +kernel
theorem dX4_lose_22 : decode cX4_lose 22 = .ok (.getfield 13, 3) := by decide +kernel
theorem dX4_lose_25 : decode cX4_lose 25 = .ok (.astore 4, 2) := by decide +kernel
theorem dX4_lose_27 : decode cX4_lose 27 = .ok (.aload 4, 2) := by decide +kernel
theorem dX4_lose_29 : decode cX4_lose 29 = .ok (.arraylength, 1) := by decide +kernel
theorem dX4_lose_30 : decode cX4_lose 30 = .ok (.istore 5, 2) := by decide +kernel
theorem dX4_lose_32 : decode cX4_lose 32 = .ok (.iconst 0, 1) := by decide +kernel
theorem dX4_lose_33 : decode cX4_lose 33 = .ok (.istore 6, 2) := by decide +kernel
theorem dX4_lose_35 : decode cX4_lose 35 = .ok (.iload 6, 2) := by decide +kernel
theorem dX4_lose_37 : decode cX4_lose 37 = .ok (.iload 5, 2) := by decide +kernel
theorem dX4_lose_39 : decode cX4_lose 39 = .ok (.if_icmp .ge 33, 3) := by decide +kernel
theorem dX4_lose_42 : decode cX4_lose 42 = .ok (.aload 4, 2) := by decide +kernel
theorem dX4_lose_44 : decode cX4_lose 44 = .ok (.iload 6, 2) := by decide +kernel
theorem dX4_lose_46 : decode cX4_lose 46 = .ok (.iaload, 1) := by decide +kernel
theorem dX4_lose_47 : decode cX4_lose 47 = .ok (.istore 7, 2) := by decide +kernel
theorem dX4_lose_49 : decode cX4_lose 49 = .ok (.iload 7, 2) := by decide +kernel
theorem dX4_lose_51 : decode cX4_lose 51 = .ok (.iload_n 1, 1) := by decide +kernel
theorem dX4_lose_52 : decode cX4_lose 52 = .ok (.if_icmp .ne 6, 3) := by decide +kernel
theorem dX4_lose_55 : decode cX4_lose 55 = .ok (.goto 11, 3) := by decide +kernel
theorem dX4_lose_58 : decode cX4_lose 58 = .ok (.aload_n 2, 1) := by decide +kernel
theorem dX4_lose_59 : decode cX4_lose 59 = .ok (.iload_n 3, 1) := by decide +kernel
theorem dX4_lose_60 : decode cX4_lose 60 = .ok (.iload 7, 2) := by decide +kernel
theorem dX4_lose_62 : decode cX4_lose 62 = .ok (.iastore, 1) := by decide +kernel
theorem dX4_lose_63 : decode cX4_lose 63 = .ok (.iinc 3 1, 3) := by decide +kernel
theorem dX4_lose_66 : decode cX4_lose 66 = .ok (.iinc 6 1, 3) := by decide +kernel
theorem dX4_lose_69 : decode cX4_lose 69 = .ok (.goto (-34), 3) := by decide +kernel
theorem dX4_lose_72 : decode cX4_lose 72 = .ok (.aload_n 0, 1) := by decide +kernel
theorem dX4_lose_73 : decode cX4_lose 73 = .ok (.aload_n 2, 1) := by decide +kernel
theorem dX4_lose_74 : decode cX4_lose 74 = .ok (.putfield 13, 3) := by decide +kernel
theorem dX4_lose_77 : decode cX4_lose 77 = .ok (.return_, 1) := by decide +kernel
