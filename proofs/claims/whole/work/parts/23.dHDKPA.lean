theorem d_H_init_0 : decode b_H_init 0 = .ok (.aload_n 0, 1) := by decide +kernel
theorem d_H_init_1 : decode b_H_init 1 = .ok (.invokespecial 1, 3) := by decide +kernel
theorem d_H_init_4 : decode b_H_init 4 = .ok (.aload_n 0, 1) := by decide +kernel
theorem d_H_init_5 : decode b_H_init 5 = .ok (.iload_n 1, 1) := by decide +kernel
theorem d_H_init_6 : decode b_H_init 6 = .ok (.putfield 7, 3) := by decide +kernel
theorem d_H_init_9 : decode b_H_init 9 = .ok (.aload_n 0, 1) := by decide +kernel
theorem d_H_init_10 : decode b_H_init 10 = .ok (.iload_n 1, 1) := by decide +kernel
theorem d_H_init_11 : decode b_H_init 11 = .ok (.anewarray 13, 3) := by decide +kernel
theorem d_H_init_14 : decode b_H_init 14 = .ok (.putfield 15, 3) := by decide +kernel
theorem d_H_init_17 : decode b_H_init 17 = .ok (.aload_n 0, 1) := by decide +kernel
theorem d_H_init_18 : decode b_H_init 18 = .ok (.iload_n 1, 1) := by decide +kernel
theorem d_H_init_19 : decode b_H_init 19 = .ok (.newarray .int, 2) := by decide +kernel
theorem d_H_init_21 : decode b_H_init 21 = .ok (.putfield 19, 3) := by decide +kernel
theorem d_H_init_24 : decode b_H_init 24 = .ok (.iconst 0, 1) := by decide +kernel
theorem d_H_init_25 : decode b_H_init 25 = .ok (.istore_n 2, 1) := by decide +kernel
theorem d_H_init_26 : decode b_H_init 26 = .ok (.iload_n 2, 1) := by decide +kernel
theorem d_H_init_27 : decode b_H_init 27 = .ok (.iload_n 1, 1) := by decide +kernel
theorem d_H_init_28 : decode b_H_init 28 = .ok (.if_icmp .ge 24, 3) := by decide +kernel
theorem d_H_init_31 : decode b_H_init 31 = .ok (.aload_n 0, 1) := by decide +kernel
theorem d_H_init_32 : decode b_H_init 32 = .ok (.getfield 15, 3) := by decide +kernel
theorem d_H_init_35 : decode b_H_init 35 = .ok (.iload_n 2, 1) := by decide +kernel
theorem d_H_init_36 : decode b_H_init 36 = .ok (.new 13, 3) := by decide +kernel
theorem d_H_init_39 : decode b_H_init 39 = .ok (.dup, 1) := by decide +kernel
theorem d_H_init_40 : decode b_H_init 40 = .ok (.iload_n 2, 1) := by decide +kernel
theorem d_H_init_41 : decode b_H_init 41 = .ok (.iload_n 1, 1) := by decide +kernel
theorem d_H_init_42 : decode b_H_init 42 = .ok (.invokespecial 23, 3) := by decide +kernel
theorem d_H_init_45 : decode b_H_init 45 = .ok (.aastore, 1) := by decide +kernel
theorem d_H_init_46 : decode b_H_init 46 = .ok (.iinc 2 1, 3) := by decide +kernel
theorem d_H_init_49 : decode b_H_init 49 = .ok (.goto (-23), 3) := by decide +kernel
theorem d_H_init_52 : decode b_H_init 52 = .ok (.return_, 1) := by decide +kernel
theorem d_H_build_0 : decode b_H_build 0 = .ok (.iconst 0, 1) := by decide +kernel
theorem d_H_build_1 : decode b_H_build 1 = .ok (.istore_n 3, 1) := by decide +kernel
theorem d_H_build_2 : decode b_H_build 2 = .ok (.iload_n 3, 1) := by decide +kernel
theorem d_H_build_3 : decode b_H_build 3 = .ok (.aload_n 0, 1) := by decide +kernel
theorem d_H_build_4 : decode b_H_build 4 = .ok (.getfield 7, 3) := by decide +kernel
theorem d_H_build_7 : decode b_H_build 7 = .ok (.if_icmp .ge 18, 3) := by decide +kernel
theorem d_H_build_10 : decode b_H_build 10 = .ok (.aload_n 0, 1) := by decide +kernel
theorem d_H_build_11 : decode b_H_build 11 = .ok (.getfield 15, 3) := by decide +kernel
theorem d_H_build_14 : decode b_H_build 14 = .ok (.iload_n 3, 1) := by decide +kernel
theorem d_H_build_15 : decode b_H_build 15 = .ok (.aaload, 1) := by decide +kernel
theorem d_H_build_16 : decode b_H_build 16 = .ok (.invokevirtual 26, 3) := by decide +kernel
theorem d_H_build_19 : decode b_H_build 19 = .ok (.iinc 3 1, 3) := by decide +kernel
theorem d_H_build_22 : decode b_H_build 22 = .ok (.goto (-20), 3) := by decide +kernel
theorem d_H_build_25 : decode b_H_build 25 = .ok (.iconst 0, 1) := by decide +kernel
theorem d_H_build_26 : decode b_H_build 26 = .ok (.istore_n 3, 1) := by decide +kernel
theorem d_H_build_27 : decode b_H_build 27 = .ok (.iload_n 3, 1) := by decide +kernel
theorem d_H_build_28 : decode b_H_build 28 = .ok (.iload_n 2, 1) := by decide +kernel
theorem d_H_build_29 : decode b_H_build 29 = .ok (.if_icmp .ge 40, 3) := by decide +kernel
theorem d_H_build_32 : decode b_H_build 32 = .ok (.aload_n 0, 1) := by decide +kernel
theorem d_H_build_33 : decode b_H_build 33 = .ok (.aload_n 1, 1) := by decide +kernel
theorem d_H_build_34 : decode b_H_build 34 = .ok (.iload_n 3, 1) := by decide +kernel
theorem d_H_build_35 : decode b_H_build 35 = .ok (.aaload, 1) := by decide +kernel
theorem d_H_build_36 : decode b_H_build 36 = .ok (.invokevirtual 29, 3) := by decide +kernel
theorem d_H_build_39 : decode b_H_build 39 = .ok (.aload_n 0, 1) := by decide +kernel
theorem d_H_build_40 : decode b_H_build 40 = .ok (.getfield 7, 3) := by decide +kernel
theorem d_H_build_43 : decode b_H_build 43 = .ok (.if_icmp .ge 20, 3) := by decide +kernel
theorem d_H_build_46 : decode b_H_build 46 = .ok (.aload_n 0, 1) := by decide +kernel
theorem d_H_build_47 : decode b_H_build 47 = .ok (.getfield 15, 3) := by decide +kernel
theorem d_H_build_50 : decode b_H_build 50 = .ok (.iconst 0, 1) := by decide +kernel
theorem d_H_build_51 : decode b_H_build 51 = .ok (.aaload, 1) := by decide +kernel
theorem d_H_build_52 : decode b_H_build 52 = .ok (.aload_n 0, 1) := by decide +kernel
theorem d_H_build_53 : decode b_H_build 53 = .ok (.getfield 19, 3) := by decide +kernel
theorem d_H_build_56 : decode b_H_build 56 = .ok (.invokevirtual 33, 3) := by decide +kernel
theorem d_H_build_59 : decode b_H_build 59 = .ok (.aload_n 0, 1) := by decide +kernel
theorem d_H_build_60 : decode b_H_build 60 = .ok (.invokevirtual 37, 3) := by decide +kernel
theorem d_H_build_63 : decode b_H_build 63 = .ok (.iinc 3 1, 3) := by decide +kernel
theorem d_H_build_66 : decode b_H_build 66 = .ok (.goto (-39), 3) := by decide +kernel
theorem d_H_build_69 : decode b_H_build 69 = .ok (.return_, 1) := by decide +kernel
theorem d_H_spreadSize_0 : decode b_H_spreadSize 0 = .ok (.aload_n 0, 1) := by decide +kernel
theorem d_H_spreadSize_1 : decode b_H_spreadSize 1 = .ok (.getfield 15, 3) := by decide +kernel
theorem d_H_spreadSize_4 : decode b_H_spreadSize 4 = .ok (.iload_n 1, 1) := by decide +kernel
theorem d_H_spreadSize_5 : decode b_H_spreadSize 5 = .ok (.aaload, 1) := by decide +kernel
theorem d_H_spreadSize_6 : decode b_H_spreadSize 6 = .ok (.invokevirtual 40, 3) := by decide +kernel
theorem d_H_spreadSize_9 : decode b_H_spreadSize 9 = .ok (.ireturn, 1) := by decide +kernel
theorem d_H_failingPlace_0 : decode b_H_failingPlace 0 = .ok (.aload_n 1, 1) := by decide +kernel
theorem d_H_failingPlace_1 : decode b_H_failingPlace 1 = .ok (.iconst 0, 1) := by decide +kernel
theorem d_H_failingPlace_2 : decode b_H_failingPlace 2 = .ok (.aload_n 0, 1) := by decide +kernel
theorem d_H_failingPlace_3 : decode b_H_failingPlace 3 = .ok (.getfield 19, 3) := by decide +kernel
theorem d_H_failingPlace_6 : decode b_H_failingPlace 6 = .ok (.iconst 0, 1) := by decide +kernel
theorem d_H_failingPlace_7 : decode b_H_failingPlace 7 = .ok (.aload_n 0, 1) := by decide +kernel
theorem d_H_failingPlace_8 : decode b_H_failingPlace 8 = .ok (.getfield 7, 3) := by decide +kernel
theorem d_H_failingPlace_11 : decode b_H_failingPlace 11 = .ok (.invokestatic 44, 3) := by decide +kernel
theorem d_H_failingPlace_14 : decode b_H_failingPlace 14 = .ok (.aload_n 0, 1) := by decide +kernel
theorem d_H_failingPlace_15 : decode b_H_failingPlace 15 = .ok (.iconst 0, 1) := by decide +kernel
theorem d_H_failingPlace_16 : decode b_H_failingPlace 16 = .ok (.invokevirtual 50, 3) := by decide +kernel
theorem d_H_failingPlace_19 : decode b_H_failingPlace 19 = .ok (.ireturn, 1) := by decide +kernel
theorem d_H_siftWork_0 : decode b_H_siftWork 0 = .ok (.iload_n 1, 1) := by decide +kernel
theorem d_H_siftWork_1 : decode b_H_siftWork 1 = .ok (.istore_n 2, 1) := by decide +kernel
theorem d_H_siftWork_2 : decode b_H_siftWork 2 = .ok (.iload_n 2, 1) := by decide +kernel
theorem d_H_siftWork_3 : decode b_H_siftWork 3 = .ok (.aload_n 0, 1) := by decide +kernel
theorem d_H_siftWork_4 : decode b_H_siftWork 4 = .ok (.getfield 7, 3) := by decide +kernel
theorem d_H_siftWork_7 : decode b_H_siftWork 7 = .ok (.if_icmp .ge 37, 3) := by decide +kernel
theorem d_H_siftWork_10 : decode b_H_siftWork 10 = .ok (.aload_n 0, 1) := by decide +kernel
theorem d_H_siftWork_11 : decode b_H_siftWork 11 = .ok (.getfield 19, 3) := by decide +kernel
theorem d_H_siftWork_14 : decode b_H_siftWork 14 = .ok (.iload_n 2, 1) := by decide +kernel
theorem d_H_siftWork_15 : decode b_H_siftWork 15 = .ok (.iaload, 1) := by decide +kernel
theorem d_H_siftWork_16 : decode b_H_siftWork 16 = .ok (.iload_n 2, 1) := by decide +kernel
theorem d_H_siftWork_17 : decode b_H_siftWork 17 = .ok (.if_icmp .eq 21, 3) := by decide +kernel
theorem d_H_siftWork_20 : decode b_H_siftWork 20 = .ok (.aload_n 0, 1) := by decide +kernel
theorem d_H_siftWork_21 : decode b_H_siftWork 21 = .ok (.getfield 15, 3) := by decide +kernel
theorem d_H_siftWork_24 : decode b_H_siftWork 24 = .ok (.iload_n 2, 1) := by decide +kernel
theorem d_H_siftWork_25 : decode b_H_siftWork 25 = .ok (.aaload, 1) := by decide +kernel
theorem d_H_siftWork_26 : decode b_H_siftWork 26 = .ok (.aload_n 0, 1) := by decide +kernel
theorem d_H_siftWork_27 : decode b_H_siftWork 27 = .ok (.getfield 19, 3) := by decide +kernel
theorem d_H_siftWork_30 : decode b_H_siftWork 30 = .ok (.invokevirtual 54, 3) := by decide +kernel
theorem d_H_siftWork_33 : decode b_H_siftWork 33 = .ok (.ifCond .ne 5, 3) := by decide +kernel
theorem d_H_siftWork_36 : decode b_H_siftWork 36 = .ok (.iload_n 2, 1) := by decide +kernel
theorem d_H_siftWork_37 : decode b_H_siftWork 37 = .ok (.ireturn, 1) := by decide +kernel
theorem d_H_siftWork_38 : decode b_H_siftWork 38 = .ok (.iinc 2 1, 3) := by decide +kernel
theorem d_H_siftWork_41 : decode b_H_siftWork 41 = .ok (.goto (-39), 3) := by decide +kernel
theorem d_H_siftWork_44 : decode b_H_siftWork 44 = .ok (.aload_n 0, 1) := by decide +kernel
theorem d_H_siftWork_45 : decode b_H_siftWork 45 = .ok (.getfield 7, 3) := by decide +kernel
theorem d_H_siftWork_48 : decode b_H_siftWork 48 = .ok (.ireturn, 1) := by decide +kernel
theorem d_H_complete_0 : decode b_H_complete 0 = .ok (.iconst 0, 1) := by decide +kernel
theorem d_H_complete_1 : decode b_H_complete 1 = .ok (.istore_n 1, 1) := by decide +kernel
theorem d_H_complete_2 : decode b_H_complete 2 = .ok (.iconst 0, 1) := by decide +kernel
theorem d_H_complete_3 : decode b_H_complete 3 = .ok (.istore_n 2, 1) := by decide +kernel
theorem d_H_complete_4 : decode b_H_complete 4 = .ok (.iload_n 1, 1) := by decide +kernel
theorem d_H_complete_5 : decode b_H_complete 5 = .ok (.ifCond .lt 21, 3) := by decide +kernel
theorem d_H_complete_8 : decode b_H_complete 8 = .ok (.iload_n 2, 1) := by decide +kernel
theorem d_H_complete_9 : decode b_H_complete 9 = .ok (.ldc 58, 2) := by decide +kernel
theorem d_H_complete_11 : decode b_H_complete 11 = .ok (.if_icmp .ge 15, 3) := by decide +kernel
theorem d_H_complete_14 : decode b_H_complete 14 = .ok (.aload_n 0, 1) := by decide +kernel
theorem d_H_complete_15 : decode b_H_complete 15 = .ok (.iload_n 1, 1) := by decide +kernel
theorem d_H_complete_16 : decode b_H_complete 16 = .ok (.invokevirtual 59, 3) := by decide +kernel
theorem d_H_complete_19 : decode b_H_complete 19 = .ok (.istore_n 1, 1) := by decide +kernel
theorem d_H_complete_20 : decode b_H_complete 20 = .ok (.iinc 2 1, 3) := by decide +kernel
theorem d_H_complete_23 : decode b_H_complete 23 = .ok (.goto (-19), 3) := by decide +kernel
theorem d_H_complete_26 : decode b_H_complete 26 = .ok (.return_, 1) := by decide +kernel
theorem d_H_advance_0 : decode b_H_advance 0 = .ok (.aload_n 0, 1) := by decide +kernel
theorem d_H_advance_1 : decode b_H_advance 1 = .ok (.getfield 15, 3) := by decide +kernel
theorem d_H_advance_4 : decode b_H_advance 4 = .ok (.iload_n 1, 1) := by decide +kernel
theorem d_H_advance_5 : decode b_H_advance 5 = .ok (.aaload, 1) := by decide +kernel
theorem d_H_advance_6 : decode b_H_advance 6 = .ok (.astore_n 2, 1) := by decide +kernel
theorem d_H_advance_7 : decode b_H_advance 7 = .ok (.aload_n 2, 1) := by decide +kernel
theorem d_H_advance_8 : decode b_H_advance 8 = .ok (.invokevirtual 62, 3) := by decide +kernel
theorem d_H_advance_11 : decode b_H_advance 11 = .ok (.istore_n 3, 1) := by decide +kernel
theorem d_H_advance_12 : decode b_H_advance 12 = .ok (.iload_n 3, 1) := by decide +kernel
theorem d_H_advance_13 : decode b_H_advance 13 = .ok (.ifCond .ge 7, 3) := by decide +kernel
theorem d_H_advance_16 : decode b_H_advance 16 = .ok (.iload_n 1, 1) := by decide +kernel
theorem d_H_advance_17 : decode b_H_advance 17 = .ok (.iconst 1, 1) := by decide +kernel
theorem d_H_advance_18 : decode b_H_advance 18 = .ok (.isub, 1) := by decide +kernel
theorem d_H_advance_19 : decode b_H_advance 19 = .ok (.ireturn, 1) := by decide +kernel
theorem d_H_advance_20 : decode b_H_advance 20 = .ok (.aload_n 2, 1) := by decide +kernel
theorem d_H_advance_21 : decode b_H_advance 21 = .ok (.iload_n 3, 1) := by decide +kernel
theorem d_H_advance_22 : decode b_H_advance 22 = .ok (.aload_n 0, 1) := by decide +kernel
theorem d_H_advance_23 : decode b_H_advance 23 = .ok (.getfield 19, 3) := by decide +kernel
theorem d_H_advance_26 : decode b_H_advance 26 = .ok (.invokevirtual 65, 3) := by decide +kernel
theorem d_H_advance_29 : decode b_H_advance 29 = .ok (.ifCond .eq 5, 3) := by decide +kernel
theorem d_H_advance_32 : decode b_H_advance 32 = .ok (.iload_n 1, 1) := by decide +kernel
theorem d_H_advance_33 : decode b_H_advance 33 = .ok (.ireturn, 1) := by decide +kernel
theorem d_H_advance_34 : decode b_H_advance 34 = .ok (.iload_n 1, 1) := by decide +kernel
theorem d_H_advance_35 : decode b_H_advance 35 = .ok (.iconst 1, 1) := by decide +kernel
theorem d_H_advance_36 : decode b_H_advance 36 = .ok (.iadd, 1) := by decide +kernel
theorem d_H_advance_37 : decode b_H_advance 37 = .ok (.istore 4, 2) := by decide +kernel
theorem d_H_advance_39 : decode b_H_advance 39 = .ok (.iload 4, 2) := by decide +kernel
theorem d_H_advance_41 : decode b_H_advance 41 = .ok (.aload_n 0, 1) := by decide +kernel
theorem d_H_advance_42 : decode b_H_advance 42 = .ok (.getfield 7, 3) := by decide +kernel
theorem d_H_advance_45 : decode b_H_advance 45 = .ok (.if_icmp .ge 16, 3) := by decide +kernel
theorem d_H_advance_48 : decode b_H_advance 48 = .ok (.aload_n 0, 1) := by decide +kernel
theorem d_H_advance_49 : decode b_H_advance 49 = .ok (.iload 4, 2) := by decide +kernel
theorem d_H_advance_51 : decode b_H_advance 51 = .ok (.invokevirtual 50, 3) := by decide +kernel
theorem d_H_advance_54 : decode b_H_advance 54 = .ok (.aload_n 0, 1) := by decide +kernel
theorem d_H_advance_55 : decode b_H_advance 55 = .ok (.getfield 7, 3) := by decide +kernel
theorem d_H_advance_58 : decode b_H_advance 58 = .ok (.if_icmp .lt 5, 3) := by decide +kernel
theorem d_H_advance_61 : decode b_H_advance 61 = .ok (.iload_n 1, 1) := by decide +kernel
theorem d_H_advance_62 : decode b_H_advance 62 = .ok (.ireturn, 1) := by decide +kernel
theorem d_H_advance_63 : decode b_H_advance 63 = .ok (.aload_n 0, 1) := by decide +kernel
theorem d_H_advance_64 : decode b_H_advance 64 = .ok (.getfield 15, 3) := by decide +kernel
theorem d_H_advance_67 : decode b_H_advance 67 = .ok (.iload 4, 2) := by decide +kernel
theorem d_H_advance_69 : decode b_H_advance 69 = .ok (.aaload, 1) := by decide +kernel
theorem d_H_advance_70 : decode b_H_advance 70 = .ok (.aload_n 0, 1) := by decide +kernel
theorem d_H_advance_71 : decode b_H_advance 71 = .ok (.getfield 19, 3) := by decide +kernel
theorem d_H_advance_74 : decode b_H_advance 74 = .ok (.invokevirtual 33, 3) := by decide +kernel
theorem d_H_advance_77 : decode b_H_advance 77 = .ok (.iload 4, 2) := by decide +kernel
theorem d_H_advance_79 : decode b_H_advance 79 = .ok (.ireturn, 1) := by decide +kernel
theorem d_D_init_0 : decode b_D_init 0 = .ok (.aload_n 0, 1) := by decide +kernel
theorem d_D_init_1 : decode b_D_init 1 = .ok (.invokespecial 1, 3) := by decide +kernel
theorem d_D_init_4 : decode b_D_init 4 = .ok (.aload_n 0, 1) := by decide +kernel
theorem d_D_init_5 : decode b_D_init 5 = .ok (.bipush 24, 2) := by decide +kernel
theorem d_D_init_7 : decode b_D_init 7 = .ok (.newarray .int, 2) := by decide +kernel
theorem d_D_init_9 : decode b_D_init 9 = .ok (.putfield 9, 3) := by decide +kernel
theorem d_D_init_12 : decode b_D_init 12 = .ok (.return_, 1) := by decide +kernel
theorem d_D_setOne_0 : decode b_D_setOne 0 = .ok (.aload_n 0, 1) := by decide +kernel
theorem d_D_setOne_1 : decode b_D_setOne 1 = .ok (.getfield 9, 3) := by decide +kernel
theorem d_D_setOne_4 : decode b_D_setOne 4 = .ok (.iconst 0, 1) := by decide +kernel
theorem d_D_setOne_5 : decode b_D_setOne 5 = .ok (.invokestatic 13, 3) := by decide +kernel
theorem d_D_setOne_8 : decode b_D_setOne 8 = .ok (.aload_n 0, 1) := by decide +kernel
theorem d_D_setOne_9 : decode b_D_setOne 9 = .ok (.getfield 9, 3) := by decide +kernel
theorem d_D_setOne_12 : decode b_D_setOne 12 = .ok (.iconst 0, 1) := by decide +kernel
theorem d_D_setOne_13 : decode b_D_setOne 13 = .ok (.iconst 1, 1) := by decide +kernel
theorem d_D_setOne_14 : decode b_D_setOne 14 = .ok (.iastore, 1) := by decide +kernel
theorem d_D_setOne_15 : decode b_D_setOne 15 = .ok (.return_, 1) := by decide +kernel
theorem d_D_multiply_0 : decode b_D_multiply 0 = .ok (.iconst 0, 1) := by decide +kernel
theorem d_D_multiply_1 : decode b_D_multiply 1 = .ok (.istore_n 2, 1) := by decide +kernel
theorem d_D_multiply_2 : decode b_D_multiply 2 = .ok (.iconst 0, 1) := by decide +kernel
theorem d_D_multiply_3 : decode b_D_multiply 3 = .ok (.istore_n 3, 1) := by decide +kernel
theorem d_D_multiply_4 : decode b_D_multiply 4 = .ok (.iload_n 3, 1) := by decide +kernel
theorem d_D_multiply_5 : decode b_D_multiply 5 = .ok (.aload_n 0, 1) := by decide +kernel
theorem d_D_multiply_6 : decode b_D_multiply 6 = .ok (.getfield 9, 3) := by decide +kernel
theorem d_D_multiply_9 : decode b_D_multiply 9 = .ok (.arraylength, 1) := by decide +kernel
theorem d_D_multiply_10 : decode b_D_multiply 10 = .ok (.if_icmp .ge 38, 3) := by decide +kernel
theorem d_D_multiply_13 : decode b_D_multiply 13 = .ok (.aload_n 0, 1) := by decide +kernel
theorem d_D_multiply_14 : decode b_D_multiply 14 = .ok (.getfield 9, 3) := by decide +kernel
theorem d_D_multiply_17 : decode b_D_multiply 17 = .ok (.iload_n 3, 1) := by decide +kernel
theorem d_D_multiply_18 : decode b_D_multiply 18 = .ok (.iaload, 1) := by decide +kernel
theorem d_D_multiply_19 : decode b_D_multiply 19 = .ok (.iload_n 1, 1) := by decide +kernel
theorem d_D_multiply_20 : decode b_D_multiply 20 = .ok (.imul, 1) := by decide +kernel
theorem d_D_multiply_21 : decode b_D_multiply 21 = .ok (.iload_n 2, 1) := by decide +kernel
theorem d_D_multiply_22 : decode b_D_multiply 22 = .ok (.iadd, 1) := by decide +kernel
theorem d_D_multiply_23 : decode b_D_multiply 23 = .ok (.istore 4, 2) := by decide +kernel
theorem d_D_multiply_25 : decode b_D_multiply 25 = .ok (.aload_n 0, 1) := by decide +kernel
theorem d_D_multiply_26 : decode b_D_multiply 26 = .ok (.getfield 9, 3) := by decide +kernel
theorem d_D_multiply_29 : decode b_D_multiply 29 = .ok (.iload_n 3, 1) := by decide +kernel
theorem d_D_multiply_30 : decode b_D_multiply 30 = .ok (.iload 4, 2) := by decide +kernel
theorem d_D_multiply_32 : decode b_D_multiply 32 = .ok (.bipush 10, 2) := by decide +kernel
theorem d_D_multiply_34 : decode b_D_multiply 34 = .ok (.irem, 1) := by decide +kernel
theorem d_D_multiply_35 : decode b_D_multiply 35 = .ok (.iastore, 1) := by decide +kernel
theorem d_D_multiply_36 : decode b_D_multiply 36 = .ok (.iload 4, 2) := by decide +kernel
theorem d_D_multiply_38 : decode b_D_multiply 38 = .ok (.bipush 10, 2) := by decide +kernel
theorem d_D_multiply_40 : decode b_D_multiply 40 = .ok (.idiv, 1) := by decide +kernel
theorem d_D_multiply_41 : decode b_D_multiply 41 = .ok (.istore_n 2, 1) := by decide +kernel
theorem d_D_multiply_42 : decode b_D_multiply 42 = .ok (.iinc 3 1, 3) := by decide +kernel
theorem d_D_multiply_45 : decode b_D_multiply 45 = .ok (.goto (-41), 3) := by decide +kernel
theorem d_D_multiply_48 : decode b_D_multiply 48 = .ok (.return_, 1) := by decide +kernel
theorem d_D_divide_0 : decode b_D_divide 0 = .ok (.iload_n 1, 1) := by decide +kernel
theorem d_D_divide_1 : decode b_D_divide 1 = .ok (.iconst 1, 1) := by decide +kernel
theorem d_D_divide_2 : decode b_D_divide 2 = .ok (.if_icmp .ge 4, 3) := by decide +kernel
theorem d_D_divide_5 : decode b_D_divide 5 = .ok (.return_, 1) := by decide +kernel
theorem d_D_divide_6 : decode b_D_divide 6 = .ok (.iconst 0, 1) := by decide +kernel
theorem d_D_divide_7 : decode b_D_divide 7 = .ok (.istore_n 2, 1) := by decide +kernel
theorem d_D_divide_8 : decode b_D_divide 8 = .ok (.aload_n 0, 1) := by decide +kernel
theorem d_D_divide_9 : decode b_D_divide 9 = .ok (.getfield 9, 3) := by decide +kernel
theorem d_D_divide_12 : decode b_D_divide 12 = .ok (.arraylength, 1) := by decide +kernel
theorem d_D_divide_13 : decode b_D_divide 13 = .ok (.iconst 1, 1) := by decide +kernel
theorem d_D_divide_14 : decode b_D_divide 14 = .ok (.isub, 1) := by decide +kernel
theorem d_D_divide_15 : decode b_D_divide 15 = .ok (.istore_n 3, 1) := by decide +kernel
theorem d_D_divide_16 : decode b_D_divide 16 = .ok (.iload_n 3, 1) := by decide +kernel
theorem d_D_divide_17 : decode b_D_divide 17 = .ok (.ifCond .lt 37, 3) := by decide +kernel
theorem d_D_divide_20 : decode b_D_divide 20 = .ok (.iload_n 2, 1) := by decide +kernel
theorem d_D_divide_21 : decode b_D_divide 21 = .ok (.bipush 10, 2) := by decide +kernel
theorem d_D_divide_23 : decode b_D_divide 23 = .ok (.imul, 1) := by decide +kernel
theorem d_D_divide_24 : decode b_D_divide 24 = .ok (.aload_n 0, 1) := by decide +kernel
theorem d_D_divide_25 : decode b_D_divide 25 = .ok (.getfield 9, 3) := by decide +kernel
theorem d_D_divide_28 : decode b_D_divide 28 = .ok (.iload_n 3, 1) := by decide +kernel
theorem d_D_divide_29 : decode b_D_divide 29 = .ok (.iaload, 1) := by decide +kernel
theorem d_D_divide_30 : decode b_D_divide 30 = .ok (.iadd, 1) := by decide +kernel
theorem d_D_divide_31 : decode b_D_divide 31 = .ok (.istore 4, 2) := by decide +kernel
theorem d_D_divide_33 : decode b_D_divide 33 = .ok (.aload_n 0, 1) := by decide +kernel
theorem d_D_divide_34 : decode b_D_divide 34 = .ok (.getfield 9, 3) := by decide +kernel
theorem d_D_divide_37 : decode b_D_divide 37 = .ok (.iload_n 3, 1) := by decide +kernel
theorem d_D_divide_38 : decode b_D_divide 38 = .ok (.iload 4, 2) := by decide +kernel
theorem d_D_divide_40 : decode b_D_divide 40 = .ok (.iload_n 1, 1) := by decide +kernel
theorem d_D_divide_41 : decode b_D_divide 41 = .ok (.idiv, 1) := by decide +kernel
theorem d_D_divide_42 : decode b_D_divide 42 = .ok (.iastore, 1) := by decide +kernel
theorem d_D_divide_43 : decode b_D_divide 43 = .ok (.iload 4, 2) := by decide +kernel
theorem d_D_divide_45 : decode b_D_divide 45 = .ok (.iload_n 1, 1) := by decide +kernel
theorem d_D_divide_46 : decode b_D_divide 46 = .ok (.irem, 1) := by decide +kernel
theorem d_D_divide_47 : decode b_D_divide 47 = .ok (.istore_n 2, 1) := by decide +kernel
theorem d_D_divide_48 : decode b_D_divide 48 = .ok (.iinc 3 (-1), 3) := by decide +kernel
theorem d_D_divide_51 : decode b_D_divide 51 = .ok (.goto (-35), 3) := by decide +kernel
theorem d_D_divide_54 : decode b_D_divide 54 = .ok (.return_, 1) := by decide +kernel
theorem d_D_digit_0 : decode b_D_digit 0 = .ok (.iload_n 1, 1) := by decide +kernel
theorem d_D_digit_1 : decode b_D_digit 1 = .ok (.ifCond .lt 20, 3) := by decide +kernel
theorem d_D_digit_4 : decode b_D_digit 4 = .ok (.iload_n 1, 1) := by decide +kernel
theorem d_D_digit_5 : decode b_D_digit 5 = .ok (.aload_n 0, 1) := by decide +kernel
theorem d_D_digit_6 : decode b_D_digit 6 = .ok (.invokevirtual 19, 3) := by decide +kernel
theorem d_D_digit_9 : decode b_D_digit 9 = .ok (.if_icmp .ge 12, 3) := by decide +kernel
theorem d_D_digit_12 : decode b_D_digit 12 = .ok (.aload_n 0, 1) := by decide +kernel
theorem d_D_digit_13 : decode b_D_digit 13 = .ok (.getfield 9, 3) := by decide +kernel
theorem d_D_digit_16 : decode b_D_digit 16 = .ok (.iload_n 1, 1) := by decide +kernel
theorem d_D_digit_17 : decode b_D_digit 17 = .ok (.iaload, 1) := by decide +kernel
theorem d_D_digit_18 : decode b_D_digit 18 = .ok (.goto 4, 3) := by decide +kernel
theorem d_D_digit_21 : decode b_D_digit 21 = .ok (.iconst (-1), 1) := by decide +kernel
theorem d_D_digit_22 : decode b_D_digit 22 = .ok (.ireturn, 1) := by decide +kernel
theorem d_D_length_0 : decode b_D_length 0 = .ok (.aload_n 0, 1) := by decide +kernel
theorem d_D_length_1 : decode b_D_length 1 = .ok (.getfield 9, 3) := by decide +kernel
theorem d_D_length_4 : decode b_D_length 4 = .ok (.arraylength, 1) := by decide +kernel
theorem d_D_length_5 : decode b_D_length 5 = .ok (.istore_n 1, 1) := by decide +kernel
theorem d_D_length_6 : decode b_D_length 6 = .ok (.iload_n 1, 1) := by decide +kernel
theorem d_D_length_7 : decode b_D_length 7 = .ok (.iconst 1, 1) := by decide +kernel
theorem d_D_length_8 : decode b_D_length 8 = .ok (.if_icmp .le 20, 3) := by decide +kernel
theorem d_D_length_11 : decode b_D_length 11 = .ok (.aload_n 0, 1) := by decide +kernel
theorem d_D_length_12 : decode b_D_length 12 = .ok (.getfield 9, 3) := by decide +kernel
theorem d_D_length_15 : decode b_D_length 15 = .ok (.iload_n 1, 1) := by decide +kernel
theorem d_D_length_16 : decode b_D_length 16 = .ok (.iconst 1, 1) := by decide +kernel
theorem d_D_length_17 : decode b_D_length 17 = .ok (.isub, 1) := by decide +kernel
theorem d_D_length_18 : decode b_D_length 18 = .ok (.iaload, 1) := by decide +kernel
theorem d_D_length_19 : decode b_D_length 19 = .ok (.ifCond .ne 9, 3) := by decide +kernel
theorem d_D_length_22 : decode b_D_length 22 = .ok (.iinc 1 (-1), 3) := by decide +kernel
theorem d_D_length_25 : decode b_D_length 25 = .ok (.goto (-19), 3) := by decide +kernel
theorem d_D_length_28 : decode b_D_length 28 = .ok (.iload_n 1, 1) := by decide +kernel
theorem d_D_length_29 : decode b_D_length 29 = .ok (.ireturn, 1) := by decide +kernel
theorem d_K_init_0 : decode b_K_init 0 = .ok (.aload_n 0, 1) := by decide +kernel
theorem d_K_init_1 : decode b_K_init 1 = .ok (.invokespecial 1, 3) := by decide +kernel
theorem d_K_init_4 : decode b_K_init 4 = .ok (.iload_n 2, 1) := by decide +kernel
theorem d_K_init_5 : decode b_K_init 5 = .ok (.iload_n 1, 1) := by decide +kernel
theorem d_K_init_6 : decode b_K_init 6 = .ok (.isub, 1) := by decide +kernel
theorem d_K_init_7 : decode b_K_init 7 = .ok (.istore_n 3, 1) := by decide +kernel
theorem d_K_init_8 : decode b_K_init 8 = .ok (.iload_n 3, 1) := by decide +kernel
theorem d_K_init_9 : decode b_K_init 9 = .ok (.iconst 3, 1) := by decide +kernel
theorem d_K_init_10 : decode b_K_init 10 = .ok (.imul, 1) := by decide +kernel
theorem d_K_init_11 : decode b_K_init 11 = .ok (.iconst 2, 1) := by decide +kernel
theorem d_K_init_12 : decode b_K_init 12 = .ok (.idiv, 1) := by decide +kernel
theorem d_K_init_13 : decode b_K_init 13 = .ok (.istore 4, 2) := by decide +kernel
theorem d_K_init_15 : decode b_K_init 15 = .ok (.aload_n 0, 1) := by decide +kernel
theorem d_K_init_16 : decode b_K_init 16 = .ok (.iload 4, 2) := by decide +kernel
theorem d_K_init_18 : decode b_K_init 18 = .ok (.iload_n 2, 1) := by decide +kernel
theorem d_K_init_19 : decode b_K_init 19 = .ok (.multianewarray 7 2, 4) := by decide +kernel
theorem d_K_init_23 : decode b_K_init 23 = .ok (.putfield 9, 3) := by decide +kernel
theorem d_K_init_26 : decode b_K_init 26 = .ok (.aload_n 0, 1) := by decide +kernel
theorem d_K_init_27 : decode b_K_init 27 = .ok (.iload 4, 2) := by decide +kernel
theorem d_K_init_29 : decode b_K_init 29 = .ok (.newarray .int, 2) := by decide +kernel
theorem d_K_init_31 : decode b_K_init 31 = .ok (.putfield 14, 3) := by decide +kernel
theorem d_K_init_34 : decode b_K_init 34 = .ok (.aload_n 0, 1) := by decide +kernel
theorem d_K_init_35 : decode b_K_init 35 = .ok (.iload_n 3, 1) := by decide +kernel
theorem d_K_init_36 : decode b_K_init 36 = .ok (.newarray .int, 2) := by decide +kernel
theorem d_K_init_38 : decode b_K_init 38 = .ok (.putfield 18, 3) := by decide +kernel
theorem d_K_init_41 : decode b_K_init 41 = .ok (.aload_n 0, 1) := by decide +kernel
theorem d_K_init_42 : decode b_K_init 42 = .ok (.iload_n 2, 1) := by decide +kernel
theorem d_K_init_43 : decode b_K_init 43 = .ok (.newarray .int, 2) := by decide +kernel
theorem d_K_init_45 : decode b_K_init 45 = .ok (.putfield 21, 3) := by decide +kernel
theorem d_K_init_48 : decode b_K_init 48 = .ok (.aload_n 0, 1) := by decide +kernel
theorem d_K_init_49 : decode b_K_init 49 = .ok (.iload_n 3, 1) := by decide +kernel
theorem d_K_init_50 : decode b_K_init 50 = .ok (.iload_n 2, 1) := by decide +kernel
theorem d_K_init_51 : decode b_K_init 51 = .ok (.multianewarray 7 2, 4) := by decide +kernel
theorem d_K_init_55 : decode b_K_init 55 = .ok (.putfield 24, 3) := by decide +kernel
theorem d_K_init_58 : decode b_K_init 58 = .ok (.aload_n 0, 1) := by decide +kernel
theorem d_K_init_59 : decode b_K_init 59 = .ok (.getfield 21, 3) := by decide +kernel
theorem d_K_init_62 : decode b_K_init 62 = .ok (.iconst (-1), 1) := by decide +kernel
theorem d_K_init_63 : decode b_K_init 63 = .ok (.invokestatic 27, 3) := by decide +kernel
theorem d_K_init_66 : decode b_K_init 66 = .ok (.aload_n 0, 1) := by decide +kernel
theorem d_K_init_67 : decode b_K_init 67 = .ok (.getfield 18, 3) := by decide +kernel
theorem d_K_init_70 : decode b_K_init 70 = .ok (.iconst 0, 1) := by decide +kernel
theorem d_K_init_71 : decode b_K_init 71 = .ok (.iload_n 1, 1) := by decide +kernel
theorem d_K_init_72 : decode b_K_init 72 = .ok (.iastore, 1) := by decide +kernel
theorem d_K_init_73 : decode b_K_init 73 = .ok (.aload_n 0, 1) := by decide +kernel
theorem d_K_init_74 : decode b_K_init 74 = .ok (.getfield 21, 3) := by decide +kernel
theorem d_K_init_77 : decode b_K_init 77 = .ok (.iload_n 1, 1) := by decide +kernel
theorem d_K_init_78 : decode b_K_init 78 = .ok (.iconst 0, 1) := by decide +kernel
theorem d_K_init_79 : decode b_K_init 79 = .ok (.iastore, 1) := by decide +kernel
theorem d_K_init_80 : decode b_K_init 80 = .ok (.aload_n 0, 1) := by decide +kernel
theorem d_K_init_81 : decode b_K_init 81 = .ok (.iconst 1, 1) := by decide +kernel
theorem d_K_init_82 : decode b_K_init 82 = .ok (.putfield 33, 3) := by decide +kernel
theorem d_K_init_85 : decode b_K_init 85 = .ok (.aload_n 0, 1) := by decide +kernel
theorem d_K_init_86 : decode b_K_init 86 = .ok (.getfield 24, 3) := by decide +kernel
theorem d_K_init_89 : decode b_K_init 89 = .ok (.iconst 0, 1) := by decide +kernel
theorem d_K_init_90 : decode b_K_init 90 = .ok (.aaload, 1) := by decide +kernel
theorem d_K_init_91 : decode b_K_init 91 = .ok (.invokestatic 37, 3) := by decide +kernel
theorem d_K_init_94 : decode b_K_init 94 = .ok (.return_, 1) := by decide +kernel
theorem d_K_clear_0 : decode b_K_clear 0 = .ok (.iconst 1, 1) := by decide +kernel
theorem d_K_clear_1 : decode b_K_clear 1 = .ok (.istore_n 1, 1) := by decide +kernel
theorem d_K_clear_2 : decode b_K_clear 2 = .ok (.iload_n 1, 1) := by decide +kernel
theorem d_K_clear_3 : decode b_K_clear 3 = .ok (.aload_n 0, 1) := by decide +kernel
theorem d_K_clear_4 : decode b_K_clear 4 = .ok (.getfield 33, 3) := by decide +kernel
theorem d_K_clear_7 : decode b_K_clear 7 = .ok (.if_icmp .ge 21, 3) := by decide +kernel
theorem d_K_clear_10 : decode b_K_clear 10 = .ok (.aload_n 0, 1) := by decide +kernel
theorem d_K_clear_11 : decode b_K_clear 11 = .ok (.getfield 21, 3) := by decide +kernel
theorem d_K_clear_14 : decode b_K_clear 14 = .ok (.aload_n 0, 1) := by decide +kernel
theorem d_K_clear_15 : decode b_K_clear 15 = .ok (.getfield 18, 3) := by decide +kernel
theorem d_K_clear_18 : decode b_K_clear 18 = .ok (.iload_n 1, 1) := by decide +kernel
theorem d_K_clear_19 : decode b_K_clear 19 = .ok (.iaload, 1) := by decide +kernel
theorem d_K_clear_20 : decode b_K_clear 20 = .ok (.iconst (-1), 1) := by decide +kernel
theorem d_K_clear_21 : decode b_K_clear 21 = .ok (.iastore, 1) := by decide +kernel
theorem d_K_clear_22 : decode b_K_clear 22 = .ok (.iinc 1 1, 3) := by decide +kernel
theorem d_K_clear_25 : decode b_K_clear 25 = .ok (.goto (-23), 3) := by decide +kernel
theorem d_K_clear_28 : decode b_K_clear 28 = .ok (.aload_n 0, 1) := by decide +kernel
theorem d_K_clear_29 : decode b_K_clear 29 = .ok (.iconst 1, 1) := by decide +kernel
theorem d_K_clear_30 : decode b_K_clear 30 = .ok (.putfield 33, 3) := by decide +kernel
theorem d_K_clear_33 : decode b_K_clear 33 = .ok (.aload_n 0, 1) := by decide +kernel
theorem d_K_clear_34 : decode b_K_clear 34 = .ok (.iconst 0, 1) := by decide +kernel
theorem d_K_clear_35 : decode b_K_clear 35 = .ok (.putfield 43, 3) := by decide +kernel
theorem d_K_clear_38 : decode b_K_clear 38 = .ok (.return_, 1) := by decide +kernel
theorem d_K_spreadSize_0 : decode b_K_spreadSize 0 = .ok (.aload_n 0, 1) := by decide +kernel
theorem d_K_spreadSize_1 : decode b_K_spreadSize 1 = .ok (.getfield 33, 3) := by decide +kernel
theorem d_K_spreadSize_4 : decode b_K_spreadSize 4 = .ok (.ireturn, 1) := by decide +kernel
theorem d_K_undo_0 : decode b_K_undo 0 = .ok (.aload_n 0, 1) := by decide +kernel
theorem d_K_undo_1 : decode b_K_undo 1 = .ok (.getfield 18, 3) := by decide +kernel
theorem d_K_undo_4 : decode b_K_undo 4 = .ok (.iconst 0, 1) := by decide +kernel
theorem d_K_undo_5 : decode b_K_undo 5 = .ok (.iaload, 1) := by decide +kernel
theorem d_K_undo_6 : decode b_K_undo 6 = .ok (.istore_n 2, 1) := by decide +kernel
theorem d_K_undo_7 : decode b_K_undo 7 = .ok (.aload_n 0, 1) := by decide +kernel
theorem d_K_undo_8 : decode b_K_undo 8 = .ok (.getfield 21, 3) := by decide +kernel
theorem d_K_undo_11 : decode b_K_undo 11 = .ok (.aload_n 1, 1) := by decide +kernel
theorem d_K_undo_12 : decode b_K_undo 12 = .ok (.iload_n 2, 1) := by decide +kernel
theorem d_K_undo_13 : decode b_K_undo 13 = .ok (.iaload, 1) := by decide +kernel
theorem d_K_undo_14 : decode b_K_undo 14 = .ok (.iaload, 1) := by decide +kernel
theorem d_K_undo_15 : decode b_K_undo 15 = .ok (.istore_n 3, 1) := by decide +kernel
theorem d_K_undo_16 : decode b_K_undo 16 = .ok (.iload_n 3, 1) := by decide +kernel
theorem d_K_undo_17 : decode b_K_undo 17 = .ok (.ifCond .ge 5, 3) := by decide +kernel
theorem d_K_undo_20 : decode b_K_undo 20 = .ok (.iconst 0, 1) := by decide +kernel
theorem d_K_undo_21 : decode b_K_undo 21 = .ok (.ireturn, 1) := by decide +kernel
theorem d_K_undo_22 : decode b_K_undo 22 = .ok (.aload_n 0, 1) := by decide +kernel
theorem d_K_undo_23 : decode b_K_undo 23 = .ok (.getfield 24, 3) := by decide +kernel
theorem d_K_undo_26 : decode b_K_undo 26 = .ok (.iload_n 3, 1) := by decide +kernel
theorem d_K_undo_27 : decode b_K_undo 27 = .ok (.aaload, 1) := by decide +kernel
theorem d_K_undo_28 : decode b_K_undo 28 = .ok (.astore 4, 2) := by decide +kernel
theorem d_K_undo_30 : decode b_K_undo 30 = .ok (.iload_n 2, 1) := by decide +kernel
theorem d_K_undo_31 : decode b_K_undo 31 = .ok (.istore 5, 2) := by decide +kernel
theorem d_K_undo_33 : decode b_K_undo 33 = .ok (.iload 5, 2) := by decide +kernel
theorem d_K_undo_35 : decode b_K_undo 35 = .ok (.aload_n 1, 1) := by decide +kernel
theorem d_K_undo_36 : decode b_K_undo 36 = .ok (.arraylength, 1) := by decide +kernel
theorem d_K_undo_37 : decode b_K_undo 37 = .ok (.if_icmp .ge 20, 3) := by decide +kernel
theorem d_K_undo_40 : decode b_K_undo 40 = .ok (.aload_n 1, 1) := by decide +kernel
theorem d_K_undo_41 : decode b_K_undo 41 = .ok (.iload 5, 2) := by decide +kernel
theorem d_K_undo_43 : decode b_K_undo 43 = .ok (.aload 4, 2) := by decide +kernel
theorem d_K_undo_45 : decode b_K_undo 45 = .ok (.aload_n 1, 1) := by decide +kernel
theorem d_K_undo_46 : decode b_K_undo 46 = .ok (.iload 5, 2) := by decide +kernel
theorem d_K_undo_48 : decode b_K_undo 48 = .ok (.iaload, 1) := by decide +kernel
theorem d_K_undo_49 : decode b_K_undo 49 = .ok (.iaload, 1) := by decide +kernel
theorem d_K_undo_50 : decode b_K_undo 50 = .ok (.iastore, 1) := by decide +kernel
theorem d_K_undo_51 : decode b_K_undo 51 = .ok (.iinc 5 1, 3) := by decide +kernel
theorem d_K_undo_54 : decode b_K_undo 54 = .ok (.goto (-21), 3) := by decide +kernel
theorem d_K_undo_57 : decode b_K_undo 57 = .ok (.iconst 1, 1) := by decide +kernel
theorem d_K_undo_58 : decode b_K_undo 58 = .ok (.ireturn, 1) := by decide +kernel
theorem d_K_addGenerator_0 : decode b_K_addGenerator 0 = .ok (.aload_n 0, 1) := by decide +kernel
theorem d_K_addGenerator_1 : decode b_K_addGenerator 1 = .ok (.getfield 43, 3) := by decide +kernel
theorem d_K_addGenerator_4 : decode b_K_addGenerator 4 = .ok (.aload_n 0, 1) := by decide +kernel
theorem d_K_addGenerator_5 : decode b_K_addGenerator 5 = .ok (.getfield 9, 3) := by decide +kernel
theorem d_K_addGenerator_8 : decode b_K_addGenerator 8 = .ok (.arraylength, 1) := by decide +kernel
theorem d_K_addGenerator_9 : decode b_K_addGenerator 9 = .ok (.if_icmp .lt 4, 3) := by decide +kernel
theorem d_K_addGenerator_12 : decode b_K_addGenerator 12 = .ok (.return_, 1) := by decide +kernel
theorem d_K_addGenerator_13 : decode b_K_addGenerator 13 = .ok (.aload_n 1, 1) := by decide +kernel
theorem d_K_addGenerator_14 : decode b_K_addGenerator 14 = .ok (.iconst 0, 1) := by decide +kernel
theorem d_K_addGenerator_15 : decode b_K_addGenerator 15 = .ok (.aload_n 0, 1) := by decide +kernel
theorem d_K_addGenerator_16 : decode b_K_addGenerator 16 = .ok (.getfield 9, 3) := by decide +kernel
theorem d_K_addGenerator_19 : decode b_K_addGenerator 19 = .ok (.aload_n 0, 1) := by decide +kernel
theorem d_K_addGenerator_20 : decode b_K_addGenerator 20 = .ok (.getfield 43, 3) := by decide +kernel
theorem d_K_addGenerator_23 : decode b_K_addGenerator 23 = .ok (.aaload, 1) := by decide +kernel
theorem d_K_addGenerator_24 : decode b_K_addGenerator 24 = .ok (.iconst 0, 1) := by decide +kernel
theorem d_K_addGenerator_25 : decode b_K_addGenerator 25 = .ok (.aload_n 1, 1) := by decide +kernel
theorem d_K_addGenerator_26 : decode b_K_addGenerator 26 = .ok (.arraylength, 1) := by decide +kernel
theorem d_K_addGenerator_27 : decode b_K_addGenerator 27 = .ok (.invokestatic 46, 3) := by decide +kernel
theorem d_K_addGenerator_30 : decode b_K_addGenerator 30 = .ok (.aload_n 0, 1) := by decide +kernel
theorem d_K_addGenerator_31 : decode b_K_addGenerator 31 = .ok (.getfield 14, 3) := by decide +kernel
theorem d_K_addGenerator_34 : decode b_K_addGenerator 34 = .ok (.aload_n 0, 1) := by decide +kernel
theorem d_K_addGenerator_35 : decode b_K_addGenerator 35 = .ok (.getfield 43, 3) := by decide +kernel
theorem d_K_addGenerator_38 : decode b_K_addGenerator 38 = .ok (.iconst 0, 1) := by decide +kernel
theorem d_K_addGenerator_39 : decode b_K_addGenerator 39 = .ok (.iastore, 1) := by decide +kernel
theorem d_K_addGenerator_40 : decode b_K_addGenerator 40 = .ok (.aload_n 0, 1) := by decide +kernel
theorem d_K_addGenerator_41 : decode b_K_addGenerator 41 = .ok (.dup, 1) := by decide +kernel
theorem d_K_addGenerator_42 : decode b_K_addGenerator 42 = .ok (.getfield 43, 3) := by decide +kernel
theorem d_K_addGenerator_45 : decode b_K_addGenerator 45 = .ok (.iconst 1, 1) := by decide +kernel
theorem d_K_addGenerator_46 : decode b_K_addGenerator 46 = .ok (.iadd, 1) := by decide +kernel
theorem d_K_addGenerator_47 : decode b_K_addGenerator 47 = .ok (.putfield 43, 3) := by decide +kernel
theorem d_K_addGenerator_50 : decode b_K_addGenerator 50 = .ok (.return_, 1) := by decide +kernel
theorem d_K_openGenerator_0 : decode b_K_openGenerator 0 = .ok (.iconst 0, 1) := by decide +kernel
theorem d_K_openGenerator_1 : decode b_K_openGenerator 1 = .ok (.istore_n 1, 1) := by decide +kernel
theorem d_K_openGenerator_2 : decode b_K_openGenerator 2 = .ok (.iload_n 1, 1) := by decide +kernel
theorem d_K_openGenerator_3 : decode b_K_openGenerator 3 = .ok (.aload_n 0, 1) := by decide +kernel
theorem d_K_openGenerator_4 : decode b_K_openGenerator 4 = .ok (.getfield 43, 3) := by decide +kernel
theorem d_K_openGenerator_7 : decode b_K_openGenerator 7 = .ok (.if_icmp .ge 24, 3) := by decide +kernel
theorem d_K_openGenerator_10 : decode b_K_openGenerator 10 = .ok (.aload_n 0, 1) := by decide +kernel
theorem d_K_openGenerator_11 : decode b_K_openGenerator 11 = .ok (.getfield 14, 3) := by decide +kernel
theorem d_K_openGenerator_14 : decode b_K_openGenerator 14 = .ok (.iload_n 1, 1) := by decide +kernel
theorem d_K_openGenerator_15 : decode b_K_openGenerator 15 = .ok (.iaload, 1) := by decide +kernel
theorem d_K_openGenerator_16 : decode b_K_openGenerator 16 = .ok (.aload_n 0, 1) := by decide +kernel
theorem d_K_openGenerator_17 : decode b_K_openGenerator 17 = .ok (.getfield 33, 3) := by decide +kernel
theorem d_K_openGenerator_20 : decode b_K_openGenerator 20 = .ok (.if_icmp .ge 5, 3) := by decide +kernel
theorem d_K_openGenerator_23 : decode b_K_openGenerator 23 = .ok (.iload_n 1, 1) := by decide +kernel
theorem d_K_openGenerator_24 : decode b_K_openGenerator 24 = .ok (.ireturn, 1) := by decide +kernel
theorem d_K_openGenerator_25 : decode b_K_openGenerator 25 = .ok (.iinc 1 1, 3) := by decide +kernel
theorem d_K_openGenerator_28 : decode b_K_openGenerator 28 = .ok (.goto (-26), 3) := by decide +kernel
theorem d_K_openGenerator_31 : decode b_K_openGenerator 31 = .ok (.iconst (-1), 1) := by decide +kernel
theorem d_K_openGenerator_32 : decode b_K_openGenerator 32 = .ok (.ireturn, 1) := by decide +kernel
theorem d_K_reachesNewPlace_0 : decode b_K_reachesNewPlace 0 = .ok (.aload_n 0, 1) := by decide +kernel
theorem d_K_reachesNewPlace_1 : decode b_K_reachesNewPlace 1 = .ok (.getfield 9, 3) := by decide +kernel
theorem d_K_reachesNewPlace_4 : decode b_K_reachesNewPlace 4 = .ok (.iload_n 1, 1) := by decide +kernel
theorem d_K_reachesNewPlace_5 : decode b_K_reachesNewPlace 5 = .ok (.aaload, 1) := by decide +kernel
theorem d_K_reachesNewPlace_6 : decode b_K_reachesNewPlace 6 = .ok (.astore_n 3, 1) := by decide +kernel
theorem d_K_reachesNewPlace_7 : decode b_K_reachesNewPlace 7 = .ok (.aload_n 0, 1) := by decide +kernel
theorem d_K_reachesNewPlace_8 : decode b_K_reachesNewPlace 8 = .ok (.getfield 24, 3) := by decide +kernel
theorem d_K_reachesNewPlace_11 : decode b_K_reachesNewPlace 11 = .ok (.aload_n 0, 1) := by decide +kernel
theorem d_K_reachesNewPlace_12 : decode b_K_reachesNewPlace 12 = .ok (.getfield 14, 3) := by decide +kernel
theorem d_K_reachesNewPlace_15 : decode b_K_reachesNewPlace 15 = .ok (.iload_n 1, 1) := by decide +kernel
theorem d_K_reachesNewPlace_16 : decode b_K_reachesNewPlace 16 = .ok (.iaload, 1) := by decide +kernel
theorem d_K_reachesNewPlace_17 : decode b_K_reachesNewPlace 17 = .ok (.aaload, 1) := by decide +kernel
theorem d_K_reachesNewPlace_18 : decode b_K_reachesNewPlace 18 = .ok (.astore 4, 2) := by decide +kernel
theorem d_K_reachesNewPlace_20 : decode b_K_reachesNewPlace 20 = .ok (.aload_n 3, 1) := by decide +kernel
theorem d_K_reachesNewPlace_21 : decode b_K_reachesNewPlace 21 = .ok (.aload_n 0, 1) := by decide +kernel
theorem d_K_reachesNewPlace_22 : decode b_K_reachesNewPlace 22 = .ok (.getfield 18, 3) := by decide +kernel
theorem d_K_reachesNewPlace_25 : decode b_K_reachesNewPlace 25 = .ok (.aload_n 0, 1) := by decide +kernel
theorem d_K_reachesNewPlace_26 : decode b_K_reachesNewPlace 26 = .ok (.getfield 14, 3) := by decide +kernel
theorem d_K_reachesNewPlace_29 : decode b_K_reachesNewPlace 29 = .ok (.iload_n 1, 1) := by decide +kernel
theorem d_K_reachesNewPlace_30 : decode b_K_reachesNewPlace 30 = .ok (.iaload, 1) := by decide +kernel
theorem d_K_reachesNewPlace_31 : decode b_K_reachesNewPlace 31 = .ok (.iaload, 1) := by decide +kernel
theorem d_K_reachesNewPlace_32 : decode b_K_reachesNewPlace 32 = .ok (.iaload, 1) := by decide +kernel
theorem d_K_reachesNewPlace_33 : decode b_K_reachesNewPlace 33 = .ok (.istore 5, 2) := by decide +kernel
theorem d_K_reachesNewPlace_35 : decode b_K_reachesNewPlace 35 = .ok (.aload_n 0, 1) := by decide +kernel
theorem d_K_reachesNewPlace_36 : decode b_K_reachesNewPlace 36 = .ok (.getfield 14, 3) := by decide +kernel
theorem d_K_reachesNewPlace_39 : decode b_K_reachesNewPlace 39 = .ok (.iload_n 1, 1) := by decide +kernel
theorem d_K_reachesNewPlace_40 : decode b_K_reachesNewPlace 40 = .ok (.dup2, 1) := by decide +kernel
theorem d_K_reachesNewPlace_41 : decode b_K_reachesNewPlace 41 = .ok (.iaload, 1) := by decide +kernel
theorem d_K_reachesNewPlace_42 : decode b_K_reachesNewPlace 42 = .ok (.iconst 1, 1) := by decide +kernel
theorem d_K_reachesNewPlace_43 : decode b_K_reachesNewPlace 43 = .ok (.iadd, 1) := by decide +kernel
theorem d_K_reachesNewPlace_44 : decode b_K_reachesNewPlace 44 = .ok (.iastore, 1) := by decide +kernel
theorem d_K_reachesNewPlace_45 : decode b_K_reachesNewPlace 45 = .ok (.aload_n 0, 1) := by decide +kernel
theorem d_K_reachesNewPlace_46 : decode b_K_reachesNewPlace 46 = .ok (.getfield 21, 3) := by decide +kernel
theorem d_K_reachesNewPlace_49 : decode b_K_reachesNewPlace 49 = .ok (.iload 5, 2) := by decide +kernel
theorem d_K_reachesNewPlace_51 : decode b_K_reachesNewPlace 51 = .ok (.iaload, 1) := by decide +kernel
theorem d_K_reachesNewPlace_52 : decode b_K_reachesNewPlace 52 = .ok (.istore 6, 2) := by decide +kernel
theorem d_K_reachesNewPlace_54 : decode b_K_reachesNewPlace 54 = .ok (.iload 6, 2) := by decide +kernel
theorem d_K_reachesNewPlace_56 : decode b_K_reachesNewPlace 56 = .ok (.ifCond .ge 14, 3) := by decide +kernel
theorem d_K_reachesNewPlace_59 : decode b_K_reachesNewPlace 59 = .ok (.aload_n 0, 1) := by decide +kernel
theorem d_K_reachesNewPlace_60 : decode b_K_reachesNewPlace 60 = .ok (.iload 5, 2) := by decide +kernel
theorem d_K_reachesNewPlace_62 : decode b_K_reachesNewPlace 62 = .ok (.aload_n 3, 1) := by decide +kernel
theorem d_K_reachesNewPlace_63 : decode b_K_reachesNewPlace 63 = .ok (.aload 4, 2) := by decide +kernel
theorem d_K_reachesNewPlace_65 : decode b_K_reachesNewPlace 65 = .ok (.invokevirtual 52, 3) := by decide +kernel
theorem d_K_reachesNewPlace_68 : decode b_K_reachesNewPlace 68 = .ok (.iconst 1, 1) := by decide +kernel
theorem d_K_reachesNewPlace_69 : decode b_K_reachesNewPlace 69 = .ok (.ireturn, 1) := by decide +kernel
theorem d_K_reachesNewPlace_70 : decode b_K_reachesNewPlace 70 = .ok (.aload_n 0, 1) := by decide +kernel
theorem d_K_reachesNewPlace_71 : decode b_K_reachesNewPlace 71 = .ok (.getfield 24, 3) := by decide +kernel
theorem d_K_reachesNewPlace_74 : decode b_K_reachesNewPlace 74 = .ok (.iload 6, 2) := by decide +kernel
theorem d_K_reachesNewPlace_76 : decode b_K_reachesNewPlace 76 = .ok (.aaload, 1) := by decide +kernel
theorem d_K_reachesNewPlace_77 : decode b_K_reachesNewPlace 77 = .ok (.astore 7, 2) := by decide +kernel
theorem d_K_reachesNewPlace_79 : decode b_K_reachesNewPlace 79 = .ok (.iconst 0, 1) := by decide +kernel
theorem d_K_reachesNewPlace_80 : decode b_K_reachesNewPlace 80 = .ok (.istore 8, 2) := by decide +kernel
theorem d_K_reachesNewPlace_82 : decode b_K_reachesNewPlace 82 = .ok (.iload 8, 2) := by decide +kernel
theorem d_K_reachesNewPlace_84 : decode b_K_reachesNewPlace 84 = .ok (.aload_n 2, 1) := by decide +kernel
theorem d_K_reachesNewPlace_85 : decode b_K_reachesNewPlace 85 = .ok (.arraylength, 1) := by decide +kernel
theorem d_K_reachesNewPlace_86 : decode b_K_reachesNewPlace 86 = .ok (.if_icmp .ge 23, 3) := by decide +kernel
theorem d_K_reachesNewPlace_89 : decode b_K_reachesNewPlace 89 = .ok (.aload_n 2, 1) := by decide +kernel
theorem d_K_reachesNewPlace_90 : decode b_K_reachesNewPlace 90 = .ok (.aload 4, 2) := by decide +kernel
theorem d_K_reachesNewPlace_92 : decode b_K_reachesNewPlace 92 = .ok (.iload 8, 2) := by decide +kernel
theorem d_K_reachesNewPlace_94 : decode b_K_reachesNewPlace 94 = .ok (.iaload, 1) := by decide +kernel
theorem d_K_reachesNewPlace_95 : decode b_K_reachesNewPlace 95 = .ok (.aload 7, 2) := by decide +kernel
theorem d_K_reachesNewPlace_97 : decode b_K_reachesNewPlace 97 = .ok (.aload_n 3, 1) := by decide +kernel
theorem d_K_reachesNewPlace_98 : decode b_K_reachesNewPlace 98 = .ok (.iload 8, 2) := by decide +kernel
theorem d_K_reachesNewPlace_100 : decode b_K_reachesNewPlace 100 = .ok (.iaload, 1) := by decide +kernel
theorem d_K_reachesNewPlace_101 : decode b_K_reachesNewPlace 101 = .ok (.iaload, 1) := by decide +kernel
theorem d_K_reachesNewPlace_102 : decode b_K_reachesNewPlace 102 = .ok (.iastore, 1) := by decide +kernel
theorem d_K_reachesNewPlace_103 : decode b_K_reachesNewPlace 103 = .ok (.iinc 8 1, 3) := by decide +kernel
theorem d_K_reachesNewPlace_106 : decode b_K_reachesNewPlace 106 = .ok (.goto (-24), 3) := by decide +kernel
theorem d_K_reachesNewPlace_109 : decode b_K_reachesNewPlace 109 = .ok (.iconst 0, 1) := by decide +kernel
theorem d_K_reachesNewPlace_110 : decode b_K_reachesNewPlace 110 = .ok (.ireturn, 1) := by decide +kernel
theorem d_K_widen_0 : decode b_K_widen 0 = .ok (.aload_n 0, 1) := by decide +kernel
theorem d_K_widen_1 : decode b_K_widen 1 = .ok (.getfield 33, 3) := by decide +kernel
theorem d_K_widen_4 : decode b_K_widen 4 = .ok (.aload_n 0, 1) := by decide +kernel
theorem d_K_widen_5 : decode b_K_widen 5 = .ok (.getfield 18, 3) := by decide +kernel
theorem d_K_widen_8 : decode b_K_widen 8 = .ok (.arraylength, 1) := by decide +kernel
theorem d_K_widen_9 : decode b_K_widen 9 = .ok (.if_icmp .lt 4, 3) := by decide +kernel
theorem d_K_widen_12 : decode b_K_widen 12 = .ok (.return_, 1) := by decide +kernel
theorem d_K_widen_13 : decode b_K_widen 13 = .ok (.aload_n 0, 1) := by decide +kernel
theorem d_K_widen_14 : decode b_K_widen 14 = .ok (.getfield 24, 3) := by decide +kernel
theorem d_K_widen_17 : decode b_K_widen 17 = .ok (.aload_n 0, 1) := by decide +kernel
theorem d_K_widen_18 : decode b_K_widen 18 = .ok (.getfield 33, 3) := by decide +kernel
theorem d_K_widen_21 : decode b_K_widen 21 = .ok (.aaload, 1) := by decide +kernel
theorem d_K_widen_22 : decode b_K_widen 22 = .ok (.astore 4, 2) := by decide +kernel
theorem d_K_widen_24 : decode b_K_widen 24 = .ok (.iconst 0, 1) := by decide +kernel
theorem d_K_widen_25 : decode b_K_widen 25 = .ok (.istore 5, 2) := by decide +kernel
theorem d_K_widen_27 : decode b_K_widen 27 = .ok (.iload 5, 2) := by decide +kernel
theorem d_K_widen_29 : decode b_K_widen 29 = .ok (.aload 4, 2) := by decide +kernel
theorem d_K_widen_31 : decode b_K_widen 31 = .ok (.arraylength, 1) := by decide +kernel
theorem d_K_widen_32 : decode b_K_widen 32 = .ok (.if_icmp .ge 20, 3) := by decide +kernel
theorem d_K_widen_35 : decode b_K_widen 35 = .ok (.aload 4, 2) := by decide +kernel
theorem d_K_widen_37 : decode b_K_widen 37 = .ok (.aload_n 2, 1) := by decide +kernel
theorem d_K_widen_38 : decode b_K_widen 38 = .ok (.iload 5, 2) := by decide +kernel
theorem d_K_widen_40 : decode b_K_widen 40 = .ok (.iaload, 1) := by decide +kernel
theorem d_K_widen_41 : decode b_K_widen 41 = .ok (.aload_n 3, 1) := by decide +kernel
theorem d_K_widen_42 : decode b_K_widen 42 = .ok (.iload 5, 2) := by decide +kernel
theorem d_K_widen_44 : decode b_K_widen 44 = .ok (.iaload, 1) := by decide +kernel
theorem d_K_widen_45 : decode b_K_widen 45 = .ok (.iastore, 1) := by decide +kernel
theorem d_K_widen_46 : decode b_K_widen 46 = .ok (.iinc 5 1, 3) := by decide +kernel
theorem d_K_widen_49 : decode b_K_widen 49 = .ok (.goto (-22), 3) := by decide +kernel
theorem d_K_widen_52 : decode b_K_widen 52 = .ok (.aload_n 0, 1) := by decide +kernel
theorem d_K_widen_53 : decode b_K_widen 53 = .ok (.getfield 18, 3) := by decide +kernel
theorem d_K_widen_56 : decode b_K_widen 56 = .ok (.aload_n 0, 1) := by decide +kernel
theorem d_K_widen_57 : decode b_K_widen 57 = .ok (.getfield 33, 3) := by decide +kernel
theorem d_K_widen_60 : decode b_K_widen 60 = .ok (.iload_n 1, 1) := by decide +kernel
theorem d_K_widen_61 : decode b_K_widen 61 = .ok (.iastore, 1) := by decide +kernel
theorem d_K_widen_62 : decode b_K_widen 62 = .ok (.aload_n 0, 1) := by decide +kernel
theorem d_K_widen_63 : decode b_K_widen 63 = .ok (.getfield 21, 3) := by decide +kernel
theorem d_K_widen_66 : decode b_K_widen 66 = .ok (.iload_n 1, 1) := by decide +kernel
theorem d_K_widen_67 : decode b_K_widen 67 = .ok (.aload_n 0, 1) := by decide +kernel
theorem d_K_widen_68 : decode b_K_widen 68 = .ok (.getfield 33, 3) := by decide +kernel
theorem d_K_widen_71 : decode b_K_widen 71 = .ok (.iastore, 1) := by decide +kernel
theorem d_K_widen_72 : decode b_K_widen 72 = .ok (.aload_n 0, 1) := by decide +kernel
theorem d_K_widen_73 : decode b_K_widen 73 = .ok (.dup, 1) := by decide +kernel
theorem d_K_widen_74 : decode b_K_widen 74 = .ok (.getfield 33, 3) := by decide +kernel
theorem d_K_widen_77 : decode b_K_widen 77 = .ok (.iconst 1, 1) := by decide +kernel
theorem d_K_widen_78 : decode b_K_widen 78 = .ok (.iadd, 1) := by decide +kernel
theorem d_K_widen_79 : decode b_K_widen 79 = .ok (.putfield 33, 3) := by decide +kernel
theorem d_K_widen_82 : decode b_K_widen 82 = .ok (.return_, 1) := by decide +kernel
theorem d_P_init_0 : decode b_P_init 0 = .ok (.aload_n 0, 1) := by decide +kernel
theorem d_P_init_1 : decode b_P_init 1 = .ok (.invokespecial 1, 3) := by decide +kernel
theorem d_P_init_4 : decode b_P_init 4 = .ok (.aload_n 0, 1) := by decide +kernel
theorem d_P_init_5 : decode b_P_init 5 = .ok (.iload_n 1, 1) := by decide +kernel
theorem d_P_init_6 : decode b_P_init 6 = .ok (.newarray .int, 2) := by decide +kernel
theorem d_P_init_8 : decode b_P_init 8 = .ok (.putfield 7, 3) := by decide +kernel
theorem d_P_init_11 : decode b_P_init 11 = .ok (.return_, 1) := by decide +kernel
theorem d_P_separate_0 : decode b_P_separate 0 = .ok (.aload_n 0, 1) := by decide +kernel
theorem d_P_separate_1 : decode b_P_separate 1 = .ok (.getfield 7, 3) := by decide +kernel
theorem d_P_separate_4 : decode b_P_separate 4 = .ok (.invokestatic 13, 3) := by decide +kernel
theorem d_P_separate_7 : decode b_P_separate 7 = .ok (.return_, 1) := by decide +kernel
theorem d_P_join_0 : decode b_P_join 0 = .ok (.aload_n 0, 1) := by decide +kernel
theorem d_P_join_1 : decode b_P_join 1 = .ok (.getfield 7, 3) := by decide +kernel
theorem d_P_join_4 : decode b_P_join 4 = .ok (.iload_n 1, 1) := by decide +kernel
theorem d_P_join_5 : decode b_P_join 5 = .ok (.iaload, 1) := by decide +kernel
theorem d_P_join_6 : decode b_P_join 6 = .ok (.aload_n 0, 1) := by decide +kernel
theorem d_P_join_7 : decode b_P_join 7 = .ok (.getfield 7, 3) := by decide +kernel
theorem d_P_join_10 : decode b_P_join 10 = .ok (.iload_n 2, 1) := by decide +kernel
theorem d_P_join_11 : decode b_P_join 11 = .ok (.iaload, 1) := by decide +kernel
theorem d_P_join_12 : decode b_P_join 12 = .ok (.invokestatic 19, 3) := by decide +kernel
theorem d_P_join_15 : decode b_P_join 15 = .ok (.istore_n 3, 1) := by decide +kernel
theorem d_P_join_16 : decode b_P_join 16 = .ok (.aload_n 0, 1) := by decide +kernel
theorem d_P_join_17 : decode b_P_join 17 = .ok (.getfield 7, 3) := by decide +kernel
theorem d_P_join_20 : decode b_P_join 20 = .ok (.iload_n 1, 1) := by decide +kernel
theorem d_P_join_21 : decode b_P_join 21 = .ok (.iaload, 1) := by decide +kernel
theorem d_P_join_22 : decode b_P_join 22 = .ok (.aload_n 0, 1) := by decide +kernel
theorem d_P_join_23 : decode b_P_join 23 = .ok (.getfield 7, 3) := by decide +kernel
theorem d_P_join_26 : decode b_P_join 26 = .ok (.iload_n 2, 1) := by decide +kernel
theorem d_P_join_27 : decode b_P_join 27 = .ok (.iaload, 1) := by decide +kernel
theorem d_P_join_28 : decode b_P_join 28 = .ok (.invokestatic 25, 3) := by decide +kernel
theorem d_P_join_31 : decode b_P_join 31 = .ok (.istore 4, 2) := by decide +kernel
theorem d_P_join_33 : decode b_P_join 33 = .ok (.iload_n 3, 1) := by decide +kernel
theorem d_P_join_34 : decode b_P_join 34 = .ok (.iload 4, 2) := by decide +kernel
theorem d_P_join_36 : decode b_P_join 36 = .ok (.if_icmp .ne 5, 3) := by decide +kernel
theorem d_P_join_39 : decode b_P_join 39 = .ok (.iconst 0, 1) := by decide +kernel
theorem d_P_join_40 : decode b_P_join 40 = .ok (.ireturn, 1) := by decide +kernel
theorem d_P_join_41 : decode b_P_join 41 = .ok (.iconst 0, 1) := by decide +kernel
theorem d_P_join_42 : decode b_P_join 42 = .ok (.istore 5, 2) := by decide +kernel
theorem d_P_join_44 : decode b_P_join 44 = .ok (.iload 5, 2) := by decide +kernel
theorem d_P_join_46 : decode b_P_join 46 = .ok (.aload_n 0, 1) := by decide +kernel
theorem d_P_join_47 : decode b_P_join 47 = .ok (.getfield 7, 3) := by decide +kernel
theorem d_P_join_50 : decode b_P_join 50 = .ok (.arraylength, 1) := by decide +kernel
theorem d_P_join_51 : decode b_P_join 51 = .ok (.if_icmp .ge 29, 3) := by decide +kernel
theorem d_P_join_54 : decode b_P_join 54 = .ok (.aload_n 0, 1) := by decide +kernel
theorem d_P_join_55 : decode b_P_join 55 = .ok (.getfield 7, 3) := by decide +kernel
theorem d_P_join_58 : decode b_P_join 58 = .ok (.iload 5, 2) := by decide +kernel
theorem d_P_join_60 : decode b_P_join 60 = .ok (.iaload, 1) := by decide +kernel
theorem d_P_join_61 : decode b_P_join 61 = .ok (.iload 4, 2) := by decide +kernel
theorem d_P_join_63 : decode b_P_join 63 = .ok (.if_icmp .ne 11, 3) := by decide +kernel
theorem d_P_join_66 : decode b_P_join 66 = .ok (.aload_n 0, 1) := by decide +kernel
theorem d_P_join_67 : decode b_P_join 67 = .ok (.getfield 7, 3) := by decide +kernel
theorem d_P_join_70 : decode b_P_join 70 = .ok (.iload 5, 2) := by decide +kernel
theorem d_P_join_72 : decode b_P_join 72 = .ok (.iload_n 3, 1) := by decide +kernel
theorem d_P_join_73 : decode b_P_join 73 = .ok (.iastore, 1) := by decide +kernel
theorem d_P_join_74 : decode b_P_join 74 = .ok (.iinc 5 1, 3) := by decide +kernel
theorem d_P_join_77 : decode b_P_join 77 = .ok (.goto (-33), 3) := by decide +kernel
theorem d_P_join_80 : decode b_P_join 80 = .ok (.iconst 1, 1) := by decide +kernel
theorem d_P_join_81 : decode b_P_join 81 = .ok (.ireturn, 1) := by decide +kernel
theorem d_P_joinOrbits_0 : decode b_P_joinOrbits 0 = .ok (.iconst 0, 1) := by decide +kernel
theorem d_P_joinOrbits_1 : decode b_P_joinOrbits 1 = .ok (.istore_n 3, 1) := by decide +kernel
theorem d_P_joinOrbits_2 : decode b_P_joinOrbits 2 = .ok (.iload_n 3, 1) := by decide +kernel
theorem d_P_joinOrbits_3 : decode b_P_joinOrbits 3 = .ok (.iload_n 2, 1) := by decide +kernel
theorem d_P_joinOrbits_4 : decode b_P_joinOrbits 4 = .ok (.if_icmp .ge 41, 3) := by decide +kernel
theorem d_P_joinOrbits_7 : decode b_P_joinOrbits 7 = .ok (.iconst 0, 1) := by decide +kernel
theorem d_P_joinOrbits_8 : decode b_P_joinOrbits 8 = .ok (.istore 4, 2) := by decide +kernel
theorem d_P_joinOrbits_10 : decode b_P_joinOrbits 10 = .ok (.iload 4, 2) := by decide +kernel
theorem d_P_joinOrbits_12 : decode b_P_joinOrbits 12 = .ok (.aload_n 0, 1) := by decide +kernel
theorem d_P_joinOrbits_13 : decode b_P_joinOrbits 13 = .ok (.getfield 7, 3) := by decide +kernel
theorem d_P_joinOrbits_16 : decode b_P_joinOrbits 16 = .ok (.arraylength, 1) := by decide +kernel
theorem d_P_joinOrbits_17 : decode b_P_joinOrbits 17 = .ok (.if_icmp .ge 22, 3) := by decide +kernel
theorem d_P_joinOrbits_20 : decode b_P_joinOrbits 20 = .ok (.aload_n 0, 1) := by decide +kernel
theorem d_P_joinOrbits_21 : decode b_P_joinOrbits 21 = .ok (.iload 4, 2) := by decide +kernel
theorem d_P_joinOrbits_23 : decode b_P_joinOrbits 23 = .ok (.aload_n 1, 1) := by decide +kernel
theorem d_P_joinOrbits_24 : decode b_P_joinOrbits 24 = .ok (.iload_n 3, 1) := by decide +kernel
theorem d_P_joinOrbits_25 : decode b_P_joinOrbits 25 = .ok (.aaload, 1) := by decide +kernel
theorem d_P_joinOrbits_26 : decode b_P_joinOrbits 26 = .ok (.iload 4, 2) := by decide +kernel
theorem d_P_joinOrbits_28 : decode b_P_joinOrbits 28 = .ok (.iaload, 1) := by decide +kernel
theorem d_P_joinOrbits_29 : decode b_P_joinOrbits 29 = .ok (.invokevirtual 28, 3) := by decide +kernel
theorem d_P_joinOrbits_32 : decode b_P_joinOrbits 32 = .ok (.pop, 1) := by decide +kernel
theorem d_P_joinOrbits_33 : decode b_P_joinOrbits 33 = .ok (.iinc 4 1, 3) := by decide +kernel
theorem d_P_joinOrbits_36 : decode b_P_joinOrbits 36 = .ok (.goto (-26), 3) := by decide +kernel
theorem d_P_joinOrbits_39 : decode b_P_joinOrbits 39 = .ok (.iinc 3 1, 3) := by decide +kernel
theorem d_P_joinOrbits_42 : decode b_P_joinOrbits 42 = .ok (.goto (-40), 3) := by decide +kernel
theorem d_P_joinOrbits_45 : decode b_P_joinOrbits 45 = .ok (.return_, 1) := by decide +kernel
theorem d_P_joinImages_0 : decode b_P_joinImages 0 = .ok (.iconst 1, 1) := by decide +kernel
theorem d_P_joinImages_1 : decode b_P_joinImages 1 = .ok (.istore_n 3, 1) := by decide +kernel
theorem d_P_joinImages_2 : decode b_P_joinImages 2 = .ok (.iconst 0, 1) := by decide +kernel
theorem d_P_joinImages_3 : decode b_P_joinImages 3 = .ok (.istore 4, 2) := by decide +kernel
theorem d_P_joinImages_5 : decode b_P_joinImages 5 = .ok (.iload_n 3, 1) := by decide +kernel
theorem d_P_joinImages_6 : decode b_P_joinImages 6 = .ok (.ifCond .eq 49, 3) := by decide +kernel
theorem d_P_joinImages_9 : decode b_P_joinImages 9 = .ok (.iload 4, 2) := by decide +kernel
theorem d_P_joinImages_11 : decode b_P_joinImages 11 = .ok (.aload_n 0, 1) := by decide +kernel
theorem d_P_joinImages_12 : decode b_P_joinImages 12 = .ok (.getfield 7, 3) := by decide +kernel
theorem d_P_joinImages_15 : decode b_P_joinImages 15 = .ok (.arraylength, 1) := by decide +kernel
theorem d_P_joinImages_16 : decode b_P_joinImages 16 = .ok (.if_icmp .ge 39, 3) := by decide +kernel
theorem d_P_joinImages_19 : decode b_P_joinImages 19 = .ok (.iconst 0, 1) := by decide +kernel
theorem d_P_joinImages_20 : decode b_P_joinImages 20 = .ok (.istore_n 3, 1) := by decide +kernel
theorem d_P_joinImages_21 : decode b_P_joinImages 21 = .ok (.iconst 0, 1) := by decide +kernel
theorem d_P_joinImages_22 : decode b_P_joinImages 22 = .ok (.istore 5, 2) := by decide +kernel
theorem d_P_joinImages_24 : decode b_P_joinImages 24 = .ok (.iload 5, 2) := by decide +kernel
theorem d_P_joinImages_26 : decode b_P_joinImages 26 = .ok (.iload_n 2, 1) := by decide +kernel
theorem d_P_joinImages_27 : decode b_P_joinImages 27 = .ok (.if_icmp .ge 22, 3) := by decide +kernel
theorem d_P_joinImages_30 : decode b_P_joinImages 30 = .ok (.aload_n 0, 1) := by decide +kernel
theorem d_P_joinImages_31 : decode b_P_joinImages 31 = .ok (.aload_n 1, 1) := by decide +kernel
theorem d_P_joinImages_32 : decode b_P_joinImages 32 = .ok (.iload 5, 2) := by decide +kernel
theorem d_P_joinImages_34 : decode b_P_joinImages 34 = .ok (.aaload, 1) := by decide +kernel
theorem d_P_joinImages_35 : decode b_P_joinImages 35 = .ok (.invokevirtual 32, 3) := by decide +kernel
theorem d_P_joinImages_38 : decode b_P_joinImages 38 = .ok (.ifCond .eq 5, 3) := by decide +kernel
theorem d_P_joinImages_41 : decode b_P_joinImages 41 = .ok (.iconst 1, 1) := by decide +kernel
theorem d_P_joinImages_42 : decode b_P_joinImages 42 = .ok (.istore_n 3, 1) := by decide +kernel
theorem d_P_joinImages_43 : decode b_P_joinImages 43 = .ok (.iinc 5 1, 3) := by decide +kernel
theorem d_P_joinImages_46 : decode b_P_joinImages 46 = .ok (.goto (-22), 3) := by decide +kernel
theorem d_P_joinImages_49 : decode b_P_joinImages 49 = .ok (.iinc 4 1, 3) := by decide +kernel
theorem d_P_joinImages_52 : decode b_P_joinImages 52 = .ok (.goto (-47), 3) := by decide +kernel
theorem d_P_joinImages_55 : decode b_P_joinImages 55 = .ok (.return_, 1) := by decide +kernel
theorem d_P_joinImagesOnce_0 : decode b_P_joinImagesOnce 0 = .ok (.iconst 0, 1) := by decide +kernel
theorem d_P_joinImagesOnce_1 : decode b_P_joinImagesOnce 1 = .ok (.istore_n 2, 1) := by decide +kernel
theorem d_P_joinImagesOnce_2 : decode b_P_joinImagesOnce 2 = .ok (.iconst 0, 1) := by decide +kernel
theorem d_P_joinImagesOnce_3 : decode b_P_joinImagesOnce 3 = .ok (.istore_n 3, 1) := by decide +kernel
theorem d_P_joinImagesOnce_4 : decode b_P_joinImagesOnce 4 = .ok (.iload_n 3, 1) := by decide +kernel
theorem d_P_joinImagesOnce_5 : decode b_P_joinImagesOnce 5 = .ok (.aload_n 0, 1) := by decide +kernel
theorem d_P_joinImagesOnce_6 : decode b_P_joinImagesOnce 6 = .ok (.getfield 7, 3) := by decide +kernel
theorem d_P_joinImagesOnce_9 : decode b_P_joinImagesOnce 9 = .ok (.arraylength, 1) := by decide +kernel
theorem d_P_joinImagesOnce_10 : decode b_P_joinImagesOnce 10 = .ok (.if_icmp .ge 29, 3) := by decide +kernel
theorem d_P_joinImagesOnce_13 : decode b_P_joinImagesOnce 13 = .ok (.aload_n 0, 1) := by decide +kernel
theorem d_P_joinImagesOnce_14 : decode b_P_joinImagesOnce 14 = .ok (.aload_n 1, 1) := by decide +kernel
theorem d_P_joinImagesOnce_15 : decode b_P_joinImagesOnce 15 = .ok (.iload_n 3, 1) := by decide +kernel
theorem d_P_joinImagesOnce_16 : decode b_P_joinImagesOnce 16 = .ok (.iaload, 1) := by decide +kernel
theorem d_P_joinImagesOnce_17 : decode b_P_joinImagesOnce 17 = .ok (.aload_n 1, 1) := by decide +kernel
theorem d_P_joinImagesOnce_18 : decode b_P_joinImagesOnce 18 = .ok (.aload_n 0, 1) := by decide +kernel
theorem d_P_joinImagesOnce_19 : decode b_P_joinImagesOnce 19 = .ok (.getfield 7, 3) := by decide +kernel
theorem d_P_joinImagesOnce_22 : decode b_P_joinImagesOnce 22 = .ok (.iload_n 3, 1) := by decide +kernel
theorem d_P_joinImagesOnce_23 : decode b_P_joinImagesOnce 23 = .ok (.iaload, 1) := by decide +kernel
theorem d_P_joinImagesOnce_24 : decode b_P_joinImagesOnce 24 = .ok (.iaload, 1) := by decide +kernel
theorem d_P_joinImagesOnce_25 : decode b_P_joinImagesOnce 25 = .ok (.invokevirtual 28, 3) := by decide +kernel
theorem d_P_joinImagesOnce_28 : decode b_P_joinImagesOnce 28 = .ok (.ifCond .eq 5, 3) := by decide +kernel
theorem d_P_joinImagesOnce_31 : decode b_P_joinImagesOnce 31 = .ok (.iconst 1, 1) := by decide +kernel
theorem d_P_joinImagesOnce_32 : decode b_P_joinImagesOnce 32 = .ok (.istore_n 2, 1) := by decide +kernel
theorem d_P_joinImagesOnce_33 : decode b_P_joinImagesOnce 33 = .ok (.iinc 3 1, 3) := by decide +kernel
theorem d_P_joinImagesOnce_36 : decode b_P_joinImagesOnce 36 = .ok (.goto (-32), 3) := by decide +kernel
theorem d_P_joinImagesOnce_39 : decode b_P_joinImagesOnce 39 = .ok (.iload_n 2, 1) := by decide +kernel
theorem d_P_joinImagesOnce_40 : decode b_P_joinImagesOnce 40 = .ok (.ireturn, 1) := by decide +kernel
theorem d_P_leastWith_0 : decode b_P_leastWith 0 = .ok (.aload_n 0, 1) := by decide +kernel
theorem d_P_leastWith_1 : decode b_P_leastWith 1 = .ok (.getfield 7, 3) := by decide +kernel
theorem d_P_leastWith_4 : decode b_P_leastWith 4 = .ok (.iload_n 1, 1) := by decide +kernel
theorem d_P_leastWith_5 : decode b_P_leastWith 5 = .ok (.iaload, 1) := by decide +kernel
theorem d_P_leastWith_6 : decode b_P_leastWith 6 = .ok (.ireturn, 1) := by decide +kernel
theorem d_P_sizeWith_0 : decode b_P_sizeWith 0 = .ok (.iconst 0, 1) := by decide +kernel
theorem d_P_sizeWith_1 : decode b_P_sizeWith 1 = .ok (.istore_n 2, 1) := by decide +kernel
theorem d_P_sizeWith_2 : decode b_P_sizeWith 2 = .ok (.iconst 0, 1) := by decide +kernel
theorem d_P_sizeWith_3 : decode b_P_sizeWith 3 = .ok (.istore_n 3, 1) := by decide +kernel
theorem d_P_sizeWith_4 : decode b_P_sizeWith 4 = .ok (.iload_n 3, 1) := by decide +kernel
theorem d_P_sizeWith_5 : decode b_P_sizeWith 5 = .ok (.aload_n 0, 1) := by decide +kernel
theorem d_P_sizeWith_6 : decode b_P_sizeWith 6 = .ok (.getfield 7, 3) := by decide +kernel
theorem d_P_sizeWith_9 : decode b_P_sizeWith 9 = .ok (.arraylength, 1) := by decide +kernel
theorem d_P_sizeWith_10 : decode b_P_sizeWith 10 = .ok (.if_icmp .ge 27, 3) := by decide +kernel
theorem d_P_sizeWith_13 : decode b_P_sizeWith 13 = .ok (.aload_n 0, 1) := by decide +kernel
theorem d_P_sizeWith_14 : decode b_P_sizeWith 14 = .ok (.getfield 7, 3) := by decide +kernel
theorem d_P_sizeWith_17 : decode b_P_sizeWith 17 = .ok (.iload_n 3, 1) := by decide +kernel
theorem d_P_sizeWith_18 : decode b_P_sizeWith 18 = .ok (.iaload, 1) := by decide +kernel
theorem d_P_sizeWith_19 : decode b_P_sizeWith 19 = .ok (.aload_n 0, 1) := by decide +kernel
theorem d_P_sizeWith_20 : decode b_P_sizeWith 20 = .ok (.getfield 7, 3) := by decide +kernel
theorem d_P_sizeWith_23 : decode b_P_sizeWith 23 = .ok (.iload_n 1, 1) := by decide +kernel
theorem d_P_sizeWith_24 : decode b_P_sizeWith 24 = .ok (.iaload, 1) := by decide +kernel
theorem d_P_sizeWith_25 : decode b_P_sizeWith 25 = .ok (.if_icmp .ne 6, 3) := by decide +kernel
theorem d_P_sizeWith_28 : decode b_P_sizeWith 28 = .ok (.iinc 2 1, 3) := by decide +kernel
theorem d_P_sizeWith_31 : decode b_P_sizeWith 31 = .ok (.iinc 3 1, 3) := by decide +kernel
theorem d_P_sizeWith_34 : decode b_P_sizeWith 34 = .ok (.goto (-30), 3) := by decide +kernel
theorem d_P_sizeWith_37 : decode b_P_sizeWith 37 = .ok (.iload_n 2, 1) := by decide +kernel
theorem d_P_sizeWith_38 : decode b_P_sizeWith 38 = .ok (.ireturn, 1) := by decide +kernel
theorem d_A_fill_0 : decode b_A_fill 0 = .ok (.iconst 0, 1) := by decide +kernel
theorem d_A_fill_1 : decode b_A_fill 1 = .ok (.istore_n 2, 1) := by decide +kernel
theorem d_A_fill_2 : decode b_A_fill 2 = .ok (.aload_n 0, 1) := by decide +kernel
theorem d_A_fill_3 : decode b_A_fill 3 = .ok (.arraylength, 1) := by decide +kernel
theorem d_A_fill_4 : decode b_A_fill 4 = .ok (.istore_n 3, 1) := by decide +kernel
theorem d_A_fill_5 : decode b_A_fill 5 = .ok (.iload_n 2, 1) := by decide +kernel
theorem d_A_fill_6 : decode b_A_fill 6 = .ok (.iload_n 3, 1) := by decide +kernel
theorem d_A_fill_7 : decode b_A_fill 7 = .ok (.if_icmp .ge 13, 3) := by decide +kernel
theorem d_A_fill_10 : decode b_A_fill 10 = .ok (.aload_n 0, 1) := by decide +kernel
theorem d_A_fill_11 : decode b_A_fill 11 = .ok (.iload_n 2, 1) := by decide +kernel
theorem d_A_fill_12 : decode b_A_fill 12 = .ok (.iload_n 1, 1) := by decide +kernel
theorem d_A_fill_13 : decode b_A_fill 13 = .ok (.iastore, 1) := by decide +kernel
theorem d_A_fill_14 : decode b_A_fill 14 = .ok (.iinc 2 1, 3) := by decide +kernel
theorem d_A_fill_17 : decode b_A_fill 17 = .ok (.goto (-12), 3) := by decide +kernel
theorem d_A_fill_20 : decode b_A_fill 20 = .ok (.return_, 1) := by decide +kernel
