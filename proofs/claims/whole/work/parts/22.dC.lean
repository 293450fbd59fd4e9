theorem d_C_init_0 : decode b_C_init 0 = .ok (.aload_n 0, 1) := by decide +kernel
theorem d_C_init_1 : decode b_C_init 1 = .ok (.invokespecial 1, 3) := by decide +kernel
theorem d_C_init_4 : decode b_C_init 4 = .ok (.aload_n 0, 1) := by decide +kernel
theorem d_C_init_5 : decode b_C_init 5 = .ok (.iconst 1, 1) := by decide +kernel
theorem d_C_init_6 : decode b_C_init 6 = .ok (.bipush 24, 2) := by decide +kernel
theorem d_C_init_8 : decode b_C_init 8 = .ok (.iload_n 1, 1) := by decide +kernel
theorem d_C_init_9 : decode b_C_init 9 = .ok (.invokestatic 9, 3) := by decide +kernel
theorem d_C_init_12 : decode b_C_init 12 = .ok (.invokestatic 15, 3) := by decide +kernel
theorem d_C_init_15 : decode b_C_init 15 = .ok (.putfield 18, 3) := by decide +kernel
theorem d_C_init_18 : decode b_C_init 18 = .ok (.aload_n 0, 1) := by decide +kernel
theorem d_C_init_19 : decode b_C_init 19 = .ok (.bipush 10, 2) := by decide +kernel
theorem d_C_init_21 : decode b_C_init 21 = .ok (.aload_n 0, 1) := by decide +kernel
theorem d_C_init_22 : decode b_C_init 22 = .ok (.getfield 18, 3) := by decide +kernel
theorem d_C_init_25 : decode b_C_init 25 = .ok (.multianewarray 22 2, 4) := by decide +kernel
theorem d_C_init_29 : decode b_C_init 29 = .ok (.putfield 24, 3) := by decide +kernel
theorem d_C_init_32 : decode b_C_init 32 = .ok (.aload_n 0, 1) := by decide +kernel
theorem d_C_init_33 : decode b_C_init 33 = .ok (.bipush 20, 2) := by decide +kernel
theorem d_C_init_35 : decode b_C_init 35 = .ok (.aload_n 0, 1) := by decide +kernel
theorem d_C_init_36 : decode b_C_init 36 = .ok (.getfield 18, 3) := by decide +kernel
theorem d_C_init_39 : decode b_C_init 39 = .ok (.multianewarray 22 2, 4) := by decide +kernel
theorem d_C_init_43 : decode b_C_init 43 = .ok (.putfield 27, 3) := by decide +kernel
theorem d_C_init_46 : decode b_C_init 46 = .ok (.aload_n 0, 1) := by decide +kernel
theorem d_C_init_47 : decode b_C_init 47 = .ok (.new 30, 3) := by decide +kernel
theorem d_C_init_50 : decode b_C_init 50 = .ok (.dup, 1) := by decide +kernel
theorem d_C_init_51 : decode b_C_init 51 = .ok (.aload_n 0, 1) := by decide +kernel
theorem d_C_init_52 : decode b_C_init 52 = .ok (.getfield 18, 3) := by decide +kernel
theorem d_C_init_55 : decode b_C_init 55 = .ok (.invokespecial 32, 3) := by decide +kernel
theorem d_C_init_58 : decode b_C_init 58 = .ok (.putfield 35, 3) := by decide +kernel
theorem d_C_init_61 : decode b_C_init 61 = .ok (.aload_n 0, 1) := by decide +kernel
theorem d_C_init_62 : decode b_C_init 62 = .ok (.new 39, 3) := by decide +kernel
theorem d_C_init_65 : decode b_C_init 65 = .ok (.dup, 1) := by decide +kernel
theorem d_C_init_66 : decode b_C_init 66 = .ok (.invokespecial 41, 3) := by decide +kernel
theorem d_C_init_69 : decode b_C_init 69 = .ok (.putfield 42, 3) := by decide +kernel
theorem d_C_init_72 : decode b_C_init 72 = .ok (.return_, 1) := by decide +kernel
theorem d_C_move_0 : decode b_C_move 0 = .ok (.aload_n 0, 1) := by decide +kernel
theorem d_C_move_1 : decode b_C_move 1 = .ok (.getfield 46, 3) := by decide +kernel
theorem d_C_move_4 : decode b_C_move 4 = .ok (.bipush 10, 2) := by decide +kernel
theorem d_C_move_6 : decode b_C_move 6 = .ok (.if_icmp .lt 5, 3) := by decide +kernel
theorem d_C_move_9 : decode b_C_move 9 = .ok (.iconst (-1), 1) := by decide +kernel
theorem d_C_move_10 : decode b_C_move 10 = .ok (.ireturn, 1) := by decide +kernel
theorem d_C_move_11 : decode b_C_move 11 = .ok (.aload_n 0, 1) := by decide +kernel
theorem d_C_move_12 : decode b_C_move 12 = .ok (.getfield 24, 3) := by decide +kernel
theorem d_C_move_15 : decode b_C_move 15 = .ok (.aload_n 0, 1) := by decide +kernel
theorem d_C_move_16 : decode b_C_move 16 = .ok (.getfield 46, 3) := by decide +kernel
theorem d_C_move_19 : decode b_C_move 19 = .ok (.aaload, 1) := by decide +kernel
theorem d_C_move_20 : decode b_C_move 20 = .ok (.invokestatic 49, 3) := by decide +kernel
theorem d_C_move_23 : decode b_C_move 23 = .ok (.aload_n 0, 1) := by decide +kernel
theorem d_C_move_24 : decode b_C_move 24 = .ok (.dup, 1) := by decide +kernel
theorem d_C_move_25 : decode b_C_move 25 = .ok (.getfield 46, 3) := by decide +kernel
theorem d_C_move_28 : decode b_C_move 28 = .ok (.iconst 1, 1) := by decide +kernel
theorem d_C_move_29 : decode b_C_move 29 = .ok (.iadd, 1) := by decide +kernel
theorem d_C_move_30 : decode b_C_move 30 = .ok (.putfield 46, 3) := by decide +kernel
theorem d_C_move_33 : decode b_C_move 33 = .ok (.aload_n 0, 1) := by decide +kernel
theorem d_C_move_34 : decode b_C_move 34 = .ok (.getfield 46, 3) := by decide +kernel
theorem d_C_move_37 : decode b_C_move 37 = .ok (.iconst 1, 1) := by decide +kernel
theorem d_C_move_38 : decode b_C_move 38 = .ok (.isub, 1) := by decide +kernel
theorem d_C_move_39 : decode b_C_move 39 = .ok (.ireturn, 1) := by decide +kernel
theorem d_C_cycle_0 : decode b_C_cycle 0 = .ok (.aload_n 0, 1) := by decide +kernel
theorem d_C_cycle_1 : decode b_C_cycle 1 = .ok (.iload_n 1, 1) := by decide +kernel
theorem d_C_cycle_2 : decode b_C_cycle 2 = .ok (.invokevirtual 53, 3) := by decide +kernel
theorem d_C_cycle_5 : decode b_C_cycle 5 = .ok (.ifCond .eq 24, 3) := by decide +kernel
theorem d_C_cycle_8 : decode b_C_cycle 8 = .ok (.aload_n 0, 1) := by decide +kernel
theorem d_C_cycle_9 : decode b_C_cycle 9 = .ok (.iload_n 2, 1) := by decide +kernel
theorem d_C_cycle_10 : decode b_C_cycle 10 = .ok (.invokevirtual 57, 3) := by decide +kernel
theorem d_C_cycle_13 : decode b_C_cycle 13 = .ok (.ifCond .eq 16, 3) := by decide +kernel
theorem d_C_cycle_16 : decode b_C_cycle 16 = .ok (.aload_n 0, 1) := by decide +kernel
theorem d_C_cycle_17 : decode b_C_cycle 17 = .ok (.iload_n 3, 1) := by decide +kernel
theorem d_C_cycle_18 : decode b_C_cycle 18 = .ok (.invokevirtual 57, 3) := by decide +kernel
theorem d_C_cycle_21 : decode b_C_cycle 21 = .ok (.ifCond .eq 8, 3) := by decide +kernel
theorem d_C_cycle_24 : decode b_C_cycle 24 = .ok (.iload_n 2, 1) := by decide +kernel
theorem d_C_cycle_25 : decode b_C_cycle 25 = .ok (.iload_n 3, 1) := by decide +kernel
theorem d_C_cycle_26 : decode b_C_cycle 26 = .ok (.if_icmp .ne 5, 3) := by decide +kernel
theorem d_C_cycle_29 : decode b_C_cycle 29 = .ok (.iconst 0, 1) := by decide +kernel
theorem d_C_cycle_30 : decode b_C_cycle 30 = .ok (.ireturn, 1) := by decide +kernel
theorem d_C_cycle_31 : decode b_C_cycle 31 = .ok (.aload_n 0, 1) := by decide +kernel
theorem d_C_cycle_32 : decode b_C_cycle 32 = .ok (.getfield 24, 3) := by decide +kernel
theorem d_C_cycle_35 : decode b_C_cycle 35 = .ok (.iload_n 1, 1) := by decide +kernel
theorem d_C_cycle_36 : decode b_C_cycle 36 = .ok (.aaload, 1) := by decide +kernel
theorem d_C_cycle_37 : decode b_C_cycle 37 = .ok (.astore 4, 2) := by decide +kernel
theorem d_C_cycle_39 : decode b_C_cycle 39 = .ok (.aload 4, 2) := by decide +kernel
theorem d_C_cycle_41 : decode b_C_cycle 41 = .ok (.iload_n 3, 1) := by decide +kernel
theorem d_C_cycle_42 : decode b_C_cycle 42 = .ok (.iaload, 1) := by decide +kernel
theorem d_C_cycle_43 : decode b_C_cycle 43 = .ok (.iload_n 3, 1) := by decide +kernel
theorem d_C_cycle_44 : decode b_C_cycle 44 = .ok (.if_icmp .eq 5, 3) := by decide +kernel
theorem d_C_cycle_47 : decode b_C_cycle 47 = .ok (.iconst 0, 1) := by decide +kernel
theorem d_C_cycle_48 : decode b_C_cycle 48 = .ok (.ireturn, 1) := by decide +kernel
theorem d_C_cycle_49 : decode b_C_cycle 49 = .ok (.aload 4, 2) := by decide +kernel
theorem d_C_cycle_51 : decode b_C_cycle 51 = .ok (.iload_n 3, 1) := by decide +kernel
theorem d_C_cycle_52 : decode b_C_cycle 52 = .ok (.aload 4, 2) := by decide +kernel
theorem d_C_cycle_54 : decode b_C_cycle 54 = .ok (.iload_n 2, 1) := by decide +kernel
theorem d_C_cycle_55 : decode b_C_cycle 55 = .ok (.iaload, 1) := by decide +kernel
theorem d_C_cycle_56 : decode b_C_cycle 56 = .ok (.iastore, 1) := by decide +kernel
theorem d_C_cycle_57 : decode b_C_cycle 57 = .ok (.aload 4, 2) := by decide +kernel
theorem d_C_cycle_59 : decode b_C_cycle 59 = .ok (.iload_n 2, 1) := by decide +kernel
theorem d_C_cycle_60 : decode b_C_cycle 60 = .ok (.iload_n 3, 1) := by decide +kernel
theorem d_C_cycle_61 : decode b_C_cycle 61 = .ok (.iastore, 1) := by decide +kernel
theorem d_C_cycle_62 : decode b_C_cycle 62 = .ok (.aload_n 0, 1) := by decide +kernel
theorem d_C_cycle_63 : decode b_C_cycle 63 = .ok (.iconst 1, 1) := by decide +kernel
theorem d_C_cycle_64 : decode b_C_cycle 64 = .ok (.putfield 60, 3) := by decide +kernel
theorem d_C_cycle_67 : decode b_C_cycle 67 = .ok (.iconst 1, 1) := by decide +kernel
theorem d_C_cycle_68 : decode b_C_cycle 68 = .ok (.ireturn, 1) := by decide +kernel
theorem d_C_run_0 : decode b_C_run 0 = .ok (.aload_n 0, 1) := by decide +kernel
theorem d_C_run_1 : decode b_C_run 1 = .ok (.invokevirtual 64, 3) := by decide +kernel
theorem d_C_run_4 : decode b_C_run 4 = .ok (.astore_n 1, 1) := by decide +kernel
theorem d_C_run_5 : decode b_C_run 5 = .ok (.iconst 0, 1) := by decide +kernel
theorem d_C_run_6 : decode b_C_run 6 = .ok (.istore_n 2, 1) := by decide +kernel
theorem d_C_run_7 : decode b_C_run 7 = .ok (.iconst 0, 1) := by decide +kernel
theorem d_C_run_8 : decode b_C_run 8 = .ok (.istore_n 3, 1) := by decide +kernel
theorem d_C_run_9 : decode b_C_run 9 = .ok (.iload_n 3, 1) := by decide +kernel
theorem d_C_run_10 : decode b_C_run 10 = .ok (.aload_n 0, 1) := by decide +kernel
theorem d_C_run_11 : decode b_C_run 11 = .ok (.getfield 18, 3) := by decide +kernel
theorem d_C_run_14 : decode b_C_run 14 = .ok (.if_icmp .ge 21, 3) := by decide +kernel
theorem d_C_run_17 : decode b_C_run 17 = .ok (.aload_n 1, 1) := by decide +kernel
theorem d_C_run_18 : decode b_C_run 18 = .ok (.iload_n 3, 1) := by decide +kernel
theorem d_C_run_19 : decode b_C_run 19 = .ok (.invokevirtual 68, 3) := by decide +kernel
theorem d_C_run_22 : decode b_C_run 22 = .ok (.iconst 2, 1) := by decide +kernel
theorem d_C_run_23 : decode b_C_run 23 = .ok (.if_icmp .lt 6, 3) := by decide +kernel
theorem d_C_run_26 : decode b_C_run 26 = .ok (.iinc 2 1, 3) := by decide +kernel
theorem d_C_run_29 : decode b_C_run 29 = .ok (.iinc 3 1, 3) := by decide +kernel
theorem d_C_run_32 : decode b_C_run 32 = .ok (.goto (-23), 3) := by decide +kernel
theorem d_C_run_35 : decode b_C_run 35 = .ok (.iload_n 2, 1) := by decide +kernel
theorem d_C_run_36 : decode b_C_run 36 = .ok (.ireturn, 1) := by decide +kernel
theorem d_C_base_0 : decode b_C_base 0 = .ok (.aload_n 0, 1) := by decide +kernel
theorem d_C_base_1 : decode b_C_base 1 = .ok (.invokevirtual 64, 3) := by decide +kernel
theorem d_C_base_4 : decode b_C_base 4 = .ok (.astore_n 2, 1) := by decide +kernel
theorem d_C_base_5 : decode b_C_base 5 = .ok (.iconst 0, 1) := by decide +kernel
theorem d_C_base_6 : decode b_C_base 6 = .ok (.istore_n 3, 1) := by decide +kernel
theorem d_C_base_7 : decode b_C_base 7 = .ok (.iconst 0, 1) := by decide +kernel
theorem d_C_base_8 : decode b_C_base 8 = .ok (.istore 4, 2) := by decide +kernel
theorem d_C_base_10 : decode b_C_base 10 = .ok (.iload 4, 2) := by decide +kernel
theorem d_C_base_12 : decode b_C_base 12 = .ok (.aload_n 0, 1) := by decide +kernel
theorem d_C_base_13 : decode b_C_base 13 = .ok (.getfield 18, 3) := by decide +kernel
theorem d_C_base_16 : decode b_C_base 16 = .ok (.if_icmp .ge 30, 3) := by decide +kernel
theorem d_C_base_19 : decode b_C_base 19 = .ok (.aload_n 2, 1) := by decide +kernel
theorem d_C_base_20 : decode b_C_base 20 = .ok (.iload 4, 2) := by decide +kernel
theorem d_C_base_22 : decode b_C_base 22 = .ok (.invokevirtual 68, 3) := by decide +kernel
theorem d_C_base_25 : decode b_C_base 25 = .ok (.iconst 2, 1) := by decide +kernel
theorem d_C_base_26 : decode b_C_base 26 = .ok (.if_icmp .lt 14, 3) := by decide +kernel
theorem d_C_base_29 : decode b_C_base 29 = .ok (.iload_n 3, 1) := by decide +kernel
theorem d_C_base_30 : decode b_C_base 30 = .ok (.iload_n 1, 1) := by decide +kernel
theorem d_C_base_31 : decode b_C_base 31 = .ok (.if_icmp .ne 6, 3) := by decide +kernel
theorem d_C_base_34 : decode b_C_base 34 = .ok (.iload 4, 2) := by decide +kernel
theorem d_C_base_36 : decode b_C_base 36 = .ok (.ireturn, 1) := by decide +kernel
theorem d_C_base_37 : decode b_C_base 37 = .ok (.iinc 3 1, 3) := by decide +kernel
theorem d_C_base_40 : decode b_C_base 40 = .ok (.iinc 4 1, 3) := by decide +kernel
theorem d_C_base_43 : decode b_C_base 43 = .ok (.goto (-33), 3) := by decide +kernel
theorem d_C_base_46 : decode b_C_base 46 = .ok (.iconst (-1), 1) := by decide +kernel
theorem d_C_base_47 : decode b_C_base 47 = .ok (.ireturn, 1) := by decide +kernel
theorem d_C_spread_0 : decode b_C_spread 0 = .ok (.aload_n 0, 1) := by decide +kernel
theorem d_C_spread_1 : decode b_C_spread 1 = .ok (.iload_n 1, 1) := by decide +kernel
theorem d_C_spread_2 : decode b_C_spread 2 = .ok (.invokevirtual 57, 3) := by decide +kernel
theorem d_C_spread_5 : decode b_C_spread 5 = .ok (.ifCond .eq 14, 3) := by decide +kernel
theorem d_C_spread_8 : decode b_C_spread 8 = .ok (.aload_n 0, 1) := by decide +kernel
theorem d_C_spread_9 : decode b_C_spread 9 = .ok (.invokevirtual 64, 3) := by decide +kernel
theorem d_C_spread_12 : decode b_C_spread 12 = .ok (.iload_n 1, 1) := by decide +kernel
theorem d_C_spread_13 : decode b_C_spread 13 = .ok (.invokevirtual 68, 3) := by decide +kernel
theorem d_C_spread_16 : decode b_C_spread 16 = .ok (.goto 4, 3) := by decide +kernel
theorem d_C_spread_19 : decode b_C_spread 19 = .ok (.iconst (-1), 1) := by decide +kernel
theorem d_C_spread_20 : decode b_C_spread 20 = .ok (.ireturn, 1) := by decide +kernel
theorem d_C_order_0 : decode b_C_order 0 = .ok (.aload_n 0, 1) := by decide +kernel
theorem d_C_order_1 : decode b_C_order 1 = .ok (.aload_n 0, 1) := by decide +kernel
theorem d_C_order_2 : decode b_C_order 2 = .ok (.invokevirtual 64, 3) := by decide +kernel
theorem d_C_order_5 : decode b_C_order 5 = .ok (.invokevirtual 74, 3) := by decide +kernel
theorem d_C_order_8 : decode b_C_order 8 = .ok (.aload_n 0, 1) := by decide +kernel
theorem d_C_order_9 : decode b_C_order 9 = .ok (.getfield 42, 3) := by decide +kernel
theorem d_C_order_12 : decode b_C_order 12 = .ok (.iload_n 1, 1) := by decide +kernel
theorem d_C_order_13 : decode b_C_order 13 = .ok (.invokevirtual 78, 3) := by decide +kernel
theorem d_C_order_16 : decode b_C_order 16 = .ok (.ireturn, 1) := by decide +kernel
theorem d_C_stabiliser_0 : decode b_C_stabiliser 0 = .ok (.aload_n 0, 1) := by decide +kernel
theorem d_C_stabiliser_1 : decode b_C_stabiliser 1 = .ok (.iload_n 1, 1) := by decide +kernel
theorem d_C_stabiliser_2 : decode b_C_stabiliser 2 = .ok (.invokevirtual 57, 3) := by decide +kernel
theorem d_C_stabiliser_5 : decode b_C_stabiliser 5 = .ok (.ifCond .ne 5, 3) := by decide +kernel
theorem d_C_stabiliser_8 : decode b_C_stabiliser 8 = .ok (.iconst (-1), 1) := by decide +kernel
theorem d_C_stabiliser_9 : decode b_C_stabiliser 9 = .ok (.ireturn, 1) := by decide +kernel
theorem d_C_stabiliser_10 : decode b_C_stabiliser 10 = .ok (.aload_n 0, 1) := by decide +kernel
theorem d_C_stabiliser_11 : decode b_C_stabiliser 11 = .ok (.getfield 35, 3) := by decide +kernel
theorem d_C_stabiliser_14 : decode b_C_stabiliser 14 = .ok (.invokevirtual 81, 3) := by decide +kernel
theorem d_C_stabiliser_17 : decode b_C_stabiliser 17 = .ok (.aload_n 0, 1) := by decide +kernel
theorem d_C_stabiliser_18 : decode b_C_stabiliser 18 = .ok (.getfield 35, 3) := by decide +kernel
theorem d_C_stabiliser_21 : decode b_C_stabiliser 21 = .ok (.aload_n 0, 1) := by decide +kernel
theorem d_C_stabiliser_22 : decode b_C_stabiliser 22 = .ok (.getfield 24, 3) := by decide +kernel
theorem d_C_stabiliser_25 : decode b_C_stabiliser 25 = .ok (.aload_n 0, 1) := by decide +kernel
theorem d_C_stabiliser_26 : decode b_C_stabiliser 26 = .ok (.getfield 46, 3) := by decide +kernel
theorem d_C_stabiliser_29 : decode b_C_stabiliser 29 = .ok (.invokevirtual 84, 3) := by decide +kernel
theorem d_C_stabiliser_32 : decode b_C_stabiliser 32 = .ok (.aload_n 0, 1) := by decide +kernel
theorem d_C_stabiliser_33 : decode b_C_stabiliser 33 = .ok (.aload_n 0, 1) := by decide +kernel
theorem d_C_stabiliser_34 : decode b_C_stabiliser 34 = .ok (.invokevirtual 64, 3) := by decide +kernel
theorem d_C_stabiliser_37 : decode b_C_stabiliser 37 = .ok (.invokevirtual 74, 3) := by decide +kernel
theorem d_C_stabiliser_40 : decode b_C_stabiliser 40 = .ok (.aload_n 0, 1) := by decide +kernel
theorem d_C_stabiliser_41 : decode b_C_stabiliser 41 = .ok (.getfield 42, 3) := by decide +kernel
theorem d_C_stabiliser_44 : decode b_C_stabiliser 44 = .ok (.aload_n 0, 1) := by decide +kernel
theorem d_C_stabiliser_45 : decode b_C_stabiliser 45 = .ok (.getfield 35, 3) := by decide +kernel
theorem d_C_stabiliser_48 : decode b_C_stabiliser 48 = .ok (.iload_n 1, 1) := by decide +kernel
theorem d_C_stabiliser_49 : decode b_C_stabiliser 49 = .ok (.invokevirtual 88, 3) := by decide +kernel
theorem d_C_stabiliser_52 : decode b_C_stabiliser 52 = .ok (.invokevirtual 91, 3) := by decide +kernel
theorem d_C_stabiliser_55 : decode b_C_stabiliser 55 = .ok (.aload_n 0, 1) := by decide +kernel
theorem d_C_stabiliser_56 : decode b_C_stabiliser 56 = .ok (.getfield 42, 3) := by decide +kernel
theorem d_C_stabiliser_59 : decode b_C_stabiliser 59 = .ok (.iload_n 2, 1) := by decide +kernel
theorem d_C_stabiliser_60 : decode b_C_stabiliser 60 = .ok (.invokevirtual 78, 3) := by decide +kernel
theorem d_C_stabiliser_63 : decode b_C_stabiliser 63 = .ok (.ireturn, 1) := by decide +kernel
theorem d_C_orbit_0 : decode b_C_orbit 0 = .ok (.aload_n 0, 1) := by decide +kernel
theorem d_C_orbit_1 : decode b_C_orbit 1 = .ok (.iload_n 1, 1) := by decide +kernel
theorem d_C_orbit_2 : decode b_C_orbit 2 = .ok (.invokevirtual 57, 3) := by decide +kernel
theorem d_C_orbit_5 : decode b_C_orbit 5 = .ok (.ifCond .ne 5, 3) := by decide +kernel
theorem d_C_orbit_8 : decode b_C_orbit 8 = .ok (.iconst (-1), 1) := by decide +kernel
theorem d_C_orbit_9 : decode b_C_orbit 9 = .ok (.ireturn, 1) := by decide +kernel
theorem d_C_orbit_10 : decode b_C_orbit 10 = .ok (.aload_n 0, 1) := by decide +kernel
theorem d_C_orbit_11 : decode b_C_orbit 11 = .ok (.getfield 35, 3) := by decide +kernel
theorem d_C_orbit_14 : decode b_C_orbit 14 = .ok (.invokevirtual 81, 3) := by decide +kernel
theorem d_C_orbit_17 : decode b_C_orbit 17 = .ok (.aload_n 0, 1) := by decide +kernel
theorem d_C_orbit_18 : decode b_C_orbit 18 = .ok (.getfield 35, 3) := by decide +kernel
theorem d_C_orbit_21 : decode b_C_orbit 21 = .ok (.aload_n 0, 1) := by decide +kernel
theorem d_C_orbit_22 : decode b_C_orbit 22 = .ok (.getfield 24, 3) := by decide +kernel
theorem d_C_orbit_25 : decode b_C_orbit 25 = .ok (.aload_n 0, 1) := by decide +kernel
theorem d_C_orbit_26 : decode b_C_orbit 26 = .ok (.getfield 46, 3) := by decide +kernel
theorem d_C_orbit_29 : decode b_C_orbit 29 = .ok (.invokevirtual 84, 3) := by decide +kernel
theorem d_C_orbit_32 : decode b_C_orbit 32 = .ok (.aload_n 0, 1) := by decide +kernel
theorem d_C_orbit_33 : decode b_C_orbit 33 = .ok (.getfield 35, 3) := by decide +kernel
theorem d_C_orbit_36 : decode b_C_orbit 36 = .ok (.iload_n 1, 1) := by decide +kernel
theorem d_C_orbit_37 : decode b_C_orbit 37 = .ok (.invokevirtual 94, 3) := by decide +kernel
theorem d_C_orbit_40 : decode b_C_orbit 40 = .ok (.ireturn, 1) := by decide +kernel
theorem d_C_block_0 : decode b_C_block 0 = .ok (.aload_n 0, 1) := by decide +kernel
theorem d_C_block_1 : decode b_C_block 1 = .ok (.iload_n 1, 1) := by decide +kernel
theorem d_C_block_2 : decode b_C_block 2 = .ok (.invokevirtual 57, 3) := by decide +kernel
theorem d_C_block_5 : decode b_C_block 5 = .ok (.ifCond .eq 11, 3) := by decide +kernel
theorem d_C_block_8 : decode b_C_block 8 = .ok (.aload_n 0, 1) := by decide +kernel
theorem d_C_block_9 : decode b_C_block 9 = .ok (.iload_n 2, 1) := by decide +kernel
theorem d_C_block_10 : decode b_C_block 10 = .ok (.invokevirtual 57, 3) := by decide +kernel
theorem d_C_block_13 : decode b_C_block 13 = .ok (.ifCond .ne 5, 3) := by decide +kernel
theorem d_C_block_16 : decode b_C_block 16 = .ok (.iconst (-1), 1) := by decide +kernel
theorem d_C_block_17 : decode b_C_block 17 = .ok (.ireturn, 1) := by decide +kernel
theorem d_C_block_18 : decode b_C_block 18 = .ok (.aload_n 0, 1) := by decide +kernel
theorem d_C_block_19 : decode b_C_block 19 = .ok (.getfield 35, 3) := by decide +kernel
theorem d_C_block_22 : decode b_C_block 22 = .ok (.invokevirtual 81, 3) := by decide +kernel
theorem d_C_block_25 : decode b_C_block 25 = .ok (.aload_n 0, 1) := by decide +kernel
theorem d_C_block_26 : decode b_C_block 26 = .ok (.getfield 35, 3) := by decide +kernel
theorem d_C_block_29 : decode b_C_block 29 = .ok (.iload_n 1, 1) := by decide +kernel
theorem d_C_block_30 : decode b_C_block 30 = .ok (.iload_n 2, 1) := by decide +kernel
theorem d_C_block_31 : decode b_C_block 31 = .ok (.invokevirtual 97, 3) := by decide +kernel
theorem d_C_block_34 : decode b_C_block 34 = .ok (.pop, 1) := by decide +kernel
theorem d_C_block_35 : decode b_C_block 35 = .ok (.aload_n 0, 1) := by decide +kernel
theorem d_C_block_36 : decode b_C_block 36 = .ok (.getfield 35, 3) := by decide +kernel
theorem d_C_block_39 : decode b_C_block 39 = .ok (.aload_n 0, 1) := by decide +kernel
theorem d_C_block_40 : decode b_C_block 40 = .ok (.getfield 24, 3) := by decide +kernel
theorem d_C_block_43 : decode b_C_block 43 = .ok (.aload_n 0, 1) := by decide +kernel
theorem d_C_block_44 : decode b_C_block 44 = .ok (.getfield 46, 3) := by decide +kernel
theorem d_C_block_47 : decode b_C_block 47 = .ok (.invokevirtual 101, 3) := by decide +kernel
theorem d_C_block_50 : decode b_C_block 50 = .ok (.aload_n 0, 1) := by decide +kernel
theorem d_C_block_51 : decode b_C_block 51 = .ok (.getfield 35, 3) := by decide +kernel
theorem d_C_block_54 : decode b_C_block 54 = .ok (.iload_n 1, 1) := by decide +kernel
theorem d_C_block_55 : decode b_C_block 55 = .ok (.invokevirtual 88, 3) := by decide +kernel
theorem d_C_block_58 : decode b_C_block 58 = .ok (.ireturn, 1) := by decide +kernel
theorem d_C_state_0 : decode b_C_state 0 = .ok (.aload_n 0, 1) := by decide +kernel
theorem d_C_state_1 : decode b_C_state 1 = .ok (.getfield 104, 3) := by decide +kernel
theorem d_C_state_4 : decode b_C_state 4 = .ok (.bipush 20, 2) := by decide +kernel
theorem d_C_state_6 : decode b_C_state 6 = .ok (.if_icmp .lt 5, 3) := by decide +kernel
theorem d_C_state_9 : decode b_C_state 9 = .ok (.iconst (-1), 1) := by decide +kernel
theorem d_C_state_10 : decode b_C_state 10 = .ok (.ireturn, 1) := by decide +kernel
theorem d_C_state_11 : decode b_C_state 11 = .ok (.aload_n 0, 1) := by decide +kernel
theorem d_C_state_12 : decode b_C_state 12 = .ok (.getfield 27, 3) := by decide +kernel
theorem d_C_state_15 : decode b_C_state 15 = .ok (.aload_n 0, 1) := by decide +kernel
theorem d_C_state_16 : decode b_C_state 16 = .ok (.getfield 104, 3) := by decide +kernel
theorem d_C_state_19 : decode b_C_state 19 = .ok (.aaload, 1) := by decide +kernel
theorem d_C_state_20 : decode b_C_state 20 = .ok (.invokestatic 49, 3) := by decide +kernel
theorem d_C_state_23 : decode b_C_state 23 = .ok (.aload_n 0, 1) := by decide +kernel
theorem d_C_state_24 : decode b_C_state 24 = .ok (.dup, 1) := by decide +kernel
theorem d_C_state_25 : decode b_C_state 25 = .ok (.getfield 104, 3) := by decide +kernel
theorem d_C_state_28 : decode b_C_state 28 = .ok (.iconst 1, 1) := by decide +kernel
theorem d_C_state_29 : decode b_C_state 29 = .ok (.iadd, 1) := by decide +kernel
theorem d_C_state_30 : decode b_C_state 30 = .ok (.putfield 104, 3) := by decide +kernel
theorem d_C_state_33 : decode b_C_state 33 = .ok (.aload_n 0, 1) := by decide +kernel
theorem d_C_state_34 : decode b_C_state 34 = .ok (.getfield 104, 3) := by decide +kernel
theorem d_C_state_37 : decode b_C_state 37 = .ok (.iconst 1, 1) := by decide +kernel
theorem d_C_state_38 : decode b_C_state 38 = .ok (.isub, 1) := by decide +kernel
theorem d_C_state_39 : decode b_C_state 39 = .ok (.ireturn, 1) := by decide +kernel
theorem d_C_apply_0 : decode b_C_apply 0 = .ok (.aload_n 0, 1) := by decide +kernel
theorem d_C_apply_1 : decode b_C_apply 1 = .ok (.iload_n 1, 1) := by decide +kernel
theorem d_C_apply_2 : decode b_C_apply 2 = .ok (.invokevirtual 107, 3) := by decide +kernel
theorem d_C_apply_5 : decode b_C_apply 5 = .ok (.ifCond .eq 11, 3) := by decide +kernel
theorem d_C_apply_8 : decode b_C_apply 8 = .ok (.aload_n 0, 1) := by decide +kernel
theorem d_C_apply_9 : decode b_C_apply 9 = .ok (.iload_n 2, 1) := by decide +kernel
theorem d_C_apply_10 : decode b_C_apply 10 = .ok (.invokevirtual 53, 3) := by decide +kernel
theorem d_C_apply_13 : decode b_C_apply 13 = .ok (.ifCond .ne 5, 3) := by decide +kernel
theorem d_C_apply_16 : decode b_C_apply 16 = .ok (.iconst 0, 1) := by decide +kernel
theorem d_C_apply_17 : decode b_C_apply 17 = .ok (.ireturn, 1) := by decide +kernel
theorem d_C_apply_18 : decode b_C_apply 18 = .ok (.aload_n 0, 1) := by decide +kernel
theorem d_C_apply_19 : decode b_C_apply 19 = .ok (.getfield 27, 3) := by decide +kernel
theorem d_C_apply_22 : decode b_C_apply 22 = .ok (.iload_n 1, 1) := by decide +kernel
theorem d_C_apply_23 : decode b_C_apply 23 = .ok (.aaload, 1) := by decide +kernel
theorem d_C_apply_24 : decode b_C_apply 24 = .ok (.aload_n 0, 1) := by decide +kernel
theorem d_C_apply_25 : decode b_C_apply 25 = .ok (.getfield 24, 3) := by decide +kernel
theorem d_C_apply_28 : decode b_C_apply 28 = .ok (.iload_n 2, 1) := by decide +kernel
theorem d_C_apply_29 : decode b_C_apply 29 = .ok (.aaload, 1) := by decide +kernel
theorem d_C_apply_30 : decode b_C_apply 30 = .ok (.invokestatic 110, 3) := by decide +kernel
theorem d_C_apply_33 : decode b_C_apply 33 = .ok (.iconst 1, 1) := by decide +kernel
theorem d_C_apply_34 : decode b_C_apply 34 = .ok (.ireturn, 1) := by decide +kernel
theorem d_C_exchange_0 : decode b_C_exchange 0 = .ok (.aload_n 0, 1) := by decide +kernel
theorem d_C_exchange_1 : decode b_C_exchange 1 = .ok (.iload_n 1, 1) := by decide +kernel
theorem d_C_exchange_2 : decode b_C_exchange 2 = .ok (.invokevirtual 107, 3) := by decide +kernel
theorem d_C_exchange_5 : decode b_C_exchange 5 = .ok (.ifCond .eq 24, 3) := by decide +kernel
theorem d_C_exchange_8 : decode b_C_exchange 8 = .ok (.aload_n 0, 1) := by decide +kernel
theorem d_C_exchange_9 : decode b_C_exchange 9 = .ok (.iload_n 2, 1) := by decide +kernel
theorem d_C_exchange_10 : decode b_C_exchange 10 = .ok (.invokevirtual 57, 3) := by decide +kernel
theorem d_C_exchange_13 : decode b_C_exchange 13 = .ok (.ifCond .eq 16, 3) := by decide +kernel
theorem d_C_exchange_16 : decode b_C_exchange 16 = .ok (.aload_n 0, 1) := by decide +kernel
theorem d_C_exchange_17 : decode b_C_exchange 17 = .ok (.iload_n 3, 1) := by decide +kernel
theorem d_C_exchange_18 : decode b_C_exchange 18 = .ok (.invokevirtual 57, 3) := by decide +kernel
theorem d_C_exchange_21 : decode b_C_exchange 21 = .ok (.ifCond .eq 8, 3) := by decide +kernel
theorem d_C_exchange_24 : decode b_C_exchange 24 = .ok (.iload_n 2, 1) := by decide +kernel
theorem d_C_exchange_25 : decode b_C_exchange 25 = .ok (.iload_n 3, 1) := by decide +kernel
theorem d_C_exchange_26 : decode b_C_exchange 26 = .ok (.if_icmp .ne 5, 3) := by decide +kernel
theorem d_C_exchange_29 : decode b_C_exchange 29 = .ok (.iconst 0, 1) := by decide +kernel
theorem d_C_exchange_30 : decode b_C_exchange 30 = .ok (.ireturn, 1) := by decide +kernel
theorem d_C_exchange_31 : decode b_C_exchange 31 = .ok (.aload_n 0, 1) := by decide +kernel
theorem d_C_exchange_32 : decode b_C_exchange 32 = .ok (.getfield 27, 3) := by decide +kernel
theorem d_C_exchange_35 : decode b_C_exchange 35 = .ok (.iload_n 1, 1) := by decide +kernel
theorem d_C_exchange_36 : decode b_C_exchange 36 = .ok (.aaload, 1) := by decide +kernel
theorem d_C_exchange_37 : decode b_C_exchange 37 = .ok (.astore 4, 2) := by decide +kernel
theorem d_C_exchange_39 : decode b_C_exchange 39 = .ok (.iconst 0, 1) := by decide +kernel
theorem d_C_exchange_40 : decode b_C_exchange 40 = .ok (.istore 5, 2) := by decide +kernel
theorem d_C_exchange_42 : decode b_C_exchange 42 = .ok (.iload 5, 2) := by decide +kernel
theorem d_C_exchange_44 : decode b_C_exchange 44 = .ok (.aload_n 0, 1) := by decide +kernel
theorem d_C_exchange_45 : decode b_C_exchange 45 = .ok (.getfield 18, 3) := by decide +kernel
theorem d_C_exchange_48 : decode b_C_exchange 48 = .ok (.if_icmp .ge 42, 3) := by decide +kernel
theorem d_C_exchange_51 : decode b_C_exchange 51 = .ok (.aload 4, 2) := by decide +kernel
theorem d_C_exchange_53 : decode b_C_exchange 53 = .ok (.iload 5, 2) := by decide +kernel
theorem d_C_exchange_55 : decode b_C_exchange 55 = .ok (.iaload, 1) := by decide +kernel
theorem d_C_exchange_56 : decode b_C_exchange 56 = .ok (.iload_n 2, 1) := by decide +kernel
theorem d_C_exchange_57 : decode b_C_exchange 57 = .ok (.if_icmp .ne 12, 3) := by decide +kernel
theorem d_C_exchange_60 : decode b_C_exchange 60 = .ok (.aload 4, 2) := by decide +kernel
theorem d_C_exchange_62 : decode b_C_exchange 62 = .ok (.iload 5, 2) := by decide +kernel
theorem d_C_exchange_64 : decode b_C_exchange 64 = .ok (.iload_n 3, 1) := by decide +kernel
theorem d_C_exchange_65 : decode b_C_exchange 65 = .ok (.iastore, 1) := by decide +kernel
theorem d_C_exchange_66 : decode b_C_exchange 66 = .ok (.goto 18, 3) := by decide +kernel
theorem d_C_exchange_69 : decode b_C_exchange 69 = .ok (.aload 4, 2) := by decide +kernel
theorem d_C_exchange_71 : decode b_C_exchange 71 = .ok (.iload 5, 2) := by decide +kernel
theorem d_C_exchange_73 : decode b_C_exchange 73 = .ok (.iaload, 1) := by decide +kernel
theorem d_C_exchange_74 : decode b_C_exchange 74 = .ok (.iload_n 3, 1) := by decide +kernel
theorem d_C_exchange_75 : decode b_C_exchange 75 = .ok (.if_icmp .ne 9, 3) := by decide +kernel
theorem d_C_exchange_78 : decode b_C_exchange 78 = .ok (.aload 4, 2) := by decide +kernel
theorem d_C_exchange_80 : decode b_C_exchange 80 = .ok (.iload 5, 2) := by decide +kernel
theorem d_C_exchange_82 : decode b_C_exchange 82 = .ok (.iload_n 2, 1) := by decide +kernel
theorem d_C_exchange_83 : decode b_C_exchange 83 = .ok (.iastore, 1) := by decide +kernel
theorem d_C_exchange_84 : decode b_C_exchange 84 = .ok (.iinc 5 1, 3) := by decide +kernel
theorem d_C_exchange_87 : decode b_C_exchange 87 = .ok (.goto (-45), 3) := by decide +kernel
theorem d_C_exchange_90 : decode b_C_exchange 90 = .ok (.iconst 1, 1) := by decide +kernel
theorem d_C_exchange_91 : decode b_C_exchange 91 = .ok (.ireturn, 1) := by decide +kernel
theorem d_C_scramble_0 : decode b_C_scramble 0 = .ok (.aload_n 0, 1) := by decide +kernel
theorem d_C_scramble_1 : decode b_C_scramble 1 = .ok (.iload_n 1, 1) := by decide +kernel
theorem d_C_scramble_2 : decode b_C_scramble 2 = .ok (.invokevirtual 107, 3) := by decide +kernel
theorem d_C_scramble_5 : decode b_C_scramble 5 = .ok (.ifCond .eq 24, 3) := by decide +kernel
theorem d_C_scramble_8 : decode b_C_scramble 8 = .ok (.aload_n 0, 1) := by decide +kernel
theorem d_C_scramble_9 : decode b_C_scramble 9 = .ok (.getfield 46, 3) := by decide +kernel
theorem d_C_scramble_12 : decode b_C_scramble 12 = .ok (.iconst 1, 1) := by decide +kernel
theorem d_C_scramble_13 : decode b_C_scramble 13 = .ok (.if_icmp .lt 16, 3) := by decide +kernel
theorem d_C_scramble_16 : decode b_C_scramble 16 = .ok (.iload 4, 2) := by decide +kernel
theorem d_C_scramble_18 : decode b_C_scramble 18 = .ok (.ifCond .lt 11, 3) := by decide +kernel
theorem d_C_scramble_21 : decode b_C_scramble 21 = .ok (.iload 4, 2) := by decide +kernel
theorem d_C_scramble_23 : decode b_C_scramble 23 = .ok (.sipush 1000, 3) := by decide +kernel
theorem d_C_scramble_26 : decode b_C_scramble 26 = .ok (.if_icmp .le 5, 3) := by decide +kernel
theorem d_C_scramble_29 : decode b_C_scramble 29 = .ok (.iconst 0, 1) := by decide +kernel
theorem d_C_scramble_30 : decode b_C_scramble 30 = .ok (.ireturn, 1) := by decide +kernel
theorem d_C_scramble_31 : decode b_C_scramble 31 = .ok (.lload_n 2, 1) := by decide +kernel
theorem d_C_scramble_32 : decode b_C_scramble 32 = .ok (.lstore 5, 2) := by decide +kernel
theorem d_C_scramble_34 : decode b_C_scramble 34 = .ok (.iconst 0, 1) := by decide +kernel
theorem d_C_scramble_35 : decode b_C_scramble 35 = .ok (.istore 7, 2) := by decide +kernel
theorem d_C_scramble_37 : decode b_C_scramble 37 = .ok (.iload 7, 2) := by decide +kernel
theorem d_C_scramble_39 : decode b_C_scramble 39 = .ok (.iload 4, 2) := by decide +kernel
theorem d_C_scramble_41 : decode b_C_scramble 41 = .ok (.if_icmp .ge 51, 3) := by decide +kernel
theorem d_C_scramble_44 : decode b_C_scramble 44 = .ok (.ldc2_w 114, 3) := by decide +kernel
theorem d_C_scramble_47 : decode b_C_scramble 47 = .ok (.lload 5, 2) := by decide +kernel
theorem d_C_scramble_49 : decode b_C_scramble 49 = .ok (.lmul, 1) := by decide +kernel
theorem d_C_scramble_50 : decode b_C_scramble 50 = .ok (.ldc2_w 116, 3) := by decide +kernel
theorem d_C_scramble_53 : decode b_C_scramble 53 = .ok (.ladd, 1) := by decide +kernel
theorem d_C_scramble_54 : decode b_C_scramble 54 = .ok (.lstore 5, 2) := by decide +kernel
theorem d_C_scramble_56 : decode b_C_scramble 56 = .ok (.lload 5, 2) := by decide +kernel
theorem d_C_scramble_58 : decode b_C_scramble 58 = .ok (.bipush 33, 2) := by decide +kernel
theorem d_C_scramble_60 : decode b_C_scramble 60 = .ok (.lushr, 1) := by decide +kernel
theorem d_C_scramble_61 : decode b_C_scramble 61 = .ok (.aload_n 0, 1) := by decide +kernel
theorem d_C_scramble_62 : decode b_C_scramble 62 = .ok (.getfield 46, 3) := by decide +kernel
theorem d_C_scramble_65 : decode b_C_scramble 65 = .ok (.i2l, 1) := by decide +kernel
theorem d_C_scramble_66 : decode b_C_scramble 66 = .ok (.lrem, 1) := by decide +kernel
theorem d_C_scramble_67 : decode b_C_scramble 67 = .ok (.l2i, 1) := by decide +kernel
theorem d_C_scramble_68 : decode b_C_scramble 68 = .ok (.istore 8, 2) := by decide +kernel
theorem d_C_scramble_70 : decode b_C_scramble 70 = .ok (.aload_n 0, 1) := by decide +kernel
theorem d_C_scramble_71 : decode b_C_scramble 71 = .ok (.getfield 27, 3) := by decide +kernel
theorem d_C_scramble_74 : decode b_C_scramble 74 = .ok (.iload_n 1, 1) := by decide +kernel
theorem d_C_scramble_75 : decode b_C_scramble 75 = .ok (.aaload, 1) := by decide +kernel
theorem d_C_scramble_76 : decode b_C_scramble 76 = .ok (.aload_n 0, 1) := by decide +kernel
theorem d_C_scramble_77 : decode b_C_scramble 77 = .ok (.getfield 24, 3) := by decide +kernel
theorem d_C_scramble_80 : decode b_C_scramble 80 = .ok (.iload 8, 2) := by decide +kernel
theorem d_C_scramble_82 : decode b_C_scramble 82 = .ok (.aaload, 1) := by decide +kernel
theorem d_C_scramble_83 : decode b_C_scramble 83 = .ok (.invokestatic 110, 3) := by decide +kernel
theorem d_C_scramble_86 : decode b_C_scramble 86 = .ok (.iinc 7 1, 3) := by decide +kernel
theorem d_C_scramble_89 : decode b_C_scramble 89 = .ok (.goto (-52), 3) := by decide +kernel
theorem d_C_scramble_92 : decode b_C_scramble 92 = .ok (.iconst 1, 1) := by decide +kernel
theorem d_C_scramble_93 : decode b_C_scramble 93 = .ok (.ireturn, 1) := by decide +kernel
theorem d_C_image_0 : decode b_C_image 0 = .ok (.aload_n 0, 1) := by decide +kernel
theorem d_C_image_1 : decode b_C_image 1 = .ok (.iload_n 1, 1) := by decide +kernel
theorem d_C_image_2 : decode b_C_image 2 = .ok (.invokevirtual 107, 3) := by decide +kernel
theorem d_C_image_5 : decode b_C_image 5 = .ok (.ifCond .eq 22, 3) := by decide +kernel
theorem d_C_image_8 : decode b_C_image 8 = .ok (.aload_n 0, 1) := by decide +kernel
theorem d_C_image_9 : decode b_C_image 9 = .ok (.iload_n 2, 1) := by decide +kernel
theorem d_C_image_10 : decode b_C_image 10 = .ok (.invokevirtual 57, 3) := by decide +kernel
theorem d_C_image_13 : decode b_C_image 13 = .ok (.ifCond .eq 14, 3) := by decide +kernel
theorem d_C_image_16 : decode b_C_image 16 = .ok (.aload_n 0, 1) := by decide +kernel
theorem d_C_image_17 : decode b_C_image 17 = .ok (.getfield 27, 3) := by decide +kernel
theorem d_C_image_20 : decode b_C_image 20 = .ok (.iload_n 1, 1) := by decide +kernel
theorem d_C_image_21 : decode b_C_image 21 = .ok (.aaload, 1) := by decide +kernel
theorem d_C_image_22 : decode b_C_image 22 = .ok (.iload_n 2, 1) := by decide +kernel
theorem d_C_image_23 : decode b_C_image 23 = .ok (.iaload, 1) := by decide +kernel
theorem d_C_image_24 : decode b_C_image 24 = .ok (.goto 4, 3) := by decide +kernel
theorem d_C_image_27 : decode b_C_image 27 = .ok (.iconst (-1), 1) := by decide +kernel
theorem d_C_image_28 : decode b_C_image 28 = .ok (.ireturn, 1) := by decide +kernel
theorem d_C_member_0 : decode b_C_member 0 = .ok (.aload_n 0, 1) := by decide +kernel
theorem d_C_member_1 : decode b_C_member 1 = .ok (.iload_n 1, 1) := by decide +kernel
theorem d_C_member_2 : decode b_C_member 2 = .ok (.invokevirtual 107, 3) := by decide +kernel
theorem d_C_member_5 : decode b_C_member 5 = .ok (.ifCond .ne 5, 3) := by decide +kernel
theorem d_C_member_8 : decode b_C_member 8 = .ok (.iconst (-1), 1) := by decide +kernel
theorem d_C_member_9 : decode b_C_member 9 = .ok (.ireturn, 1) := by decide +kernel
theorem d_C_member_10 : decode b_C_member 10 = .ok (.aload_n 0, 1) := by decide +kernel
theorem d_C_member_11 : decode b_C_member 11 = .ok (.invokevirtual 64, 3) := by decide +kernel
theorem d_C_member_14 : decode b_C_member 14 = .ok (.aload_n 0, 1) := by decide +kernel
theorem d_C_member_15 : decode b_C_member 15 = .ok (.getfield 27, 3) := by decide +kernel
theorem d_C_member_18 : decode b_C_member 18 = .ok (.iload_n 1, 1) := by decide +kernel
theorem d_C_member_19 : decode b_C_member 19 = .ok (.aaload, 1) := by decide +kernel
theorem d_C_member_20 : decode b_C_member 20 = .ok (.invokevirtual 118, 3) := by decide +kernel
theorem d_C_member_23 : decode b_C_member 23 = .ok (.aload_n 0, 1) := by decide +kernel
theorem d_C_member_24 : decode b_C_member 24 = .ok (.getfield 18, 3) := by decide +kernel
theorem d_C_member_27 : decode b_C_member 27 = .ok (.if_icmp .ne 7, 3) := by decide +kernel
theorem d_C_member_30 : decode b_C_member 30 = .ok (.iconst 1, 1) := by decide +kernel
theorem d_C_member_31 : decode b_C_member 31 = .ok (.goto 4, 3) := by decide +kernel
theorem d_C_member_34 : decode b_C_member 34 = .ok (.iconst 0, 1) := by decide +kernel
theorem d_C_member_35 : decode b_C_member 35 = .ok (.ireturn, 1) := by decide +kernel
theorem d_C_level_0 : decode b_C_level 0 = .ok (.aload_n 0, 1) := by decide +kernel
theorem d_C_level_1 : decode b_C_level 1 = .ok (.iload_n 1, 1) := by decide +kernel
theorem d_C_level_2 : decode b_C_level 2 = .ok (.invokevirtual 107, 3) := by decide +kernel
theorem d_C_level_5 : decode b_C_level 5 = .ok (.ifCond .eq 19, 3) := by decide +kernel
theorem d_C_level_8 : decode b_C_level 8 = .ok (.aload_n 0, 1) := by decide +kernel
theorem d_C_level_9 : decode b_C_level 9 = .ok (.invokevirtual 64, 3) := by decide +kernel
theorem d_C_level_12 : decode b_C_level 12 = .ok (.aload_n 0, 1) := by decide +kernel
theorem d_C_level_13 : decode b_C_level 13 = .ok (.getfield 27, 3) := by decide +kernel
theorem d_C_level_16 : decode b_C_level 16 = .ok (.iload_n 1, 1) := by decide +kernel
theorem d_C_level_17 : decode b_C_level 17 = .ok (.aaload, 1) := by decide +kernel
theorem d_C_level_18 : decode b_C_level 18 = .ok (.invokevirtual 118, 3) := by decide +kernel
theorem d_C_level_21 : decode b_C_level 21 = .ok (.goto 4, 3) := by decide +kernel
theorem d_C_level_24 : decode b_C_level 24 = .ok (.iconst (-1), 1) := by decide +kernel
theorem d_C_level_25 : decode b_C_level 25 = .ok (.ireturn, 1) := by decide +kernel
theorem d_C_parity_0 : decode b_C_parity 0 = .ok (.aload_n 0, 1) := by decide +kernel
theorem d_C_parity_1 : decode b_C_parity 1 = .ok (.iload_n 1, 1) := by decide +kernel
theorem d_C_parity_2 : decode b_C_parity 2 = .ok (.invokevirtual 107, 3) := by decide +kernel
theorem d_C_parity_5 : decode b_C_parity 5 = .ok (.ifCond .ne 5, 3) := by decide +kernel
theorem d_C_parity_8 : decode b_C_parity 8 = .ok (.iconst (-1), 1) := by decide +kernel
theorem d_C_parity_9 : decode b_C_parity 9 = .ok (.ireturn, 1) := by decide +kernel
theorem d_C_parity_10 : decode b_C_parity 10 = .ok (.aload_n 0, 1) := by decide +kernel
theorem d_C_parity_11 : decode b_C_parity 11 = .ok (.getfield 27, 3) := by decide +kernel
theorem d_C_parity_14 : decode b_C_parity 14 = .ok (.iload_n 1, 1) := by decide +kernel
theorem d_C_parity_15 : decode b_C_parity 15 = .ok (.aaload, 1) := by decide +kernel
theorem d_C_parity_16 : decode b_C_parity 16 = .ok (.astore_n 2, 1) := by decide +kernel
theorem d_C_parity_17 : decode b_C_parity 17 = .ok (.iconst 0, 1) := by decide +kernel
theorem d_C_parity_18 : decode b_C_parity 18 = .ok (.istore_n 3, 1) := by decide +kernel
theorem d_C_parity_19 : decode b_C_parity 19 = .ok (.iconst 0, 1) := by decide +kernel
theorem d_C_parity_20 : decode b_C_parity 20 = .ok (.istore 4, 2) := by decide +kernel
theorem d_C_parity_22 : decode b_C_parity 22 = .ok (.iload 4, 2) := by decide +kernel
theorem d_C_parity_24 : decode b_C_parity 24 = .ok (.aload_n 0, 1) := by decide +kernel
theorem d_C_parity_25 : decode b_C_parity 25 = .ok (.getfield 18, 3) := by decide +kernel
theorem d_C_parity_28 : decode b_C_parity 28 = .ok (.if_icmp .ge 44, 3) := by decide +kernel
theorem d_C_parity_31 : decode b_C_parity 31 = .ok (.iload 4, 2) := by decide +kernel
theorem d_C_parity_33 : decode b_C_parity 33 = .ok (.iconst 1, 1) := by decide +kernel
theorem d_C_parity_34 : decode b_C_parity 34 = .ok (.iadd, 1) := by decide +kernel
theorem d_C_parity_35 : decode b_C_parity 35 = .ok (.istore 5, 2) := by decide +kernel
theorem d_C_parity_37 : decode b_C_parity 37 = .ok (.iload 5, 2) := by decide +kernel
theorem d_C_parity_39 : decode b_C_parity 39 = .ok (.aload_n 0, 1) := by decide +kernel
theorem d_C_parity_40 : decode b_C_parity 40 = .ok (.getfield 18, 3) := by decide +kernel
theorem d_C_parity_43 : decode b_C_parity 43 = .ok (.if_icmp .ge 23, 3) := by decide +kernel
theorem d_C_parity_46 : decode b_C_parity 46 = .ok (.aload_n 2, 1) := by decide +kernel
theorem d_C_parity_47 : decode b_C_parity 47 = .ok (.iload 4, 2) := by decide +kernel
theorem d_C_parity_49 : decode b_C_parity 49 = .ok (.iaload, 1) := by decide +kernel
theorem d_C_parity_50 : decode b_C_parity 50 = .ok (.aload_n 2, 1) := by decide +kernel
theorem d_C_parity_51 : decode b_C_parity 51 = .ok (.iload 5, 2) := by decide +kernel
theorem d_C_parity_53 : decode b_C_parity 53 = .ok (.iaload, 1) := by decide +kernel
theorem d_C_parity_54 : decode b_C_parity 54 = .ok (.if_icmp .le 6, 3) := by decide +kernel
theorem d_C_parity_57 : decode b_C_parity 57 = .ok (.iinc 3 1, 3) := by decide +kernel
theorem d_C_parity_60 : decode b_C_parity 60 = .ok (.iinc 5 1, 3) := by decide +kernel
theorem d_C_parity_63 : decode b_C_parity 63 = .ok (.goto (-26), 3) := by decide +kernel
theorem d_C_parity_66 : decode b_C_parity 66 = .ok (.iinc 4 1, 3) := by decide +kernel
theorem d_C_parity_69 : decode b_C_parity 69 = .ok (.goto (-47), 3) := by decide +kernel
theorem d_C_parity_72 : decode b_C_parity 72 = .ok (.iload_n 3, 1) := by decide +kernel
theorem d_C_parity_73 : decode b_C_parity 73 = .ok (.iconst 2, 1) := by decide +kernel
theorem d_C_parity_74 : decode b_C_parity 74 = .ok (.irem, 1) := by decide +kernel
theorem d_C_parity_75 : decode b_C_parity 75 = .ok (.ireturn, 1) := by decide +kernel
theorem d_C_times_0 : decode b_C_times 0 = .ok (.aload_n 0, 1) := by decide +kernel
theorem d_C_times_1 : decode b_C_times 1 = .ok (.iload_n 1, 1) := by decide +kernel
theorem d_C_times_2 : decode b_C_times 2 = .ok (.invokevirtual 107, 3) := by decide +kernel
theorem d_C_times_5 : decode b_C_times 5 = .ok (.ifCond .ne 5, 3) := by decide +kernel
theorem d_C_times_8 : decode b_C_times 8 = .ok (.lconst 0, 1) := by decide +kernel
theorem d_C_times_9 : decode b_C_times 9 = .ok (.lreturn, 1) := by decide +kernel
theorem d_C_times_10 : decode b_C_times 10 = .ok (.lconst 1, 1) := by decide +kernel
theorem d_C_times_11 : decode b_C_times 11 = .ok (.lstore_n 2, 1) := by decide +kernel
theorem d_C_times_12 : decode b_C_times 12 = .ok (.iconst 0, 1) := by decide +kernel
theorem d_C_times_13 : decode b_C_times 13 = .ok (.istore 4, 2) := by decide +kernel
theorem d_C_times_15 : decode b_C_times 15 = .ok (.iload 4, 2) := by decide +kernel
theorem d_C_times_17 : decode b_C_times 17 = .ok (.aload_n 0, 1) := by decide +kernel
theorem d_C_times_18 : decode b_C_times 18 = .ok (.getfield 18, 3) := by decide +kernel
theorem d_C_times_21 : decode b_C_times 21 = .ok (.if_icmp .ge 25, 3) := by decide +kernel
theorem d_C_times_24 : decode b_C_times 24 = .ok (.lload_n 2, 1) := by decide +kernel
theorem d_C_times_25 : decode b_C_times 25 = .ok (.aload_n 0, 1) := by decide +kernel
theorem d_C_times_26 : decode b_C_times 26 = .ok (.getfield 27, 3) := by decide +kernel
theorem d_C_times_29 : decode b_C_times 29 = .ok (.iload_n 1, 1) := by decide +kernel
theorem d_C_times_30 : decode b_C_times 30 = .ok (.aaload, 1) := by decide +kernel
theorem d_C_times_31 : decode b_C_times 31 = .ok (.iload 4, 2) := by decide +kernel
theorem d_C_times_33 : decode b_C_times 33 = .ok (.invokestatic 122, 3) := by decide +kernel
theorem d_C_times_36 : decode b_C_times 36 = .ok (.invokestatic 126, 3) := by decide +kernel
theorem d_C_times_39 : decode b_C_times 39 = .ok (.lstore_n 2, 1) := by decide +kernel
theorem d_C_times_40 : decode b_C_times 40 = .ok (.iinc 4 1, 3) := by decide +kernel
theorem d_C_times_43 : decode b_C_times 43 = .ok (.goto (-28), 3) := by decide +kernel
theorem d_C_times_46 : decode b_C_times 46 = .ok (.lload_n 2, 1) := by decide +kernel
theorem d_C_times_47 : decode b_C_times 47 = .ok (.lreturn, 1) := by decide +kernel
theorem d_C_isPlace_0 : decode b_C_isPlace 0 = .ok (.iload_n 1, 1) := by decide +kernel
theorem d_C_isPlace_1 : decode b_C_isPlace 1 = .ok (.ifCond .lt 15, 3) := by decide +kernel
theorem d_C_isPlace_4 : decode b_C_isPlace 4 = .ok (.iload_n 1, 1) := by decide +kernel
theorem d_C_isPlace_5 : decode b_C_isPlace 5 = .ok (.aload_n 0, 1) := by decide +kernel
theorem d_C_isPlace_6 : decode b_C_isPlace 6 = .ok (.getfield 18, 3) := by decide +kernel
theorem d_C_isPlace_9 : decode b_C_isPlace 9 = .ok (.if_icmp .ge 7, 3) := by decide +kernel
theorem d_C_isPlace_12 : decode b_C_isPlace 12 = .ok (.iconst 1, 1) := by decide +kernel
theorem d_C_isPlace_13 : decode b_C_isPlace 13 = .ok (.goto 4, 3) := by decide +kernel
theorem d_C_isPlace_16 : decode b_C_isPlace 16 = .ok (.iconst 0, 1) := by decide +kernel
theorem d_C_isPlace_17 : decode b_C_isPlace 17 = .ok (.ireturn, 1) := by decide +kernel
theorem d_C_isMove_0 : decode b_C_isMove 0 = .ok (.iload_n 1, 1) := by decide +kernel
theorem d_C_isMove_1 : decode b_C_isMove 1 = .ok (.ifCond .lt 15, 3) := by decide +kernel
theorem d_C_isMove_4 : decode b_C_isMove 4 = .ok (.iload_n 1, 1) := by decide +kernel
theorem d_C_isMove_5 : decode b_C_isMove 5 = .ok (.aload_n 0, 1) := by decide +kernel
theorem d_C_isMove_6 : decode b_C_isMove 6 = .ok (.getfield 46, 3) := by decide +kernel
theorem d_C_isMove_9 : decode b_C_isMove 9 = .ok (.if_icmp .ge 7, 3) := by decide +kernel
theorem d_C_isMove_12 : decode b_C_isMove 12 = .ok (.iconst 1, 1) := by decide +kernel
theorem d_C_isMove_13 : decode b_C_isMove 13 = .ok (.goto 4, 3) := by decide +kernel
theorem d_C_isMove_16 : decode b_C_isMove 16 = .ok (.iconst 0, 1) := by decide +kernel
theorem d_C_isMove_17 : decode b_C_isMove 17 = .ok (.ireturn, 1) := by decide +kernel
theorem d_C_isState_0 : decode b_C_isState 0 = .ok (.iload_n 1, 1) := by decide +kernel
theorem d_C_isState_1 : decode b_C_isState 1 = .ok (.ifCond .lt 15, 3) := by decide +kernel
theorem d_C_isState_4 : decode b_C_isState 4 = .ok (.iload_n 1, 1) := by decide +kernel
theorem d_C_isState_5 : decode b_C_isState 5 = .ok (.aload_n 0, 1) := by decide +kernel
theorem d_C_isState_6 : decode b_C_isState 6 = .ok (.getfield 104, 3) := by decide +kernel
theorem d_C_isState_9 : decode b_C_isState 9 = .ok (.if_icmp .ge 7, 3) := by decide +kernel
theorem d_C_isState_12 : decode b_C_isState 12 = .ok (.iconst 1, 1) := by decide +kernel
theorem d_C_isState_13 : decode b_C_isState 13 = .ok (.goto 4, 3) := by decide +kernel
theorem d_C_isState_16 : decode b_C_isState 16 = .ok (.iconst 0, 1) := by decide +kernel
theorem d_C_isState_17 : decode b_C_isState 17 = .ok (.ireturn, 1) := by decide +kernel
theorem d_C_freshChain_0 : decode b_C_freshChain 0 = .ok (.aload_n 0, 1) := by decide +kernel
theorem d_C_freshChain_1 : decode b_C_freshChain 1 = .ok (.getfield 130, 3) := by decide +kernel
theorem d_C_freshChain_4 : decode b_C_freshChain 4 = .ok (.ifnonnull 23, 3) := by decide +kernel
theorem d_C_freshChain_7 : decode b_C_freshChain 7 = .ok (.aload_n 0, 1) := by decide +kernel
theorem d_C_freshChain_8 : decode b_C_freshChain 8 = .ok (.new 69, 3) := by decide +kernel
theorem d_C_freshChain_11 : decode b_C_freshChain 11 = .ok (.dup, 1) := by decide +kernel
theorem d_C_freshChain_12 : decode b_C_freshChain 12 = .ok (.aload_n 0, 1) := by decide +kernel
theorem d_C_freshChain_13 : decode b_C_freshChain 13 = .ok (.getfield 18, 3) := by decide +kernel
theorem d_C_freshChain_16 : decode b_C_freshChain 16 = .ok (.invokespecial 134, 3) := by decide +kernel
theorem d_C_freshChain_19 : decode b_C_freshChain 19 = .ok (.putfield 130, 3) := by decide +kernel
theorem d_C_freshChain_22 : decode b_C_freshChain 22 = .ok (.aload_n 0, 1) := by decide +kernel
theorem d_C_freshChain_23 : decode b_C_freshChain 23 = .ok (.iconst 1, 1) := by decide +kernel
theorem d_C_freshChain_24 : decode b_C_freshChain 24 = .ok (.putfield 60, 3) := by decide +kernel
theorem d_C_freshChain_27 : decode b_C_freshChain 27 = .ok (.aload_n 0, 1) := by decide +kernel
theorem d_C_freshChain_28 : decode b_C_freshChain 28 = .ok (.getfield 60, 3) := by decide +kernel
theorem d_C_freshChain_31 : decode b_C_freshChain 31 = .ok (.ifCond .eq 23, 3) := by decide +kernel
theorem d_C_freshChain_34 : decode b_C_freshChain 34 = .ok (.aload_n 0, 1) := by decide +kernel
theorem d_C_freshChain_35 : decode b_C_freshChain 35 = .ok (.getfield 130, 3) := by decide +kernel
theorem d_C_freshChain_38 : decode b_C_freshChain 38 = .ok (.aload_n 0, 1) := by decide +kernel
theorem d_C_freshChain_39 : decode b_C_freshChain 39 = .ok (.getfield 24, 3) := by decide +kernel
theorem d_C_freshChain_42 : decode b_C_freshChain 42 = .ok (.aload_n 0, 1) := by decide +kernel
theorem d_C_freshChain_43 : decode b_C_freshChain 43 = .ok (.getfield 46, 3) := by decide +kernel
theorem d_C_freshChain_46 : decode b_C_freshChain 46 = .ok (.invokevirtual 135, 3) := by decide +kernel
theorem d_C_freshChain_49 : decode b_C_freshChain 49 = .ok (.aload_n 0, 1) := by decide +kernel
theorem d_C_freshChain_50 : decode b_C_freshChain 50 = .ok (.iconst 0, 1) := by decide +kernel
theorem d_C_freshChain_51 : decode b_C_freshChain 51 = .ok (.putfield 60, 3) := by decide +kernel
theorem d_C_freshChain_54 : decode b_C_freshChain 54 = .ok (.aload_n 0, 1) := by decide +kernel
theorem d_C_freshChain_55 : decode b_C_freshChain 55 = .ok (.getfield 130, 3) := by decide +kernel
theorem d_C_freshChain_58 : decode b_C_freshChain 58 = .ok (.areturn, 1) := by decide +kernel
theorem d_C_countGroup_0 : decode b_C_countGroup 0 = .ok (.aload_n 0, 1) := by decide +kernel
theorem d_C_countGroup_1 : decode b_C_countGroup 1 = .ok (.getfield 42, 3) := by decide +kernel
theorem d_C_countGroup_4 : decode b_C_countGroup 4 = .ok (.invokevirtual 138, 3) := by decide +kernel
theorem d_C_countGroup_7 : decode b_C_countGroup 7 = .ok (.iconst 0, 1) := by decide +kernel
theorem d_C_countGroup_8 : decode b_C_countGroup 8 = .ok (.istore_n 2, 1) := by decide +kernel
theorem d_C_countGroup_9 : decode b_C_countGroup 9 = .ok (.iload_n 2, 1) := by decide +kernel
theorem d_C_countGroup_10 : decode b_C_countGroup 10 = .ok (.aload_n 0, 1) := by decide +kernel
theorem d_C_countGroup_11 : decode b_C_countGroup 11 = .ok (.getfield 18, 3) := by decide +kernel
theorem d_C_countGroup_14 : decode b_C_countGroup 14 = .ok (.if_icmp .ge 21, 3) := by decide +kernel
theorem d_C_countGroup_17 : decode b_C_countGroup 17 = .ok (.aload_n 0, 1) := by decide +kernel
theorem d_C_countGroup_18 : decode b_C_countGroup 18 = .ok (.getfield 42, 3) := by decide +kernel
theorem d_C_countGroup_21 : decode b_C_countGroup 21 = .ok (.aload_n 1, 1) := by decide +kernel
theorem d_C_countGroup_22 : decode b_C_countGroup 22 = .ok (.iload_n 2, 1) := by decide +kernel
theorem d_C_countGroup_23 : decode b_C_countGroup 23 = .ok (.invokevirtual 68, 3) := by decide +kernel
theorem d_C_countGroup_26 : decode b_C_countGroup 26 = .ok (.invokevirtual 141, 3) := by decide +kernel
theorem d_C_countGroup_29 : decode b_C_countGroup 29 = .ok (.iinc 2 1, 3) := by decide +kernel
theorem d_C_countGroup_32 : decode b_C_countGroup 32 = .ok (.goto (-23), 3) := by decide +kernel
theorem d_C_countGroup_35 : decode b_C_countGroup 35 = .ok (.return_, 1) := by decide +kernel
theorem d_C_leaveAll_0 : decode b_C_leaveAll 0 = .ok (.iconst 0, 1) := by decide +kernel
theorem d_C_leaveAll_1 : decode b_C_leaveAll 1 = .ok (.istore_n 1, 1) := by decide +kernel
theorem d_C_leaveAll_2 : decode b_C_leaveAll 2 = .ok (.iload_n 1, 1) := by decide +kernel
theorem d_C_leaveAll_3 : decode b_C_leaveAll 3 = .ok (.aload_n 0, 1) := by decide +kernel
theorem d_C_leaveAll_4 : decode b_C_leaveAll 4 = .ok (.arraylength, 1) := by decide +kernel
theorem d_C_leaveAll_5 : decode b_C_leaveAll 5 = .ok (.if_icmp .ge 13, 3) := by decide +kernel
theorem d_C_leaveAll_8 : decode b_C_leaveAll 8 = .ok (.aload_n 0, 1) := by decide +kernel
theorem d_C_leaveAll_9 : decode b_C_leaveAll 9 = .ok (.iload_n 1, 1) := by decide +kernel
theorem d_C_leaveAll_10 : decode b_C_leaveAll 10 = .ok (.iload_n 1, 1) := by decide +kernel
theorem d_C_leaveAll_11 : decode b_C_leaveAll 11 = .ok (.iastore, 1) := by decide +kernel
theorem d_C_leaveAll_12 : decode b_C_leaveAll 12 = .ok (.iinc 1 1, 3) := by decide +kernel
theorem d_C_leaveAll_15 : decode b_C_leaveAll 15 = .ok (.goto (-13), 3) := by decide +kernel
theorem d_C_leaveAll_18 : decode b_C_leaveAll 18 = .ok (.return_, 1) := by decide +kernel
theorem d_C_follow_0 : decode b_C_follow 0 = .ok (.iconst 0, 1) := by decide +kernel
theorem d_C_follow_1 : decode b_C_follow 1 = .ok (.istore_n 2, 1) := by decide +kernel
theorem d_C_follow_2 : decode b_C_follow 2 = .ok (.iload_n 2, 1) := by decide +kernel
theorem d_C_follow_3 : decode b_C_follow 3 = .ok (.aload_n 0, 1) := by decide +kernel
theorem d_C_follow_4 : decode b_C_follow 4 = .ok (.arraylength, 1) := by decide +kernel
theorem d_C_follow_5 : decode b_C_follow 5 = .ok (.if_icmp .ge 17, 3) := by decide +kernel
theorem d_C_follow_8 : decode b_C_follow 8 = .ok (.aload_n 0, 1) := by decide +kernel
theorem d_C_follow_9 : decode b_C_follow 9 = .ok (.iload_n 2, 1) := by decide +kernel
theorem d_C_follow_10 : decode b_C_follow 10 = .ok (.aload_n 1, 1) := by decide +kernel
theorem d_C_follow_11 : decode b_C_follow 11 = .ok (.aload_n 0, 1) := by decide +kernel
theorem d_C_follow_12 : decode b_C_follow 12 = .ok (.iload_n 2, 1) := by decide +kernel
theorem d_C_follow_13 : decode b_C_follow 13 = .ok (.iaload, 1) := by decide +kernel
theorem d_C_follow_14 : decode b_C_follow 14 = .ok (.iaload, 1) := by decide +kernel
theorem d_C_follow_15 : decode b_C_follow 15 = .ok (.iastore, 1) := by decide +kernel
theorem d_C_follow_16 : decode b_C_follow 16 = .ok (.iinc 2 1, 3) := by decide +kernel
theorem d_C_follow_19 : decode b_C_follow 19 = .ok (.goto (-17), 3) := by decide +kernel
theorem d_C_follow_22 : decode b_C_follow 22 = .ok (.return_, 1) := by decide +kernel
theorem d_C_returnTime_0 : decode b_C_returnTime 0 = .ok (.aload_n 0, 1) := by decide +kernel
theorem d_C_returnTime_1 : decode b_C_returnTime 1 = .ok (.iload_n 1, 1) := by decide +kernel
theorem d_C_returnTime_2 : decode b_C_returnTime 2 = .ok (.iaload, 1) := by decide +kernel
theorem d_C_returnTime_3 : decode b_C_returnTime 3 = .ok (.istore_n 2, 1) := by decide +kernel
theorem d_C_returnTime_4 : decode b_C_returnTime 4 = .ok (.iconst 1, 1) := by decide +kernel
theorem d_C_returnTime_5 : decode b_C_returnTime 5 = .ok (.istore_n 3, 1) := by decide +kernel
theorem d_C_returnTime_6 : decode b_C_returnTime 6 = .ok (.iload_n 2, 1) := by decide +kernel
theorem d_C_returnTime_7 : decode b_C_returnTime 7 = .ok (.iload_n 1, 1) := by decide +kernel
theorem d_C_returnTime_8 : decode b_C_returnTime 8 = .ok (.if_icmp .eq 19, 3) := by decide +kernel
theorem d_C_returnTime_11 : decode b_C_returnTime 11 = .ok (.iload_n 3, 1) := by decide +kernel
theorem d_C_returnTime_12 : decode b_C_returnTime 12 = .ok (.aload_n 0, 1) := by decide +kernel
theorem d_C_returnTime_13 : decode b_C_returnTime 13 = .ok (.arraylength, 1) := by decide +kernel
theorem d_C_returnTime_14 : decode b_C_returnTime 14 = .ok (.if_icmp .ge 13, 3) := by decide +kernel
theorem d_C_returnTime_17 : decode b_C_returnTime 17 = .ok (.aload_n 0, 1) := by decide +kernel
theorem d_C_returnTime_18 : decode b_C_returnTime 18 = .ok (.iload_n 2, 1) := by decide +kernel
theorem d_C_returnTime_19 : decode b_C_returnTime 19 = .ok (.iaload, 1) := by decide +kernel
theorem d_C_returnTime_20 : decode b_C_returnTime 20 = .ok (.istore_n 2, 1) := by decide +kernel
theorem d_C_returnTime_21 : decode b_C_returnTime 21 = .ok (.iinc 3 1, 3) := by decide +kernel
theorem d_C_returnTime_24 : decode b_C_returnTime 24 = .ok (.goto (-18), 3) := by decide +kernel
theorem d_C_returnTime_27 : decode b_C_returnTime 27 = .ok (.iload_n 3, 1) := by decide +kernel
theorem d_C_returnTime_28 : decode b_C_returnTime 28 = .ok (.ireturn, 1) := by decide +kernel
theorem d_C_leastMultiple_0 : decode b_C_leastMultiple 0 = .ok (.iload_n 2, 1) := by decide +kernel
theorem d_C_leastMultiple_1 : decode b_C_leastMultiple 1 = .ok (.iconst 1, 1) := by decide +kernel
theorem d_C_leastMultiple_2 : decode b_C_leastMultiple 2 = .ok (.if_icmp .ge 5, 3) := by decide +kernel
theorem d_C_leastMultiple_5 : decode b_C_leastMultiple 5 = .ok (.lload_n 0, 1) := by decide +kernel
theorem d_C_leastMultiple_6 : decode b_C_leastMultiple 6 = .ok (.lreturn, 1) := by decide +kernel
theorem d_C_leastMultiple_7 : decode b_C_leastMultiple 7 = .ok (.iconst 1, 1) := by decide +kernel
theorem d_C_leastMultiple_8 : decode b_C_leastMultiple 8 = .ok (.istore_n 3, 1) := by decide +kernel
theorem d_C_leastMultiple_9 : decode b_C_leastMultiple 9 = .ok (.iload_n 3, 1) := by decide +kernel
theorem d_C_leastMultiple_10 : decode b_C_leastMultiple 10 = .ok (.iload_n 2, 1) := by decide +kernel
theorem d_C_leastMultiple_11 : decode b_C_leastMultiple 11 = .ok (.if_icmp .ge 26, 3) := by decide +kernel
theorem d_C_leastMultiple_14 : decode b_C_leastMultiple 14 = .ok (.lload_n 0, 1) := by decide +kernel
theorem d_C_leastMultiple_15 : decode b_C_leastMultiple 15 = .ok (.iload_n 3, 1) := by decide +kernel
theorem d_C_leastMultiple_16 : decode b_C_leastMultiple 16 = .ok (.i2l, 1) := by decide +kernel
theorem d_C_leastMultiple_17 : decode b_C_leastMultiple 17 = .ok (.lmul, 1) := by decide +kernel
theorem d_C_leastMultiple_18 : decode b_C_leastMultiple 18 = .ok (.iload_n 2, 1) := by decide +kernel
theorem d_C_leastMultiple_19 : decode b_C_leastMultiple 19 = .ok (.i2l, 1) := by decide +kernel
theorem d_C_leastMultiple_20 : decode b_C_leastMultiple 20 = .ok (.lrem, 1) := by decide +kernel
theorem d_C_leastMultiple_21 : decode b_C_leastMultiple 21 = .ok (.lconst 0, 1) := by decide +kernel
theorem d_C_leastMultiple_22 : decode b_C_leastMultiple 22 = .ok (.lcmp, 1) := by decide +kernel
theorem d_C_leastMultiple_23 : decode b_C_leastMultiple 23 = .ok (.ifCond .ne 8, 3) := by decide +kernel
theorem d_C_leastMultiple_26 : decode b_C_leastMultiple 26 = .ok (.lload_n 0, 1) := by decide +kernel
theorem d_C_leastMultiple_27 : decode b_C_leastMultiple 27 = .ok (.iload_n 3, 1) := by decide +kernel
theorem d_C_leastMultiple_28 : decode b_C_leastMultiple 28 = .ok (.i2l, 1) := by decide +kernel
theorem d_C_leastMultiple_29 : decode b_C_leastMultiple 29 = .ok (.lmul, 1) := by decide +kernel
theorem d_C_leastMultiple_30 : decode b_C_leastMultiple 30 = .ok (.lreturn, 1) := by decide +kernel
theorem d_C_leastMultiple_31 : decode b_C_leastMultiple 31 = .ok (.iinc 3 1, 3) := by decide +kernel
theorem d_C_leastMultiple_34 : decode b_C_leastMultiple 34 = .ok (.goto (-25), 3) := by decide +kernel
theorem d_C_leastMultiple_37 : decode b_C_leastMultiple 37 = .ok (.lload_n 0, 1) := by decide +kernel
theorem d_C_leastMultiple_38 : decode b_C_leastMultiple 38 = .ok (.iload_n 2, 1) := by decide +kernel
theorem d_C_leastMultiple_39 : decode b_C_leastMultiple 39 = .ok (.i2l, 1) := by decide +kernel
theorem d_C_leastMultiple_40 : decode b_C_leastMultiple 40 = .ok (.lmul, 1) := by decide +kernel
theorem d_C_leastMultiple_41 : decode b_C_leastMultiple 41 = .ok (.lreturn, 1) := by decide +kernel
