theorem d_M_init_0 : decode b_M_init 0 = .ok (.aload_n 0, 1) := by decide +kernel
theorem d_M_init_1 : decode b_M_init 1 = .ok (.invokespecial 1, 3) := by decide +kernel
theorem d_M_init_4 : decode b_M_init 4 = .ok (.aload_n 0, 1) := by decide +kernel
theorem d_M_init_5 : decode b_M_init 5 = .ok (.sipush 240, 3) := by decide +kernel
theorem d_M_init_8 : decode b_M_init 8 = .ok (.newarray .int, 2) := by decide +kernel
theorem d_M_init_10 : decode b_M_init 10 = .ok (.putfield 7, 3) := by decide +kernel
theorem d_M_init_13 : decode b_M_init 13 = .ok (.aload_n 0, 1) := by decide +kernel
theorem d_M_init_14 : decode b_M_init 14 = .ok (.sipush 480, 3) := by decide +kernel
theorem d_M_init_17 : decode b_M_init 17 = .ok (.newarray .int, 2) := by decide +kernel
theorem d_M_init_19 : decode b_M_init 19 = .ok (.putfield 13, 3) := by decide +kernel
theorem d_M_init_22 : decode b_M_init 22 = .ok (.aload_n 0, 1) := by decide +kernel
theorem d_M_init_23 : decode b_M_init 23 = .ok (.sipush 13824, 3) := by decide +kernel
theorem d_M_init_26 : decode b_M_init 26 = .ok (.newarray .int, 2) := by decide +kernel
theorem d_M_init_28 : decode b_M_init 28 = .ok (.putfield 16, 3) := by decide +kernel
theorem d_M_init_31 : decode b_M_init 31 = .ok (.aload_n 0, 1) := by decide +kernel
theorem d_M_init_32 : decode b_M_init 32 = .ok (.sipush 576, 3) := by decide +kernel
theorem d_M_init_35 : decode b_M_init 35 = .ok (.newarray .boolean, 2) := by decide +kernel
theorem d_M_init_37 : decode b_M_init 37 = .ok (.putfield 19, 3) := by decide +kernel
theorem d_M_init_40 : decode b_M_init 40 = .ok (.aload_n 0, 1) := by decide +kernel
theorem d_M_init_41 : decode b_M_init 41 = .ok (.sipush 576, 3) := by decide +kernel
theorem d_M_init_44 : decode b_M_init 44 = .ok (.newarray .int, 2) := by decide +kernel
theorem d_M_init_46 : decode b_M_init 46 = .ok (.putfield 23, 3) := by decide +kernel
theorem d_M_init_49 : decode b_M_init 49 = .ok (.aload_n 0, 1) := by decide +kernel
theorem d_M_init_50 : decode b_M_init 50 = .ok (.bipush 24, 2) := by decide +kernel
theorem d_M_init_52 : decode b_M_init 52 = .ok (.newarray .int, 2) := by decide +kernel
theorem d_M_init_54 : decode b_M_init 54 = .ok (.putfield 26, 3) := by decide +kernel
theorem d_M_init_57 : decode b_M_init 57 = .ok (.aload_n 0, 1) := by decide +kernel
theorem d_M_init_58 : decode b_M_init 58 = .ok (.bipush 24, 2) := by decide +kernel
theorem d_M_init_60 : decode b_M_init 60 = .ok (.newarray .int, 2) := by decide +kernel
theorem d_M_init_62 : decode b_M_init 62 = .ok (.putfield 29, 3) := by decide +kernel
theorem d_M_init_65 : decode b_M_init 65 = .ok (.aload_n 0, 1) := by decide +kernel
theorem d_M_init_66 : decode b_M_init 66 = .ok (.sipush 576, 3) := by decide +kernel
theorem d_M_init_69 : decode b_M_init 69 = .ok (.newarray .int, 2) := by decide +kernel
theorem d_M_init_71 : decode b_M_init 71 = .ok (.putfield 32, 3) := by decide +kernel
theorem d_M_init_74 : decode b_M_init 74 = .ok (.aload_n 0, 1) := by decide +kernel
theorem d_M_init_75 : decode b_M_init 75 = .ok (.bipush 24, 2) := by decide +kernel
theorem d_M_init_77 : decode b_M_init 77 = .ok (.newarray .boolean, 2) := by decide +kernel
theorem d_M_init_79 : decode b_M_init 79 = .ok (.putfield 35, 3) := by decide +kernel
theorem d_M_init_82 : decode b_M_init 82 = .ok (.aload_n 0, 1) := by decide +kernel
theorem d_M_init_83 : decode b_M_init 83 = .ok (.bipush 24, 2) := by decide +kernel
theorem d_M_init_85 : decode b_M_init 85 = .ok (.newarray .int, 2) := by decide +kernel
theorem d_M_init_87 : decode b_M_init 87 = .ok (.putfield 38, 3) := by decide +kernel
theorem d_M_init_90 : decode b_M_init 90 = .ok (.aload_n 0, 1) := by decide +kernel
theorem d_M_init_91 : decode b_M_init 91 = .ok (.bipush 24, 2) := by decide +kernel
theorem d_M_init_93 : decode b_M_init 93 = .ok (.newarray .int, 2) := by decide +kernel
theorem d_M_init_95 : decode b_M_init 95 = .ok (.putfield 41, 3) := by decide +kernel
theorem d_M_init_98 : decode b_M_init 98 = .ok (.aload_n 0, 1) := by decide +kernel
theorem d_M_init_99 : decode b_M_init 99 = .ok (.bipush 24, 2) := by decide +kernel
theorem d_M_init_101 : decode b_M_init 101 = .ok (.newarray .boolean, 2) := by decide +kernel
theorem d_M_init_103 : decode b_M_init 103 = .ok (.putfield 44, 3) := by decide +kernel
theorem d_M_init_106 : decode b_M_init 106 = .ok (.aload_n 0, 1) := by decide +kernel
theorem d_M_init_107 : decode b_M_init 107 = .ok (.bipush 24, 2) := by decide +kernel
theorem d_M_init_109 : decode b_M_init 109 = .ok (.newarray .int, 2) := by decide +kernel
theorem d_M_init_111 : decode b_M_init 111 = .ok (.putfield 47, 3) := by decide +kernel
theorem d_M_init_114 : decode b_M_init 114 = .ok (.aload_n 0, 1) := by decide +kernel
theorem d_M_init_115 : decode b_M_init 115 = .ok (.bipush 24, 2) := by decide +kernel
theorem d_M_init_117 : decode b_M_init 117 = .ok (.newarray .int, 2) := by decide +kernel
theorem d_M_init_119 : decode b_M_init 119 = .ok (.putfield 50, 3) := by decide +kernel
theorem d_M_init_122 : decode b_M_init 122 = .ok (.aload_n 0, 1) := by decide +kernel
theorem d_M_init_123 : decode b_M_init 123 = .ok (.bipush 24, 2) := by decide +kernel
theorem d_M_init_125 : decode b_M_init 125 = .ok (.newarray .int, 2) := by decide +kernel
theorem d_M_init_127 : decode b_M_init 127 = .ok (.putfield 53, 3) := by decide +kernel
theorem d_M_init_130 : decode b_M_init 130 = .ok (.aload_n 0, 1) := by decide +kernel
theorem d_M_init_131 : decode b_M_init 131 = .ok (.bipush 40, 2) := by decide +kernel
theorem d_M_init_133 : decode b_M_init 133 = .ok (.newarray .int, 2) := by decide +kernel
theorem d_M_init_135 : decode b_M_init 135 = .ok (.putfield 56, 3) := by decide +kernel
theorem d_M_init_138 : decode b_M_init 138 = .ok (.aload_n 0, 1) := by decide +kernel
theorem d_M_init_139 : decode b_M_init 139 = .ok (.bipush 24, 2) := by decide +kernel
theorem d_M_init_141 : decode b_M_init 141 = .ok (.newarray .int, 2) := by decide +kernel
theorem d_M_init_143 : decode b_M_init 143 = .ok (.putfield 59, 3) := by decide +kernel
theorem d_M_init_146 : decode b_M_init 146 = .ok (.aload_n 0, 1) := by decide +kernel
theorem d_M_init_147 : decode b_M_init 147 = .ok (.sipush 576, 3) := by decide +kernel
theorem d_M_init_150 : decode b_M_init 150 = .ok (.newarray .int, 2) := by decide +kernel
theorem d_M_init_152 : decode b_M_init 152 = .ok (.putfield 62, 3) := by decide +kernel
theorem d_M_init_155 : decode b_M_init 155 = .ok (.aload_n 0, 1) := by decide +kernel
theorem d_M_init_156 : decode b_M_init 156 = .ok (.iload_n 1, 1) := by decide +kernel
theorem d_M_init_157 : decode b_M_init 157 = .ok (.iconst 1, 1) := by decide +kernel
theorem d_M_init_158 : decode b_M_init 158 = .ok (.if_icmp .ge 7, 3) := by decide +kernel
theorem d_M_init_161 : decode b_M_init 161 = .ok (.iconst 1, 1) := by decide +kernel
theorem d_M_init_162 : decode b_M_init 162 = .ok (.goto 15, 3) := by decide +kernel
theorem d_M_init_165 : decode b_M_init 165 = .ok (.iload_n 1, 1) := by decide +kernel
theorem d_M_init_166 : decode b_M_init 166 = .ok (.bipush 24, 2) := by decide +kernel
theorem d_M_init_168 : decode b_M_init 168 = .ok (.if_icmp .le 8, 3) := by decide +kernel
theorem d_M_init_171 : decode b_M_init 171 = .ok (.bipush 24, 2) := by decide +kernel
theorem d_M_init_173 : decode b_M_init 173 = .ok (.goto 4, 3) := by decide +kernel
theorem d_M_init_176 : decode b_M_init 176 = .ok (.iload_n 1, 1) := by decide +kernel
theorem d_M_init_177 : decode b_M_init 177 = .ok (.putfield 65, 3) := by decide +kernel
theorem d_M_init_180 : decode b_M_init 180 = .ok (.return_, 1) := by decide +kernel
theorem d_M_isPlace_0 : decode b_M_isPlace 0 = .ok (.iload_n 1, 1) := by decide +kernel
theorem d_M_isPlace_1 : decode b_M_isPlace 1 = .ok (.ifCond .lt 15, 3) := by decide +kernel
theorem d_M_isPlace_4 : decode b_M_isPlace 4 = .ok (.iload_n 1, 1) := by decide +kernel
theorem d_M_isPlace_5 : decode b_M_isPlace 5 = .ok (.aload_n 0, 1) := by decide +kernel
theorem d_M_isPlace_6 : decode b_M_isPlace 6 = .ok (.getfield 65, 3) := by decide +kernel
theorem d_M_isPlace_9 : decode b_M_isPlace 9 = .ok (.if_icmp .ge 7, 3) := by decide +kernel
theorem d_M_isPlace_12 : decode b_M_isPlace 12 = .ok (.iconst 1, 1) := by decide +kernel
theorem d_M_isPlace_13 : decode b_M_isPlace 13 = .ok (.goto 4, 3) := by decide +kernel
theorem d_M_isPlace_16 : decode b_M_isPlace 16 = .ok (.iconst 0, 1) := by decide +kernel
theorem d_M_isPlace_17 : decode b_M_isPlace 17 = .ok (.ireturn, 1) := by decide +kernel
theorem d_M_isState_0 : decode b_M_isState 0 = .ok (.iload_n 1, 1) := by decide +kernel
theorem d_M_isState_1 : decode b_M_isState 1 = .ok (.ifCond .lt 15, 3) := by decide +kernel
theorem d_M_isState_4 : decode b_M_isState 4 = .ok (.iload_n 1, 1) := by decide +kernel
theorem d_M_isState_5 : decode b_M_isState 5 = .ok (.aload_n 0, 1) := by decide +kernel
theorem d_M_isState_6 : decode b_M_isState 6 = .ok (.getfield 72, 3) := by decide +kernel
theorem d_M_isState_9 : decode b_M_isState 9 = .ok (.if_icmp .ge 7, 3) := by decide +kernel
theorem d_M_isState_12 : decode b_M_isState 12 = .ok (.iconst 1, 1) := by decide +kernel
theorem d_M_isState_13 : decode b_M_isState 13 = .ok (.goto 4, 3) := by decide +kernel
theorem d_M_isState_16 : decode b_M_isState 16 = .ok (.iconst 0, 1) := by decide +kernel
theorem d_M_isState_17 : decode b_M_isState 17 = .ok (.ireturn, 1) := by decide +kernel
theorem d_M_move_0 : decode b_M_move 0 = .ok (.aload_n 0, 1) := by decide +kernel
theorem d_M_move_1 : decode b_M_move 1 = .ok (.iconst 0, 1) := by decide +kernel
theorem d_M_move_2 : decode b_M_move 2 = .ok (.putfield 69, 3) := by decide +kernel
theorem d_M_move_5 : decode b_M_move 5 = .ok (.aload_n 0, 1) := by decide +kernel
theorem d_M_move_6 : decode b_M_move 6 = .ok (.getfield 75, 3) := by decide +kernel
theorem d_M_move_9 : decode b_M_move 9 = .ok (.bipush 10, 2) := by decide +kernel
theorem d_M_move_11 : decode b_M_move 11 = .ok (.if_icmp .ne 5, 3) := by decide +kernel
theorem d_M_move_14 : decode b_M_move 14 = .ok (.iconst (-1), 1) := by decide +kernel
theorem d_M_move_15 : decode b_M_move 15 = .ok (.ireturn, 1) := by decide +kernel
theorem d_M_move_16 : decode b_M_move 16 = .ok (.iconst 0, 1) := by decide +kernel
theorem d_M_move_17 : decode b_M_move 17 = .ok (.istore_n 1, 1) := by decide +kernel
theorem d_M_move_18 : decode b_M_move 18 = .ok (.iload_n 1, 1) := by decide +kernel
theorem d_M_move_19 : decode b_M_move 19 = .ok (.bipush 24, 2) := by decide +kernel
theorem d_M_move_21 : decode b_M_move 21 = .ok (.if_icmp .ge 24, 3) := by decide +kernel
theorem d_M_move_24 : decode b_M_move 24 = .ok (.aload_n 0, 1) := by decide +kernel
theorem d_M_move_25 : decode b_M_move 25 = .ok (.getfield 7, 3) := by decide +kernel
theorem d_M_move_28 : decode b_M_move 28 = .ok (.bipush 24, 2) := by decide +kernel
theorem d_M_move_30 : decode b_M_move 30 = .ok (.aload_n 0, 1) := by decide +kernel
theorem d_M_move_31 : decode b_M_move 31 = .ok (.getfield 75, 3) := by decide +kernel
theorem d_M_move_34 : decode b_M_move 34 = .ok (.imul, 1) := by decide +kernel
theorem d_M_move_35 : decode b_M_move 35 = .ok (.iload_n 1, 1) := by decide +kernel
theorem d_M_move_36 : decode b_M_move 36 = .ok (.iadd, 1) := by decide +kernel
theorem d_M_move_37 : decode b_M_move 37 = .ok (.iload_n 1, 1) := by decide +kernel
theorem d_M_move_38 : decode b_M_move 38 = .ok (.iastore, 1) := by decide +kernel
theorem d_M_move_39 : decode b_M_move 39 = .ok (.iinc 1 1, 3) := by decide +kernel
theorem d_M_move_42 : decode b_M_move 42 = .ok (.goto (-24), 3) := by decide +kernel
theorem d_M_move_45 : decode b_M_move 45 = .ok (.aload_n 0, 1) := by decide +kernel
theorem d_M_move_46 : decode b_M_move 46 = .ok (.dup, 1) := by decide +kernel
theorem d_M_move_47 : decode b_M_move 47 = .ok (.getfield 75, 3) := by decide +kernel
theorem d_M_move_50 : decode b_M_move 50 = .ok (.iconst 1, 1) := by decide +kernel
theorem d_M_move_51 : decode b_M_move 51 = .ok (.iadd, 1) := by decide +kernel
theorem d_M_move_52 : decode b_M_move 52 = .ok (.putfield 75, 3) := by decide +kernel
theorem d_M_move_55 : decode b_M_move 55 = .ok (.aload_n 0, 1) := by decide +kernel
theorem d_M_move_56 : decode b_M_move 56 = .ok (.getfield 75, 3) := by decide +kernel
theorem d_M_move_59 : decode b_M_move 59 = .ok (.iconst 1, 1) := by decide +kernel
theorem d_M_move_60 : decode b_M_move 60 = .ok (.isub, 1) := by decide +kernel
theorem d_M_move_61 : decode b_M_move 61 = .ok (.ireturn, 1) := by decide +kernel
theorem d_M_cycle_0 : decode b_M_cycle 0 = .ok (.aload_n 0, 1) := by decide +kernel
theorem d_M_cycle_1 : decode b_M_cycle 1 = .ok (.iconst 0, 1) := by decide +kernel
theorem d_M_cycle_2 : decode b_M_cycle 2 = .ok (.putfield 69, 3) := by decide +kernel
theorem d_M_cycle_5 : decode b_M_cycle 5 = .ok (.iload_n 1, 1) := by decide +kernel
theorem d_M_cycle_6 : decode b_M_cycle 6 = .ok (.ifCond .lt 47, 3) := by decide +kernel
theorem d_M_cycle_9 : decode b_M_cycle 9 = .ok (.iload_n 1, 1) := by decide +kernel
theorem d_M_cycle_10 : decode b_M_cycle 10 = .ok (.aload_n 0, 1) := by decide +kernel
theorem d_M_cycle_11 : decode b_M_cycle 11 = .ok (.getfield 75, 3) := by decide +kernel
theorem d_M_cycle_14 : decode b_M_cycle 14 = .ok (.if_icmp .ge 39, 3) := by decide +kernel
theorem d_M_cycle_17 : decode b_M_cycle 17 = .ok (.aload_n 0, 1) := by decide +kernel
theorem d_M_cycle_18 : decode b_M_cycle 18 = .ok (.iload_n 2, 1) := by decide +kernel
theorem d_M_cycle_19 : decode b_M_cycle 19 = .ok (.invokevirtual 78, 3) := by decide +kernel
theorem d_M_cycle_22 : decode b_M_cycle 22 = .ok (.ifCond .eq 31, 3) := by decide +kernel
theorem d_M_cycle_25 : decode b_M_cycle 25 = .ok (.aload_n 0, 1) := by decide +kernel
theorem d_M_cycle_26 : decode b_M_cycle 26 = .ok (.iload_n 3, 1) := by decide +kernel
theorem d_M_cycle_27 : decode b_M_cycle 27 = .ok (.invokevirtual 78, 3) := by decide +kernel
theorem d_M_cycle_30 : decode b_M_cycle 30 = .ok (.ifCond .eq 23, 3) := by decide +kernel
theorem d_M_cycle_33 : decode b_M_cycle 33 = .ok (.iload_n 2, 1) := by decide +kernel
theorem d_M_cycle_34 : decode b_M_cycle 34 = .ok (.iload_n 3, 1) := by decide +kernel
theorem d_M_cycle_35 : decode b_M_cycle 35 = .ok (.if_icmp .eq 18, 3) := by decide +kernel
theorem d_M_cycle_38 : decode b_M_cycle 38 = .ok (.aload_n 0, 1) := by decide +kernel
theorem d_M_cycle_39 : decode b_M_cycle 39 = .ok (.getfield 7, 3) := by decide +kernel
theorem d_M_cycle_42 : decode b_M_cycle 42 = .ok (.bipush 24, 2) := by decide +kernel
theorem d_M_cycle_44 : decode b_M_cycle 44 = .ok (.iload_n 1, 1) := by decide +kernel
theorem d_M_cycle_45 : decode b_M_cycle 45 = .ok (.imul, 1) := by decide +kernel
theorem d_M_cycle_46 : decode b_M_cycle 46 = .ok (.iload_n 3, 1) := by decide +kernel
theorem d_M_cycle_47 : decode b_M_cycle 47 = .ok (.iadd, 1) := by decide +kernel
theorem d_M_cycle_48 : decode b_M_cycle 48 = .ok (.iaload, 1) := by decide +kernel
theorem d_M_cycle_49 : decode b_M_cycle 49 = .ok (.iload_n 3, 1) := by decide +kernel
theorem d_M_cycle_50 : decode b_M_cycle 50 = .ok (.if_icmp .eq 5, 3) := by decide +kernel
theorem d_M_cycle_53 : decode b_M_cycle 53 = .ok (.iconst 0, 1) := by decide +kernel
theorem d_M_cycle_54 : decode b_M_cycle 54 = .ok (.ireturn, 1) := by decide +kernel
theorem d_M_cycle_55 : decode b_M_cycle 55 = .ok (.aload_n 0, 1) := by decide +kernel
theorem d_M_cycle_56 : decode b_M_cycle 56 = .ok (.getfield 7, 3) := by decide +kernel
theorem d_M_cycle_59 : decode b_M_cycle 59 = .ok (.bipush 24, 2) := by decide +kernel
theorem d_M_cycle_61 : decode b_M_cycle 61 = .ok (.iload_n 1, 1) := by decide +kernel
theorem d_M_cycle_62 : decode b_M_cycle 62 = .ok (.imul, 1) := by decide +kernel
theorem d_M_cycle_63 : decode b_M_cycle 63 = .ok (.iload_n 3, 1) := by decide +kernel
theorem d_M_cycle_64 : decode b_M_cycle 64 = .ok (.iadd, 1) := by decide +kernel
theorem d_M_cycle_65 : decode b_M_cycle 65 = .ok (.aload_n 0, 1) := by decide +kernel
theorem d_M_cycle_66 : decode b_M_cycle 66 = .ok (.getfield 7, 3) := by decide +kernel
theorem d_M_cycle_69 : decode b_M_cycle 69 = .ok (.bipush 24, 2) := by decide +kernel
theorem d_M_cycle_71 : decode b_M_cycle 71 = .ok (.iload_n 1, 1) := by decide +kernel
theorem d_M_cycle_72 : decode b_M_cycle 72 = .ok (.imul, 1) := by decide +kernel
theorem d_M_cycle_73 : decode b_M_cycle 73 = .ok (.iload_n 2, 1) := by decide +kernel
theorem d_M_cycle_74 : decode b_M_cycle 74 = .ok (.iadd, 1) := by decide +kernel
theorem d_M_cycle_75 : decode b_M_cycle 75 = .ok (.iaload, 1) := by decide +kernel
theorem d_M_cycle_76 : decode b_M_cycle 76 = .ok (.iastore, 1) := by decide +kernel
theorem d_M_cycle_77 : decode b_M_cycle 77 = .ok (.aload_n 0, 1) := by decide +kernel
theorem d_M_cycle_78 : decode b_M_cycle 78 = .ok (.getfield 7, 3) := by decide +kernel
theorem d_M_cycle_81 : decode b_M_cycle 81 = .ok (.bipush 24, 2) := by decide +kernel
theorem d_M_cycle_83 : decode b_M_cycle 83 = .ok (.iload_n 1, 1) := by decide +kernel
theorem d_M_cycle_84 : decode b_M_cycle 84 = .ok (.imul, 1) := by decide +kernel
theorem d_M_cycle_85 : decode b_M_cycle 85 = .ok (.iload_n 2, 1) := by decide +kernel
theorem d_M_cycle_86 : decode b_M_cycle 86 = .ok (.iadd, 1) := by decide +kernel
theorem d_M_cycle_87 : decode b_M_cycle 87 = .ok (.iload_n 3, 1) := by decide +kernel
theorem d_M_cycle_88 : decode b_M_cycle 88 = .ok (.iastore, 1) := by decide +kernel
theorem d_M_cycle_89 : decode b_M_cycle 89 = .ok (.aload_n 0, 1) := by decide +kernel
theorem d_M_cycle_90 : decode b_M_cycle 90 = .ok (.iconst 0, 1) := by decide +kernel
theorem d_M_cycle_91 : decode b_M_cycle 91 = .ok (.putfield 82, 3) := by decide +kernel
theorem d_M_cycle_94 : decode b_M_cycle 94 = .ok (.iconst 1, 1) := by decide +kernel
theorem d_M_cycle_95 : decode b_M_cycle 95 = .ok (.ireturn, 1) := by decide +kernel
theorem d_M_state_0 : decode b_M_state 0 = .ok (.aload_n 0, 1) := by decide +kernel
theorem d_M_state_1 : decode b_M_state 1 = .ok (.iconst 0, 1) := by decide +kernel
theorem d_M_state_2 : decode b_M_state 2 = .ok (.putfield 69, 3) := by decide +kernel
theorem d_M_state_5 : decode b_M_state 5 = .ok (.aload_n 0, 1) := by decide +kernel
theorem d_M_state_6 : decode b_M_state 6 = .ok (.getfield 72, 3) := by decide +kernel
theorem d_M_state_9 : decode b_M_state 9 = .ok (.bipush 20, 2) := by decide +kernel
theorem d_M_state_11 : decode b_M_state 11 = .ok (.if_icmp .ne 5, 3) := by decide +kernel
theorem d_M_state_14 : decode b_M_state 14 = .ok (.iconst (-1), 1) := by decide +kernel
theorem d_M_state_15 : decode b_M_state 15 = .ok (.ireturn, 1) := by decide +kernel
theorem d_M_state_16 : decode b_M_state 16 = .ok (.iconst 0, 1) := by decide +kernel
theorem d_M_state_17 : decode b_M_state 17 = .ok (.istore_n 1, 1) := by decide +kernel
theorem d_M_state_18 : decode b_M_state 18 = .ok (.iload_n 1, 1) := by decide +kernel
theorem d_M_state_19 : decode b_M_state 19 = .ok (.bipush 24, 2) := by decide +kernel
theorem d_M_state_21 : decode b_M_state 21 = .ok (.if_icmp .ge 24, 3) := by decide +kernel
theorem d_M_state_24 : decode b_M_state 24 = .ok (.aload_n 0, 1) := by decide +kernel
theorem d_M_state_25 : decode b_M_state 25 = .ok (.getfield 13, 3) := by decide +kernel
theorem d_M_state_28 : decode b_M_state 28 = .ok (.bipush 24, 2) := by decide +kernel
theorem d_M_state_30 : decode b_M_state 30 = .ok (.aload_n 0, 1) := by decide +kernel
theorem d_M_state_31 : decode b_M_state 31 = .ok (.getfield 72, 3) := by decide +kernel
theorem d_M_state_34 : decode b_M_state 34 = .ok (.imul, 1) := by decide +kernel
theorem d_M_state_35 : decode b_M_state 35 = .ok (.iload_n 1, 1) := by decide +kernel
theorem d_M_state_36 : decode b_M_state 36 = .ok (.iadd, 1) := by decide +kernel
theorem d_M_state_37 : decode b_M_state 37 = .ok (.iload_n 1, 1) := by decide +kernel
theorem d_M_state_38 : decode b_M_state 38 = .ok (.iastore, 1) := by decide +kernel
theorem d_M_state_39 : decode b_M_state 39 = .ok (.iinc 1 1, 3) := by decide +kernel
theorem d_M_state_42 : decode b_M_state 42 = .ok (.goto (-24), 3) := by decide +kernel
theorem d_M_state_45 : decode b_M_state 45 = .ok (.aload_n 0, 1) := by decide +kernel
theorem d_M_state_46 : decode b_M_state 46 = .ok (.dup, 1) := by decide +kernel
theorem d_M_state_47 : decode b_M_state 47 = .ok (.getfield 72, 3) := by decide +kernel
theorem d_M_state_50 : decode b_M_state 50 = .ok (.iconst 1, 1) := by decide +kernel
theorem d_M_state_51 : decode b_M_state 51 = .ok (.iadd, 1) := by decide +kernel
theorem d_M_state_52 : decode b_M_state 52 = .ok (.putfield 72, 3) := by decide +kernel
theorem d_M_state_55 : decode b_M_state 55 = .ok (.aload_n 0, 1) := by decide +kernel
theorem d_M_state_56 : decode b_M_state 56 = .ok (.getfield 72, 3) := by decide +kernel
theorem d_M_state_59 : decode b_M_state 59 = .ok (.iconst 1, 1) := by decide +kernel
theorem d_M_state_60 : decode b_M_state 60 = .ok (.isub, 1) := by decide +kernel
theorem d_M_state_61 : decode b_M_state 61 = .ok (.ireturn, 1) := by decide +kernel
theorem d_M_applyMove_0 : decode b_M_applyMove 0 = .ok (.iconst 0, 1) := by decide +kernel
theorem d_M_applyMove_1 : decode b_M_applyMove 1 = .ok (.istore_n 3, 1) := by decide +kernel
theorem d_M_applyMove_2 : decode b_M_applyMove 2 = .ok (.iload_n 3, 1) := by decide +kernel
theorem d_M_applyMove_3 : decode b_M_applyMove 3 = .ok (.aload_n 0, 1) := by decide +kernel
theorem d_M_applyMove_4 : decode b_M_applyMove 4 = .ok (.getfield 65, 3) := by decide +kernel
theorem d_M_applyMove_7 : decode b_M_applyMove 7 = .ok (.if_icmp .ge 41, 3) := by decide +kernel
theorem d_M_applyMove_10 : decode b_M_applyMove 10 = .ok (.aload_n 0, 1) := by decide +kernel
theorem d_M_applyMove_11 : decode b_M_applyMove 11 = .ok (.getfield 13, 3) := by decide +kernel
theorem d_M_applyMove_14 : decode b_M_applyMove 14 = .ok (.bipush 24, 2) := by decide +kernel
theorem d_M_applyMove_16 : decode b_M_applyMove 16 = .ok (.iload_n 1, 1) := by decide +kernel
theorem d_M_applyMove_17 : decode b_M_applyMove 17 = .ok (.imul, 1) := by decide +kernel
theorem d_M_applyMove_18 : decode b_M_applyMove 18 = .ok (.iload_n 3, 1) := by decide +kernel
theorem d_M_applyMove_19 : decode b_M_applyMove 19 = .ok (.iadd, 1) := by decide +kernel
theorem d_M_applyMove_20 : decode b_M_applyMove 20 = .ok (.aload_n 0, 1) := by decide +kernel
theorem d_M_applyMove_21 : decode b_M_applyMove 21 = .ok (.getfield 7, 3) := by decide +kernel
theorem d_M_applyMove_24 : decode b_M_applyMove 24 = .ok (.bipush 24, 2) := by decide +kernel
theorem d_M_applyMove_26 : decode b_M_applyMove 26 = .ok (.iload_n 2, 1) := by decide +kernel
theorem d_M_applyMove_27 : decode b_M_applyMove 27 = .ok (.imul, 1) := by decide +kernel
theorem d_M_applyMove_28 : decode b_M_applyMove 28 = .ok (.aload_n 0, 1) := by decide +kernel
theorem d_M_applyMove_29 : decode b_M_applyMove 29 = .ok (.getfield 13, 3) := by decide +kernel
theorem d_M_applyMove_32 : decode b_M_applyMove 32 = .ok (.bipush 24, 2) := by decide +kernel
theorem d_M_applyMove_34 : decode b_M_applyMove 34 = .ok (.iload_n 1, 1) := by decide +kernel
theorem d_M_applyMove_35 : decode b_M_applyMove 35 = .ok (.imul, 1) := by decide +kernel
theorem d_M_applyMove_36 : decode b_M_applyMove 36 = .ok (.iload_n 3, 1) := by decide +kernel
theorem d_M_applyMove_37 : decode b_M_applyMove 37 = .ok (.iadd, 1) := by decide +kernel
theorem d_M_applyMove_38 : decode b_M_applyMove 38 = .ok (.iaload, 1) := by decide +kernel
theorem d_M_applyMove_39 : decode b_M_applyMove 39 = .ok (.iadd, 1) := by decide +kernel
theorem d_M_applyMove_40 : decode b_M_applyMove 40 = .ok (.iaload, 1) := by decide +kernel
theorem d_M_applyMove_41 : decode b_M_applyMove 41 = .ok (.iastore, 1) := by decide +kernel
theorem d_M_applyMove_42 : decode b_M_applyMove 42 = .ok (.iinc 3 1, 3) := by decide +kernel
theorem d_M_applyMove_45 : decode b_M_applyMove 45 = .ok (.goto (-43), 3) := by decide +kernel
theorem d_M_applyMove_48 : decode b_M_applyMove 48 = .ok (.return_, 1) := by decide +kernel
theorem d_M_apply_0 : decode b_M_apply 0 = .ok (.aload_n 0, 1) := by decide +kernel
theorem d_M_apply_1 : decode b_M_apply 1 = .ok (.iconst 0, 1) := by decide +kernel
theorem d_M_apply_2 : decode b_M_apply 2 = .ok (.putfield 69, 3) := by decide +kernel
theorem d_M_apply_5 : decode b_M_apply 5 = .ok (.aload_n 0, 1) := by decide +kernel
theorem d_M_apply_6 : decode b_M_apply 6 = .ok (.iload_n 1, 1) := by decide +kernel
theorem d_M_apply_7 : decode b_M_apply 7 = .ok (.invokevirtual 86, 3) := by decide +kernel
theorem d_M_apply_10 : decode b_M_apply 10 = .ok (.ifCond .eq 15, 3) := by decide +kernel
theorem d_M_apply_13 : decode b_M_apply 13 = .ok (.iload_n 2, 1) := by decide +kernel
theorem d_M_apply_14 : decode b_M_apply 14 = .ok (.ifCond .lt 11, 3) := by decide +kernel
theorem d_M_apply_17 : decode b_M_apply 17 = .ok (.iload_n 2, 1) := by decide +kernel
theorem d_M_apply_18 : decode b_M_apply 18 = .ok (.aload_n 0, 1) := by decide +kernel
theorem d_M_apply_19 : decode b_M_apply 19 = .ok (.getfield 75, 3) := by decide +kernel
theorem d_M_apply_22 : decode b_M_apply 22 = .ok (.if_icmp .lt 5, 3) := by decide +kernel
theorem d_M_apply_25 : decode b_M_apply 25 = .ok (.iconst 0, 1) := by decide +kernel
theorem d_M_apply_26 : decode b_M_apply 26 = .ok (.ireturn, 1) := by decide +kernel
theorem d_M_apply_27 : decode b_M_apply 27 = .ok (.aload_n 0, 1) := by decide +kernel
theorem d_M_apply_28 : decode b_M_apply 28 = .ok (.iload_n 1, 1) := by decide +kernel
theorem d_M_apply_29 : decode b_M_apply 29 = .ok (.iload_n 2, 1) := by decide +kernel
theorem d_M_apply_30 : decode b_M_apply 30 = .ok (.invokevirtual 89, 3) := by decide +kernel
theorem d_M_apply_33 : decode b_M_apply 33 = .ok (.iconst 1, 1) := by decide +kernel
theorem d_M_apply_34 : decode b_M_apply 34 = .ok (.ireturn, 1) := by decide +kernel
theorem d_M_exchange_0 : decode b_M_exchange 0 = .ok (.aload_n 0, 1) := by decide +kernel
theorem d_M_exchange_1 : decode b_M_exchange 1 = .ok (.iconst 0, 1) := by decide +kernel
theorem d_M_exchange_2 : decode b_M_exchange 2 = .ok (.putfield 69, 3) := by decide +kernel
theorem d_M_exchange_5 : decode b_M_exchange 5 = .ok (.aload_n 0, 1) := by decide +kernel
theorem d_M_exchange_6 : decode b_M_exchange 6 = .ok (.iload_n 1, 1) := by decide +kernel
theorem d_M_exchange_7 : decode b_M_exchange 7 = .ok (.invokevirtual 86, 3) := by decide +kernel
theorem d_M_exchange_10 : decode b_M_exchange 10 = .ok (.ifCond .eq 24, 3) := by decide +kernel
theorem d_M_exchange_13 : decode b_M_exchange 13 = .ok (.aload_n 0, 1) := by decide +kernel
theorem d_M_exchange_14 : decode b_M_exchange 14 = .ok (.iload_n 2, 1) := by decide +kernel
theorem d_M_exchange_15 : decode b_M_exchange 15 = .ok (.invokevirtual 78, 3) := by decide +kernel
theorem d_M_exchange_18 : decode b_M_exchange 18 = .ok (.ifCond .eq 16, 3) := by decide +kernel
theorem d_M_exchange_21 : decode b_M_exchange 21 = .ok (.aload_n 0, 1) := by decide +kernel
theorem d_M_exchange_22 : decode b_M_exchange 22 = .ok (.iload_n 3, 1) := by decide +kernel
theorem d_M_exchange_23 : decode b_M_exchange 23 = .ok (.invokevirtual 78, 3) := by decide +kernel
theorem d_M_exchange_26 : decode b_M_exchange 26 = .ok (.ifCond .eq 8, 3) := by decide +kernel
theorem d_M_exchange_29 : decode b_M_exchange 29 = .ok (.iload_n 2, 1) := by decide +kernel
theorem d_M_exchange_30 : decode b_M_exchange 30 = .ok (.iload_n 3, 1) := by decide +kernel
theorem d_M_exchange_31 : decode b_M_exchange 31 = .ok (.if_icmp .ne 5, 3) := by decide +kernel
theorem d_M_exchange_34 : decode b_M_exchange 34 = .ok (.iconst 0, 1) := by decide +kernel
theorem d_M_exchange_35 : decode b_M_exchange 35 = .ok (.ireturn, 1) := by decide +kernel
theorem d_M_exchange_36 : decode b_M_exchange 36 = .ok (.iconst 0, 1) := by decide +kernel
theorem d_M_exchange_37 : decode b_M_exchange 37 = .ok (.istore 4, 2) := by decide +kernel
theorem d_M_exchange_39 : decode b_M_exchange 39 = .ok (.iload 4, 2) := by decide +kernel
theorem d_M_exchange_41 : decode b_M_exchange 41 = .ok (.aload_n 0, 1) := by decide +kernel
theorem d_M_exchange_42 : decode b_M_exchange 42 = .ok (.getfield 65, 3) := by decide +kernel
theorem d_M_exchange_45 : decode b_M_exchange 45 = .ok (.if_icmp .ge 57, 3) := by decide +kernel
theorem d_M_exchange_48 : decode b_M_exchange 48 = .ok (.aload_n 0, 1) := by decide +kernel
theorem d_M_exchange_49 : decode b_M_exchange 49 = .ok (.getfield 13, 3) := by decide +kernel
theorem d_M_exchange_52 : decode b_M_exchange 52 = .ok (.bipush 24, 2) := by decide +kernel
theorem d_M_exchange_54 : decode b_M_exchange 54 = .ok (.iload_n 1, 1) := by decide +kernel
theorem d_M_exchange_55 : decode b_M_exchange 55 = .ok (.imul, 1) := by decide +kernel
theorem d_M_exchange_56 : decode b_M_exchange 56 = .ok (.iload 4, 2) := by decide +kernel
theorem d_M_exchange_58 : decode b_M_exchange 58 = .ok (.iadd, 1) := by decide +kernel
theorem d_M_exchange_59 : decode b_M_exchange 59 = .ok (.iaload, 1) := by decide +kernel
theorem d_M_exchange_60 : decode b_M_exchange 60 = .ok (.istore 5, 2) := by decide +kernel
theorem d_M_exchange_62 : decode b_M_exchange 62 = .ok (.aload_n 0, 1) := by decide +kernel
theorem d_M_exchange_63 : decode b_M_exchange 63 = .ok (.getfield 13, 3) := by decide +kernel
theorem d_M_exchange_66 : decode b_M_exchange 66 = .ok (.bipush 24, 2) := by decide +kernel
theorem d_M_exchange_68 : decode b_M_exchange 68 = .ok (.iload_n 1, 1) := by decide +kernel
theorem d_M_exchange_69 : decode b_M_exchange 69 = .ok (.imul, 1) := by decide +kernel
theorem d_M_exchange_70 : decode b_M_exchange 70 = .ok (.iload 4, 2) := by decide +kernel
theorem d_M_exchange_72 : decode b_M_exchange 72 = .ok (.iadd, 1) := by decide +kernel
theorem d_M_exchange_73 : decode b_M_exchange 73 = .ok (.iload 5, 2) := by decide +kernel
theorem d_M_exchange_75 : decode b_M_exchange 75 = .ok (.iload_n 2, 1) := by decide +kernel
theorem d_M_exchange_76 : decode b_M_exchange 76 = .ok (.if_icmp .ne 7, 3) := by decide +kernel
theorem d_M_exchange_79 : decode b_M_exchange 79 = .ok (.iload_n 3, 1) := by decide +kernel
theorem d_M_exchange_80 : decode b_M_exchange 80 = .ok (.goto 15, 3) := by decide +kernel
theorem d_M_exchange_83 : decode b_M_exchange 83 = .ok (.iload 5, 2) := by decide +kernel
theorem d_M_exchange_85 : decode b_M_exchange 85 = .ok (.iload_n 3, 1) := by decide +kernel
theorem d_M_exchange_86 : decode b_M_exchange 86 = .ok (.if_icmp .ne 7, 3) := by decide +kernel
theorem d_M_exchange_89 : decode b_M_exchange 89 = .ok (.iload_n 2, 1) := by decide +kernel
theorem d_M_exchange_90 : decode b_M_exchange 90 = .ok (.goto 5, 3) := by decide +kernel
theorem d_M_exchange_93 : decode b_M_exchange 93 = .ok (.iload 5, 2) := by decide +kernel
theorem d_M_exchange_95 : decode b_M_exchange 95 = .ok (.iastore, 1) := by decide +kernel
theorem d_M_exchange_96 : decode b_M_exchange 96 = .ok (.iinc 4 1, 3) := by decide +kernel
theorem d_M_exchange_99 : decode b_M_exchange 99 = .ok (.goto (-60), 3) := by decide +kernel
theorem d_M_exchange_102 : decode b_M_exchange 102 = .ok (.iconst 1, 1) := by decide +kernel
theorem d_M_exchange_103 : decode b_M_exchange 103 = .ok (.ireturn, 1) := by decide +kernel
theorem d_M_scramble_0 : decode b_M_scramble 0 = .ok (.aload_n 0, 1) := by decide +kernel
theorem d_M_scramble_1 : decode b_M_scramble 1 = .ok (.iconst 0, 1) := by decide +kernel
theorem d_M_scramble_2 : decode b_M_scramble 2 = .ok (.putfield 69, 3) := by decide +kernel
theorem d_M_scramble_5 : decode b_M_scramble 5 = .ok (.aload_n 0, 1) := by decide +kernel
theorem d_M_scramble_6 : decode b_M_scramble 6 = .ok (.iload_n 1, 1) := by decide +kernel
theorem d_M_scramble_7 : decode b_M_scramble 7 = .ok (.invokevirtual 86, 3) := by decide +kernel
theorem d_M_scramble_10 : decode b_M_scramble 10 = .ok (.ifCond .eq 23, 3) := by decide +kernel
theorem d_M_scramble_13 : decode b_M_scramble 13 = .ok (.aload_n 0, 1) := by decide +kernel
theorem d_M_scramble_14 : decode b_M_scramble 14 = .ok (.getfield 75, 3) := by decide +kernel
theorem d_M_scramble_17 : decode b_M_scramble 17 = .ok (.ifCond .eq 16, 3) := by decide +kernel
theorem d_M_scramble_20 : decode b_M_scramble 20 = .ok (.iload 4, 2) := by decide +kernel
theorem d_M_scramble_22 : decode b_M_scramble 22 = .ok (.ifCond .lt 11, 3) := by decide +kernel
theorem d_M_scramble_25 : decode b_M_scramble 25 = .ok (.iload 4, 2) := by decide +kernel
theorem d_M_scramble_27 : decode b_M_scramble 27 = .ok (.sipush 1000, 3) := by decide +kernel
theorem d_M_scramble_30 : decode b_M_scramble 30 = .ok (.if_icmp .le 5, 3) := by decide +kernel
theorem d_M_scramble_33 : decode b_M_scramble 33 = .ok (.iconst 0, 1) := by decide +kernel
theorem d_M_scramble_34 : decode b_M_scramble 34 = .ok (.ireturn, 1) := by decide +kernel
theorem d_M_scramble_35 : decode b_M_scramble 35 = .ok (.lload_n 2, 1) := by decide +kernel
theorem d_M_scramble_36 : decode b_M_scramble 36 = .ok (.lstore 5, 2) := by decide +kernel
theorem d_M_scramble_38 : decode b_M_scramble 38 = .ok (.iconst 0, 1) := by decide +kernel
theorem d_M_scramble_39 : decode b_M_scramble 39 = .ok (.istore 7, 2) := by decide +kernel
theorem d_M_scramble_41 : decode b_M_scramble 41 = .ok (.iload 7, 2) := by decide +kernel
theorem d_M_scramble_43 : decode b_M_scramble 43 = .ok (.iload 4, 2) := by decide +kernel
theorem d_M_scramble_45 : decode b_M_scramble 45 = .ok (.if_icmp .ge 38, 3) := by decide +kernel
theorem d_M_scramble_48 : decode b_M_scramble 48 = .ok (.ldc2_w 93, 3) := by decide +kernel
theorem d_M_scramble_51 : decode b_M_scramble 51 = .ok (.lload 5, 2) := by decide +kernel
theorem d_M_scramble_53 : decode b_M_scramble 53 = .ok (.lmul, 1) := by decide +kernel
theorem d_M_scramble_54 : decode b_M_scramble 54 = .ok (.ldc2_w 95, 3) := by decide +kernel
theorem d_M_scramble_57 : decode b_M_scramble 57 = .ok (.ladd, 1) := by decide +kernel
theorem d_M_scramble_58 : decode b_M_scramble 58 = .ok (.lstore 5, 2) := by decide +kernel
theorem d_M_scramble_60 : decode b_M_scramble 60 = .ok (.aload_n 0, 1) := by decide +kernel
theorem d_M_scramble_61 : decode b_M_scramble 61 = .ok (.iload_n 1, 1) := by decide +kernel
theorem d_M_scramble_62 : decode b_M_scramble 62 = .ok (.lload 5, 2) := by decide +kernel
theorem d_M_scramble_64 : decode b_M_scramble 64 = .ok (.bipush 33, 2) := by decide +kernel
theorem d_M_scramble_66 : decode b_M_scramble 66 = .ok (.lushr, 1) := by decide +kernel
theorem d_M_scramble_67 : decode b_M_scramble 67 = .ok (.aload_n 0, 1) := by decide +kernel
theorem d_M_scramble_68 : decode b_M_scramble 68 = .ok (.getfield 75, 3) := by decide +kernel
theorem d_M_scramble_71 : decode b_M_scramble 71 = .ok (.i2l, 1) := by decide +kernel
theorem d_M_scramble_72 : decode b_M_scramble 72 = .ok (.lrem, 1) := by decide +kernel
theorem d_M_scramble_73 : decode b_M_scramble 73 = .ok (.l2i, 1) := by decide +kernel
theorem d_M_scramble_74 : decode b_M_scramble 74 = .ok (.invokevirtual 89, 3) := by decide +kernel
theorem d_M_scramble_77 : decode b_M_scramble 77 = .ok (.iinc 7 1, 3) := by decide +kernel
theorem d_M_scramble_80 : decode b_M_scramble 80 = .ok (.goto (-39), 3) := by decide +kernel
theorem d_M_scramble_83 : decode b_M_scramble 83 = .ok (.iconst 1, 1) := by decide +kernel
theorem d_M_scramble_84 : decode b_M_scramble 84 = .ok (.ireturn, 1) := by decide +kernel
theorem d_M_image_0 : decode b_M_image 0 = .ok (.aload_n 0, 1) := by decide +kernel
theorem d_M_image_1 : decode b_M_image 1 = .ok (.iconst 0, 1) := by decide +kernel
theorem d_M_image_2 : decode b_M_image 2 = .ok (.putfield 69, 3) := by decide +kernel
theorem d_M_image_5 : decode b_M_image 5 = .ok (.aload_n 0, 1) := by decide +kernel
theorem d_M_image_6 : decode b_M_image 6 = .ok (.iload_n 1, 1) := by decide +kernel
theorem d_M_image_7 : decode b_M_image 7 = .ok (.invokevirtual 86, 3) := by decide +kernel
theorem d_M_image_10 : decode b_M_image 10 = .ok (.ifCond .eq 25, 3) := by decide +kernel
theorem d_M_image_13 : decode b_M_image 13 = .ok (.aload_n 0, 1) := by decide +kernel
theorem d_M_image_14 : decode b_M_image 14 = .ok (.iload_n 2, 1) := by decide +kernel
theorem d_M_image_15 : decode b_M_image 15 = .ok (.invokevirtual 78, 3) := by decide +kernel
theorem d_M_image_18 : decode b_M_image 18 = .ok (.ifCond .eq 17, 3) := by decide +kernel
theorem d_M_image_21 : decode b_M_image 21 = .ok (.aload_n 0, 1) := by decide +kernel
theorem d_M_image_22 : decode b_M_image 22 = .ok (.getfield 13, 3) := by decide +kernel
theorem d_M_image_25 : decode b_M_image 25 = .ok (.bipush 24, 2) := by decide +kernel
theorem d_M_image_27 : decode b_M_image 27 = .ok (.iload_n 1, 1) := by decide +kernel
theorem d_M_image_28 : decode b_M_image 28 = .ok (.imul, 1) := by decide +kernel
theorem d_M_image_29 : decode b_M_image 29 = .ok (.iload_n 2, 1) := by decide +kernel
theorem d_M_image_30 : decode b_M_image 30 = .ok (.iadd, 1) := by decide +kernel
theorem d_M_image_31 : decode b_M_image 31 = .ok (.iaload, 1) := by decide +kernel
theorem d_M_image_32 : decode b_M_image 32 = .ok (.goto 4, 3) := by decide +kernel
theorem d_M_image_35 : decode b_M_image 35 = .ok (.iconst (-1), 1) := by decide +kernel
theorem d_M_image_36 : decode b_M_image 36 = .ok (.ireturn, 1) := by decide +kernel
theorem d_M_spreadOf_0 : decode b_M_spreadOf 0 = .ok (.iconst 0, 1) := by decide +kernel
theorem d_M_spreadOf_1 : decode b_M_spreadOf 1 = .ok (.istore_n 2, 1) := by decide +kernel
theorem d_M_spreadOf_2 : decode b_M_spreadOf 2 = .ok (.iload_n 2, 1) := by decide +kernel
theorem d_M_spreadOf_3 : decode b_M_spreadOf 3 = .ok (.bipush 24, 2) := by decide +kernel
theorem d_M_spreadOf_5 : decode b_M_spreadOf 5 = .ok (.if_icmp .ge 21, 3) := by decide +kernel
theorem d_M_spreadOf_8 : decode b_M_spreadOf 8 = .ok (.aload_n 0, 1) := by decide +kernel
theorem d_M_spreadOf_9 : decode b_M_spreadOf 9 = .ok (.getfield 19, 3) := by decide +kernel
theorem d_M_spreadOf_12 : decode b_M_spreadOf 12 = .ok (.bipush 24, 2) := by decide +kernel
theorem d_M_spreadOf_14 : decode b_M_spreadOf 14 = .ok (.iload_n 1, 1) := by decide +kernel
theorem d_M_spreadOf_15 : decode b_M_spreadOf 15 = .ok (.imul, 1) := by decide +kernel
theorem d_M_spreadOf_16 : decode b_M_spreadOf 16 = .ok (.iload_n 2, 1) := by decide +kernel
theorem d_M_spreadOf_17 : decode b_M_spreadOf 17 = .ok (.iadd, 1) := by decide +kernel
theorem d_M_spreadOf_18 : decode b_M_spreadOf 18 = .ok (.iconst 0, 1) := by decide +kernel
theorem d_M_spreadOf_19 : decode b_M_spreadOf 19 = .ok (.bastore, 1) := by decide +kernel
theorem d_M_spreadOf_20 : decode b_M_spreadOf 20 = .ok (.iinc 2 1, 3) := by decide +kernel
theorem d_M_spreadOf_23 : decode b_M_spreadOf 23 = .ok (.goto (-21), 3) := by decide +kernel
theorem d_M_spreadOf_26 : decode b_M_spreadOf 26 = .ok (.aload_n 0, 1) := by decide +kernel
theorem d_M_spreadOf_27 : decode b_M_spreadOf 27 = .ok (.getfield 19, 3) := by decide +kernel
theorem d_M_spreadOf_30 : decode b_M_spreadOf 30 = .ok (.bipush 24, 2) := by decide +kernel
theorem d_M_spreadOf_32 : decode b_M_spreadOf 32 = .ok (.iload_n 1, 1) := by decide +kernel
theorem d_M_spreadOf_33 : decode b_M_spreadOf 33 = .ok (.imul, 1) := by decide +kernel
theorem d_M_spreadOf_34 : decode b_M_spreadOf 34 = .ok (.iload_n 1, 1) := by decide +kernel
theorem d_M_spreadOf_35 : decode b_M_spreadOf 35 = .ok (.iadd, 1) := by decide +kernel
theorem d_M_spreadOf_36 : decode b_M_spreadOf 36 = .ok (.iconst 1, 1) := by decide +kernel
theorem d_M_spreadOf_37 : decode b_M_spreadOf 37 = .ok (.bastore, 1) := by decide +kernel
theorem d_M_spreadOf_38 : decode b_M_spreadOf 38 = .ok (.iconst 0, 1) := by decide +kernel
theorem d_M_spreadOf_39 : decode b_M_spreadOf 39 = .ok (.istore_n 2, 1) := by decide +kernel
theorem d_M_spreadOf_40 : decode b_M_spreadOf 40 = .ok (.iload_n 2, 1) := by decide +kernel
theorem d_M_spreadOf_41 : decode b_M_spreadOf 41 = .ok (.bipush 24, 2) := by decide +kernel
theorem d_M_spreadOf_43 : decode b_M_spreadOf 43 = .ok (.if_icmp .ge 26, 3) := by decide +kernel
theorem d_M_spreadOf_46 : decode b_M_spreadOf 46 = .ok (.aload_n 0, 1) := by decide +kernel
theorem d_M_spreadOf_47 : decode b_M_spreadOf 47 = .ok (.getfield 16, 3) := by decide +kernel
theorem d_M_spreadOf_50 : decode b_M_spreadOf 50 = .ok (.bipush 24, 2) := by decide +kernel
theorem d_M_spreadOf_52 : decode b_M_spreadOf 52 = .ok (.bipush 24, 2) := by decide +kernel
theorem d_M_spreadOf_54 : decode b_M_spreadOf 54 = .ok (.iload_n 1, 1) := by decide +kernel
theorem d_M_spreadOf_55 : decode b_M_spreadOf 55 = .ok (.imul, 1) := by decide +kernel
theorem d_M_spreadOf_56 : decode b_M_spreadOf 56 = .ok (.iload_n 1, 1) := by decide +kernel
theorem d_M_spreadOf_57 : decode b_M_spreadOf 57 = .ok (.iadd, 1) := by decide +kernel
theorem d_M_spreadOf_58 : decode b_M_spreadOf 58 = .ok (.imul, 1) := by decide +kernel
theorem d_M_spreadOf_59 : decode b_M_spreadOf 59 = .ok (.iload_n 2, 1) := by decide +kernel
theorem d_M_spreadOf_60 : decode b_M_spreadOf 60 = .ok (.iadd, 1) := by decide +kernel
theorem d_M_spreadOf_61 : decode b_M_spreadOf 61 = .ok (.iload_n 2, 1) := by decide +kernel
theorem d_M_spreadOf_62 : decode b_M_spreadOf 62 = .ok (.iastore, 1) := by decide +kernel
theorem d_M_spreadOf_63 : decode b_M_spreadOf 63 = .ok (.iinc 2 1, 3) := by decide +kernel
theorem d_M_spreadOf_66 : decode b_M_spreadOf 66 = .ok (.goto (-26), 3) := by decide +kernel
theorem d_M_spreadOf_69 : decode b_M_spreadOf 69 = .ok (.aload_n 0, 1) := by decide +kernel
theorem d_M_spreadOf_70 : decode b_M_spreadOf 70 = .ok (.getfield 38, 3) := by decide +kernel
theorem d_M_spreadOf_73 : decode b_M_spreadOf 73 = .ok (.iconst 0, 1) := by decide +kernel
theorem d_M_spreadOf_74 : decode b_M_spreadOf 74 = .ok (.iload_n 1, 1) := by decide +kernel
theorem d_M_spreadOf_75 : decode b_M_spreadOf 75 = .ok (.iastore, 1) := by decide +kernel
theorem d_M_spreadOf_76 : decode b_M_spreadOf 76 = .ok (.iconst 1, 1) := by decide +kernel
theorem d_M_spreadOf_77 : decode b_M_spreadOf 77 = .ok (.istore_n 2, 1) := by decide +kernel
theorem d_M_spreadOf_78 : decode b_M_spreadOf 78 = .ok (.iconst 0, 1) := by decide +kernel
theorem d_M_spreadOf_79 : decode b_M_spreadOf 79 = .ok (.istore_n 3, 1) := by decide +kernel
theorem d_M_spreadOf_80 : decode b_M_spreadOf 80 = .ok (.iload_n 3, 1) := by decide +kernel
theorem d_M_spreadOf_81 : decode b_M_spreadOf 81 = .ok (.iload_n 2, 1) := by decide +kernel
theorem d_M_spreadOf_82 : decode b_M_spreadOf 82 = .ok (.if_icmp .ge 155, 3) := by decide +kernel
theorem d_M_spreadOf_85 : decode b_M_spreadOf 85 = .ok (.iconst 0, 1) := by decide +kernel
theorem d_M_spreadOf_86 : decode b_M_spreadOf 86 = .ok (.istore 4, 2) := by decide +kernel
theorem d_M_spreadOf_88 : decode b_M_spreadOf 88 = .ok (.iload 4, 2) := by decide +kernel
theorem d_M_spreadOf_90 : decode b_M_spreadOf 90 = .ok (.aload_n 0, 1) := by decide +kernel
theorem d_M_spreadOf_91 : decode b_M_spreadOf 91 = .ok (.getfield 97, 3) := by decide +kernel
theorem d_M_spreadOf_94 : decode b_M_spreadOf 94 = .ok (.if_icmp .ge 137, 3) := by decide +kernel
theorem d_M_spreadOf_97 : decode b_M_spreadOf 97 = .ok (.aload_n 0, 1) := by decide +kernel
theorem d_M_spreadOf_98 : decode b_M_spreadOf 98 = .ok (.getfield 38, 3) := by decide +kernel
theorem d_M_spreadOf_101 : decode b_M_spreadOf 101 = .ok (.iload_n 3, 1) := by decide +kernel
theorem d_M_spreadOf_102 : decode b_M_spreadOf 102 = .ok (.iaload, 1) := by decide +kernel
theorem d_M_spreadOf_103 : decode b_M_spreadOf 103 = .ok (.istore 5, 2) := by decide +kernel
theorem d_M_spreadOf_105 : decode b_M_spreadOf 105 = .ok (.aload_n 0, 1) := by decide +kernel
theorem d_M_spreadOf_106 : decode b_M_spreadOf 106 = .ok (.getfield 23, 3) := by decide +kernel
theorem d_M_spreadOf_109 : decode b_M_spreadOf 109 = .ok (.bipush 24, 2) := by decide +kernel
theorem d_M_spreadOf_111 : decode b_M_spreadOf 111 = .ok (.iload 4, 2) := by decide +kernel
theorem d_M_spreadOf_113 : decode b_M_spreadOf 113 = .ok (.imul, 1) := by decide +kernel
theorem d_M_spreadOf_114 : decode b_M_spreadOf 114 = .ok (.iload 5, 2) := by decide +kernel
theorem d_M_spreadOf_116 : decode b_M_spreadOf 116 = .ok (.iadd, 1) := by decide +kernel
theorem d_M_spreadOf_117 : decode b_M_spreadOf 117 = .ok (.iaload, 1) := by decide +kernel
theorem d_M_spreadOf_118 : decode b_M_spreadOf 118 = .ok (.istore 6, 2) := by decide +kernel
theorem d_M_spreadOf_120 : decode b_M_spreadOf 120 = .ok (.aload_n 0, 1) := by decide +kernel
theorem d_M_spreadOf_121 : decode b_M_spreadOf 121 = .ok (.getfield 19, 3) := by decide +kernel
theorem d_M_spreadOf_124 : decode b_M_spreadOf 124 = .ok (.bipush 24, 2) := by decide +kernel
theorem d_M_spreadOf_126 : decode b_M_spreadOf 126 = .ok (.iload_n 1, 1) := by decide +kernel
theorem d_M_spreadOf_127 : decode b_M_spreadOf 127 = .ok (.imul, 1) := by decide +kernel
theorem d_M_spreadOf_128 : decode b_M_spreadOf 128 = .ok (.iload 6, 2) := by decide +kernel
theorem d_M_spreadOf_130 : decode b_M_spreadOf 130 = .ok (.iadd, 1) := by decide +kernel
theorem d_M_spreadOf_131 : decode b_M_spreadOf 131 = .ok (.baload, 1) := by decide +kernel
theorem d_M_spreadOf_132 : decode b_M_spreadOf 132 = .ok (.ifCond .eq 6, 3) := by decide +kernel
theorem d_M_spreadOf_135 : decode b_M_spreadOf 135 = .ok (.goto 90, 3) := by decide +kernel
theorem d_M_spreadOf_138 : decode b_M_spreadOf 138 = .ok (.aload_n 0, 1) := by decide +kernel
theorem d_M_spreadOf_139 : decode b_M_spreadOf 139 = .ok (.getfield 19, 3) := by decide +kernel
theorem d_M_spreadOf_142 : decode b_M_spreadOf 142 = .ok (.bipush 24, 2) := by decide +kernel
theorem d_M_spreadOf_144 : decode b_M_spreadOf 144 = .ok (.iload_n 1, 1) := by decide +kernel
theorem d_M_spreadOf_145 : decode b_M_spreadOf 145 = .ok (.imul, 1) := by decide +kernel
theorem d_M_spreadOf_146 : decode b_M_spreadOf 146 = .ok (.iload 6, 2) := by decide +kernel
theorem d_M_spreadOf_148 : decode b_M_spreadOf 148 = .ok (.iadd, 1) := by decide +kernel
theorem d_M_spreadOf_149 : decode b_M_spreadOf 149 = .ok (.iconst 1, 1) := by decide +kernel
theorem d_M_spreadOf_150 : decode b_M_spreadOf 150 = .ok (.bastore, 1) := by decide +kernel
theorem d_M_spreadOf_151 : decode b_M_spreadOf 151 = .ok (.iconst 0, 1) := by decide +kernel
theorem d_M_spreadOf_152 : decode b_M_spreadOf 152 = .ok (.istore 7, 2) := by decide +kernel
theorem d_M_spreadOf_154 : decode b_M_spreadOf 154 = .ok (.iload 7, 2) := by decide +kernel
theorem d_M_spreadOf_156 : decode b_M_spreadOf 156 = .ok (.bipush 24, 2) := by decide +kernel
theorem d_M_spreadOf_158 : decode b_M_spreadOf 158 = .ok (.if_icmp .ge 56, 3) := by decide +kernel
theorem d_M_spreadOf_161 : decode b_M_spreadOf 161 = .ok (.aload_n 0, 1) := by decide +kernel
theorem d_M_spreadOf_162 : decode b_M_spreadOf 162 = .ok (.getfield 16, 3) := by decide +kernel
theorem d_M_spreadOf_165 : decode b_M_spreadOf 165 = .ok (.bipush 24, 2) := by decide +kernel
theorem d_M_spreadOf_167 : decode b_M_spreadOf 167 = .ok (.bipush 24, 2) := by decide +kernel
theorem d_M_spreadOf_169 : decode b_M_spreadOf 169 = .ok (.iload_n 1, 1) := by decide +kernel
theorem d_M_spreadOf_170 : decode b_M_spreadOf 170 = .ok (.imul, 1) := by decide +kernel
theorem d_M_spreadOf_171 : decode b_M_spreadOf 171 = .ok (.iload 6, 2) := by decide +kernel
theorem d_M_spreadOf_173 : decode b_M_spreadOf 173 = .ok (.iadd, 1) := by decide +kernel
theorem d_M_spreadOf_174 : decode b_M_spreadOf 174 = .ok (.imul, 1) := by decide +kernel
theorem d_M_spreadOf_175 : decode b_M_spreadOf 175 = .ok (.iload 7, 2) := by decide +kernel
theorem d_M_spreadOf_177 : decode b_M_spreadOf 177 = .ok (.iadd, 1) := by decide +kernel
theorem d_M_spreadOf_178 : decode b_M_spreadOf 178 = .ok (.aload_n 0, 1) := by decide +kernel
theorem d_M_spreadOf_179 : decode b_M_spreadOf 179 = .ok (.getfield 23, 3) := by decide +kernel
theorem d_M_spreadOf_182 : decode b_M_spreadOf 182 = .ok (.bipush 24, 2) := by decide +kernel
theorem d_M_spreadOf_184 : decode b_M_spreadOf 184 = .ok (.iload 4, 2) := by decide +kernel
theorem d_M_spreadOf_186 : decode b_M_spreadOf 186 = .ok (.imul, 1) := by decide +kernel
theorem d_M_spreadOf_187 : decode b_M_spreadOf 187 = .ok (.aload_n 0, 1) := by decide +kernel
theorem d_M_spreadOf_188 : decode b_M_spreadOf 188 = .ok (.getfield 16, 3) := by decide +kernel
theorem d_M_spreadOf_191 : decode b_M_spreadOf 191 = .ok (.bipush 24, 2) := by decide +kernel
theorem d_M_spreadOf_193 : decode b_M_spreadOf 193 = .ok (.bipush 24, 2) := by decide +kernel
theorem d_M_spreadOf_195 : decode b_M_spreadOf 195 = .ok (.iload_n 1, 1) := by decide +kernel
theorem d_M_spreadOf_196 : decode b_M_spreadOf 196 = .ok (.imul, 1) := by decide +kernel
theorem d_M_spreadOf_197 : decode b_M_spreadOf 197 = .ok (.iload 5, 2) := by decide +kernel
theorem d_M_spreadOf_199 : decode b_M_spreadOf 199 = .ok (.iadd, 1) := by decide +kernel
theorem d_M_spreadOf_200 : decode b_M_spreadOf 200 = .ok (.imul, 1) := by decide +kernel
theorem d_M_spreadOf_201 : decode b_M_spreadOf 201 = .ok (.iload 7, 2) := by decide +kernel
theorem d_M_spreadOf_203 : decode b_M_spreadOf 203 = .ok (.iadd, 1) := by decide +kernel
theorem d_M_spreadOf_204 : decode b_M_spreadOf 204 = .ok (.iaload, 1) := by decide +kernel
theorem d_M_spreadOf_205 : decode b_M_spreadOf 205 = .ok (.iadd, 1) := by decide +kernel
theorem d_M_spreadOf_206 : decode b_M_spreadOf 206 = .ok (.iaload, 1) := by decide +kernel
theorem d_M_spreadOf_207 : decode b_M_spreadOf 207 = .ok (.iastore, 1) := by decide +kernel
theorem d_M_spreadOf_208 : decode b_M_spreadOf 208 = .ok (.iinc 7 1, 3) := by decide +kernel
theorem d_M_spreadOf_211 : decode b_M_spreadOf 211 = .ok (.goto (-57), 3) := by decide +kernel
theorem d_M_spreadOf_214 : decode b_M_spreadOf 214 = .ok (.aload_n 0, 1) := by decide +kernel
theorem d_M_spreadOf_215 : decode b_M_spreadOf 215 = .ok (.getfield 38, 3) := by decide +kernel
theorem d_M_spreadOf_218 : decode b_M_spreadOf 218 = .ok (.iload_n 2, 1) := by decide +kernel
theorem d_M_spreadOf_219 : decode b_M_spreadOf 219 = .ok (.iload 6, 2) := by decide +kernel
theorem d_M_spreadOf_221 : decode b_M_spreadOf 221 = .ok (.iastore, 1) := by decide +kernel
theorem d_M_spreadOf_222 : decode b_M_spreadOf 222 = .ok (.iinc 2 1, 3) := by decide +kernel
theorem d_M_spreadOf_225 : decode b_M_spreadOf 225 = .ok (.iinc 4 1, 3) := by decide +kernel
theorem d_M_spreadOf_228 : decode b_M_spreadOf 228 = .ok (.goto (-140), 3) := by decide +kernel
theorem d_M_spreadOf_231 : decode b_M_spreadOf 231 = .ok (.iinc 3 1, 3) := by decide +kernel
theorem d_M_spreadOf_234 : decode b_M_spreadOf 234 = .ok (.goto (-154), 3) := by decide +kernel
theorem d_M_spreadOf_237 : decode b_M_spreadOf 237 = .ok (.return_, 1) := by decide +kernel
theorem d_M_undo_0 : decode b_M_undo 0 = .ok (.iconst 0, 1) := by decide +kernel
theorem d_M_undo_1 : decode b_M_undo 1 = .ok (.istore_n 3, 1) := by decide +kernel
theorem d_M_undo_2 : decode b_M_undo 2 = .ok (.iload_n 3, 1) := by decide +kernel
theorem d_M_undo_3 : decode b_M_undo 3 = .ok (.bipush 24, 2) := by decide +kernel
theorem d_M_undo_5 : decode b_M_undo 5 = .ok (.if_icmp .ge 31, 3) := by decide +kernel
theorem d_M_undo_8 : decode b_M_undo 8 = .ok (.aload_n 0, 1) := by decide +kernel
theorem d_M_undo_9 : decode b_M_undo 9 = .ok (.getfield 50, 3) := by decide +kernel
theorem d_M_undo_12 : decode b_M_undo 12 = .ok (.aload_n 0, 1) := by decide +kernel
theorem d_M_undo_13 : decode b_M_undo 13 = .ok (.getfield 16, 3) := by decide +kernel
theorem d_M_undo_16 : decode b_M_undo 16 = .ok (.bipush 24, 2) := by decide +kernel
theorem d_M_undo_18 : decode b_M_undo 18 = .ok (.bipush 24, 2) := by decide +kernel
theorem d_M_undo_20 : decode b_M_undo 20 = .ok (.iload_n 1, 1) := by decide +kernel
theorem d_M_undo_21 : decode b_M_undo 21 = .ok (.imul, 1) := by decide +kernel
theorem d_M_undo_22 : decode b_M_undo 22 = .ok (.iload_n 2, 1) := by decide +kernel
theorem d_M_undo_23 : decode b_M_undo 23 = .ok (.iadd, 1) := by decide +kernel
theorem d_M_undo_24 : decode b_M_undo 24 = .ok (.imul, 1) := by decide +kernel
theorem d_M_undo_25 : decode b_M_undo 25 = .ok (.iload_n 3, 1) := by decide +kernel
theorem d_M_undo_26 : decode b_M_undo 26 = .ok (.iadd, 1) := by decide +kernel
theorem d_M_undo_27 : decode b_M_undo 27 = .ok (.iaload, 1) := by decide +kernel
theorem d_M_undo_28 : decode b_M_undo 28 = .ok (.iload_n 3, 1) := by decide +kernel
theorem d_M_undo_29 : decode b_M_undo 29 = .ok (.iastore, 1) := by decide +kernel
theorem d_M_undo_30 : decode b_M_undo 30 = .ok (.iinc 3 1, 3) := by decide +kernel
theorem d_M_undo_33 : decode b_M_undo 33 = .ok (.goto (-31), 3) := by decide +kernel
theorem d_M_undo_36 : decode b_M_undo 36 = .ok (.iconst 0, 1) := by decide +kernel
theorem d_M_undo_37 : decode b_M_undo 37 = .ok (.istore_n 3, 1) := by decide +kernel
theorem d_M_undo_38 : decode b_M_undo 38 = .ok (.iload_n 3, 1) := by decide +kernel
theorem d_M_undo_39 : decode b_M_undo 39 = .ok (.bipush 24, 2) := by decide +kernel
theorem d_M_undo_41 : decode b_M_undo 41 = .ok (.if_icmp .ge 26, 3) := by decide +kernel
theorem d_M_undo_44 : decode b_M_undo 44 = .ok (.aload_n 0, 1) := by decide +kernel
theorem d_M_undo_45 : decode b_M_undo 45 = .ok (.getfield 47, 3) := by decide +kernel
theorem d_M_undo_48 : decode b_M_undo 48 = .ok (.iload_n 3, 1) := by decide +kernel
theorem d_M_undo_49 : decode b_M_undo 49 = .ok (.aload_n 0, 1) := by decide +kernel
theorem d_M_undo_50 : decode b_M_undo 50 = .ok (.getfield 50, 3) := by decide +kernel
theorem d_M_undo_53 : decode b_M_undo 53 = .ok (.aload_n 0, 1) := by decide +kernel
theorem d_M_undo_54 : decode b_M_undo 54 = .ok (.getfield 47, 3) := by decide +kernel
theorem d_M_undo_57 : decode b_M_undo 57 = .ok (.iload_n 3, 1) := by decide +kernel
theorem d_M_undo_58 : decode b_M_undo 58 = .ok (.iaload, 1) := by decide +kernel
theorem d_M_undo_59 : decode b_M_undo 59 = .ok (.iaload, 1) := by decide +kernel
theorem d_M_undo_60 : decode b_M_undo 60 = .ok (.iastore, 1) := by decide +kernel
theorem d_M_undo_61 : decode b_M_undo 61 = .ok (.iinc 3 1, 3) := by decide +kernel
theorem d_M_undo_64 : decode b_M_undo 64 = .ok (.goto (-26), 3) := by decide +kernel
theorem d_M_undo_67 : decode b_M_undo 67 = .ok (.return_, 1) := by decide +kernel
theorem d_M_leastMoved_0 : decode b_M_leastMoved 0 = .ok (.iconst 0, 1) := by decide +kernel
theorem d_M_leastMoved_1 : decode b_M_leastMoved 1 = .ok (.istore_n 1, 1) := by decide +kernel
theorem d_M_leastMoved_2 : decode b_M_leastMoved 2 = .ok (.iload_n 1, 1) := by decide +kernel
theorem d_M_leastMoved_3 : decode b_M_leastMoved 3 = .ok (.bipush 24, 2) := by decide +kernel
theorem d_M_leastMoved_5 : decode b_M_leastMoved 5 = .ok (.if_icmp .ge 21, 3) := by decide +kernel
theorem d_M_leastMoved_8 : decode b_M_leastMoved 8 = .ok (.aload_n 0, 1) := by decide +kernel
theorem d_M_leastMoved_9 : decode b_M_leastMoved 9 = .ok (.getfield 47, 3) := by decide +kernel
theorem d_M_leastMoved_12 : decode b_M_leastMoved 12 = .ok (.iload_n 1, 1) := by decide +kernel
theorem d_M_leastMoved_13 : decode b_M_leastMoved 13 = .ok (.iaload, 1) := by decide +kernel
theorem d_M_leastMoved_14 : decode b_M_leastMoved 14 = .ok (.iload_n 1, 1) := by decide +kernel
theorem d_M_leastMoved_15 : decode b_M_leastMoved 15 = .ok (.if_icmp .eq 5, 3) := by decide +kernel
theorem d_M_leastMoved_18 : decode b_M_leastMoved 18 = .ok (.iload_n 1, 1) := by decide +kernel
theorem d_M_leastMoved_19 : decode b_M_leastMoved 19 = .ok (.ireturn, 1) := by decide +kernel
theorem d_M_leastMoved_20 : decode b_M_leastMoved 20 = .ok (.iinc 1 1, 3) := by decide +kernel
theorem d_M_leastMoved_23 : decode b_M_leastMoved 23 = .ok (.goto (-21), 3) := by decide +kernel
theorem d_M_leastMoved_26 : decode b_M_leastMoved 26 = .ok (.iconst (-1), 1) := by decide +kernel
theorem d_M_leastMoved_27 : decode b_M_leastMoved 27 = .ok (.ireturn, 1) := by decide +kernel
theorem d_M_walk_0 : decode b_M_walk 0 = .ok (.iconst 0, 1) := by decide +kernel
theorem d_M_walk_1 : decode b_M_walk 1 = .ok (.istore_n 3, 1) := by decide +kernel
theorem d_M_walk_2 : decode b_M_walk 2 = .ok (.iload_n 3, 1) := by decide +kernel
theorem d_M_walk_3 : decode b_M_walk 3 = .ok (.bipush 24, 2) := by decide +kernel
theorem d_M_walk_5 : decode b_M_walk 5 = .ok (.if_icmp .ge 16, 3) := by decide +kernel
theorem d_M_walk_8 : decode b_M_walk 8 = .ok (.aload_n 0, 1) := by decide +kernel
theorem d_M_walk_9 : decode b_M_walk 9 = .ok (.getfield 44, 3) := by decide +kernel
theorem d_M_walk_12 : decode b_M_walk 12 = .ok (.iload_n 3, 1) := by decide +kernel
theorem d_M_walk_13 : decode b_M_walk 13 = .ok (.iconst 0, 1) := by decide +kernel
theorem d_M_walk_14 : decode b_M_walk 14 = .ok (.bastore, 1) := by decide +kernel
theorem d_M_walk_15 : decode b_M_walk 15 = .ok (.iinc 3 1, 3) := by decide +kernel
theorem d_M_walk_18 : decode b_M_walk 18 = .ok (.goto (-16), 3) := by decide +kernel
theorem d_M_walk_21 : decode b_M_walk 21 = .ok (.aload_n 0, 1) := by decide +kernel
theorem d_M_walk_22 : decode b_M_walk 22 = .ok (.getfield 38, 3) := by decide +kernel
theorem d_M_walk_25 : decode b_M_walk 25 = .ok (.iconst 0, 1) := by decide +kernel
theorem d_M_walk_26 : decode b_M_walk 26 = .ok (.iload_n 1, 1) := by decide +kernel
theorem d_M_walk_27 : decode b_M_walk 27 = .ok (.iastore, 1) := by decide +kernel
theorem d_M_walk_28 : decode b_M_walk 28 = .ok (.aload_n 0, 1) := by decide +kernel
theorem d_M_walk_29 : decode b_M_walk 29 = .ok (.getfield 44, 3) := by decide +kernel
theorem d_M_walk_32 : decode b_M_walk 32 = .ok (.iload_n 1, 1) := by decide +kernel
theorem d_M_walk_33 : decode b_M_walk 33 = .ok (.iconst 1, 1) := by decide +kernel
theorem d_M_walk_34 : decode b_M_walk 34 = .ok (.bastore, 1) := by decide +kernel
theorem d_M_walk_35 : decode b_M_walk 35 = .ok (.aload_n 0, 1) := by decide +kernel
theorem d_M_walk_36 : decode b_M_walk 36 = .ok (.getfield 41, 3) := by decide +kernel
theorem d_M_walk_39 : decode b_M_walk 39 = .ok (.iload_n 1, 1) := by decide +kernel
theorem d_M_walk_40 : decode b_M_walk 40 = .ok (.iconst (-1), 1) := by decide +kernel
theorem d_M_walk_41 : decode b_M_walk 41 = .ok (.iastore, 1) := by decide +kernel
theorem d_M_walk_42 : decode b_M_walk 42 = .ok (.iconst 1, 1) := by decide +kernel
theorem d_M_walk_43 : decode b_M_walk 43 = .ok (.istore_n 3, 1) := by decide +kernel
theorem d_M_walk_44 : decode b_M_walk 44 = .ok (.iconst 0, 1) := by decide +kernel
theorem d_M_walk_45 : decode b_M_walk 45 = .ok (.istore 4, 2) := by decide +kernel
theorem d_M_walk_47 : decode b_M_walk 47 = .ok (.iload 4, 2) := by decide +kernel
theorem d_M_walk_49 : decode b_M_walk 49 = .ok (.iload_n 3, 1) := by decide +kernel
theorem d_M_walk_50 : decode b_M_walk 50 = .ok (.if_icmp .ge 149, 3) := by decide +kernel
theorem d_M_walk_53 : decode b_M_walk 53 = .ok (.iconst 0, 1) := by decide +kernel
theorem d_M_walk_54 : decode b_M_walk 54 = .ok (.istore 5, 2) := by decide +kernel
theorem d_M_walk_56 : decode b_M_walk 56 = .ok (.iload 5, 2) := by decide +kernel
theorem d_M_walk_58 : decode b_M_walk 58 = .ok (.bipush 24, 2) := by decide +kernel
theorem d_M_walk_60 : decode b_M_walk 60 = .ok (.if_icmp .ge 133, 3) := by decide +kernel
theorem d_M_walk_63 : decode b_M_walk 63 = .ok (.aload_n 0, 1) := by decide +kernel
theorem d_M_walk_64 : decode b_M_walk 64 = .ok (.getfield 35, 3) := by decide +kernel
theorem d_M_walk_67 : decode b_M_walk 67 = .ok (.iload 5, 2) := by decide +kernel
theorem d_M_walk_69 : decode b_M_walk 69 = .ok (.baload, 1) := by decide +kernel
theorem d_M_walk_70 : decode b_M_walk 70 = .ok (.ifCond .eq 117, 3) := by decide +kernel
theorem d_M_walk_73 : decode b_M_walk 73 = .ok (.aload_n 0, 1) := by decide +kernel
theorem d_M_walk_74 : decode b_M_walk 74 = .ok (.getfield 26, 3) := by decide +kernel
theorem d_M_walk_77 : decode b_M_walk 77 = .ok (.iload 5, 2) := by decide +kernel
theorem d_M_walk_79 : decode b_M_walk 79 = .ok (.iaload, 1) := by decide +kernel
theorem d_M_walk_80 : decode b_M_walk 80 = .ok (.aload_n 0, 1) := by decide +kernel
theorem d_M_walk_81 : decode b_M_walk 81 = .ok (.getfield 38, 3) := by decide +kernel
theorem d_M_walk_84 : decode b_M_walk 84 = .ok (.iload 4, 2) := by decide +kernel
theorem d_M_walk_86 : decode b_M_walk 86 = .ok (.iaload, 1) := by decide +kernel
theorem d_M_walk_87 : decode b_M_walk 87 = .ok (.if_icmp .eq 23, 3) := by decide +kernel
theorem d_M_walk_90 : decode b_M_walk 90 = .ok (.aload_n 0, 1) := by decide +kernel
theorem d_M_walk_91 : decode b_M_walk 91 = .ok (.getfield 29, 3) := by decide +kernel
theorem d_M_walk_94 : decode b_M_walk 94 = .ok (.iload 5, 2) := by decide +kernel
theorem d_M_walk_96 : decode b_M_walk 96 = .ok (.iaload, 1) := by decide +kernel
theorem d_M_walk_97 : decode b_M_walk 97 = .ok (.aload_n 0, 1) := by decide +kernel
theorem d_M_walk_98 : decode b_M_walk 98 = .ok (.getfield 38, 3) := by decide +kernel
theorem d_M_walk_101 : decode b_M_walk 101 = .ok (.iload 4, 2) := by decide +kernel
theorem d_M_walk_103 : decode b_M_walk 103 = .ok (.iaload, 1) := by decide +kernel
theorem d_M_walk_104 : decode b_M_walk 104 = .ok (.if_icmp .eq 6, 3) := by decide +kernel
theorem d_M_walk_107 : decode b_M_walk 107 = .ok (.goto 80, 3) := by decide +kernel
theorem d_M_walk_110 : decode b_M_walk 110 = .ok (.aload_n 0, 1) := by decide +kernel
theorem d_M_walk_111 : decode b_M_walk 111 = .ok (.getfield 26, 3) := by decide +kernel
theorem d_M_walk_114 : decode b_M_walk 114 = .ok (.iload 5, 2) := by decide +kernel
theorem d_M_walk_116 : decode b_M_walk 116 = .ok (.iaload, 1) := by decide +kernel
theorem d_M_walk_117 : decode b_M_walk 117 = .ok (.aload_n 0, 1) := by decide +kernel
theorem d_M_walk_118 : decode b_M_walk 118 = .ok (.getfield 38, 3) := by decide +kernel
theorem d_M_walk_121 : decode b_M_walk 121 = .ok (.iload 4, 2) := by decide +kernel
theorem d_M_walk_123 : decode b_M_walk 123 = .ok (.iaload, 1) := by decide +kernel
theorem d_M_walk_124 : decode b_M_walk 124 = .ok (.if_icmp .ne 13, 3) := by decide +kernel
theorem d_M_walk_127 : decode b_M_walk 127 = .ok (.aload_n 0, 1) := by decide +kernel
theorem d_M_walk_128 : decode b_M_walk 128 = .ok (.getfield 29, 3) := by decide +kernel
theorem d_M_walk_131 : decode b_M_walk 131 = .ok (.iload 5, 2) := by decide +kernel
theorem d_M_walk_133 : decode b_M_walk 133 = .ok (.iaload, 1) := by decide +kernel
theorem d_M_walk_134 : decode b_M_walk 134 = .ok (.goto 10, 3) := by decide +kernel
theorem d_M_walk_137 : decode b_M_walk 137 = .ok (.aload_n 0, 1) := by decide +kernel
theorem d_M_walk_138 : decode b_M_walk 138 = .ok (.getfield 26, 3) := by decide +kernel
theorem d_M_walk_141 : decode b_M_walk 141 = .ok (.iload 5, 2) := by decide +kernel
theorem d_M_walk_143 : decode b_M_walk 143 = .ok (.iaload, 1) := by decide +kernel
theorem d_M_walk_144 : decode b_M_walk 144 = .ok (.istore 6, 2) := by decide +kernel
theorem d_M_walk_146 : decode b_M_walk 146 = .ok (.aload_n 0, 1) := by decide +kernel
theorem d_M_walk_147 : decode b_M_walk 147 = .ok (.getfield 44, 3) := by decide +kernel
theorem d_M_walk_150 : decode b_M_walk 150 = .ok (.iload 6, 2) := by decide +kernel
theorem d_M_walk_152 : decode b_M_walk 152 = .ok (.baload, 1) := by decide +kernel
theorem d_M_walk_153 : decode b_M_walk 153 = .ok (.ifCond .eq 6, 3) := by decide +kernel
theorem d_M_walk_156 : decode b_M_walk 156 = .ok (.goto 31, 3) := by decide +kernel
theorem d_M_walk_159 : decode b_M_walk 159 = .ok (.aload_n 0, 1) := by decide +kernel
theorem d_M_walk_160 : decode b_M_walk 160 = .ok (.getfield 44, 3) := by decide +kernel
theorem d_M_walk_163 : decode b_M_walk 163 = .ok (.iload 6, 2) := by decide +kernel
theorem d_M_walk_165 : decode b_M_walk 165 = .ok (.iconst 1, 1) := by decide +kernel
theorem d_M_walk_166 : decode b_M_walk 166 = .ok (.bastore, 1) := by decide +kernel
theorem d_M_walk_167 : decode b_M_walk 167 = .ok (.aload_n 0, 1) := by decide +kernel
theorem d_M_walk_168 : decode b_M_walk 168 = .ok (.getfield 41, 3) := by decide +kernel
theorem d_M_walk_171 : decode b_M_walk 171 = .ok (.iload 6, 2) := by decide +kernel
theorem d_M_walk_173 : decode b_M_walk 173 = .ok (.iload 5, 2) := by decide +kernel
theorem d_M_walk_175 : decode b_M_walk 175 = .ok (.iastore, 1) := by decide +kernel
theorem d_M_walk_176 : decode b_M_walk 176 = .ok (.aload_n 0, 1) := by decide +kernel
theorem d_M_walk_177 : decode b_M_walk 177 = .ok (.getfield 38, 3) := by decide +kernel
theorem d_M_walk_180 : decode b_M_walk 180 = .ok (.iload_n 3, 1) := by decide +kernel
theorem d_M_walk_181 : decode b_M_walk 181 = .ok (.iload 6, 2) := by decide +kernel
theorem d_M_walk_183 : decode b_M_walk 183 = .ok (.iastore, 1) := by decide +kernel
theorem d_M_walk_184 : decode b_M_walk 184 = .ok (.iinc 3 1, 3) := by decide +kernel
theorem d_M_walk_187 : decode b_M_walk 187 = .ok (.iinc 5 1, 3) := by decide +kernel
theorem d_M_walk_190 : decode b_M_walk 190 = .ok (.goto (-134), 3) := by decide +kernel
theorem d_M_walk_193 : decode b_M_walk 193 = .ok (.iinc 4 1, 3) := by decide +kernel
theorem d_M_walk_196 : decode b_M_walk 196 = .ok (.goto (-149), 3) := by decide +kernel
theorem d_M_walk_199 : decode b_M_walk 199 = .ok (.aload_n 0, 1) := by decide +kernel
theorem d_M_walk_200 : decode b_M_walk 200 = .ok (.getfield 44, 3) := by decide +kernel
theorem d_M_walk_203 : decode b_M_walk 203 = .ok (.iload_n 2, 1) := by decide +kernel
theorem d_M_walk_204 : decode b_M_walk 204 = .ok (.baload, 1) := by decide +kernel
theorem d_M_walk_205 : decode b_M_walk 205 = .ok (.ireturn, 1) := by decide +kernel
theorem d_M_put_0 : decode b_M_put 0 = .ok (.iconst 0, 1) := by decide +kernel
theorem d_M_put_1 : decode b_M_put 1 = .ok (.istore_n 3, 1) := by decide +kernel
theorem d_M_put_2 : decode b_M_put 2 = .ok (.aload_n 0, 1) := by decide +kernel
theorem d_M_put_3 : decode b_M_put 3 = .ok (.getfield 35, 3) := by decide +kernel
theorem d_M_put_6 : decode b_M_put 6 = .ok (.iload_n 3, 1) := by decide +kernel
theorem d_M_put_7 : decode b_M_put 7 = .ok (.baload, 1) := by decide +kernel
theorem d_M_put_8 : decode b_M_put 8 = .ok (.ifCond .eq 9, 3) := by decide +kernel
theorem d_M_put_11 : decode b_M_put 11 = .ok (.iinc 3 1, 3) := by decide +kernel
theorem d_M_put_14 : decode b_M_put 14 = .ok (.goto (-12), 3) := by decide +kernel
theorem d_M_put_17 : decode b_M_put 17 = .ok (.aload_n 0, 1) := by decide +kernel
theorem d_M_put_18 : decode b_M_put 18 = .ok (.getfield 35, 3) := by decide +kernel
theorem d_M_put_21 : decode b_M_put 21 = .ok (.iload_n 3, 1) := by decide +kernel
theorem d_M_put_22 : decode b_M_put 22 = .ok (.iconst 1, 1) := by decide +kernel
theorem d_M_put_23 : decode b_M_put 23 = .ok (.bastore, 1) := by decide +kernel
theorem d_M_put_24 : decode b_M_put 24 = .ok (.aload_n 0, 1) := by decide +kernel
theorem d_M_put_25 : decode b_M_put 25 = .ok (.getfield 26, 3) := by decide +kernel
theorem d_M_put_28 : decode b_M_put 28 = .ok (.iload_n 3, 1) := by decide +kernel
theorem d_M_put_29 : decode b_M_put 29 = .ok (.iload_n 1, 1) := by decide +kernel
theorem d_M_put_30 : decode b_M_put 30 = .ok (.iastore, 1) := by decide +kernel
theorem d_M_put_31 : decode b_M_put 31 = .ok (.aload_n 0, 1) := by decide +kernel
theorem d_M_put_32 : decode b_M_put 32 = .ok (.getfield 29, 3) := by decide +kernel
theorem d_M_put_35 : decode b_M_put 35 = .ok (.iload_n 3, 1) := by decide +kernel
theorem d_M_put_36 : decode b_M_put 36 = .ok (.iload_n 2, 1) := by decide +kernel
theorem d_M_put_37 : decode b_M_put 37 = .ok (.iastore, 1) := by decide +kernel
theorem d_M_put_38 : decode b_M_put 38 = .ok (.iconst 0, 1) := by decide +kernel
theorem d_M_put_39 : decode b_M_put 39 = .ok (.istore 4, 2) := by decide +kernel
theorem d_M_put_41 : decode b_M_put 41 = .ok (.iload 4, 2) := by decide +kernel
theorem d_M_put_43 : decode b_M_put 43 = .ok (.bipush 24, 2) := by decide +kernel
theorem d_M_put_45 : decode b_M_put 45 = .ok (.if_icmp .ge 28, 3) := by decide +kernel
theorem d_M_put_48 : decode b_M_put 48 = .ok (.aload_n 0, 1) := by decide +kernel
theorem d_M_put_49 : decode b_M_put 49 = .ok (.getfield 32, 3) := by decide +kernel
theorem d_M_put_52 : decode b_M_put 52 = .ok (.bipush 24, 2) := by decide +kernel
theorem d_M_put_54 : decode b_M_put 54 = .ok (.iload_n 3, 1) := by decide +kernel
theorem d_M_put_55 : decode b_M_put 55 = .ok (.imul, 1) := by decide +kernel
theorem d_M_put_56 : decode b_M_put 56 = .ok (.iload 4, 2) := by decide +kernel
theorem d_M_put_58 : decode b_M_put 58 = .ok (.iadd, 1) := by decide +kernel
theorem d_M_put_59 : decode b_M_put 59 = .ok (.aload_n 0, 1) := by decide +kernel
theorem d_M_put_60 : decode b_M_put 60 = .ok (.getfield 47, 3) := by decide +kernel
theorem d_M_put_63 : decode b_M_put 63 = .ok (.iload 4, 2) := by decide +kernel
theorem d_M_put_65 : decode b_M_put 65 = .ok (.iaload, 1) := by decide +kernel
theorem d_M_put_66 : decode b_M_put 66 = .ok (.iastore, 1) := by decide +kernel
theorem d_M_put_67 : decode b_M_put 67 = .ok (.iinc 4 1, 3) := by decide +kernel
theorem d_M_put_70 : decode b_M_put 70 = .ok (.goto (-29), 3) := by decide +kernel
theorem d_M_put_73 : decode b_M_put 73 = .ok (.return_, 1) := by decide +kernel
theorem d_M_along_0 : decode b_M_along 0 = .ok (.iconst 0, 1) := by decide +kernel
theorem d_M_along_1 : decode b_M_along 1 = .ok (.istore_n 3, 1) := by decide +kernel
theorem d_M_along_2 : decode b_M_along 2 = .ok (.iload_n 3, 1) := by decide +kernel
theorem d_M_along_3 : decode b_M_along 3 = .ok (.bipush 24, 2) := by decide +kernel
theorem d_M_along_5 : decode b_M_along 5 = .ok (.if_icmp .ge 52, 3) := by decide +kernel
theorem d_M_along_8 : decode b_M_along 8 = .ok (.aload_n 0, 1) := by decide +kernel
theorem d_M_along_9 : decode b_M_along 9 = .ok (.getfield 50, 3) := by decide +kernel
theorem d_M_along_12 : decode b_M_along 12 = .ok (.iload_n 2, 1) := by decide +kernel
theorem d_M_along_13 : decode b_M_along 13 = .ok (.ifCond .eq 7, 3) := by decide +kernel
theorem d_M_along_16 : decode b_M_along 16 = .ok (.iload_n 3, 1) := by decide +kernel
theorem d_M_along_17 : decode b_M_along 17 = .ok (.goto 14, 3) := by decide +kernel
theorem d_M_along_20 : decode b_M_along 20 = .ok (.aload_n 0, 1) := by decide +kernel
theorem d_M_along_21 : decode b_M_along 21 = .ok (.getfield 32, 3) := by decide +kernel
theorem d_M_along_24 : decode b_M_along 24 = .ok (.bipush 24, 2) := by decide +kernel
theorem d_M_along_26 : decode b_M_along 26 = .ok (.iload_n 1, 1) := by decide +kernel
theorem d_M_along_27 : decode b_M_along 27 = .ok (.imul, 1) := by decide +kernel
theorem d_M_along_28 : decode b_M_along 28 = .ok (.iload_n 3, 1) := by decide +kernel
theorem d_M_along_29 : decode b_M_along 29 = .ok (.iadd, 1) := by decide +kernel
theorem d_M_along_30 : decode b_M_along 30 = .ok (.iaload, 1) := by decide +kernel
theorem d_M_along_31 : decode b_M_along 31 = .ok (.iload_n 2, 1) := by decide +kernel
theorem d_M_along_32 : decode b_M_along 32 = .ok (.ifCond .eq 17, 3) := by decide +kernel
theorem d_M_along_35 : decode b_M_along 35 = .ok (.aload_n 0, 1) := by decide +kernel
theorem d_M_along_36 : decode b_M_along 36 = .ok (.getfield 32, 3) := by decide +kernel
theorem d_M_along_39 : decode b_M_along 39 = .ok (.bipush 24, 2) := by decide +kernel
theorem d_M_along_41 : decode b_M_along 41 = .ok (.iload_n 1, 1) := by decide +kernel
theorem d_M_along_42 : decode b_M_along 42 = .ok (.imul, 1) := by decide +kernel
theorem d_M_along_43 : decode b_M_along 43 = .ok (.iload_n 3, 1) := by decide +kernel
theorem d_M_along_44 : decode b_M_along 44 = .ok (.iadd, 1) := by decide +kernel
theorem d_M_along_45 : decode b_M_along 45 = .ok (.iaload, 1) := by decide +kernel
theorem d_M_along_46 : decode b_M_along 46 = .ok (.goto 4, 3) := by decide +kernel
theorem d_M_along_49 : decode b_M_along 49 = .ok (.iload_n 3, 1) := by decide +kernel
theorem d_M_along_50 : decode b_M_along 50 = .ok (.iastore, 1) := by decide +kernel
theorem d_M_along_51 : decode b_M_along 51 = .ok (.iinc 3 1, 3) := by decide +kernel
theorem d_M_along_54 : decode b_M_along 54 = .ok (.goto (-52), 3) := by decide +kernel
theorem d_M_along_57 : decode b_M_along 57 = .ok (.iconst 0, 1) := by decide +kernel
theorem d_M_along_58 : decode b_M_along 58 = .ok (.istore_n 3, 1) := by decide +kernel
theorem d_M_along_59 : decode b_M_along 59 = .ok (.iload_n 3, 1) := by decide +kernel
theorem d_M_along_60 : decode b_M_along 60 = .ok (.bipush 24, 2) := by decide +kernel
theorem d_M_along_62 : decode b_M_along 62 = .ok (.if_icmp .ge 26, 3) := by decide +kernel
theorem d_M_along_65 : decode b_M_along 65 = .ok (.aload_n 0, 1) := by decide +kernel
theorem d_M_along_66 : decode b_M_along 66 = .ok (.getfield 47, 3) := by decide +kernel
theorem d_M_along_69 : decode b_M_along 69 = .ok (.iload_n 3, 1) := by decide +kernel
theorem d_M_along_70 : decode b_M_along 70 = .ok (.aload_n 0, 1) := by decide +kernel
theorem d_M_along_71 : decode b_M_along 71 = .ok (.getfield 50, 3) := by decide +kernel
theorem d_M_along_74 : decode b_M_along 74 = .ok (.aload_n 0, 1) := by decide +kernel
theorem d_M_along_75 : decode b_M_along 75 = .ok (.getfield 47, 3) := by decide +kernel
theorem d_M_along_78 : decode b_M_along 78 = .ok (.iload_n 3, 1) := by decide +kernel
theorem d_M_along_79 : decode b_M_along 79 = .ok (.iaload, 1) := by decide +kernel
theorem d_M_along_80 : decode b_M_along 80 = .ok (.iaload, 1) := by decide +kernel
theorem d_M_along_81 : decode b_M_along 81 = .ok (.iastore, 1) := by decide +kernel
theorem d_M_along_82 : decode b_M_along 82 = .ok (.iinc 3 1, 3) := by decide +kernel
theorem d_M_along_85 : decode b_M_along 85 = .ok (.goto (-26), 3) := by decide +kernel
theorem d_M_along_88 : decode b_M_along 88 = .ok (.return_, 1) := by decide +kernel
