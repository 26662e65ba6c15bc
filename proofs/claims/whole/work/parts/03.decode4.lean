theorem dX10_init_31 : decode cX10_init 31 = .ok (.aload_n 0, 1) := by decide +kernel
theorem dX10_init_32 : decode cX10_init 32 = .ok (.bipush 14, 2) := by decide +kernel
theorem dX10_init_34 : decode cX10_init 34 = .ok (.newarray .int, 2) := by decide +kernel
theorem dX10_init_36 : decode cX10_init 36 = .ok (.putfield 19, 3) := by decide +kernel
theorem dX10_init_39 : decode cX10_init 39 = .ok (.aload_n 0, 1) := by decide +kernel
theorem dX10_init_40 : decode cX10_init 40 = .ok (.bipush 8, 2) := by decide +kernel
theorem dX10_init_42 : decode cX10_init 42 = .ok (.newarray .int, 2) := by decide +kernel
theorem dX10_init_44 : decode cX10_init 44 = .ok (.putfield 22, 3) := by decide +kernel
theorem dX10_init_47 : decode cX10_init 47 = .ok (.aload_n 0, 1) := by decide +kernel
theorem dX10_init_48 : decode cX10_init 48 = .ok (.bipush 8, 2) := by decide +kernel
theorem dX10_init_50 : decode cX10_init 50 = .ok (.newarray .int, 2) := by decide +kernel
theorem dX10_init_52 : decode cX10_init 52 = .ok (.putfield 25, 3) := by decide +kernel
theorem dX10_init_55 : decode cX10_init 55 = .ok (.aload_n 0, 1) := by decide +kernel
theorem dX10_init_56 : decode cX10_init 56 = .ok (.sipush 320, 3) := by decide +kernel
theorem dX10_init_59 : decode cX10_init 59 = .ok (.newarray .int, 2) := by decide +kernel
theorem dX10_init_61 : decode cX10_init 61 = .ok (.putfield 28, 3) := by decide +kernel
theorem dX10_init_64 : decode cX10_init 64 = .ok (.aload_n 0, 1) := by decide +kernel
theorem dX10_init_65 : decode cX10_init 65 = .ok (.bipush 8, 2) := by decide +kernel
theorem dX10_init_67 : decode cX10_init 67 = .ok (.newarray .int, 2) := by decide +kernel
theorem dX10_init_69 : decode cX10_init 69 = .ok (.putfield 31, 3) := by decide +kernel
theorem dX10_init_72 : decode cX10_init 72 = .ok (.aload_n 0, 1) := by decide +kernel
theorem dX10_init_73 : decode cX10_init 73 = .ok (.bipush 8, 2) := by decide +kernel
theorem dX10_init_75 : decode cX10_init 75 = .ok (.newarray .int, 2) := by decide +kernel
theorem dX10_init_77 : decode cX10_init 77 = .ok (.putfield 34, 3) := by decide +kernel
theorem dX10_init_80 : decode cX10_init 80 = .ok (.aload_n 0, 1) := by decide +kernel
theorem dX10_init_81 : decode cX10_init 81 = .ok (.bipush 8, 2) := by decide +kernel
theorem dX10_init_83 : decode cX10_init 83 = .ok (.newarray .int, 2) := by decide +kernel
theorem dX10_init_85 : decode cX10_init 85 = .ok (.putfield 37, 3) := by decide +kernel
theorem dX10_init_88 : decode cX10_init 88 = .ok (.aload_n 0, 1) := by decide +kernel
theorem dX10_init_89 : decode cX10_init 89 = .ok (.bipush 30, 2) := by decide +kernel
theorem dX10_init_91 : decode cX10_init 91 = .ok (.newarray .int, 2) := by decide +kernel
theorem dX10_init_93 : decode cX10_init 93 = .ok (.putfield 40, 3) := by decide +kernel
theorem dX10_init_96 : decode cX10_init 96 = .ok (.aload_n 0, 1) := by decide +kernel
theorem dX10_init_97 : decode cX10_init 97 = .ok (.bipush 30, 2) := by decide +kernel
theorem dX10_init_99 : decode cX10_init 99 = .ok (.newarray .int, 2) := by decide +kernel
theorem dX10_init_101 : decode cX10_init 101 = .ok (.putfield 43, 3) := by decide +kernel
theorem dX10_init_104 : decode cX10_init 104 = .ok (.aload_n 0, 1) := by decide +kernel
theorem dX10_init_105 : decode cX10_init 105 = .ok (.bipush 8, 2) := by decide +kernel
theorem dX10_init_107 : decode cX10_init 107 = .ok (.newarray .int, 2) := by decide +kernel
theorem dX10_init_109 : decode cX10_init 109 = .ok (.putfield 46, 3) := by decide +kernel
theorem dX10_init_112 : decode cX10_init 112 = .ok (.aload_n 0, 1) := by decide +kernel
theorem dX10_init_113 : decode cX10_init 113 = .ok (.bipush 80, 2) := by decide +kernel
theorem dX10_init_115 : decode cX10_init 115 = .ok (.newarray .int, 2) := by decide +kernel
theorem dX10_init_117 : decode cX10_init 117 = .ok (.putfield 49, 3) := by decide +kernel
theorem dX10_init_120 : decode cX10_init 120 = .ok (.aload_n 0, 1) := by decide +kernel
theorem dX10_init_121 : decode cX10_init 121 = .ok (.bipush 80, 2) := by decide +kernel
theorem dX10_init_123 : decode cX10_init 123 = .ok (.newarray .int, 2) := by decide +kernel
theorem dX10_init_125 : decode cX10_init 125 = .ok (.putfield 52, 3) := by decide +kernel
theorem dX10_init_128 : decode cX10_init 128 = .ok (.aload_n 0, 1) := by decide +kernel
theorem dX10_init_129 : decode cX10_init 129 = .ok (.sipush 400, 3) := by decide +kernel
theorem dX10_init_132 : decode cX10_init 132 = .ok (.newarray .int, 2) := by decide +kernel
theorem dX10_init_134 : decode cX10_init 134 = .ok (.putfield 55, 3) := by decide +kernel
theorem dX10_init_137 : decode cX10_init 137 = .ok (.aload_n 0, 1) := by decide +kernel
theorem dX10_init_138 : decode cX10_init 138 = .ok (.getfield 7, 3) := by decide +kernel
theorem dX10_init_141 : decode cX10_init 141 = .ok (.iconst 3, 1) := by decide +kernel
theorem dX10_init_142 : decode cX10_init 142 = .ok (.iconst 5, 1) := by decide +kernel
theorem dX10_init_143 : decode cX10_init 143 = .ok (.iastore, 1) := by decide +kernel
theorem dX10_init_144 : decode cX10_init 144 = .ok (.return_, 1) := by decide +kernel
theorem dX10_in_0 : decode cX10_in 0 = .ok (.iload_n 0, 1) := by decide +kernel
theorem dX10_in_1 : decode cX10_in 1 = .ok (.iload_n 1, 1) := by decide +kernel
theorem dX10_in_2 : decode cX10_in 2 = .ok (.if_icmp .lt 12, 3) := by decide +kernel
theorem dX10_in_5 : decode cX10_in 5 = .ok (.iload_n 0, 1) := by decide +kernel
theorem dX10_in_6 : decode cX10_in 6 = .ok (.iload_n 2, 1) := by decide +kernel
theorem dX10_in_7 : decode cX10_in 7 = .ok (.if_icmp .gt 7, 3) := by decide +kernel
theorem dX10_in_10 : decode cX10_in 10 = .ok (.iconst 1, 1) := by decide +kernel
theorem dX10_in_11 : decode cX10_in 11 = .ok (.goto 4, 3) := by decide +kernel
theorem dX10_in_14 : decode cX10_in 14 = .ok (.iconst 0, 1) := by decide +kernel
theorem dX10_in_15 : decode cX10_in 15 = .ok (.ireturn, 1) := by decide +kernel
theorem dX10_keeps_0 : decode cX10_keeps 0 = .ok (.aload_n 0, 1) := by decide +kernel
theorem dX10_keeps_1 : decode cX10_keeps 1 = .ok (.getfield 58, 3) := by decide +kernel
theorem dX10_keeps_4 : decode cX10_keeps 4 = .ok (.iconst 5, 1) := by decide +kernel
theorem dX10_keeps_5 : decode cX10_keeps 5 = .ok (.if_icmp .ne 44, 3) := by decide +kernel
theorem dX10_keeps_8 : decode cX10_keeps 8 = .ok (.iconst 0, 1) := by decide +kernel
theorem dX10_keeps_9 : decode cX10_keeps 9 = .ok (.istore_n 2, 1) := by decide +kernel
theorem dX10_keeps_10 : decode cX10_keeps 10 = .ok (.iload_n 2, 1) := by decide +kernel
theorem dX10_keeps_11 : decode cX10_keeps 11 = .ok (.sipush 2560, 3) := by decide +kernel
theorem dX10_keeps_14 : decode cX10_keeps 14 = .ok (.if_icmp .ge 25, 3) := by decide +kernel
theorem dX10_keeps_17 : decode cX10_keeps 17 = .ok (.aload_n 0, 1) := by decide +kernel
theorem dX10_keeps_18 : decode cX10_keeps 18 = .ok (.getfield 16, 3) := by decide +kernel
theorem dX10_keeps_21 : decode cX10_keeps 21 = .ok (.iload_n 2, 1) := by decide +kernel
theorem dX10_keeps_22 : decode cX10_keeps 22 = .ok (.aload_n 0, 1) := by decide +kernel
theorem dX10_keeps_23 : decode cX10_keeps 23 = .ok (.getfield 16, 3) := by decide +kernel
theorem dX10_keeps_26 : decode cX10_keeps 26 = .ok (.iload_n 2, 1) := by decide +kernel
theorem dX10_keeps_27 : decode cX10_keeps 27 = .ok (.sipush 640, 3) := by decide +kernel
theorem dX10_keeps_30 : decode cX10_keeps 30 = .ok (.iadd, 1) := by decide +kernel
theorem dX10_keeps_31 : decode cX10_keeps 31 = .ok (.iaload, 1) := by decide +kernel
theorem dX10_keeps_32 : decode cX10_keeps 32 = .ok (.iastore, 1) := by decide +kernel
theorem dX10_keeps_33 : decode cX10_keeps 33 = .ok (.iinc 2 1, 3) := by decide +kernel
theorem dX10_keeps_36 : decode cX10_keeps 36 = .ok (.goto (-26), 3) := by decide +kernel
theorem dX10_keeps_39 : decode cX10_keeps 39 = .ok (.aload_n 0, 1) := by decide +kernel
theorem dX10_keeps_40 : decode cX10_keeps 40 = .ok (.dup, 1) := by decide +kernel
theorem dX10_keeps_41 : decode cX10_keeps 41 = .ok (.getfield 58, 3) := by decide +kernel
theorem dX10_keeps_44 : decode cX10_keeps 44 = .ok (.iconst 1, 1) := by decide +kernel
theorem dX10_keeps_45 : decode cX10_keeps 45 = .ok (.isub, 1) := by decide +kernel
theorem dX10_keeps_46 : decode cX10_keeps 46 = .ok (.putfield 58, 3) := by decide +kernel
theorem dX10_keeps_49 : decode cX10_keeps 49 = .ok (.iconst 0, 1) := by decide +kernel
theorem dX10_keeps_50 : decode cX10_keeps 50 = .ok (.istore_n 2, 1) := by decide +kernel
theorem dX10_keeps_51 : decode cX10_keeps 51 = .ok (.iload_n 2, 1) := by decide +kernel
theorem dX10_keeps_52 : decode cX10_keeps 52 = .ok (.sipush 640, 3) := by decide +kernel
theorem dX10_keeps_55 : decode cX10_keeps 55 = .ok (.if_icmp .ge 27, 3) := by decide +kernel
theorem dX10_keeps_58 : decode cX10_keeps 58 = .ok (.aload_n 0, 1) := by decide +kernel
theorem dX10_keeps_59 : decode cX10_keeps 59 = .ok (.getfield 16, 3) := by decide +kernel
theorem dX10_keeps_62 : decode cX10_keeps 62 = .ok (.sipush 640, 3) := by decide +kernel
theorem dX10_keeps_65 : decode cX10_keeps 65 = .ok (.aload_n 0, 1) := by decide +kernel
theorem dX10_keeps_66 : decode cX10_keeps 66 = .ok (.getfield 58, 3) := by decide +kernel
theorem dX10_keeps_69 : decode cX10_keeps 69 = .ok (.imul, 1) := by decide +kernel
theorem dX10_keeps_70 : decode cX10_keeps 70 = .ok (.iload_n 2, 1) := by decide +kernel
theorem dX10_keeps_71 : decode cX10_keeps 71 = .ok (.iadd, 1) := by decide +kernel
theorem dX10_keeps_72 : decode cX10_keeps 72 = .ok (.aload_n 1, 1) := by decide +kernel
theorem dX10_keeps_73 : decode cX10_keeps 73 = .ok (.iload_n 2, 1) := by decide +kernel
theorem dX10_keeps_74 : decode cX10_keeps 74 = .ok (.iaload, 1) := by decide +kernel
theorem dX10_keeps_75 : decode cX10_keeps 75 = .ok (.iastore, 1) := by decide +kernel
theorem dX10_keeps_76 : decode cX10_keeps 76 = .ok (.iinc 2 1, 3) := by decide +kernel
theorem dX10_keeps_79 : decode cX10_keeps 79 = .ok (.goto (-28), 3) := by decide +kernel
theorem dX10_keeps_82 : decode cX10_keeps 82 = .ok (.aload_n 0, 1) := by decide +kernel
theorem dX10_keeps_83 : decode cX10_keeps 83 = .ok (.dup, 1) := by decide +kernel
theorem dX10_keeps_84 : decode cX10_keeps 84 = .ok (.getfield 58, 3) := by decide +kernel
theorem dX10_keeps_87 : decode cX10_keeps 87 = .ok (.iconst 1, 1) := by decide +kernel
theorem dX10_keeps_88 : decode cX10_keeps 88 = .ok (.iadd, 1) := by decide +kernel
theorem dX10_keeps_89 : decode cX10_keeps 89 = .ok (.putfield 58, 3) := by decide +kernel
theorem dX10_keeps_92 : decode cX10_keeps 92 = .ok (.return_, 1) := by decide +kernel
theorem dX10_copies_0 : decode cX10_copies 0 = .ok (.iconst 0, 1) := by decide +kernel
theorem dX10_copies_1 : decode cX10_copies 1 = .ok (.istore_n 2, 1) := by decide +kernel
theorem dX10_copies_2 : decode cX10_copies 2 = .ok (.iload_n 2, 1) := by decide +kernel
theorem dX10_copies_3 : decode cX10_copies 3 = .ok (.sipush 640, 3) := by decide +kernel
theorem dX10_copies_6 : decode cX10_copies 6 = .ok (.if_icmp .ge 15, 3) := by decide +kernel
theorem dX10_copies_9 : decode cX10_copies 9 = .ok (.aload_n 1, 1) := by decide +kernel
theorem dX10_copies_10 : decode cX10_copies 10 = .ok (.iload_n 2, 1) := by decide +kernel
theorem dX10_copies_11 : decode cX10_copies 11 = .ok (.aload_n 0, 1) := by decide +kernel
theorem dX10_copies_12 : decode cX10_copies 12 = .ok (.iload_n 2, 1) := by decide +kernel
theorem dX10_copies_13 : decode cX10_copies 13 = .ok (.iaload, 1) := by decide +kernel
theorem dX10_copies_14 : decode cX10_copies 14 = .ok (.iastore, 1) := by decide +kernel
theorem dX10_copies_15 : decode cX10_copies 15 = .ok (.iinc 2 1, 3) := by decide +kernel
theorem dX10_copies_18 : decode cX10_copies 18 = .ok (.goto (-16), 3) := by decide +kernel
theorem dX10_copies_21 : decode cX10_copies 21 = .ok (.return_, 1) := by decide +kernel
theorem dX10_sets_0 : decode cX10_sets 0 = .ok (.aload_n 0, 1) := by decide +kernel
theorem dX10_sets_1 : decode cX10_sets 1 = .ok (.aload_n 0, 1) := by decide +kernel
theorem dX10_sets_2 : decode cX10_sets 2 = .ok (.getfield 7, 3) := by decide +kernel
theorem dX10_sets_5 : decode cX10_sets 5 = .ok (.invokevirtual 62, 3) := by decide +kernel
theorem dX10_sets_8 : decode cX10_sets 8 = .ok (.aload_n 0, 1) := by decide +kernel
theorem dX10_sets_9 : decode cX10_sets 9 = .ok (.getfield 7, 3) := by decide +kernel
theorem dX10_sets_12 : decode cX10_sets 12 = .ok (.iload_n 1, 1) := by decide +kernel
theorem dX10_sets_13 : decode cX10_sets 13 = .ok (.iaload, 1) := by decide +kernel
theorem dX10_sets_14 : decode cX10_sets 14 = .ok (.istore_n 3, 1) := by decide +kernel
theorem dX10_sets_15 : decode cX10_sets 15 = .ok (.aload_n 0, 1) := by decide +kernel
theorem dX10_sets_16 : decode cX10_sets 16 = .ok (.getfield 7, 3) := by decide +kernel
theorem dX10_sets_19 : decode cX10_sets 19 = .ok (.iload_n 1, 1) := by decide +kernel
theorem dX10_sets_20 : decode cX10_sets 20 = .ok (.iload_n 2, 1) := by decide +kernel
theorem dX10_sets_21 : decode cX10_sets 21 = .ok (.iastore, 1) := by decide +kernel
theorem dX10_sets_22 : decode cX10_sets 22 = .ok (.iload_n 3, 1) := by decide +kernel
theorem dX10_sets_23 : decode cX10_sets 23 = .ok (.ireturn, 1) := by decide +kernel
theorem dX10_isSwitch_0 : decode cX10_isSwitch 0 = .ok (.iload_n 1, 1) := by decide +kernel
theorem dX10_isSwitch_1 : decode cX10_isSwitch 1 = .ok (.iconst 0, 1) := by decide +kernel
theorem dX10_isSwitch_2 : decode cX10_isSwitch 2 = .ok (.aload_n 0, 1) := by decide +kernel
theorem dX10_isSwitch_3 : decode cX10_isSwitch 3 = .ok (.getfield 7, 3) := by decide +kernel
theorem dX10_isSwitch_6 : decode cX10_isSwitch 6 = .ok (.iconst 0, 1) := by decide +kernel
theorem dX10_isSwitch_7 : decode cX10_isSwitch 7 = .ok (.iaload, 1) := by decide +kernel
theorem dX10_isSwitch_8 : decode cX10_isSwitch 8 = .ok (.iconst 1, 1) := by decide +kernel
theorem dX10_isSwitch_9 : decode cX10_isSwitch 9 = .ok (.isub, 1) := by decide +kernel
theorem dX10_isSwitch_10 : decode cX10_isSwitch 10 = .ok (.invokestatic 66, 3) := by decide +kernel
theorem dX10_isSwitch_13 : decode cX10_isSwitch 13 = .ok (.ireturn, 1) := by decide +kernel
theorem dX10_isNumber_0 : decode cX10_isNumber 0 = .ok (.iload_n 0, 1) := by decide +kernel
theorem dX10_isNumber_1 : decode cX10_isNumber 1 = .ok (.iconst 1, 1) := by decide +kernel
theorem dX10_isNumber_2 : decode cX10_isNumber 2 = .ok (.ldc 70, 2) := by decide +kernel
theorem dX10_isNumber_4 : decode cX10_isNumber 4 = .ok (.invokestatic 66, 3) := by decide +kernel
theorem dX10_isNumber_7 : decode cX10_isNumber 7 = .ok (.ireturn, 1) := by decide +kernel
theorem dX10_of_0 : decode cX10_of 0 = .ok (.aload_n 0, 1) := by decide +kernel
theorem dX10_of_1 : decode cX10_of 1 = .ok (.getfield 7, 3) := by decide +kernel
theorem dX10_of_4 : decode cX10_of 4 = .ok (.bipush 30, 2) := by decide +kernel
theorem dX10_of_6 : decode cX10_of 6 = .ok (.bipush 8, 2) := by decide +kernel
theorem dX10_of_8 : decode cX10_of 8 = .ok (.iload_n 1, 1) := by decide +kernel
theorem dX10_of_9 : decode cX10_of 9 = .ok (.imul, 1) := by decide +kernel
theorem dX10_of_10 : decode cX10_of 10 = .ok (.iadd, 1) := by decide +kernel
theorem dX10_of_11 : decode cX10_of 11 = .ok (.iload_n 2, 1) := by decide +kernel
theorem dX10_of_12 : decode cX10_of 12 = .ok (.iadd, 1) := by decide +kernel
theorem dX10_of_13 : decode cX10_of 13 = .ok (.iaload, 1) := by decide +kernel
theorem dX10_of_14 : decode cX10_of 14 = .ok (.ireturn, 1) := by decide +kernel
theorem dX10_serves_0 : decode cX10_serves 0 = .ok (.aload_n 0, 1) := by decide +kernel
theorem dX10_serves_1 : decode cX10_serves 1 = .ok (.iload_n 1, 1) := by decide +kernel
theorem dX10_serves_2 : decode cX10_serves 2 = .ok (.iconst 0, 1) := by decide +kernel
theorem dX10_serves_3 : decode cX10_serves 3 = .ok (.invokevirtual 71, 3) := by decide +kernel
theorem dX10_serves_6 : decode cX10_serves 6 = .ok (.aload_n 0, 1) := by decide +kernel
theorem dX10_serves_7 : decode cX10_serves 7 = .ok (.iload_n 1, 1) := by decide +kernel
theorem dX10_serves_8 : decode cX10_serves 8 = .ok (.iconst 2, 1) := by decide +kernel
theorem dX10_serves_9 : decode cX10_serves 9 = .ok (.invokevirtual 71, 3) := by decide +kernel
theorem dX10_serves_12 : decode cX10_serves 12 = .ok (.if_icmp .ne 7, 3) := by decide +kernel
theorem dX10_serves_15 : decode cX10_serves 15 = .ok (.iconst 1, 1) := by decide +kernel
theorem dX10_serves_16 : decode cX10_serves 16 = .ok (.goto 4, 3) := by decide +kernel
theorem dX10_serves_19 : decode cX10_serves 19 = .ok (.iconst 0, 1) := by decide +kernel
theorem dX10_serves_20 : decode cX10_serves 20 = .ok (.ireturn, 1) := by decide +kernel
theorem dX10_costOf_0 : decode cX10_costOf 0 = .ok (.aload_n 0, 1) := by decide +kernel
theorem dX10_costOf_1 : decode cX10_costOf 1 = .ok (.iload_n 1, 1) := by decide +kernel
theorem dX10_costOf_2 : decode cX10_costOf 2 = .ok (.invokevirtual 75, 3) := by decide +kernel
theorem dX10_costOf_5 : decode cX10_costOf 5 = .ok (.ifCond .eq 7, 3) := by decide +kernel
theorem dX10_costOf_8 : decode cX10_costOf 8 = .ok (.iconst 0, 1) := by decide +kernel
theorem dX10_costOf_9 : decode cX10_costOf 9 = .ok (.goto 11, 3) := by decide +kernel
theorem dX10_costOf_12 : decode cX10_costOf 12 = .ok (.aload_n 0, 1) := by decide +kernel
theorem dX10_costOf_13 : decode cX10_costOf 13 = .ok (.iload_n 1, 1) := by decide +kernel
theorem dX10_costOf_14 : decode cX10_costOf 14 = .ok (.iconst 3, 1) := by decide +kernel
theorem dX10_costOf_15 : decode cX10_costOf 15 = .ok (.iload_n 2, 1) := by decide +kernel
theorem dX10_costOf_16 : decode cX10_costOf 16 = .ok (.iadd, 1) := by decide +kernel
theorem dX10_costOf_17 : decode cX10_costOf 17 = .ok (.invokevirtual 71, 3) := by decide +kernel
theorem dX10_costOf_20 : decode cX10_costOf 20 = .ok (.ireturn, 1) := by decide +kernel
theorem dX10_addSwitch_0 : decode cX10_addSwitch 0 = .ok (.aload_n 0, 1) := by decide +kernel
theorem dX10_addSwitch_1 : decode cX10_addSwitch 1 = .ok (.getfield 7, 3) := by decide +kernel
theorem dX10_addSwitch_4 : decode cX10_addSwitch 4 = .ok (.iconst 0, 1) := by decide +kernel
theorem dX10_addSwitch_5 : decode cX10_addSwitch 5 = .ok (.iaload, 1) := by decide +kernel
theorem dX10_addSwitch_6 : decode cX10_addSwitch 6 = .ok (.bipush 8, 2) := by decide +kernel
theorem dX10_addSwitch_8 : decode cX10_addSwitch 8 = .ok (.if_icmp .ne 6, 3) := by decide +kernel
theorem dX10_addSwitch_11 : decode cX10_addSwitch 11 = .ok (.bipush (-3), 2) := by decide +kernel
theorem dX10_addSwitch_13 : decode cX10_addSwitch 13 = .ok (.ireturn, 1) := by decide +kernel
theorem dX10_addSwitch_14 : decode cX10_addSwitch 14 = .ok (.aload_n 0, 1) := by decide +kernel
theorem dX10_addSwitch_15 : decode cX10_addSwitch 15 = .ok (.aload_n 0, 1) := by decide +kernel
theorem dX10_addSwitch_16 : decode cX10_addSwitch 16 = .ok (.getfield 7, 3) := by decide +kernel
theorem dX10_addSwitch_19 : decode cX10_addSwitch 19 = .ok (.invokevirtual 62, 3) := by decide +kernel
theorem dX10_addSwitch_22 : decode cX10_addSwitch 22 = .ok (.aload_n 0, 1) := by decide +kernel
theorem dX10_addSwitch_23 : decode cX10_addSwitch 23 = .ok (.getfield 7, 3) := by decide +kernel
theorem dX10_addSwitch_26 : decode cX10_addSwitch 26 = .ok (.bipush 10, 2) := by decide +kernel
theorem dX10_addSwitch_28 : decode cX10_addSwitch 28 = .ok (.aload_n 0, 1) := by decide +kernel
theorem dX10_addSwitch_29 : decode cX10_addSwitch 29 = .ok (.getfield 7, 3) := by decide +kernel
theorem dX10_addSwitch_32 : decode cX10_addSwitch 32 = .ok (.iconst 0, 1) := by decide +kernel
theorem dX10_addSwitch_33 : decode cX10_addSwitch 33 = .ok (.iaload, 1) := by decide +kernel
theorem dX10_addSwitch_34 : decode cX10_addSwitch 34 = .ok (.iadd, 1) := by decide +kernel
theorem dX10_addSwitch_35 : decode cX10_addSwitch 35 = .ok (.iconst 0, 1) := by decide +kernel
theorem dX10_addSwitch_36 : decode cX10_addSwitch 36 = .ok (.iastore, 1) := by decide +kernel
theorem dX10_addSwitch_37 : decode cX10_addSwitch 37 = .ok (.aload_n 0, 1) := by decide +kernel
theorem dX10_addSwitch_38 : decode cX10_addSwitch 38 = .ok (.getfield 7, 3) := by decide +kernel
theorem dX10_addSwitch_41 : decode cX10_addSwitch 41 = .ok (.bipush 18, 2) := by decide +kernel
theorem dX10_addSwitch_43 : decode cX10_addSwitch 43 = .ok (.aload_n 0, 1) := by decide +kernel
theorem dX10_addSwitch_44 : decode cX10_addSwitch 44 = .ok (.getfield 7, 3) := by decide +kernel
theorem dX10_addSwitch_47 : decode cX10_addSwitch 47 = .ok (.iconst 0, 1) := by decide +kernel
theorem dX10_addSwitch_48 : decode cX10_addSwitch 48 = .ok (.iaload, 1) := by decide +kernel
theorem dX10_addSwitch_49 : decode cX10_addSwitch 49 = .ok (.iadd, 1) := by decide +kernel
theorem dX10_addSwitch_50 : decode cX10_addSwitch 50 = .ok (.bipush 30, 2) := by decide +kernel
theorem dX10_addSwitch_52 : decode cX10_addSwitch 52 = .ok (.iastore, 1) := by decide +kernel
theorem dX10_addSwitch_53 : decode cX10_addSwitch 53 = .ok (.aload_n 0, 1) := by decide +kernel
theorem dX10_addSwitch_54 : decode cX10_addSwitch 54 = .ok (.getfield 7, 3) := by decide +kernel
theorem dX10_addSwitch_57 : decode cX10_addSwitch 57 = .ok (.iconst 0, 1) := by decide +kernel
theorem dX10_addSwitch_58 : decode cX10_addSwitch 58 = .ok (.dup2, 1) := by decide +kernel
theorem dX10_addSwitch_59 : decode cX10_addSwitch 59 = .ok (.iaload, 1) := by decide +kernel
theorem dX10_addSwitch_60 : decode cX10_addSwitch 60 = .ok (.iconst 1, 1) := by decide +kernel
theorem dX10_addSwitch_61 : decode cX10_addSwitch 61 = .ok (.iadd, 1) := by decide +kernel
theorem dX10_addSwitch_62 : decode cX10_addSwitch 62 = .ok (.iastore, 1) := by decide +kernel
theorem dX10_addSwitch_63 : decode cX10_addSwitch 63 = .ok (.aload_n 0, 1) := by decide +kernel
theorem dX10_addSwitch_64 : decode cX10_addSwitch 64 = .ok (.getfield 7, 3) := by decide +kernel
theorem dX10_addSwitch_67 : decode cX10_addSwitch 67 = .ok (.iconst 0, 1) := by decide +kernel
theorem dX10_addSwitch_68 : decode cX10_addSwitch 68 = .ok (.iaload, 1) := by decide +kernel
theorem dX10_addSwitch_69 : decode cX10_addSwitch 69 = .ok (.iconst 1, 1) := by decide +kernel
theorem dX10_addSwitch_70 : decode cX10_addSwitch 70 = .ok (.isub, 1) := by decide +kernel
theorem dX10_addSwitch_71 : decode cX10_addSwitch 71 = .ok (.ireturn, 1) := by decide +kernel
theorem dX10_setLookup_0 : decode cX10_setLookup 0 = .ok (.aload_n 0, 1) := by decide +kernel
theorem dX10_setLookup_1 : decode cX10_setLookup 1 = .ok (.iload_n 1, 1) := by decide +kernel
theorem dX10_setLookup_2 : decode cX10_setLookup 2 = .ok (.invokevirtual 79, 3) := by decide +kernel
theorem dX10_setLookup_5 : decode cX10_setLookup 5 = .ok (.ifCond .eq 23, 3) := by decide +kernel
theorem dX10_setLookup_8 : decode cX10_setLookup 8 = .ok (.aload_n 0, 1) := by decide +kernel
theorem dX10_setLookup_9 : decode cX10_setLookup 9 = .ok (.bipush 10, 2) := by decide +kernel
theorem dX10_setLookup_11 : decode cX10_setLookup 11 = .ok (.iload_n 1, 1) := by decide +kernel
theorem dX10_setLookup_12 : decode cX10_setLookup 12 = .ok (.iadd, 1) := by decide +kernel
theorem dX10_setLookup_13 : decode cX10_setLookup 13 = .ok (.iload_n 2, 1) := by decide +kernel
theorem dX10_setLookup_14 : decode cX10_setLookup 14 = .ok (.ifCond .eq 7, 3) := by decide +kernel
theorem dX10_setLookup_17 : decode cX10_setLookup 17 = .ok (.iconst 1, 1) := by decide +kernel
theorem dX10_setLookup_18 : decode cX10_setLookup 18 = .ok (.goto 4, 3) := by decide +kernel
theorem dX10_setLookup_21 : decode cX10_setLookup 21 = .ok (.iconst 0, 1) := by decide +kernel
theorem dX10_setLookup_22 : decode cX10_setLookup 22 = .ok (.invokevirtual 82, 3) := by decide +kernel
theorem dX10_setLookup_25 : decode cX10_setLookup 25 = .ok (.goto 4, 3) := by decide +kernel
theorem dX10_setLookup_28 : decode cX10_setLookup 28 = .ok (.iconst (-1), 1) := by decide +kernel
theorem dX10_setLookup_29 : decode cX10_setLookup 29 = .ok (.ireturn, 1) := by decide +kernel
theorem dX10_setCodes_0 : decode cX10_setCodes 0 = .ok (.aload_n 0, 1) := by decide +kernel
theorem dX10_setCodes_1 : decode cX10_setCodes 1 = .ok (.iload_n 1, 1) := by decide +kernel
theorem dX10_setCodes_2 : decode cX10_setCodes 2 = .ok (.invokevirtual 79, 3) := by decide +kernel
theorem dX10_setCodes_5 : decode cX10_setCodes 5 = .ok (.ifCond .eq 31, 3) := by decide +kernel
theorem dX10_setCodes_8 : decode cX10_setCodes 8 = .ok (.iload_n 2, 1) := by decide +kernel
theorem dX10_setCodes_9 : decode cX10_setCodes 9 = .ok (.iconst 0, 1) := by decide +kernel
theorem dX10_setCodes_10 : decode cX10_setCodes 10 = .ok (.bipush 62, 2) := by decide +kernel
theorem dX10_setCodes_12 : decode cX10_setCodes 12 = .ok (.invokestatic 66, 3) := by decide +kernel
theorem dX10_setCodes_15 : decode cX10_setCodes 15 = .ok (.ifCond .eq 21, 3) := by decide +kernel
theorem dX10_setCodes_18 : decode cX10_setCodes 18 = .ok (.iload_n 2, 1) := by decide +kernel
theorem dX10_setCodes_19 : decode cX10_setCodes 19 = .ok (.iconst 2, 1) := by decide +kernel
theorem dX10_setCodes_20 : decode cX10_setCodes 20 = .ok (.irem, 1) := by decide +kernel
theorem dX10_setCodes_21 : decode cX10_setCodes 21 = .ok (.ifCond .ne 15, 3) := by decide +kernel
theorem dX10_setCodes_24 : decode cX10_setCodes 24 = .ok (.aload_n 0, 1) := by decide +kernel
theorem dX10_setCodes_25 : decode cX10_setCodes 25 = .ok (.bipush 18, 2) := by decide +kernel
theorem dX10_setCodes_27 : decode cX10_setCodes 27 = .ok (.iload_n 1, 1) := by decide +kernel
theorem dX10_setCodes_28 : decode cX10_setCodes 28 = .ok (.iadd, 1) := by decide +kernel
theorem dX10_setCodes_29 : decode cX10_setCodes 29 = .ok (.iload_n 2, 1) := by decide +kernel
theorem dX10_setCodes_30 : decode cX10_setCodes 30 = .ok (.invokevirtual 82, 3) := by decide +kernel
theorem dX10_setCodes_33 : decode cX10_setCodes 33 = .ok (.goto 4, 3) := by decide +kernel
theorem dX10_setCodes_36 : decode cX10_setCodes 36 = .ok (.iconst (-1), 1) := by decide +kernel
theorem dX10_setCodes_37 : decode cX10_setCodes 37 = .ok (.ireturn, 1) := by decide +kernel
theorem dX10_setLimit_0 : decode cX10_setLimit 0 = .ok (.iload_n 1, 1) := by decide +kernel
theorem dX10_setLimit_1 : decode cX10_setLimit 1 = .ok (.iconst 1, 1) := by decide +kernel
theorem dX10_setLimit_2 : decode cX10_setLimit 2 = .ok (.bipush 6, 2) := by decide +kernel
theorem dX10_setLimit_4 : decode cX10_setLimit 4 = .ok (.invokestatic 66, 3) := by decide +kernel
theorem dX10_setLimit_7 : decode cX10_setLimit 7 = .ok (.ifCond .eq 12, 3) := by decide +kernel
theorem dX10_setLimit_10 : decode cX10_setLimit 10 = .ok (.aload_n 0, 1) := by decide +kernel
theorem dX10_setLimit_11 : decode cX10_setLimit 11 = .ok (.iconst 3, 1) := by decide +kernel
theorem dX10_setLimit_12 : decode cX10_setLimit 12 = .ok (.iload_n 1, 1) := by decide +kernel
theorem dX10_setLimit_13 : decode cX10_setLimit 13 = .ok (.invokevirtual 82, 3) := by decide +kernel
theorem dX10_setLimit_16 : decode cX10_setLimit 16 = .ok (.goto 4, 3) := by decide +kernel
theorem dX10_setLimit_19 : decode cX10_setLimit 19 = .ok (.iconst (-1), 1) := by decide +kernel
theorem dX10_setLimit_20 : decode cX10_setLimit 20 = .ok (.ireturn, 1) := by decide +kernel
theorem dX10_isRoute_0 : decode cX10_isRoute 0 = .ok (.aload_n 0, 1) := by decide +kernel
theorem dX10_isRoute_1 : decode cX10_isRoute 1 = .ok (.iload_n 1, 1) := by decide +kernel
theorem dX10_isRoute_2 : decode cX10_isRoute 2 = .ok (.invokevirtual 79, 3) := by decide +kernel
theorem dX10_isRoute_5 : decode cX10_isRoute 5 = .ok (.ifCond .eq 48, 3) := by decide +kernel
theorem dX10_isRoute_8 : decode cX10_isRoute 8 = .ok (.aload_n 0, 1) := by decide +kernel
theorem dX10_isRoute_9 : decode cX10_isRoute 9 = .ok (.iload_n 3, 1) := by decide +kernel
theorem dX10_isRoute_10 : decode cX10_isRoute 10 = .ok (.invokevirtual 79, 3) := by decide +kernel
theorem dX10_isRoute_13 : decode cX10_isRoute 13 = .ok (.ifCond .eq 40, 3) := by decide +kernel
theorem dX10_isRoute_16 : decode cX10_isRoute 16 = .ok (.iload_n 2, 1) := by decide +kernel
theorem dX10_isRoute_17 : decode cX10_isRoute 17 = .ok (.iconst 0, 1) := by decide +kernel
theorem dX10_isRoute_18 : decode cX10_isRoute 18 = .ok (.ldc 70, 2) := by decide +kernel
theorem dX10_isRoute_20 : decode cX10_isRoute 20 = .ok (.invokestatic 66, 3) := by decide +kernel
theorem dX10_isRoute_23 : decode cX10_isRoute 23 = .ok (.ifCond .eq 30, 3) := by decide +kernel
theorem dX10_isRoute_26 : decode cX10_isRoute 26 = .ok (.iload 4, 2) := by decide +kernel
theorem dX10_isRoute_28 : decode cX10_isRoute 28 = .ok (.iconst 0, 1) := by decide +kernel
theorem dX10_isRoute_29 : decode cX10_isRoute 29 = .ok (.sipush 1000, 3) := by decide +kernel
theorem dX10_isRoute_32 : decode cX10_isRoute 32 = .ok (.invokestatic 66, 3) := by decide +kernel
theorem dX10_isRoute_35 : decode cX10_isRoute 35 = .ok (.ifCond .eq 18, 3) := by decide +kernel
theorem dX10_isRoute_38 : decode cX10_isRoute 38 = .ok (.iload 5, 2) := by decide +kernel
theorem dX10_isRoute_40 : decode cX10_isRoute 40 = .ok (.iconst 1, 1) := by decide +kernel
theorem dX10_isRoute_41 : decode cX10_isRoute 41 = .ok (.bipush 20, 2) := by decide +kernel
theorem dX10_isRoute_43 : decode cX10_isRoute 43 = .ok (.invokestatic 66, 3) := by decide +kernel
theorem dX10_isRoute_46 : decode cX10_isRoute 46 = .ok (.ifCond .eq 7, 3) := by decide +kernel
theorem dX10_isRoute_49 : decode cX10_isRoute 49 = .ok (.iconst 1, 1) := by decide +kernel
theorem dX10_isRoute_50 : decode cX10_isRoute 50 = .ok (.goto 4, 3) := by decide +kernel
theorem dX10_isRoute_53 : decode cX10_isRoute 53 = .ok (.iconst 0, 1) := by decide +kernel
theorem dX10_isRoute_54 : decode cX10_isRoute 54 = .ok (.ireturn, 1) := by decide +kernel
theorem dX10_routes_0 : decode cX10_routes 0 = .ok (.bipush 30, 2) := by decide +kernel
theorem dX10_routes_2 : decode cX10_routes 2 = .ok (.bipush 8, 2) := by decide +kernel
theorem dX10_routes_4 : decode cX10_routes 4 = .ok (.aload_n 0, 1) := by decide +kernel
theorem dX10_routes_5 : decode cX10_routes 5 = .ok (.getfield 7, 3) := by decide +kernel
theorem dX10_routes_8 : decode cX10_routes 8 = .ok (.iconst 1, 1) := by decide +kernel
theorem dX10_routes_9 : decode cX10_routes 9 = .ok (.iaload, 1) := by decide +kernel
theorem dX10_routes_10 : decode cX10_routes 10 = .ok (.imul, 1) := by decide +kernel
theorem dX10_routes_11 : decode cX10_routes 11 = .ok (.iadd, 1) := by decide +kernel
theorem dX10_routes_12 : decode cX10_routes 12 = .ok (.istore 6, 2) := by decide +kernel
theorem dX10_routes_14 : decode cX10_routes 14 = .ok (.aload_n 0, 1) := by decide +kernel
theorem dX10_routes_15 : decode cX10_routes 15 = .ok (.getfield 7, 3) := by decide +kernel
theorem dX10_routes_18 : decode cX10_routes 18 = .ok (.iload 6, 2) := by decide +kernel
theorem dX10_routes_20 : decode cX10_routes 20 = .ok (.iload_n 1, 1) := by decide +kernel
theorem dX10_routes_21 : decode cX10_routes 21 = .ok (.iastore, 1) := by decide +kernel
theorem dX10_routes_22 : decode cX10_routes 22 = .ok (.aload_n 0, 1) := by decide +kernel
theorem dX10_routes_23 : decode cX10_routes 23 = .ok (.getfield 7, 3) := by decide +kernel
theorem dX10_routes_26 : decode cX10_routes 26 = .ok (.iload 6, 2) := by decide +kernel
theorem dX10_routes_28 : decode cX10_routes 28 = .ok (.iconst 1, 1) := by decide +kernel
theorem dX10_routes_29 : decode cX10_routes 29 = .ok (.iadd, 1) := by decide +kernel
theorem dX10_routes_30 : decode cX10_routes 30 = .ok (.iload_n 2, 1) := by decide +kernel
theorem dX10_routes_31 : decode cX10_routes 31 = .ok (.iastore, 1) := by decide +kernel
theorem dX10_routes_32 : decode cX10_routes 32 = .ok (.aload_n 0, 1) := by decide +kernel
theorem dX10_routes_33 : decode cX10_routes 33 = .ok (.getfield 7, 3) := by decide +kernel
theorem dX10_routes_36 : decode cX10_routes 36 = .ok (.iload 6, 2) := by decide +kernel
theorem dX10_routes_38 : decode cX10_routes 38 = .ok (.iconst 2, 1) := by decide +kernel
theorem dX10_routes_39 : decode cX10_routes 39 = .ok (.iadd, 1) := by decide +kernel
theorem dX10_routes_40 : decode cX10_routes 40 = .ok (.iload_n 3, 1) := by decide +kernel
theorem dX10_routes_41 : decode cX10_routes 41 = .ok (.iastore, 1) := by decide +kernel
theorem dX10_routes_42 : decode cX10_routes 42 = .ok (.aload_n 0, 1) := by decide +kernel
theorem dX10_routes_43 : decode cX10_routes 43 = .ok (.getfield 7, 3) := by decide +kernel
theorem dX10_routes_46 : decode cX10_routes 46 = .ok (.iload 6, 2) := by decide +kernel
theorem dX10_routes_48 : decode cX10_routes 48 = .ok (.iconst 3, 1) := by decide +kernel
theorem dX10_routes_49 : decode cX10_routes 49 = .ok (.iadd, 1) := by decide +kernel
theorem dX10_routes_50 : decode cX10_routes 50 = .ok (.iload 4, 2) := by decide +kernel
theorem dX10_routes_52 : decode cX10_routes 52 = .ok (.iastore, 1) := by decide +kernel
theorem dX10_routes_53 : decode cX10_routes 53 = .ok (.aload_n 0, 1) := by decide +kernel
theorem dX10_routes_54 : decode cX10_routes 54 = .ok (.getfield 7, 3) := by decide +kernel
theorem dX10_routes_57 : decode cX10_routes 57 = .ok (.iload 6, 2) := by decide +kernel
theorem dX10_routes_59 : decode cX10_routes 59 = .ok (.iconst 4, 1) := by decide +kernel
theorem dX10_routes_60 : decode cX10_routes 60 = .ok (.iadd, 1) := by decide +kernel
theorem dX10_routes_61 : decode cX10_routes 61 = .ok (.iload 4, 2) := by decide +kernel
theorem dX10_routes_63 : decode cX10_routes 63 = .ok (.iastore, 1) := by decide +kernel
theorem dX10_routes_64 : decode cX10_routes 64 = .ok (.aload_n 0, 1) := by decide +kernel
theorem dX10_routes_65 : decode cX10_routes 65 = .ok (.getfield 7, 3) := by decide +kernel
theorem dX10_routes_68 : decode cX10_routes 68 = .ok (.iload 6, 2) := by decide +kernel
theorem dX10_routes_70 : decode cX10_routes 70 = .ok (.iconst 5, 1) := by decide +kernel
theorem dX10_routes_71 : decode cX10_routes 71 = .ok (.iadd, 1) := by decide +kernel
theorem dX10_routes_72 : decode cX10_routes 72 = .ok (.iload 4, 2) := by decide +kernel
theorem dX10_routes_74 : decode cX10_routes 74 = .ok (.iastore, 1) := by decide +kernel
theorem dX10_routes_75 : decode cX10_routes 75 = .ok (.aload_n 0, 1) := by decide +kernel
theorem dX10_routes_76 : decode cX10_routes 76 = .ok (.getfield 7, 3) := by decide +kernel
theorem dX10_routes_79 : decode cX10_routes 79 = .ok (.iload 6, 2) := by decide +kernel
theorem dX10_routes_81 : decode cX10_routes 81 = .ok (.bipush 6, 2) := by decide +kernel
theorem dX10_routes_83 : decode cX10_routes 83 = .ok (.iadd, 1) := by decide +kernel
theorem dX10_routes_84 : decode cX10_routes 84 = .ok (.iload 5, 2) := by decide +kernel
theorem dX10_routes_86 : decode cX10_routes 86 = .ok (.iastore, 1) := by decide +kernel
theorem dX10_routes_87 : decode cX10_routes 87 = .ok (.aload_n 0, 1) := by decide +kernel
theorem dX10_routes_88 : decode cX10_routes 88 = .ok (.getfield 7, 3) := by decide +kernel
theorem dX10_routes_91 : decode cX10_routes 91 = .ok (.iload 6, 2) := by decide +kernel
theorem dX10_routes_93 : decode cX10_routes 93 = .ok (.bipush 7, 2) := by decide +kernel
theorem dX10_routes_95 : decode cX10_routes 95 = .ok (.iadd, 1) := by decide +kernel
theorem dX10_routes_96 : decode cX10_routes 96 = .ok (.iconst 0, 1) := by decide +kernel
theorem dX10_routes_97 : decode cX10_routes 97 = .ok (.iastore, 1) := by decide +kernel
theorem dX10_routes_98 : decode cX10_routes 98 = .ok (.aload_n 0, 1) := by decide +kernel
theorem dX10_routes_99 : decode cX10_routes 99 = .ok (.getfield 7, 3) := by decide +kernel
theorem dX10_routes_102 : decode cX10_routes 102 = .ok (.iconst 1, 1) := by decide +kernel
theorem dX10_routes_103 : decode cX10_routes 103 = .ok (.dup2, 1) := by decide +kernel
theorem dX10_routes_104 : decode cX10_routes 104 = .ok (.iaload, 1) := by decide +kernel
theorem dX10_routes_105 : decode cX10_routes 105 = .ok (.iconst 1, 1) := by decide +kernel
theorem dX10_routes_106 : decode cX10_routes 106 = .ok (.iadd, 1) := by decide +kernel
theorem dX10_routes_107 : decode cX10_routes 107 = .ok (.iastore, 1) := by decide +kernel
theorem dX10_routes_108 : decode cX10_routes 108 = .ok (.return_, 1) := by decide +kernel
theorem dX10_addRoute_0 : decode cX10_addRoute 0 = .ok (.aload_n 0, 1) := by decide +kernel
theorem dX10_addRoute_1 : decode cX10_addRoute 1 = .ok (.iload_n 1, 1) := by decide +kernel
theorem dX10_addRoute_2 : decode cX10_addRoute 2 = .ok (.iload_n 2, 1) := by decide +kernel
theorem dX10_addRoute_3 : decode cX10_addRoute 3 = .ok (.iload_n 3, 1) := by decide +kernel
theorem dX10_addRoute_4 : decode cX10_addRoute 4 = .ok (.iload 4, 2) := by decide +kernel
theorem dX10_addRoute_6 : decode cX10_addRoute 6 = .ok (.iload 5, 2) := by decide +kernel
theorem dX10_addRoute_8 : decode cX10_addRoute 8 = .ok (.invokevirtual 85, 3) := by decide +kernel
theorem dX10_addRoute_11 : decode cX10_addRoute 11 = .ok (.ifCond .ne 5, 3) := by decide +kernel
theorem dX10_addRoute_14 : decode cX10_addRoute 14 = .ok (.iconst (-1), 1) := by decide +kernel
theorem dX10_addRoute_15 : decode cX10_addRoute 15 = .ok (.ireturn, 1) := by decide +kernel
theorem dX10_addRoute_16 : decode cX10_addRoute 16 = .ok (.aload_n 0, 1) := by decide +kernel
theorem dX10_addRoute_17 : decode cX10_addRoute 17 = .ok (.getfield 7, 3) := by decide +kernel
theorem dX10_addRoute_20 : decode cX10_addRoute 20 = .ok (.iconst 1, 1) := by decide +kernel
theorem dX10_addRoute_21 : decode cX10_addRoute 21 = .ok (.iaload, 1) := by decide +kernel
theorem dX10_addRoute_22 : decode cX10_addRoute 22 = .ok (.bipush 40, 2) := by decide +kernel
theorem dX10_addRoute_24 : decode cX10_addRoute 24 = .ok (.if_icmp .ne 6, 3) := by decide +kernel
theorem dX10_addRoute_27 : decode cX10_addRoute 27 = .ok (.bipush (-3), 2) := by decide +kernel
theorem dX10_addRoute_29 : decode cX10_addRoute 29 = .ok (.ireturn, 1) := by decide +kernel
theorem dX10_addRoute_30 : decode cX10_addRoute 30 = .ok (.aload_n 0, 1) := by decide +kernel
theorem dX10_addRoute_31 : decode cX10_addRoute 31 = .ok (.aload_n 0, 1) := by decide +kernel
theorem dX10_addRoute_32 : decode cX10_addRoute 32 = .ok (.getfield 7, 3) := by decide +kernel
theorem dX10_addRoute_35 : decode cX10_addRoute 35 = .ok (.invokevirtual 62, 3) := by decide +kernel
theorem dX10_addRoute_38 : decode cX10_addRoute 38 = .ok (.aload_n 0, 1) := by decide +kernel
theorem dX10_addRoute_39 : decode cX10_addRoute 39 = .ok (.iload_n 1, 1) := by decide +kernel
theorem dX10_addRoute_40 : decode cX10_addRoute 40 = .ok (.iload_n 2, 1) := by decide +kernel
theorem dX10_addRoute_41 : decode cX10_addRoute 41 = .ok (.iload_n 3, 1) := by decide +kernel
theorem dX10_addRoute_42 : decode cX10_addRoute 42 = .ok (.iload 4, 2) := by decide +kernel
theorem dX10_addRoute_44 : decode cX10_addRoute 44 = .ok (.iload 5, 2) := by decide +kernel
theorem dX10_addRoute_46 : decode cX10_addRoute 46 = .ok (.invokevirtual 89, 3) := by decide +kernel
theorem dX10_addRoute_49 : decode cX10_addRoute 49 = .ok (.aload_n 0, 1) := by decide +kernel
theorem dX10_addRoute_50 : decode cX10_addRoute 50 = .ok (.getfield 7, 3) := by decide +kernel
theorem dX10_addRoute_53 : decode cX10_addRoute 53 = .ok (.iconst 1, 1) := by decide +kernel
theorem dX10_addRoute_54 : decode cX10_addRoute 54 = .ok (.iaload, 1) := by decide +kernel
theorem dX10_addRoute_55 : decode cX10_addRoute 55 = .ok (.iconst 1, 1) := by decide +kernel
theorem dX10_addRoute_56 : decode cX10_addRoute 56 = .ok (.isub, 1) := by decide +kernel
theorem dX10_addRoute_57 : decode cX10_addRoute 57 = .ok (.ireturn, 1) := by decide +kernel
theorem dX10_setCost_0 : decode cX10_setCost 0 = .ok (.iload_n 1, 1) := by decide +kernel
theorem dX10_setCost_1 : decode cX10_setCost 1 = .ok (.iconst 0, 1) := by decide +kernel
theorem dX10_setCost_2 : decode cX10_setCost 2 = .ok (.aload_n 0, 1) := by decide +kernel
theorem dX10_setCost_3 : decode cX10_setCost 3 = .ok (.getfield 7, 3) := by decide +kernel
theorem dX10_setCost_6 : decode cX10_setCost 6 = .ok (.iconst 1, 1) := by decide +kernel
theorem dX10_setCost_7 : decode cX10_setCost 7 = .ok (.iaload, 1) := by decide +kernel
theorem dX10_setCost_8 : decode cX10_setCost 8 = .ok (.iconst 1, 1) := by decide +kernel
theorem dX10_setCost_9 : decode cX10_setCost 9 = .ok (.isub, 1) := by decide +kernel
theorem dX10_setCost_10 : decode cX10_setCost 10 = .ok (.invokestatic 66, 3) := by decide +kernel
theorem dX10_setCost_13 : decode cX10_setCost 13 = .ok (.ifCond .eq 42, 3) := by decide +kernel
theorem dX10_setCost_16 : decode cX10_setCost 16 = .ok (.iload_n 2, 1) := by decide +kernel
theorem dX10_setCost_17 : decode cX10_setCost 17 = .ok (.iconst 0, 1) := by decide +kernel
theorem dX10_setCost_18 : decode cX10_setCost 18 = .ok (.iconst 2, 1) := by decide +kernel
theorem dX10_setCost_19 : decode cX10_setCost 19 = .ok (.invokestatic 66, 3) := by decide +kernel
theorem dX10_setCost_22 : decode cX10_setCost 22 = .ok (.ifCond .eq 33, 3) := by decide +kernel
theorem dX10_setCost_25 : decode cX10_setCost 25 = .ok (.iload_n 3, 1) := by decide +kernel
theorem dX10_setCost_26 : decode cX10_setCost 26 = .ok (.iconst 0, 1) := by decide +kernel
theorem dX10_setCost_27 : decode cX10_setCost 27 = .ok (.sipush 1000, 3) := by decide +kernel
theorem dX10_setCost_30 : decode cX10_setCost 30 = .ok (.invokestatic 66, 3) := by decide +kernel
theorem dX10_setCost_33 : decode cX10_setCost 33 = .ok (.ifCond .eq 22, 3) := by decide +kernel
theorem dX10_setCost_36 : decode cX10_setCost 36 = .ok (.aload_n 0, 1) := by decide +kernel
theorem dX10_setCost_37 : decode cX10_setCost 37 = .ok (.bipush 30, 2) := by decide +kernel
theorem dX10_setCost_39 : decode cX10_setCost 39 = .ok (.bipush 8, 2) := by decide +kernel
theorem dX10_setCost_41 : decode cX10_setCost 41 = .ok (.iload_n 1, 1) := by decide +kernel
theorem dX10_setCost_42 : decode cX10_setCost 42 = .ok (.imul, 1) := by decide +kernel
theorem dX10_setCost_43 : decode cX10_setCost 43 = .ok (.iadd, 1) := by decide +kernel
theorem dX10_setCost_44 : decode cX10_setCost 44 = .ok (.iconst 3, 1) := by decide +kernel
theorem dX10_setCost_45 : decode cX10_setCost 45 = .ok (.iadd, 1) := by decide +kernel
theorem dX10_setCost_46 : decode cX10_setCost 46 = .ok (.iload_n 2, 1) := by decide +kernel
theorem dX10_setCost_47 : decode cX10_setCost 47 = .ok (.iadd, 1) := by decide +kernel
theorem dX10_setCost_48 : decode cX10_setCost 48 = .ok (.iload_n 3, 1) := by decide +kernel
theorem dX10_setCost_49 : decode cX10_setCost 49 = .ok (.invokevirtual 82, 3) := by decide +kernel
theorem dX10_setCost_52 : decode cX10_setCost 52 = .ok (.goto 4, 3) := by decide +kernel
theorem dX10_setCost_55 : decode cX10_setCost 55 = .ok (.iconst (-1), 1) := by decide +kernel
theorem dX10_setCost_56 : decode cX10_setCost 56 = .ok (.ireturn, 1) := by decide +kernel
theorem dX10_portOf_0 : decode cX10_portOf 0 = .ok (.iconst 0, 1) := by decide +kernel
theorem dX10_portOf_1 : decode cX10_portOf 1 = .ok (.istore_n 2, 1) := by decide +kernel
theorem dX10_portOf_2 : decode cX10_portOf 2 = .ok (.iload_n 2, 1) := by decide +kernel
theorem dX10_portOf_3 : decode cX10_portOf 3 = .ok (.aload_n 0, 1) := by decide +kernel
theorem dX10_portOf_4 : decode cX10_portOf 4 = .ok (.getfield 7, 3) := by decide +kernel
theorem dX10_portOf_7 : decode cX10_portOf 7 = .ok (.iconst 2, 1) := by decide +kernel
theorem dX10_portOf_8 : decode cX10_portOf 8 = .ok (.iaload, 1) := by decide +kernel
theorem dX10_portOf_9 : decode cX10_portOf 9 = .ok (.if_icmp .ge 27, 3) := by decide +kernel
theorem dX10_portOf_12 : decode cX10_portOf 12 = .ok (.aload_n 0, 1) := by decide +kernel
theorem dX10_portOf_13 : decode cX10_portOf 13 = .ok (.getfield 7, 3) := by decide +kernel
theorem dX10_portOf_16 : decode cX10_portOf 16 = .ok (.sipush 350, 3) := by decide +kernel
theorem dX10_portOf_19 : decode cX10_portOf 19 = .ok (.iconst 2, 1) := by decide +kernel
theorem dX10_portOf_20 : decode cX10_portOf 20 = .ok (.iload_n 2, 1) := by decide +kernel
theorem dX10_portOf_21 : decode cX10_portOf 21 = .ok (.imul, 1) := by decide +kernel
theorem dX10_portOf_22 : decode cX10_portOf 22 = .ok (.iadd, 1) := by decide +kernel
theorem dX10_portOf_23 : decode cX10_portOf 23 = .ok (.iaload, 1) := by decide +kernel
theorem dX10_portOf_24 : decode cX10_portOf 24 = .ok (.iload_n 1, 1) := by decide +kernel
theorem dX10_portOf_25 : decode cX10_portOf 25 = .ok (.if_icmp .ne 5, 3) := by decide +kernel
theorem dX10_portOf_28 : decode cX10_portOf 28 = .ok (.iload_n 2, 1) := by decide +kernel
theorem dX10_portOf_29 : decode cX10_portOf 29 = .ok (.ireturn, 1) := by decide +kernel
theorem dX10_portOf_30 : decode cX10_portOf 30 = .ok (.iinc 2 1, 3) := by decide +kernel
theorem dX10_portOf_33 : decode cX10_portOf 33 = .ok (.goto (-31), 3) := by decide +kernel
theorem dX10_portOf_36 : decode cX10_portOf 36 = .ok (.iconst (-1), 1) := by decide +kernel
theorem dX10_portOf_37 : decode cX10_portOf 37 = .ok (.ireturn, 1) := by decide +kernel
theorem dX10_ports_0 : decode cX10_ports 0 = .ok (.aload_n 0, 1) := by decide +kernel
theorem dX10_ports_1 : decode cX10_ports 1 = .ok (.iload_n 1, 1) := by decide +kernel
theorem dX10_ports_2 : decode cX10_ports 2 = .ok (.invokevirtual 93, 3) := by decide +kernel
theorem dX10_ports_5 : decode cX10_ports 5 = .ok (.istore_n 3, 1) := by decide +kernel
theorem dX10_ports_6 : decode cX10_ports 6 = .ok (.iload_n 3, 1) := by decide +kernel
theorem dX10_ports_7 : decode cX10_ports 7 = .ok (.ifCond .ge 8, 3) := by decide +kernel
theorem dX10_ports_10 : decode cX10_ports 10 = .ok (.bipush (-9), 2) := by decide +kernel
theorem dX10_ports_12 : decode cX10_ports 12 = .ok (.goto 17, 3) := by decide +kernel
theorem dX10_ports_15 : decode cX10_ports 15 = .ok (.aload_n 0, 1) := by decide +kernel
theorem dX10_ports_16 : decode cX10_ports 16 = .ok (.getfield 7, 3) := by decide +kernel
theorem dX10_ports_19 : decode cX10_ports 19 = .ok (.sipush 350, 3) := by decide +kernel
theorem dX10_ports_22 : decode cX10_ports 22 = .ok (.iconst 2, 1) := by decide +kernel
theorem dX10_ports_23 : decode cX10_ports 23 = .ok (.iload_n 3, 1) := by decide +kernel
theorem dX10_ports_24 : decode cX10_ports 24 = .ok (.imul, 1) := by decide +kernel
theorem dX10_ports_25 : decode cX10_ports 25 = .ok (.iadd, 1) := by decide +kernel
theorem dX10_ports_26 : decode cX10_ports 26 = .ok (.iconst 1, 1) := by decide +kernel
theorem dX10_ports_27 : decode cX10_ports 27 = .ok (.iadd, 1) := by decide +kernel
theorem dX10_ports_28 : decode cX10_ports 28 = .ok (.iaload, 1) := by decide +kernel
theorem dX10_ports_29 : decode cX10_ports 29 = .ok (.istore 4, 2) := by decide +kernel
theorem dX10_ports_31 : decode cX10_ports 31 = .ok (.iload_n 3, 1) := by decide +kernel
theorem dX10_ports_32 : decode cX10_ports 32 = .ok (.ifCond .ge 33, 3) := by decide +kernel
theorem dX10_ports_35 : decode cX10_ports 35 = .ok (.aload_n 0, 1) := by decide +kernel
theorem dX10_ports_36 : decode cX10_ports 36 = .ok (.getfield 7, 3) := by decide +kernel
theorem dX10_ports_39 : decode cX10_ports 39 = .ok (.iconst 2, 1) := by decide +kernel
theorem dX10_ports_40 : decode cX10_ports 40 = .ok (.iaload, 1) := by decide +kernel
theorem dX10_ports_41 : decode cX10_ports 41 = .ok (.istore_n 3, 1) := by decide +kernel
theorem dX10_ports_42 : decode cX10_ports 42 = .ok (.aload_n 0, 1) := by decide +kernel
theorem dX10_ports_43 : decode cX10_ports 43 = .ok (.getfield 7, 3) := by decide +kernel
theorem dX10_ports_46 : decode cX10_ports 46 = .ok (.sipush 350, 3) := by decide +kernel
theorem dX10_ports_49 : decode cX10_ports 49 = .ok (.iconst 2, 1) := by decide +kernel
theorem dX10_ports_50 : decode cX10_ports 50 = .ok (.iload_n 3, 1) := by decide +kernel
theorem dX10_ports_51 : decode cX10_ports 51 = .ok (.imul, 1) := by decide +kernel
theorem dX10_ports_52 : decode cX10_ports 52 = .ok (.iadd, 1) := by decide +kernel
theorem dX10_ports_53 : decode cX10_ports 53 = .ok (.iload_n 1, 1) := by decide +kernel
theorem dX10_ports_54 : decode cX10_ports 54 = .ok (.iastore, 1) := by decide +kernel
theorem dX10_ports_55 : decode cX10_ports 55 = .ok (.aload_n 0, 1) := by decide +kernel
theorem dX10_ports_56 : decode cX10_ports 56 = .ok (.getfield 7, 3) := by decide +kernel
theorem dX10_ports_59 : decode cX10_ports 59 = .ok (.iconst 2, 1) := by decide +kernel
theorem dX10_ports_60 : decode cX10_ports 60 = .ok (.dup2, 1) := by decide +kernel
theorem dX10_ports_61 : decode cX10_ports 61 = .ok (.iaload, 1) := by decide +kernel
theorem dX10_ports_62 : decode cX10_ports 62 = .ok (.iconst 1, 1) := by decide +kernel
theorem dX10_ports_63 : decode cX10_ports 63 = .ok (.iadd, 1) := by decide +kernel
theorem dX10_ports_64 : decode cX10_ports 64 = .ok (.iastore, 1) := by decide +kernel
theorem dX10_ports_65 : decode cX10_ports 65 = .ok (.aload_n 0, 1) := by decide +kernel
theorem dX10_ports_66 : decode cX10_ports 66 = .ok (.getfield 7, 3) := by decide +kernel
theorem dX10_ports_69 : decode cX10_ports 69 = .ok (.sipush 350, 3) := by decide +kernel
theorem dX10_ports_72 : decode cX10_ports 72 = .ok (.iconst 2, 1) := by decide +kernel
theorem dX10_ports_73 : decode cX10_ports 73 = .ok (.iload_n 3, 1) := by decide +kernel
theorem dX10_ports_74 : decode cX10_ports 74 = .ok (.imul, 1) := by decide +kernel
theorem dX10_ports_75 : decode cX10_ports 75 = .ok (.iadd, 1) := by decide +kernel
theorem dX10_ports_76 : decode cX10_ports 76 = .ok (.iconst 1, 1) := by decide +kernel
theorem dX10_ports_77 : decode cX10_ports 77 = .ok (.iadd, 1) := by decide +kernel
theorem dX10_ports_78 : decode cX10_ports 78 = .ok (.iload_n 2, 1) := by decide +kernel
theorem dX10_ports_79 : decode cX10_ports 79 = .ok (.iastore, 1) := by decide +kernel
theorem dX10_ports_80 : decode cX10_ports 80 = .ok (.iload 4, 2) := by decide +kernel
theorem dX10_ports_82 : decode cX10_ports 82 = .ok (.ireturn, 1) := by decide +kernel
theorem dX10_port_0 : decode cX10_port 0 = .ok (.aload_n 0, 1) := by decide +kernel
theorem dX10_port_1 : decode cX10_port 1 = .ok (.iload_n 2, 1) := by decide +kernel
theorem dX10_port_2 : decode cX10_port 2 = .ok (.invokevirtual 79, 3) := by decide +kernel
theorem dX10_port_5 : decode cX10_port 5 = .ok (.ifCond .eq 10, 3) := by decide +kernel
theorem dX10_port_8 : decode cX10_port 8 = .ok (.iload_n 1, 1) := by decide +kernel
theorem dX10_port_9 : decode cX10_port 9 = .ok (.invokestatic 97, 3) := by decide +kernel
theorem dX10_port_12 : decode cX10_port 12 = .ok (.ifCond .ne 5, 3) := by decide +kernel
theorem dX10_port_15 : decode cX10_port 15 = .ok (.iconst (-1), 1) := by decide +kernel
theorem dX10_port_16 : decode cX10_port 16 = .ok (.ireturn, 1) := by decide +kernel
theorem dX10_port_17 : decode cX10_port 17 = .ok (.aload_n 0, 1) := by decide +kernel
theorem dX10_port_18 : decode cX10_port 18 = .ok (.getfield 7, 3) := by decide +kernel
theorem dX10_port_21 : decode cX10_port 21 = .ok (.iconst 2, 1) := by decide +kernel
theorem dX10_port_22 : decode cX10_port 22 = .ok (.iaload, 1) := by decide +kernel
theorem dX10_port_23 : decode cX10_port 23 = .ok (.bipush 30, 2) := by decide +kernel
theorem dX10_port_25 : decode cX10_port 25 = .ok (.if_icmp .ne 14, 3) := by decide +kernel
theorem dX10_port_28 : decode cX10_port 28 = .ok (.aload_n 0, 1) := by decide +kernel
theorem dX10_port_29 : decode cX10_port 29 = .ok (.iload_n 1, 1) := by decide +kernel
theorem dX10_port_30 : decode cX10_port 30 = .ok (.invokevirtual 93, 3) := by decide +kernel
theorem dX10_port_33 : decode cX10_port 33 = .ok (.ifCond .ge 6, 3) := by decide +kernel
theorem dX10_port_36 : decode cX10_port 36 = .ok (.bipush (-3), 2) := by decide +kernel
theorem dX10_port_38 : decode cX10_port 38 = .ok (.ireturn, 1) := by decide +kernel
theorem dX10_port_39 : decode cX10_port 39 = .ok (.aload_n 0, 1) := by decide +kernel
theorem dX10_port_40 : decode cX10_port 40 = .ok (.aload_n 0, 1) := by decide +kernel
theorem dX10_port_41 : decode cX10_port 41 = .ok (.getfield 7, 3) := by decide +kernel
theorem dX10_port_44 : decode cX10_port 44 = .ok (.invokevirtual 62, 3) := by decide +kernel
theorem dX10_port_47 : decode cX10_port 47 = .ok (.aload_n 0, 1) := by decide +kernel
theorem dX10_port_48 : decode cX10_port 48 = .ok (.iload_n 1, 1) := by decide +kernel
theorem dX10_port_49 : decode cX10_port 49 = .ok (.iload_n 2, 1) := by decide +kernel
theorem dX10_port_50 : decode cX10_port 50 = .ok (.invokevirtual 100, 3) := by decide +kernel
theorem dX10_port_53 : decode cX10_port 53 = .ok (.ireturn, 1) := by decide +kernel
theorem dX10_unport_0 : decode cX10_unport 0 = .ok (.iload_n 1, 1) := by decide +kernel
theorem dX10_unport_1 : decode cX10_unport 1 = .ok (.invokestatic 97, 3) := by decide +kernel
theorem dX10_unport_4 : decode cX10_unport 4 = .ok (.ifCond .ne 5, 3) := by decide +kernel
theorem dX10_unport_7 : decode cX10_unport 7 = .ok (.iconst (-1), 1) := by decide +kernel
theorem dX10_unport_8 : decode cX10_unport 8 = .ok (.ireturn, 1) := by decide +kernel
theorem dX10_unport_9 : decode cX10_unport 9 = .ok (.aload_n 0, 1) := by decide +kernel
theorem dX10_unport_10 : decode cX10_unport 10 = .ok (.iload_n 1, 1) := by decide +kernel
theorem dX10_unport_11 : decode cX10_unport 11 = .ok (.invokevirtual 93, 3) := by decide +kernel
theorem dX10_unport_14 : decode cX10_unport 14 = .ok (.istore_n 2, 1) := by decide +kernel
theorem dX10_unport_15 : decode cX10_unport 15 = .ok (.iload_n 2, 1) := by decide +kernel
theorem dX10_unport_16 : decode cX10_unport 16 = .ok (.ifCond .ge 6, 3) := by decide +kernel
theorem dX10_unport_19 : decode cX10_unport 19 = .ok (.bipush (-9), 2) := by decide +kernel
theorem dX10_unport_21 : decode cX10_unport 21 = .ok (.ireturn, 1) := by decide +kernel
theorem dX10_unport_22 : decode cX10_unport 22 = .ok (.aload_n 0, 1) := by decide +kernel
theorem dX10_unport_23 : decode cX10_unport 23 = .ok (.aload_n 0, 1) := by decide +kernel
theorem dX10_unport_24 : decode cX10_unport 24 = .ok (.getfield 7, 3) := by decide +kernel
theorem dX10_unport_27 : decode cX10_unport 27 = .ok (.invokevirtual 62, 3) := by decide +kernel
theorem dX10_unport_30 : decode cX10_unport 30 = .ok (.aload_n 0, 1) := by decide +kernel
theorem dX10_unport_31 : decode cX10_unport 31 = .ok (.getfield 7, 3) := by decide +kernel
theorem dX10_unport_34 : decode cX10_unport 34 = .ok (.sipush 350, 3) := by decide +kernel
theorem dX10_unport_37 : decode cX10_unport 37 = .ok (.iconst 2, 1) := by decide +kernel
theorem dX10_unport_38 : decode cX10_unport 38 = .ok (.iload_n 2, 1) := by decide +kernel
theorem dX10_unport_39 : decode cX10_unport 39 = .ok (.imul, 1) := by decide +kernel
theorem dX10_unport_40 : decode cX10_unport 40 = .ok (.iadd, 1) := by decide +kernel
theorem dX10_unport_41 : decode cX10_unport 41 = .ok (.iconst 1, 1) := by decide +kernel
theorem dX10_unport_42 : decode cX10_unport 42 = .ok (.iadd, 1) := by decide +kernel
theorem dX10_unport_43 : decode cX10_unport 43 = .ok (.iaload, 1) := by decide +kernel
theorem dX10_unport_44 : decode cX10_unport 44 = .ok (.istore_n 3, 1) := by decide +kernel
theorem dX10_unport_45 : decode cX10_unport 45 = .ok (.aload_n 0, 1) := by decide +kernel
theorem dX10_unport_46 : decode cX10_unport 46 = .ok (.getfield 7, 3) := by decide +kernel
theorem dX10_unport_49 : decode cX10_unport 49 = .ok (.iconst 2, 1) := by decide +kernel
theorem dX10_unport_50 : decode cX10_unport 50 = .ok (.dup2, 1) := by decide +kernel
theorem dX10_unport_51 : decode cX10_unport 51 = .ok (.iaload, 1) := by decide +kernel
theorem dX10_unport_52 : decode cX10_unport 52 = .ok (.iconst 1, 1) := by decide +kernel
theorem dX10_unport_53 : decode cX10_unport 53 = .ok (.isub, 1) := by decide +kernel
theorem dX10_unport_54 : decode cX10_unport 54 = .ok (.iastore, 1) := by decide +kernel
theorem dX10_unport_55 : decode cX10_unport 55 = .ok (.aload_n 0, 1) := by decide +kernel
theorem dX10_unport_56 : decode cX10_unport 56 = .ok (.getfield 7, 3) := by decide +kernel
theorem dX10_unport_59 : decode cX10_unport 59 = .ok (.sipush 350, 3) := by decide +kernel
theorem dX10_unport_62 : decode cX10_unport 62 = .ok (.iconst 2, 1) := by decide +kernel
theorem dX10_unport_63 : decode cX10_unport 63 = .ok (.iload_n 2, 1) := by decide +kernel
theorem dX10_unport_64 : decode cX10_unport 64 = .ok (.imul, 1) := by decide +kernel
theorem dX10_unport_65 : decode cX10_unport 65 = .ok (.iadd, 1) := by decide +kernel
theorem dX10_unport_66 : decode cX10_unport 66 = .ok (.aload_n 0, 1) := by decide +kernel
theorem dX10_unport_67 : decode cX10_unport 67 = .ok (.getfield 7, 3) := by decide +kernel
theorem dX10_unport_70 : decode cX10_unport 70 = .ok (.sipush 350, 3) := by decide +kernel
theorem dX10_unport_73 : decode cX10_unport 73 = .ok (.iconst 2, 1) := by decide +kernel
theorem dX10_unport_74 : decode cX10_unport 74 = .ok (.aload_n 0, 1) := by decide +kernel
theorem dX10_unport_75 : decode cX10_unport 75 = .ok (.getfield 7, 3) := by decide +kernel
theorem dX10_unport_78 : decode cX10_unport 78 = .ok (.iconst 2, 1) := by decide +kernel
theorem dX10_unport_79 : decode cX10_unport 79 = .ok (.iaload, 1) := by decide +kernel
theorem dX10_unport_80 : decode cX10_unport 80 = .ok (.imul, 1) := by decide +kernel
theorem dX10_unport_81 : decode cX10_unport 81 = .ok (.iadd, 1) := by decide +kernel
theorem dX10_unport_82 : decode cX10_unport 82 = .ok (.iaload, 1) := by decide +kernel
theorem dX10_unport_83 : decode cX10_unport 83 = .ok (.iastore, 1) := by decide +kernel
theorem dX10_unport_84 : decode cX10_unport 84 = .ok (.aload_n 0, 1) := by decide +kernel
theorem dX10_unport_85 : decode cX10_unport 85 = .ok (.getfield 7, 3) := by decide +kernel
theorem dX10_unport_88 : decode cX10_unport 88 = .ok (.sipush 350, 3) := by decide +kernel
theorem dX10_unport_91 : decode cX10_unport 91 = .ok (.iconst 2, 1) := by decide +kernel
theorem dX10_unport_92 : decode cX10_unport 92 = .ok (.iload_n 2, 1) := by decide +kernel
theorem dX10_unport_93 : decode cX10_unport 93 = .ok (.imul, 1) := by decide +kernel
theorem dX10_unport_94 : decode cX10_unport 94 = .ok (.iadd, 1) := by decide +kernel
theorem dX10_unport_95 : decode cX10_unport 95 = .ok (.iconst 1, 1) := by decide +kernel
theorem dX10_unport_96 : decode cX10_unport 96 = .ok (.iadd, 1) := by decide +kernel
theorem dX10_unport_97 : decode cX10_unport 97 = .ok (.aload_n 0, 1) := by decide +kernel
theorem dX10_unport_98 : decode cX10_unport 98 = .ok (.getfield 7, 3) := by decide +kernel
theorem dX10_unport_101 : decode cX10_unport 101 = .ok (.sipush 350, 3) := by decide +kernel
theorem dX10_unport_104 : decode cX10_unport 104 = .ok (.iconst 2, 1) := by decide +kernel
theorem dX10_unport_105 : decode cX10_unport 105 = .ok (.aload_n 0, 1) := by decide +kernel
theorem dX10_unport_106 : decode cX10_unport 106 = .ok (.getfield 7, 3) := by decide +kernel
theorem dX10_unport_109 : decode cX10_unport 109 = .ok (.iconst 2, 1) := by decide +kernel
theorem dX10_unport_110 : decode cX10_unport 110 = .ok (.iaload, 1) := by decide +kernel
theorem dX10_unport_111 : decode cX10_unport 111 = .ok (.imul, 1) := by decide +kernel
theorem dX10_unport_112 : decode cX10_unport 112 = .ok (.iadd, 1) := by decide +kernel
theorem dX10_unport_113 : decode cX10_unport 113 = .ok (.iconst 1, 1) := by decide +kernel
theorem dX10_unport_114 : decode cX10_unport 114 = .ok (.iadd, 1) := by decide +kernel
theorem dX10_unport_115 : decode cX10_unport 115 = .ok (.iaload, 1) := by decide +kernel
theorem dX10_unport_116 : decode cX10_unport 116 = .ok (.iastore, 1) := by decide +kernel
theorem dX10_unport_117 : decode cX10_unport 117 = .ok (.iload_n 3, 1) := by decide +kernel
theorem dX10_unport_118 : decode cX10_unport 118 = .ok (.ireturn, 1) := by decide +kernel
theorem dX10_lengthOf_0 : decode cX10_lengthOf 0 = .ok (.iconst 0, 1) := by decide +kernel
theorem dX10_lengthOf_1 : decode cX10_lengthOf 1 = .ok (.istore_n 1, 1) := by decide +kernel
theorem dX10_lengthOf_2 : decode cX10_lengthOf 2 = .ok (.iload_n 0, 1) := by decide +kernel
theorem dX10_lengthOf_3 : decode cX10_lengthOf 3 = .ok (.istore_n 2, 1) := by decide +kernel
theorem dX10_lengthOf_4 : decode cX10_lengthOf 4 = .ok (.iload_n 2, 1) := by decide +kernel
theorem dX10_lengthOf_5 : decode cX10_lengthOf 5 = .ok (.ifCond .le 14, 3) := by decide +kernel
theorem dX10_lengthOf_8 : decode cX10_lengthOf 8 = .ok (.iinc 1 1, 3) := by decide +kernel
theorem dX10_lengthOf_11 : decode cX10_lengthOf 11 = .ok (.iload_n 2, 1) := by decide +kernel
theorem dX10_lengthOf_12 : decode cX10_lengthOf 12 = .ok (.bipush 10, 2) := by decide +kernel
theorem dX10_lengthOf_14 : decode cX10_lengthOf 14 = .ok (.idiv, 1) := by decide +kernel
theorem dX10_lengthOf_15 : decode cX10_lengthOf 15 = .ok (.istore_n 2, 1) := by decide +kernel
theorem dX10_lengthOf_16 : decode cX10_lengthOf 16 = .ok (.goto (-12), 3) := by decide +kernel
theorem dX10_lengthOf_19 : decode cX10_lengthOf 19 = .ok (.iload_n 1, 1) := by decide +kernel
theorem dX10_lengthOf_20 : decode cX10_lengthOf 20 = .ok (.ireturn, 1) := by decide +kernel
theorem dX10_spells_0 : decode cX10_spells 0 = .ok (.iload_n 1, 1) := by decide +kernel
theorem dX10_spells_1 : decode cX10_spells 1 = .ok (.invokestatic 103, 3) := by decide +kernel
theorem dX10_spells_4 : decode cX10_spells 4 = .ok (.istore_n 2, 1) := by decide +kernel
theorem dX10_spells_5 : decode cX10_spells 5 = .ok (.iload_n 1, 1) := by decide +kernel
theorem dX10_spells_6 : decode cX10_spells 6 = .ok (.istore_n 3, 1) := by decide +kernel
theorem dX10_spells_7 : decode cX10_spells 7 = .ok (.iload_n 2, 1) := by decide +kernel
theorem dX10_spells_8 : decode cX10_spells 8 = .ok (.iconst 1, 1) := by decide +kernel
theorem dX10_spells_9 : decode cX10_spells 9 = .ok (.isub, 1) := by decide +kernel
theorem dX10_spells_10 : decode cX10_spells 10 = .ok (.istore 4, 2) := by decide +kernel
theorem dX10_spells_12 : decode cX10_spells 12 = .ok (.iload 4, 2) := by decide +kernel
theorem dX10_spells_14 : decode cX10_spells 14 = .ok (.ifCond .lt 30, 3) := by decide +kernel
theorem dX10_spells_17 : decode cX10_spells 17 = .ok (.aload_n 0, 1) := by decide +kernel
theorem dX10_spells_18 : decode cX10_spells 18 = .ok (.getfield 19, 3) := by decide +kernel
theorem dX10_spells_21 : decode cX10_spells 21 = .ok (.aload_n 0, 1) := by decide +kernel
theorem dX10_spells_22 : decode cX10_spells 22 = .ok (.getfield 106, 3) := by decide +kernel
theorem dX10_spells_25 : decode cX10_spells 25 = .ok (.iload 4, 2) := by decide +kernel
theorem dX10_spells_27 : decode cX10_spells 27 = .ok (.iadd, 1) := by decide +kernel
theorem dX10_spells_28 : decode cX10_spells 28 = .ok (.iload_n 3, 1) := by decide +kernel
theorem dX10_spells_29 : decode cX10_spells 29 = .ok (.bipush 10, 2) := by decide +kernel
theorem dX10_spells_31 : decode cX10_spells 31 = .ok (.irem, 1) := by decide +kernel
theorem dX10_spells_32 : decode cX10_spells 32 = .ok (.iastore, 1) := by decide +kernel
theorem dX10_spells_33 : decode cX10_spells 33 = .ok (.iload_n 3, 1) := by decide +kernel
theorem dX10_spells_34 : decode cX10_spells 34 = .ok (.bipush 10, 2) := by decide +kernel
theorem dX10_spells_36 : decode cX10_spells 36 = .ok (.idiv, 1) := by decide +kernel
theorem dX10_spells_37 : decode cX10_spells 37 = .ok (.istore_n 3, 1) := by decide +kernel
theorem dX10_spells_38 : decode cX10_spells 38 = .ok (.iinc 4 (-1), 3) := by decide +kernel
theorem dX10_spells_41 : decode cX10_spells 41 = .ok (.goto (-29), 3) := by decide +kernel
theorem dX10_spells_44 : decode cX10_spells 44 = .ok (.aload_n 0, 1) := by decide +kernel
theorem dX10_spells_45 : decode cX10_spells 45 = .ok (.dup, 1) := by decide +kernel
theorem dX10_spells_46 : decode cX10_spells 46 = .ok (.getfield 106, 3) := by decide +kernel
theorem dX10_spells_49 : decode cX10_spells 49 = .ok (.iload_n 2, 1) := by decide +kernel
theorem dX10_spells_50 : decode cX10_spells 50 = .ok (.iadd, 1) := by decide +kernel
theorem dX10_spells_51 : decode cX10_spells 51 = .ok (.putfield 106, 3) := by decide +kernel
theorem dX10_spells_54 : decode cX10_spells 54 = .ok (.return_, 1) := by decide +kernel
theorem dX10_dials_0 : decode cX10_dials 0 = .ok (.aload_n 0, 1) := by decide +kernel
theorem dX10_dials_1 : decode cX10_dials 1 = .ok (.iconst 0, 1) := by decide +kernel
theorem dX10_dials_2 : decode cX10_dials 2 = .ok (.putfield 106, 3) := by decide +kernel
theorem dX10_dials_5 : decode cX10_dials 5 = .ok (.iload_n 2, 1) := by decide +kernel
theorem dX10_dials_6 : decode cX10_dials 6 = .ok (.ifCond .lt 30, 3) := by decide +kernel
theorem dX10_dials_9 : decode cX10_dials 9 = .ok (.aload_n 0, 1) := by decide +kernel
theorem dX10_dials_10 : decode cX10_dials 10 = .ok (.sipush 990, 3) := by decide +kernel
theorem dX10_dials_13 : decode cX10_dials 13 = .ok (.invokevirtual 109, 3) := by decide +kernel
theorem dX10_dials_16 : decode cX10_dials 16 = .ok (.aload_n 0, 1) := by decide +kernel
theorem dX10_dials_17 : decode cX10_dials 17 = .ok (.getfield 19, 3) := by decide +kernel
theorem dX10_dials_20 : decode cX10_dials 20 = .ok (.aload_n 0, 1) := by decide +kernel
theorem dX10_dials_21 : decode cX10_dials 21 = .ok (.getfield 106, 3) := by decide +kernel
theorem dX10_dials_24 : decode cX10_dials 24 = .ok (.iload_n 2, 1) := by decide +kernel
theorem dX10_dials_25 : decode cX10_dials 25 = .ok (.iastore, 1) := by decide +kernel
theorem dX10_dials_26 : decode cX10_dials 26 = .ok (.aload_n 0, 1) := by decide +kernel
theorem dX10_dials_27 : decode cX10_dials 27 = .ok (.dup, 1) := by decide +kernel
theorem dX10_dials_28 : decode cX10_dials 28 = .ok (.getfield 106, 3) := by decide +kernel
theorem dX10_dials_31 : decode cX10_dials 31 = .ok (.iconst 1, 1) := by decide +kernel
theorem dX10_dials_32 : decode cX10_dials 32 = .ok (.iadd, 1) := by decide +kernel
theorem dX10_dials_33 : decode cX10_dials 33 = .ok (.putfield 106, 3) := by decide +kernel
theorem dX10_dials_36 : decode cX10_dials 36 = .ok (.aload_n 0, 1) := by decide +kernel
theorem dX10_dials_37 : decode cX10_dials 37 = .ok (.iload_n 1, 1) := by decide +kernel
theorem dX10_dials_38 : decode cX10_dials 38 = .ok (.invokevirtual 109, 3) := by decide +kernel
theorem dX10_dials_41 : decode cX10_dials 41 = .ok (.return_, 1) := by decide +kernel
theorem dX10_begins_0 : decode cX10_begins 0 = .ok (.iload_n 1, 1) := by decide +kernel
theorem dX10_begins_1 : decode cX10_begins 1 = .ok (.invokestatic 103, 3) := by decide +kernel
theorem dX10_begins_4 : decode cX10_begins 4 = .ok (.istore_n 2, 1) := by decide +kernel
theorem dX10_begins_5 : decode cX10_begins 5 = .ok (.iload_n 1, 1) := by decide +kernel
theorem dX10_begins_6 : decode cX10_begins 6 = .ok (.istore_n 3, 1) := by decide +kernel
theorem dX10_begins_7 : decode cX10_begins 7 = .ok (.iload_n 2, 1) := by decide +kernel
theorem dX10_begins_8 : decode cX10_begins 8 = .ok (.aload_n 0, 1) := by decide +kernel
theorem dX10_begins_9 : decode cX10_begins 9 = .ok (.getfield 106, 3) := by decide +kernel
theorem dX10_begins_12 : decode cX10_begins 12 = .ok (.if_icmp .gt 7, 3) := by decide +kernel
theorem dX10_begins_15 : decode cX10_begins 15 = .ok (.iconst 1, 1) := by decide +kernel
theorem dX10_begins_16 : decode cX10_begins 16 = .ok (.goto 4, 3) := by decide +kernel
theorem dX10_begins_19 : decode cX10_begins 19 = .ok (.iconst 0, 1) := by decide +kernel
theorem dX10_begins_20 : decode cX10_begins 20 = .ok (.istore 4, 2) := by decide +kernel
theorem dX10_begins_22 : decode cX10_begins 22 = .ok (.iload_n 2, 1) := by decide +kernel
theorem dX10_begins_23 : decode cX10_begins 23 = .ok (.iconst 1, 1) := by decide +kernel
theorem dX10_begins_24 : decode cX10_begins 24 = .ok (.isub, 1) := by decide +kernel
theorem dX10_begins_25 : decode cX10_begins 25 = .ok (.istore 5, 2) := by decide +kernel
theorem dX10_begins_27 : decode cX10_begins 27 = .ok (.iload 5, 2) := by decide +kernel
theorem dX10_begins_29 : decode cX10_begins 29 = .ok (.ifCond .lt 40, 3) := by decide +kernel
theorem dX10_begins_32 : decode cX10_begins 32 = .ok (.iload 4, 2) := by decide +kernel
theorem dX10_begins_34 : decode cX10_begins 34 = .ok (.ifCond .eq 35, 3) := by decide +kernel
theorem dX10_begins_37 : decode cX10_begins 37 = .ok (.aload_n 0, 1) := by decide +kernel
theorem dX10_begins_38 : decode cX10_begins 38 = .ok (.getfield 19, 3) := by decide +kernel
theorem dX10_begins_41 : decode cX10_begins 41 = .ok (.iload 5, 2) := by decide +kernel
theorem dX10_begins_43 : decode cX10_begins 43 = .ok (.iaload, 1) := by decide +kernel
theorem dX10_begins_44 : decode cX10_begins 44 = .ok (.iload_n 3, 1) := by decide +kernel
theorem dX10_begins_45 : decode cX10_begins 45 = .ok (.bipush 10, 2) := by decide +kernel
theorem dX10_begins_47 : decode cX10_begins 47 = .ok (.irem, 1) := by decide +kernel
theorem dX10_begins_48 : decode cX10_begins 48 = .ok (.if_icmp .ne 7, 3) := by decide +kernel
theorem dX10_begins_51 : decode cX10_begins 51 = .ok (.iconst 1, 1) := by decide +kernel
theorem dX10_begins_52 : decode cX10_begins 52 = .ok (.goto 4, 3) := by decide +kernel
theorem dX10_begins_55 : decode cX10_begins 55 = .ok (.iconst 0, 1) := by decide +kernel
theorem dX10_begins_56 : decode cX10_begins 56 = .ok (.istore 4, 2) := by decide +kernel
theorem dX10_begins_58 : decode cX10_begins 58 = .ok (.iload_n 3, 1) := by decide +kernel
theorem dX10_begins_59 : decode cX10_begins 59 = .ok (.bipush 10, 2) := by decide +kernel
theorem dX10_begins_61 : decode cX10_begins 61 = .ok (.idiv, 1) := by decide +kernel
theorem dX10_begins_62 : decode cX10_begins 62 = .ok (.istore_n 3, 1) := by decide +kernel
theorem dX10_begins_63 : decode cX10_begins 63 = .ok (.iinc 5 (-1), 3) := by decide +kernel
theorem dX10_begins_66 : decode cX10_begins 66 = .ok (.goto (-39), 3) := by decide +kernel
theorem dX10_begins_69 : decode cX10_begins 69 = .ok (.iload 4, 2) := by decide +kernel
theorem dX10_begins_71 : decode cX10_begins 71 = .ok (.ireturn, 1) := by decide +kernel
theorem dX10_bandOf_0 : decode cX10_bandOf 0 = .ok (.iload_n 1, 1) := by decide +kernel
theorem dX10_bandOf_1 : decode cX10_bandOf 1 = .ok (.sipush 10080, 3) := by decide +kernel
theorem dX10_bandOf_4 : decode cX10_bandOf 4 = .ok (.irem, 1) := by decide +kernel
theorem dX10_bandOf_5 : decode cX10_bandOf 5 = .ok (.istore_n 2, 1) := by decide +kernel
theorem dX10_bandOf_6 : decode cX10_bandOf 6 = .ok (.iload_n 2, 1) := by decide +kernel
theorem dX10_bandOf_7 : decode cX10_bandOf 7 = .ok (.sipush 7200, 3) := by decide +kernel
theorem dX10_bandOf_10 : decode cX10_bandOf 10 = .ok (.if_icmp .lt 7, 3) := by decide +kernel
theorem dX10_bandOf_13 : decode cX10_bandOf 13 = .ok (.iconst 2, 1) := by decide +kernel
theorem dX10_bandOf_14 : decode cX10_bandOf 14 = .ok (.goto 25, 3) := by decide +kernel
theorem dX10_bandOf_17 : decode cX10_bandOf 17 = .ok (.iload_n 2, 1) := by decide +kernel
theorem dX10_bandOf_18 : decode cX10_bandOf 18 = .ok (.sipush 1440, 3) := by decide +kernel
theorem dX10_bandOf_21 : decode cX10_bandOf 21 = .ok (.irem, 1) := by decide +kernel
theorem dX10_bandOf_22 : decode cX10_bandOf 22 = .ok (.sipush 480, 3) := by decide +kernel
theorem dX10_bandOf_25 : decode cX10_bandOf 25 = .ok (.sipush 1199, 3) := by decide +kernel
theorem dX10_bandOf_28 : decode cX10_bandOf 28 = .ok (.invokestatic 66, 3) := by decide +kernel
theorem dX10_bandOf_31 : decode cX10_bandOf 31 = .ok (.ifCond .eq 7, 3) := by decide +kernel
theorem dX10_bandOf_34 : decode cX10_bandOf 34 = .ok (.iconst 0, 1) := by decide +kernel
theorem dX10_bandOf_35 : decode cX10_bandOf 35 = .ok (.goto 4, 3) := by decide +kernel
theorem dX10_bandOf_38 : decode cX10_bandOf 38 = .ok (.iconst 1, 1) := by decide +kernel
theorem dX10_bandOf_39 : decode cX10_bandOf 39 = .ok (.ireturn, 1) := by decide +kernel
theorem dX10_gathers_0 : decode cX10_gathers 0 = .ok (.iconst (-1), 1) := by decide +kernel
theorem dX10_gathers_1 : decode cX10_gathers 1 = .ok (.istore_n 3, 1) := by decide +kernel
theorem dX10_gathers_2 : decode cX10_gathers 2 = .ok (.iconst 0, 1) := by decide +kernel
theorem dX10_gathers_3 : decode cX10_gathers 3 = .ok (.istore 4, 2) := by decide +kernel
theorem dX10_gathers_5 : decode cX10_gathers 5 = .ok (.iload 4, 2) := by decide +kernel
theorem dX10_gathers_7 : decode cX10_gathers 7 = .ok (.aload_n 0, 1) := by decide +kernel
theorem dX10_gathers_8 : decode cX10_gathers 8 = .ok (.getfield 7, 3) := by decide +kernel
theorem dX10_gathers_11 : decode cX10_gathers 11 = .ok (.iconst 1, 1) := by decide +kernel
theorem dX10_gathers_12 : decode cX10_gathers 12 = .ok (.iaload, 1) := by decide +kernel
theorem dX10_gathers_13 : decode cX10_gathers 13 = .ok (.if_icmp .ge 59, 3) := by decide +kernel
theorem dX10_gathers_16 : decode cX10_gathers 16 = .ok (.aload_n 0, 1) := by decide +kernel
theorem dX10_gathers_17 : decode cX10_gathers 17 = .ok (.iload 4, 2) := by decide +kernel
theorem dX10_gathers_19 : decode cX10_gathers 19 = .ok (.iconst 1, 1) := by decide +kernel
theorem dX10_gathers_20 : decode cX10_gathers 20 = .ok (.invokevirtual 71, 3) := by decide +kernel
theorem dX10_gathers_23 : decode cX10_gathers 23 = .ok (.invokestatic 103, 3) := by decide +kernel
theorem dX10_gathers_26 : decode cX10_gathers 26 = .ok (.istore 5, 2) := by decide +kernel
theorem dX10_gathers_28 : decode cX10_gathers 28 = .ok (.aload_n 0, 1) := by decide +kernel
theorem dX10_gathers_29 : decode cX10_gathers 29 = .ok (.iload 4, 2) := by decide +kernel
theorem dX10_gathers_31 : decode cX10_gathers 31 = .ok (.iconst 0, 1) := by decide +kernel
theorem dX10_gathers_32 : decode cX10_gathers 32 = .ok (.invokevirtual 71, 3) := by decide +kernel
theorem dX10_gathers_35 : decode cX10_gathers 35 = .ok (.iload_n 1, 1) := by decide +kernel
theorem dX10_gathers_36 : decode cX10_gathers 36 = .ok (.if_icmp .ne 28, 3) := by decide +kernel
theorem dX10_gathers_39 : decode cX10_gathers 39 = .ok (.aload_n 0, 1) := by decide +kernel
theorem dX10_gathers_40 : decode cX10_gathers 40 = .ok (.aload_n 0, 1) := by decide +kernel
theorem dX10_gathers_41 : decode cX10_gathers 41 = .ok (.iload 4, 2) := by decide +kernel
theorem dX10_gathers_43 : decode cX10_gathers 43 = .ok (.iconst 1, 1) := by decide +kernel
theorem dX10_gathers_44 : decode cX10_gathers 44 = .ok (.invokevirtual 71, 3) := by decide +kernel
theorem dX10_gathers_47 : decode cX10_gathers 47 = .ok (.invokevirtual 113, 3) := by decide +kernel
theorem dX10_gathers_50 : decode cX10_gathers 50 = .ok (.ifCond .eq 14, 3) := by decide +kernel
theorem dX10_gathers_53 : decode cX10_gathers 53 = .ok (.iload 5, 2) := by decide +kernel
theorem dX10_gathers_55 : decode cX10_gathers 55 = .ok (.iload_n 3, 1) := by decide +kernel
theorem dX10_gathers_56 : decode cX10_gathers 56 = .ok (.if_icmp .le 8, 3) := by decide +kernel
theorem dX10_gathers_59 : decode cX10_gathers 59 = .ok (.iload 5, 2) := by decide +kernel
theorem dX10_gathers_61 : decode cX10_gathers 61 = .ok (.goto 4, 3) := by decide +kernel
theorem dX10_gathers_64 : decode cX10_gathers 64 = .ok (.iload_n 3, 1) := by decide +kernel
theorem dX10_gathers_65 : decode cX10_gathers 65 = .ok (.istore_n 3, 1) := by decide +kernel
theorem dX10_gathers_66 : decode cX10_gathers 66 = .ok (.iinc 4 1, 3) := by decide +kernel
theorem dX10_gathers_69 : decode cX10_gathers 69 = .ok (.goto (-64), 3) := by decide +kernel
theorem dX10_gathers_72 : decode cX10_gathers 72 = .ok (.aload_n 0, 1) := by decide +kernel
theorem dX10_gathers_73 : decode cX10_gathers 73 = .ok (.aload_n 0, 1) := by decide +kernel
theorem dX10_gathers_74 : decode cX10_gathers 74 = .ok (.getfield 7, 3) := by decide +kernel
theorem dX10_gathers_77 : decode cX10_gathers 77 = .ok (.iconst 4, 1) := by decide +kernel
theorem dX10_gathers_78 : decode cX10_gathers 78 = .ok (.iaload, 1) := by decide +kernel
theorem dX10_gathers_79 : decode cX10_gathers 79 = .ok (.invokevirtual 116, 3) := by decide +kernel
theorem dX10_gathers_82 : decode cX10_gathers 82 = .ok (.istore 4, 2) := by decide +kernel
theorem dX10_gathers_84 : decode cX10_gathers 84 = .ok (.iconst 0, 1) := by decide +kernel
theorem dX10_gathers_85 : decode cX10_gathers 85 = .ok (.istore 5, 2) := by decide +kernel
theorem dX10_gathers_87 : decode cX10_gathers 87 = .ok (.iconst 0, 1) := by decide +kernel
theorem dX10_gathers_88 : decode cX10_gathers 88 = .ok (.istore 6, 2) := by decide +kernel
theorem dX10_gathers_90 : decode cX10_gathers 90 = .ok (.iload 6, 2) := by decide +kernel
theorem dX10_gathers_92 : decode cX10_gathers 92 = .ok (.aload_n 0, 1) := by decide +kernel
theorem dX10_gathers_93 : decode cX10_gathers 93 = .ok (.getfield 7, 3) := by decide +kernel
theorem dX10_gathers_96 : decode cX10_gathers 96 = .ok (.iconst 1, 1) := by decide +kernel
theorem dX10_gathers_97 : decode cX10_gathers 97 = .ok (.iaload, 1) := by decide +kernel
theorem dX10_gathers_98 : decode cX10_gathers 98 = .ok (.if_icmp .ge 129, 3) := by decide +kernel
theorem dX10_gathers_101 : decode cX10_gathers 101 = .ok (.aload_n 0, 1) := by decide +kernel
theorem dX10_gathers_102 : decode cX10_gathers 102 = .ok (.iload 6, 2) := by decide +kernel
theorem dX10_gathers_104 : decode cX10_gathers 104 = .ok (.iconst 0, 1) := by decide +kernel
theorem dX10_gathers_105 : decode cX10_gathers 105 = .ok (.invokevirtual 71, 3) := by decide +kernel
theorem dX10_gathers_108 : decode cX10_gathers 108 = .ok (.iload_n 1, 1) := by decide +kernel
theorem dX10_gathers_109 : decode cX10_gathers 109 = .ok (.if_icmp .ne 112, 3) := by decide +kernel
theorem dX10_gathers_112 : decode cX10_gathers 112 = .ok (.aload_n 0, 1) := by decide +kernel
theorem dX10_gathers_113 : decode cX10_gathers 113 = .ok (.aload_n 0, 1) := by decide +kernel
theorem dX10_gathers_114 : decode cX10_gathers 114 = .ok (.iload 6, 2) := by decide +kernel
theorem dX10_gathers_116 : decode cX10_gathers 116 = .ok (.iconst 1, 1) := by decide +kernel
theorem dX10_gathers_117 : decode cX10_gathers 117 = .ok (.invokevirtual 71, 3) := by decide +kernel
theorem dX10_gathers_120 : decode cX10_gathers 120 = .ok (.invokevirtual 113, 3) := by decide +kernel
theorem dX10_gathers_123 : decode cX10_gathers 123 = .ok (.ifCond .eq 98, 3) := by decide +kernel
theorem dX10_gathers_126 : decode cX10_gathers 126 = .ok (.aload_n 0, 1) := by decide +kernel
theorem dX10_gathers_127 : decode cX10_gathers 127 = .ok (.iload 6, 2) := by decide +kernel
theorem dX10_gathers_129 : decode cX10_gathers 129 = .ok (.iconst 1, 1) := by decide +kernel
theorem dX10_gathers_130 : decode cX10_gathers 130 = .ok (.invokevirtual 71, 3) := by decide +kernel
theorem dX10_gathers_133 : decode cX10_gathers 133 = .ok (.invokestatic 103, 3) := by decide +kernel
theorem dX10_gathers_136 : decode cX10_gathers 136 = .ok (.iload_n 3, 1) := by decide +kernel
theorem dX10_gathers_137 : decode cX10_gathers 137 = .ok (.if_icmp .ne 84, 3) := by decide +kernel
theorem dX10_gathers_140 : decode cX10_gathers 140 = .ok (.iload 5, 2) := by decide +kernel
theorem dX10_gathers_142 : decode cX10_gathers 142 = .ok (.istore 7, 2) := by decide +kernel
theorem dX10_gathers_144 : decode cX10_gathers 144 = .ok (.iload 7, 2) := by decide +kernel
theorem dX10_gathers_146 : decode cX10_gathers 146 = .ok (.ifCond .le 61, 3) := by decide +kernel
theorem dX10_gathers_149 : decode cX10_gathers 149 = .ok (.aload_n 0, 1) := by decide +kernel
theorem dX10_gathers_150 : decode cX10_gathers 150 = .ok (.aload_n 0, 1) := by decide +kernel
theorem dX10_gathers_151 : decode cX10_gathers 151 = .ok (.getfield 28, 3) := by decide +kernel
theorem dX10_gathers_154 : decode cX10_gathers 154 = .ok (.iload_n 2, 1) := by decide +kernel
theorem dX10_gathers_155 : decode cX10_gathers 155 = .ok (.iload 7, 2) := by decide +kernel
theorem dX10_gathers_157 : decode cX10_gathers 157 = .ok (.iadd, 1) := by decide +kernel
theorem dX10_gathers_158 : decode cX10_gathers 158 = .ok (.iconst 1, 1) := by decide +kernel
theorem dX10_gathers_159 : decode cX10_gathers 159 = .ok (.isub, 1) := by decide +kernel
theorem dX10_gathers_160 : decode cX10_gathers 160 = .ok (.iaload, 1) := by decide +kernel
theorem dX10_gathers_161 : decode cX10_gathers 161 = .ok (.iconst 3, 1) := by decide +kernel
theorem dX10_gathers_162 : decode cX10_gathers 162 = .ok (.iload 4, 2) := by decide +kernel
theorem dX10_gathers_164 : decode cX10_gathers 164 = .ok (.iadd, 1) := by decide +kernel
theorem dX10_gathers_165 : decode cX10_gathers 165 = .ok (.invokevirtual 71, 3) := by decide +kernel
theorem dX10_gathers_168 : decode cX10_gathers 168 = .ok (.aload_n 0, 1) := by decide +kernel
theorem dX10_gathers_169 : decode cX10_gathers 169 = .ok (.iload 6, 2) := by decide +kernel
theorem dX10_gathers_171 : decode cX10_gathers 171 = .ok (.iconst 3, 1) := by decide +kernel
theorem dX10_gathers_172 : decode cX10_gathers 172 = .ok (.iload 4, 2) := by decide +kernel
theorem dX10_gathers_174 : decode cX10_gathers 174 = .ok (.iadd, 1) := by decide +kernel
theorem dX10_gathers_175 : decode cX10_gathers 175 = .ok (.invokevirtual 71, 3) := by decide +kernel
theorem dX10_gathers_178 : decode cX10_gathers 178 = .ok (.if_icmp .le 29, 3) := by decide +kernel
theorem dX10_gathers_181 : decode cX10_gathers 181 = .ok (.aload_n 0, 1) := by decide +kernel
theorem dX10_gathers_182 : decode cX10_gathers 182 = .ok (.getfield 28, 3) := by decide +kernel
theorem dX10_gathers_185 : decode cX10_gathers 185 = .ok (.iload_n 2, 1) := by decide +kernel
theorem dX10_gathers_186 : decode cX10_gathers 186 = .ok (.iload 7, 2) := by decide +kernel
theorem dX10_gathers_188 : decode cX10_gathers 188 = .ok (.iadd, 1) := by decide +kernel
theorem dX10_gathers_189 : decode cX10_gathers 189 = .ok (.aload_n 0, 1) := by decide +kernel
theorem dX10_gathers_190 : decode cX10_gathers 190 = .ok (.getfield 28, 3) := by decide +kernel
theorem dX10_gathers_193 : decode cX10_gathers 193 = .ok (.iload_n 2, 1) := by decide +kernel
theorem dX10_gathers_194 : decode cX10_gathers 194 = .ok (.iload 7, 2) := by decide +kernel
theorem dX10_gathers_196 : decode cX10_gathers 196 = .ok (.iadd, 1) := by decide +kernel
theorem dX10_gathers_197 : decode cX10_gathers 197 = .ok (.iconst 1, 1) := by decide +kernel
theorem dX10_gathers_198 : decode cX10_gathers 198 = .ok (.isub, 1) := by decide +kernel
theorem dX10_gathers_199 : decode cX10_gathers 199 = .ok (.iaload, 1) := by decide +kernel
theorem dX10_gathers_200 : decode cX10_gathers 200 = .ok (.iastore, 1) := by decide +kernel
theorem dX10_gathers_201 : decode cX10_gathers 201 = .ok (.iinc 7 (-1), 3) := by decide +kernel
theorem dX10_gathers_204 : decode cX10_gathers 204 = .ok (.goto (-60), 3) := by decide +kernel
theorem dX10_gathers_207 : decode cX10_gathers 207 = .ok (.aload_n 0, 1) := by decide +kernel
theorem dX10_gathers_208 : decode cX10_gathers 208 = .ok (.getfield 28, 3) := by decide +kernel
theorem dX10_gathers_211 : decode cX10_gathers 211 = .ok (.iload_n 2, 1) := by decide +kernel
theorem dX10_gathers_212 : decode cX10_gathers 212 = .ok (.iload 7, 2) := by decide +kernel
theorem dX10_gathers_214 : decode cX10_gathers 214 = .ok (.iadd, 1) := by decide +kernel
theorem dX10_gathers_215 : decode cX10_gathers 215 = .ok (.iload 6, 2) := by decide +kernel
theorem dX10_gathers_217 : decode cX10_gathers 217 = .ok (.iastore, 1) := by decide +kernel
theorem dX10_gathers_218 : decode cX10_gathers 218 = .ok (.iinc 5 1, 3) := by decide +kernel
theorem dX10_gathers_221 : decode cX10_gathers 221 = .ok (.iinc 6 1, 3) := by decide +kernel
theorem dX10_gathers_224 : decode cX10_gathers 224 = .ok (.goto (-134), 3) := by decide +kernel
theorem dX10_gathers_227 : decode cX10_gathers 227 = .ok (.iload 5, 2) := by decide +kernel
theorem dX10_gathers_229 : decode cX10_gathers 229 = .ok (.ireturn, 1) := by decide +kernel
theorem dX10_isBusy_0 : decode cX10_isBusy 0 = .ok (.iconst 0, 1) := by decide +kernel
theorem dX10_isBusy_1 : decode cX10_isBusy 1 = .ok (.istore_n 2, 1) := by decide +kernel
theorem dX10_isBusy_2 : decode cX10_isBusy 2 = .ok (.iconst 0, 1) := by decide +kernel
theorem dX10_isBusy_3 : decode cX10_isBusy 3 = .ok (.istore_n 3, 1) := by decide +kernel
theorem dX10_isBusy_4 : decode cX10_isBusy 4 = .ok (.iload_n 3, 1) := by decide +kernel
theorem dX10_isBusy_5 : decode cX10_isBusy 5 = .ok (.bipush 10, 2) := by decide +kernel
theorem dX10_isBusy_7 : decode cX10_isBusy 7 = .ok (.if_icmp .ge 55, 3) := by decide +kernel
theorem dX10_isBusy_10 : decode cX10_isBusy 10 = .ok (.iload_n 2, 1) := by decide +kernel
theorem dX10_isBusy_11 : decode cX10_isBusy 11 = .ok (.ifCond .ne 39, 3) := by decide +kernel
theorem dX10_isBusy_14 : decode cX10_isBusy 14 = .ok (.aload_n 0, 1) := by decide +kernel
theorem dX10_isBusy_15 : decode cX10_isBusy 15 = .ok (.getfield 7, 3) := by decide +kernel
theorem dX10_isBusy_18 : decode cX10_isBusy 18 = .ok (.sipush 420, 3) := by decide +kernel
theorem dX10_isBusy_21 : decode cX10_isBusy 21 = .ok (.bipush 14, 2) := by decide +kernel
theorem dX10_isBusy_23 : decode cX10_isBusy 23 = .ok (.iload_n 3, 1) := by decide +kernel
theorem dX10_isBusy_24 : decode cX10_isBusy 24 = .ok (.imul, 1) := by decide +kernel
theorem dX10_isBusy_25 : decode cX10_isBusy 25 = .ok (.iadd, 1) := by decide +kernel
theorem dX10_isBusy_26 : decode cX10_isBusy 26 = .ok (.iaload, 1) := by decide +kernel
theorem dX10_isBusy_27 : decode cX10_isBusy 27 = .ok (.iconst 1, 1) := by decide +kernel
theorem dX10_isBusy_28 : decode cX10_isBusy 28 = .ok (.if_icmp .ne 26, 3) := by decide +kernel
theorem dX10_isBusy_31 : decode cX10_isBusy 31 = .ok (.aload_n 0, 1) := by decide +kernel
theorem dX10_isBusy_32 : decode cX10_isBusy 32 = .ok (.getfield 7, 3) := by decide +kernel
theorem dX10_isBusy_35 : decode cX10_isBusy 35 = .ok (.sipush 420, 3) := by decide +kernel
theorem dX10_isBusy_38 : decode cX10_isBusy 38 = .ok (.bipush 14, 2) := by decide +kernel
theorem dX10_isBusy_40 : decode cX10_isBusy 40 = .ok (.iload_n 3, 1) := by decide +kernel
theorem dX10_isBusy_41 : decode cX10_isBusy 41 = .ok (.imul, 1) := by decide +kernel
theorem dX10_isBusy_42 : decode cX10_isBusy 42 = .ok (.iadd, 1) := by decide +kernel
theorem dX10_isBusy_43 : decode cX10_isBusy 43 = .ok (.iconst 1, 1) := by decide +kernel
theorem dX10_isBusy_44 : decode cX10_isBusy 44 = .ok (.iadd, 1) := by decide +kernel
theorem dX10_isBusy_45 : decode cX10_isBusy 45 = .ok (.iaload, 1) := by decide +kernel
theorem dX10_isBusy_46 : decode cX10_isBusy 46 = .ok (.iload_n 1, 1) := by decide +kernel
theorem dX10_isBusy_47 : decode cX10_isBusy 47 = .ok (.if_icmp .ne 7, 3) := by decide +kernel
theorem dX10_isBusy_50 : decode cX10_isBusy 50 = .ok (.iconst 1, 1) := by decide +kernel
theorem dX10_isBusy_51 : decode cX10_isBusy 51 = .ok (.goto 4, 3) := by decide +kernel
theorem dX10_isBusy_54 : decode cX10_isBusy 54 = .ok (.iconst 0, 1) := by decide +kernel
theorem dX10_isBusy_55 : decode cX10_isBusy 55 = .ok (.istore_n 2, 1) := by decide +kernel
theorem dX10_isBusy_56 : decode cX10_isBusy 56 = .ok (.iinc 3 1, 3) := by decide +kernel
theorem dX10_isBusy_59 : decode cX10_isBusy 59 = .ok (.goto (-55), 3) := by decide +kernel
theorem dX10_isBusy_62 : decode cX10_isBusy 62 = .ok (.iload_n 2, 1) := by decide +kernel
theorem dX10_isBusy_63 : decode cX10_isBusy 63 = .ok (.ireturn, 1) := by decide +kernel
theorem dX10_arrives_0 : decode cX10_arrives 0 = .ok (.aload_n 0, 1) := by decide +kernel
theorem dX10_arrives_1 : decode cX10_arrives 1 = .ok (.getfield 119, 3) := by decide +kernel
theorem dX10_arrives_4 : decode cX10_arrives 4 = .ok (.iconst 1, 1) := by decide +kernel
theorem dX10_arrives_5 : decode cX10_arrives 5 = .ok (.iadd, 1) := by decide +kernel
theorem dX10_arrives_6 : decode cX10_arrives 6 = .ok (.istore 4, 2) := by decide +kernel
theorem dX10_arrives_8 : decode cX10_arrives 8 = .ok (.iconst 0, 1) := by decide +kernel
theorem dX10_arrives_9 : decode cX10_arrives 9 = .ok (.istore 5, 2) := by decide +kernel
theorem dX10_arrives_11 : decode cX10_arrives 11 = .ok (.iload 5, 2) := by decide +kernel
theorem dX10_arrives_13 : decode cX10_arrives 13 = .ok (.iload 4, 2) := by decide +kernel
theorem dX10_arrives_15 : decode cX10_arrives 15 = .ok (.if_icmp .ge 22, 3) := by decide +kernel
theorem dX10_arrives_18 : decode cX10_arrives 18 = .ok (.aload_n 0, 1) := by decide +kernel
theorem dX10_arrives_19 : decode cX10_arrives 19 = .ok (.getfield 22, 3) := by decide +kernel
theorem dX10_arrives_22 : decode cX10_arrives 22 = .ok (.iload 5, 2) := by decide +kernel
theorem dX10_arrives_24 : decode cX10_arrives 24 = .ok (.iaload, 1) := by decide +kernel
theorem dX10_arrives_25 : decode cX10_arrives 25 = .ok (.iload_n 1, 1) := by decide +kernel
theorem dX10_arrives_26 : decode cX10_arrives 26 = .ok (.if_icmp .ne 5, 3) := by decide +kernel
theorem dX10_arrives_29 : decode cX10_arrives 29 = .ok (.iconst 3, 1) := by decide +kernel
theorem dX10_arrives_30 : decode cX10_arrives 30 = .ok (.ireturn, 1) := by decide +kernel
theorem dX10_arrives_31 : decode cX10_arrives 31 = .ok (.iinc 5 1, 3) := by decide +kernel
theorem dX10_arrives_34 : decode cX10_arrives 34 = .ok (.goto (-23), 3) := by decide +kernel
theorem dX10_arrives_37 : decode cX10_arrives 37 = .ok (.iload 4, 2) := by decide +kernel
theorem dX10_arrives_39 : decode cX10_arrives 39 = .ok (.aload_n 0, 1) := by decide +kernel
theorem dX10_arrives_40 : decode cX10_arrives 40 = .ok (.getfield 7, 3) := by decide +kernel
theorem dX10_arrives_43 : decode cX10_arrives 43 = .ok (.iconst 3, 1) := by decide +kernel
theorem dX10_arrives_44 : decode cX10_arrives 44 = .ok (.iaload, 1) := by decide +kernel
theorem dX10_arrives_45 : decode cX10_arrives 45 = .ok (.if_icmp .ne 5, 3) := by decide +kernel
theorem dX10_arrives_48 : decode cX10_arrives 48 = .ok (.iconst 4, 1) := by decide +kernel
theorem dX10_arrives_49 : decode cX10_arrives 49 = .ok (.ireturn, 1) := by decide +kernel
theorem dX10_arrives_50 : decode cX10_arrives 50 = .ok (.iload_n 3, 1) := by decide +kernel
theorem dX10_arrives_51 : decode cX10_arrives 51 = .ok (.istore 5, 2) := by decide +kernel
theorem dX10_arrives_53 : decode cX10_arrives 53 = .ok (.aload_n 0, 1) := by decide +kernel
theorem dX10_arrives_54 : decode cX10_arrives 54 = .ok (.iload_n 2, 1) := by decide +kernel
theorem dX10_arrives_55 : decode cX10_arrives 55 = .ok (.invokevirtual 93, 3) := by decide +kernel
theorem dX10_arrives_58 : decode cX10_arrives 58 = .ok (.istore 6, 2) := by decide +kernel
theorem dX10_arrives_60 : decode cX10_arrives 60 = .ok (.iload 5, 2) := by decide +kernel
theorem dX10_arrives_62 : decode cX10_arrives 62 = .ok (.ifCond .ge 38, 3) := by decide +kernel
theorem dX10_arrives_65 : decode cX10_arrives 65 = .ok (.aload_n 0, 1) := by decide +kernel
theorem dX10_arrives_66 : decode cX10_arrives 66 = .ok (.getfield 7, 3) := by decide +kernel
theorem dX10_arrives_69 : decode cX10_arrives 69 = .ok (.bipush 10, 2) := by decide +kernel
theorem dX10_arrives_71 : decode cX10_arrives 71 = .ok (.iload_n 1, 1) := by decide +kernel
theorem dX10_arrives_72 : decode cX10_arrives 72 = .ok (.iadd, 1) := by decide +kernel
theorem dX10_arrives_73 : decode cX10_arrives 73 = .ok (.iaload, 1) := by decide +kernel
theorem dX10_arrives_74 : decode cX10_arrives 74 = .ok (.iconst 1, 1) := by decide +kernel
theorem dX10_arrives_75 : decode cX10_arrives 75 = .ok (.if_icmp .ne 25, 3) := by decide +kernel
theorem dX10_arrives_78 : decode cX10_arrives 78 = .ok (.iload 6, 2) := by decide +kernel
theorem dX10_arrives_80 : decode cX10_arrives 80 = .ok (.ifCond .lt 20, 3) := by decide +kernel
theorem dX10_arrives_83 : decode cX10_arrives 83 = .ok (.aload_n 0, 1) := by decide +kernel
theorem dX10_arrives_84 : decode cX10_arrives 84 = .ok (.getfield 7, 3) := by decide +kernel
theorem dX10_arrives_87 : decode cX10_arrives 87 = .ok (.sipush 350, 3) := by decide +kernel
theorem dX10_arrives_90 : decode cX10_arrives 90 = .ok (.iconst 2, 1) := by decide +kernel
theorem dX10_arrives_91 : decode cX10_arrives 91 = .ok (.iload 6, 2) := by decide +kernel
theorem dX10_arrives_93 : decode cX10_arrives 93 = .ok (.imul, 1) := by decide +kernel
theorem dX10_arrives_94 : decode cX10_arrives 94 = .ok (.iadd, 1) := by decide +kernel
theorem dX10_arrives_95 : decode cX10_arrives 95 = .ok (.iconst 1, 1) := by decide +kernel
theorem dX10_arrives_96 : decode cX10_arrives 96 = .ok (.iadd, 1) := by decide +kernel
theorem dX10_arrives_97 : decode cX10_arrives 97 = .ok (.iaload, 1) := by decide +kernel
theorem dX10_arrives_98 : decode cX10_arrives 98 = .ok (.istore 5, 2) := by decide +kernel
theorem dX10_arrives_100 : decode cX10_arrives 100 = .ok (.iload 5, 2) := by decide +kernel
theorem dX10_arrives_102 : decode cX10_arrives 102 = .ok (.iload_n 1, 1) := by decide +kernel
theorem dX10_arrives_103 : decode cX10_arrives 103 = .ok (.if_icmp .ne 5, 3) := by decide +kernel
theorem dX10_arrives_106 : decode cX10_arrives 106 = .ok (.iconst 0, 1) := by decide +kernel
theorem dX10_arrives_107 : decode cX10_arrives 107 = .ok (.ireturn, 1) := by decide +kernel
theorem dX10_arrives_108 : decode cX10_arrives 108 = .ok (.aload_n 0, 1) := by decide +kernel
theorem dX10_arrives_109 : decode cX10_arrives 109 = .ok (.iload_n 2, 1) := by decide +kernel
theorem dX10_arrives_110 : decode cX10_arrives 110 = .ok (.iload 5, 2) := by decide +kernel
theorem dX10_arrives_112 : decode cX10_arrives 112 = .ok (.invokevirtual 122, 3) := by decide +kernel
theorem dX10_arrives_115 : decode cX10_arrives 115 = .ok (.aload_n 0, 1) := by decide +kernel
theorem dX10_arrives_116 : decode cX10_arrives 116 = .ok (.iload_n 1, 1) := by decide +kernel
theorem dX10_arrives_117 : decode cX10_arrives 117 = .ok (.bipush 40, 2) := by decide +kernel
theorem dX10_arrives_119 : decode cX10_arrives 119 = .ok (.iload 4, 2) := by decide +kernel
theorem dX10_arrives_121 : decode cX10_arrives 121 = .ok (.imul, 1) := by decide +kernel
theorem dX10_arrives_122 : decode cX10_arrives 122 = .ok (.invokevirtual 126, 3) := by decide +kernel
theorem dX10_arrives_125 : decode cX10_arrives 125 = .ok (.istore 7, 2) := by decide +kernel
theorem dX10_arrives_127 : decode cX10_arrives 127 = .ok (.iload 7, 2) := by decide +kernel
theorem dX10_arrives_129 : decode cX10_arrives 129 = .ok (.ifCond .ne 5, 3) := by decide +kernel
theorem dX10_arrives_132 : decode cX10_arrives 132 = .ok (.iconst 1, 1) := by decide +kernel
theorem dX10_arrives_133 : decode cX10_arrives 133 = .ok (.ireturn, 1) := by decide +kernel
theorem dX10_arrives_134 : decode cX10_arrives 134 = .ok (.aload_n 0, 1) := by decide +kernel
theorem dX10_arrives_135 : decode cX10_arrives 135 = .ok (.iload 4, 2) := by decide +kernel
theorem dX10_arrives_137 : decode cX10_arrives 137 = .ok (.putfield 119, 3) := by decide +kernel
theorem dX10_arrives_140 : decode cX10_arrives 140 = .ok (.aload_n 0, 1) := by decide +kernel
theorem dX10_arrives_141 : decode cX10_arrives 141 = .ok (.getfield 22, 3) := by decide +kernel
theorem dX10_arrives_144 : decode cX10_arrives 144 = .ok (.iload 4, 2) := by decide +kernel
theorem dX10_arrives_146 : decode cX10_arrives 146 = .ok (.iload_n 1, 1) := by decide +kernel
theorem dX10_arrives_147 : decode cX10_arrives 147 = .ok (.iastore, 1) := by decide +kernel
theorem dX10_arrives_148 : decode cX10_arrives 148 = .ok (.aload_n 0, 1) := by decide +kernel
theorem dX10_arrives_149 : decode cX10_arrives 149 = .ok (.getfield 25, 3) := by decide +kernel
theorem dX10_arrives_152 : decode cX10_arrives 152 = .ok (.iload 4, 2) := by decide +kernel
theorem dX10_arrives_154 : decode cX10_arrives 154 = .ok (.iload 5, 2) := by decide +kernel
theorem dX10_arrives_156 : decode cX10_arrives 156 = .ok (.iastore, 1) := by decide +kernel
theorem dX10_arrives_157 : decode cX10_arrives 157 = .ok (.aload_n 0, 1) := by decide +kernel
theorem dX10_arrives_158 : decode cX10_arrives 158 = .ok (.getfield 31, 3) := by decide +kernel
theorem dX10_arrives_161 : decode cX10_arrives 161 = .ok (.iload 4, 2) := by decide +kernel
theorem dX10_arrives_163 : decode cX10_arrives 163 = .ok (.iload 7, 2) := by decide +kernel
theorem dX10_arrives_165 : decode cX10_arrives 165 = .ok (.iastore, 1) := by decide +kernel
theorem dX10_arrives_166 : decode cX10_arrives 166 = .ok (.aload_n 0, 1) := by decide +kernel
theorem dX10_arrives_167 : decode cX10_arrives 167 = .ok (.getfield 34, 3) := by decide +kernel
theorem dX10_arrives_170 : decode cX10_arrives 170 = .ok (.iload 4, 2) := by decide +kernel
theorem dX10_arrives_172 : decode cX10_arrives 172 = .ok (.iconst 0, 1) := by decide +kernel
theorem dX10_arrives_173 : decode cX10_arrives 173 = .ok (.iastore, 1) := by decide +kernel
theorem dX10_arrives_174 : decode cX10_arrives 174 = .ok (.iconst (-1), 1) := by decide +kernel
theorem dX10_arrives_175 : decode cX10_arrives 175 = .ok (.ireturn, 1) := by decide +kernel
theorem dX10_atHand_0 : decode cX10_atHand 0 = .ok (.aload_n 0, 1) := by decide +kernel
theorem dX10_atHand_1 : decode cX10_atHand 1 = .ok (.getfield 28, 3) := by decide +kernel
theorem dX10_atHand_4 : decode cX10_atHand 4 = .ok (.bipush 40, 2) := by decide +kernel
theorem dX10_atHand_6 : decode cX10_atHand 6 = .ok (.aload_n 0, 1) := by decide +kernel
theorem dX10_atHand_7 : decode cX10_atHand 7 = .ok (.getfield 119, 3) := by decide +kernel
theorem dX10_atHand_10 : decode cX10_atHand 10 = .ok (.imul, 1) := by decide +kernel
theorem dX10_atHand_11 : decode cX10_atHand 11 = .ok (.aload_n 0, 1) := by decide +kernel
theorem dX10_atHand_12 : decode cX10_atHand 12 = .ok (.getfield 34, 3) := by decide +kernel
theorem dX10_atHand_15 : decode cX10_atHand 15 = .ok (.aload_n 0, 1) := by decide +kernel
theorem dX10_atHand_16 : decode cX10_atHand 16 = .ok (.getfield 119, 3) := by decide +kernel
theorem dX10_atHand_19 : decode cX10_atHand 19 = .ok (.iaload, 1) := by decide +kernel
theorem dX10_atHand_20 : decode cX10_atHand 20 = .ok (.iadd, 1) := by decide +kernel
theorem dX10_atHand_21 : decode cX10_atHand 21 = .ok (.iaload, 1) := by decide +kernel
theorem dX10_atHand_22 : decode cX10_atHand 22 = .ok (.ireturn, 1) := by decide +kernel
theorem dX10_tries_0 : decode cX10_tries 0 = .ok (.aload_n 0, 1) := by decide +kernel
theorem dX10_tries_1 : decode cX10_tries 1 = .ok (.invokevirtual 129, 3) := by decide +kernel
theorem dX10_tries_4 : decode cX10_tries 4 = .ok (.istore_n 2, 1) := by decide +kernel
theorem dX10_tries_5 : decode cX10_tries 5 = .ok (.aload_n 0, 1) := by decide +kernel
theorem dX10_tries_6 : decode cX10_tries 6 = .ok (.getfield 37, 3) := by decide +kernel
theorem dX10_tries_9 : decode cX10_tries 9 = .ok (.aload_n 0, 1) := by decide +kernel
theorem dX10_tries_10 : decode cX10_tries 10 = .ok (.getfield 119, 3) := by decide +kernel
theorem dX10_tries_13 : decode cX10_tries 13 = .ok (.aload_n 0, 1) := by decide +kernel
theorem dX10_tries_14 : decode cX10_tries 14 = .ok (.getfield 133, 3) := by decide +kernel
theorem dX10_tries_17 : decode cX10_tries 17 = .ok (.iastore, 1) := by decide +kernel
theorem dX10_tries_18 : decode cX10_tries 18 = .ok (.aload_n 0, 1) := by decide +kernel
theorem dX10_tries_19 : decode cX10_tries 19 = .ok (.getfield 40, 3) := by decide +kernel
theorem dX10_tries_22 : decode cX10_tries 22 = .ok (.aload_n 0, 1) := by decide +kernel
theorem dX10_tries_23 : decode cX10_tries 23 = .ok (.getfield 133, 3) := by decide +kernel
theorem dX10_tries_26 : decode cX10_tries 26 = .ok (.iload_n 2, 1) := by decide +kernel
theorem dX10_tries_27 : decode cX10_tries 27 = .ok (.iastore, 1) := by decide +kernel
theorem dX10_tries_28 : decode cX10_tries 28 = .ok (.aload_n 0, 1) := by decide +kernel
theorem dX10_tries_29 : decode cX10_tries 29 = .ok (.dup, 1) := by decide +kernel
theorem dX10_tries_30 : decode cX10_tries 30 = .ok (.getfield 133, 3) := by decide +kernel
theorem dX10_tries_33 : decode cX10_tries 33 = .ok (.iconst 1, 1) := by decide +kernel
theorem dX10_tries_34 : decode cX10_tries 34 = .ok (.iadd, 1) := by decide +kernel
theorem dX10_tries_35 : decode cX10_tries 35 = .ok (.putfield 133, 3) := by decide +kernel
