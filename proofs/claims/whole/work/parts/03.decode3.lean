theorem dX7_readCommand_74 : decode cX7_readCommand 74 = .ok (.ireturn, 1) := by decide +kernel
theorem dX7_readSwitch_0 : decode cX7_readSwitch 0 = .ok (.aload_n 0, 1) := by decide +kernel
theorem dX7_readSwitch_1 : decode cX7_readSwitch 1 = .ok (.getfield 18, 3) := by decide +kernel
theorem dX7_readSwitch_4 : decode cX7_readSwitch 4 = .ok (.iload_n 1, 1) := by decide +kernel
theorem dX7_readSwitch_5 : decode cX7_readSwitch 5 = .ok (.aload_n 0, 1) := by decide +kernel
theorem dX7_readSwitch_6 : decode cX7_readSwitch 6 = .ok (.invokevirtual 69, 3) := by decide +kernel
theorem dX7_readSwitch_9 : decode cX7_readSwitch 9 = .ok (.iastore, 1) := by decide +kernel
theorem dX7_readSwitch_10 : decode cX7_readSwitch 10 = .ok (.aload_n 0, 1) := by decide +kernel
theorem dX7_readSwitch_11 : decode cX7_readSwitch 11 = .ok (.getfield 18, 3) := by decide +kernel
theorem dX7_readSwitch_14 : decode cX7_readSwitch 14 = .ok (.iload_n 1, 1) := by decide +kernel
theorem dX7_readSwitch_15 : decode cX7_readSwitch 15 = .ok (.iaload, 1) := by decide +kernel
theorem dX7_readSwitch_16 : decode cX7_readSwitch 16 = .ok (.bipush (-9), 2) := by decide +kernel
theorem dX7_readSwitch_18 : decode cX7_readSwitch 18 = .ok (.if_icmp .eq 7, 3) := by decide +kernel
theorem dX7_readSwitch_21 : decode cX7_readSwitch 21 = .ok (.iconst 1, 1) := by decide +kernel
theorem dX7_readSwitch_22 : decode cX7_readSwitch 22 = .ok (.goto 4, 3) := by decide +kernel
theorem dX7_readSwitch_25 : decode cX7_readSwitch 25 = .ok (.iconst 0, 1) := by decide +kernel
theorem dX7_readSwitch_26 : decode cX7_readSwitch 26 = .ok (.ireturn, 1) := by decide +kernel
theorem dX7_readRoute_0 : decode cX7_readRoute 0 = .ok (.aload_n 0, 1) := by decide +kernel
theorem dX7_readRoute_1 : decode cX7_readRoute 1 = .ok (.iload_n 1, 1) := by decide +kernel
theorem dX7_readRoute_2 : decode cX7_readRoute 2 = .ok (.invokevirtual 66, 3) := by decide +kernel
theorem dX7_readRoute_5 : decode cX7_readRoute 5 = .ok (.ifCond .eq 12, 3) := by decide +kernel
theorem dX7_readRoute_8 : decode cX7_readRoute 8 = .ok (.aload_n 0, 1) := by decide +kernel
theorem dX7_readRoute_9 : decode cX7_readRoute 9 = .ok (.bipush 62, 2) := by decide +kernel
theorem dX7_readRoute_11 : decode cX7_readRoute 11 = .ok (.invokevirtual 48, 3) := by decide +kernel
theorem dX7_readRoute_14 : decode cX7_readRoute 14 = .ok (.ifCond .ne 5, 3) := by decide +kernel
theorem dX7_readRoute_17 : decode cX7_readRoute 17 = .ok (.iconst 0, 1) := by decide +kernel
theorem dX7_readRoute_18 : decode cX7_readRoute 18 = .ok (.ireturn, 1) := by decide +kernel
theorem dX7_readRoute_19 : decode cX7_readRoute 19 = .ok (.aload_n 0, 1) := by decide +kernel
theorem dX7_readRoute_20 : decode cX7_readRoute 20 = .ok (.getfield 22, 3) := by decide +kernel
theorem dX7_readRoute_23 : decode cX7_readRoute 23 = .ok (.iload_n 1, 1) := by decide +kernel
theorem dX7_readRoute_24 : decode cX7_readRoute 24 = .ok (.aload_n 0, 1) := by decide +kernel
theorem dX7_readRoute_25 : decode cX7_readRoute 25 = .ok (.invokevirtual 69, 3) := by decide +kernel
theorem dX7_readRoute_28 : decode cX7_readRoute 28 = .ok (.iastore, 1) := by decide +kernel
theorem dX7_readRoute_29 : decode cX7_readRoute 29 = .ok (.aload_n 0, 1) := by decide +kernel
theorem dX7_readRoute_30 : decode cX7_readRoute 30 = .ok (.getfield 22, 3) := by decide +kernel
theorem dX7_readRoute_33 : decode cX7_readRoute 33 = .ok (.iload_n 1, 1) := by decide +kernel
theorem dX7_readRoute_34 : decode cX7_readRoute 34 = .ok (.iaload, 1) := by decide +kernel
theorem dX7_readRoute_35 : decode cX7_readRoute 35 = .ok (.bipush (-9), 2) := by decide +kernel
theorem dX7_readRoute_37 : decode cX7_readRoute 37 = .ok (.if_icmp .eq 12, 3) := by decide +kernel
theorem dX7_readRoute_40 : decode cX7_readRoute 40 = .ok (.aload_n 0, 1) := by decide +kernel
theorem dX7_readRoute_41 : decode cX7_readRoute 41 = .ok (.bipush 58, 2) := by decide +kernel
theorem dX7_readRoute_43 : decode cX7_readRoute 43 = .ok (.invokevirtual 48, 3) := by decide +kernel
theorem dX7_readRoute_46 : decode cX7_readRoute 46 = .ok (.ifCond .ne 5, 3) := by decide +kernel
theorem dX7_readRoute_49 : decode cX7_readRoute 49 = .ok (.iconst 0, 1) := by decide +kernel
theorem dX7_readRoute_50 : decode cX7_readRoute 50 = .ok (.ireturn, 1) := by decide +kernel
theorem dX7_readRoute_51 : decode cX7_readRoute 51 = .ok (.aload_n 0, 1) := by decide +kernel
theorem dX7_readRoute_52 : decode cX7_readRoute 52 = .ok (.getfield 25, 3) := by decide +kernel
theorem dX7_readRoute_55 : decode cX7_readRoute 55 = .ok (.iload_n 1, 1) := by decide +kernel
theorem dX7_readRoute_56 : decode cX7_readRoute 56 = .ok (.aload_n 0, 1) := by decide +kernel
theorem dX7_readRoute_57 : decode cX7_readRoute 57 = .ok (.invokevirtual 52, 3) := by decide +kernel
theorem dX7_readRoute_60 : decode cX7_readRoute 60 = .ok (.bipush 48, 2) := by decide +kernel
theorem dX7_readRoute_62 : decode cX7_readRoute 62 = .ok (.if_icmp .ne 7, 3) := by decide +kernel
theorem dX7_readRoute_65 : decode cX7_readRoute 65 = .ok (.iconst 0, 1) := by decide +kernel
theorem dX7_readRoute_66 : decode cX7_readRoute 66 = .ok (.goto 9, 3) := by decide +kernel
theorem dX7_readRoute_69 : decode cX7_readRoute 69 = .ok (.aload_n 0, 1) := by decide +kernel
theorem dX7_readRoute_70 : decode cX7_readRoute 70 = .ok (.bipush 9, 2) := by decide +kernel
theorem dX7_readRoute_72 : decode cX7_readRoute 72 = .ok (.invokevirtual 73, 3) := by decide +kernel
theorem dX7_readRoute_75 : decode cX7_readRoute 75 = .ok (.iastore, 1) := by decide +kernel
theorem dX7_readRoute_76 : decode cX7_readRoute 76 = .ok (.aload_n 0, 1) := by decide +kernel
theorem dX7_readRoute_77 : decode cX7_readRoute 77 = .ok (.bipush 64, 2) := by decide +kernel
theorem dX7_readRoute_79 : decode cX7_readRoute 79 = .ok (.invokevirtual 48, 3) := by decide +kernel
theorem dX7_readRoute_82 : decode cX7_readRoute 82 = .ok (.ifCond .eq 10, 3) := by decide +kernel
theorem dX7_readRoute_85 : decode cX7_readRoute 85 = .ok (.aload_n 0, 1) := by decide +kernel
theorem dX7_readRoute_86 : decode cX7_readRoute 86 = .ok (.invokevirtual 56, 3) := by decide +kernel
theorem dX7_readRoute_89 : decode cX7_readRoute 89 = .ok (.ifCond .ne 5, 3) := by decide +kernel
theorem dX7_readRoute_92 : decode cX7_readRoute 92 = .ok (.iconst 0, 1) := by decide +kernel
theorem dX7_readRoute_93 : decode cX7_readRoute 93 = .ok (.ireturn, 1) := by decide +kernel
theorem dX7_readRoute_94 : decode cX7_readRoute 94 = .ok (.aload_n 0, 1) := by decide +kernel
theorem dX7_readRoute_95 : decode cX7_readRoute 95 = .ok (.getfield 28, 3) := by decide +kernel
theorem dX7_readRoute_98 : decode cX7_readRoute 98 = .ok (.iload_n 1, 1) := by decide +kernel
theorem dX7_readRoute_99 : decode cX7_readRoute 99 = .ok (.aload_n 0, 1) := by decide +kernel
theorem dX7_readRoute_100 : decode cX7_readRoute 100 = .ok (.iconst 4, 1) := by decide +kernel
theorem dX7_readRoute_101 : decode cX7_readRoute 101 = .ok (.invokevirtual 73, 3) := by decide +kernel
theorem dX7_readRoute_104 : decode cX7_readRoute 104 = .ok (.iastore, 1) := by decide +kernel
theorem dX7_readRoute_105 : decode cX7_readRoute 105 = .ok (.aload_n 0, 1) := by decide +kernel
theorem dX7_readRoute_106 : decode cX7_readRoute 106 = .ok (.bipush 120, 2) := by decide +kernel
theorem dX7_readRoute_108 : decode cX7_readRoute 108 = .ok (.invokevirtual 48, 3) := by decide +kernel
theorem dX7_readRoute_111 : decode cX7_readRoute 111 = .ok (.ifCond .eq 10, 3) := by decide +kernel
theorem dX7_readRoute_114 : decode cX7_readRoute 114 = .ok (.aload_n 0, 1) := by decide +kernel
theorem dX7_readRoute_115 : decode cX7_readRoute 115 = .ok (.invokevirtual 56, 3) := by decide +kernel
theorem dX7_readRoute_118 : decode cX7_readRoute 118 = .ok (.ifCond .ne 5, 3) := by decide +kernel
theorem dX7_readRoute_121 : decode cX7_readRoute 121 = .ok (.iconst 0, 1) := by decide +kernel
theorem dX7_readRoute_122 : decode cX7_readRoute 122 = .ok (.ireturn, 1) := by decide +kernel
theorem dX7_readRoute_123 : decode cX7_readRoute 123 = .ok (.aload_n 0, 1) := by decide +kernel
theorem dX7_readRoute_124 : decode cX7_readRoute 124 = .ok (.getfield 31, 3) := by decide +kernel
theorem dX7_readRoute_127 : decode cX7_readRoute 127 = .ok (.iload_n 1, 1) := by decide +kernel
theorem dX7_readRoute_128 : decode cX7_readRoute 128 = .ok (.aload_n 0, 1) := by decide +kernel
theorem dX7_readRoute_129 : decode cX7_readRoute 129 = .ok (.iconst 4, 1) := by decide +kernel
theorem dX7_readRoute_130 : decode cX7_readRoute 130 = .ok (.invokevirtual 73, 3) := by decide +kernel
theorem dX7_readRoute_133 : decode cX7_readRoute 133 = .ok (.iastore, 1) := by decide +kernel
theorem dX7_readRoute_134 : decode cX7_readRoute 134 = .ok (.iconst 1, 1) := by decide +kernel
theorem dX7_readRoute_135 : decode cX7_readRoute 135 = .ok (.ireturn, 1) := by decide +kernel
theorem dX7_readPort_0 : decode cX7_readPort 0 = .ok (.aload_n 0, 1) := by decide +kernel
theorem dX7_readPort_1 : decode cX7_readPort 1 = .ok (.invokevirtual 52, 3) := by decide +kernel
theorem dX7_readPort_4 : decode cX7_readPort 4 = .ok (.bipush 48, 2) := by decide +kernel
theorem dX7_readPort_6 : decode cX7_readPort 6 = .ok (.if_icmp .eq 10, 3) := by decide +kernel
theorem dX7_readPort_9 : decode cX7_readPort 9 = .ok (.aload_n 0, 1) := by decide +kernel
theorem dX7_readPort_10 : decode cX7_readPort 10 = .ok (.invokevirtual 56, 3) := by decide +kernel
theorem dX7_readPort_13 : decode cX7_readPort 13 = .ok (.ifCond .ne 5, 3) := by decide +kernel
theorem dX7_readPort_16 : decode cX7_readPort 16 = .ok (.iconst 0, 1) := by decide +kernel
theorem dX7_readPort_17 : decode cX7_readPort 17 = .ok (.ireturn, 1) := by decide +kernel
theorem dX7_readPort_18 : decode cX7_readPort 18 = .ok (.aload_n 0, 1) := by decide +kernel
theorem dX7_readPort_19 : decode cX7_readPort 19 = .ok (.getfield 25, 3) := by decide +kernel
theorem dX7_readPort_22 : decode cX7_readPort 22 = .ok (.iload_n 1, 1) := by decide +kernel
theorem dX7_readPort_23 : decode cX7_readPort 23 = .ok (.aload_n 0, 1) := by decide +kernel
theorem dX7_readPort_24 : decode cX7_readPort 24 = .ok (.bipush 9, 2) := by decide +kernel
theorem dX7_readPort_26 : decode cX7_readPort 26 = .ok (.invokevirtual 73, 3) := by decide +kernel
theorem dX7_readPort_29 : decode cX7_readPort 29 = .ok (.iastore, 1) := by decide +kernel
theorem dX7_readPort_30 : decode cX7_readPort 30 = .ok (.aload_n 0, 1) := by decide +kernel
theorem dX7_readPort_31 : decode cX7_readPort 31 = .ok (.bipush 62, 2) := by decide +kernel
theorem dX7_readPort_33 : decode cX7_readPort 33 = .ok (.invokevirtual 48, 3) := by decide +kernel
theorem dX7_readPort_36 : decode cX7_readPort 36 = .ok (.ifCond .eq 15, 3) := by decide +kernel
theorem dX7_readPort_39 : decode cX7_readPort 39 = .ok (.aload_n 0, 1) := by decide +kernel
theorem dX7_readPort_40 : decode cX7_readPort 40 = .ok (.iload_n 1, 1) := by decide +kernel
theorem dX7_readPort_41 : decode cX7_readPort 41 = .ok (.invokevirtual 66, 3) := by decide +kernel
theorem dX7_readPort_44 : decode cX7_readPort 44 = .ok (.ifCond .eq 7, 3) := by decide +kernel
theorem dX7_readPort_47 : decode cX7_readPort 47 = .ok (.iconst 1, 1) := by decide +kernel
theorem dX7_readPort_48 : decode cX7_readPort 48 = .ok (.goto 4, 3) := by decide +kernel
theorem dX7_readPort_51 : decode cX7_readPort 51 = .ok (.iconst 0, 1) := by decide +kernel
theorem dX7_readPort_52 : decode cX7_readPort 52 = .ok (.ireturn, 1) := by decide +kernel
theorem dX7_carryOut_0 : decode cX7_carryOut 0 = .ok (.iload_n 1, 1) := by decide +kernel
theorem dX7_carryOut_1 : decode cX7_carryOut 1 = .ok (.ifCond .lt 17, 3) := by decide +kernel
theorem dX7_carryOut_4 : decode cX7_carryOut 4 = .ok (.iload_n 1, 1) := by decide +kernel
theorem dX7_carryOut_5 : decode cX7_carryOut 5 = .ok (.aload_n 0, 1) := by decide +kernel
theorem dX7_carryOut_6 : decode cX7_carryOut 6 = .ok (.getfield 38, 3) := by decide +kernel
theorem dX7_carryOut_9 : decode cX7_carryOut 9 = .ok (.if_icmp .ge 9, 3) := by decide +kernel
theorem dX7_carryOut_12 : decode cX7_carryOut 12 = .ok (.iload_n 1, 1) := by decide +kernel
theorem dX7_carryOut_13 : decode cX7_carryOut 13 = .ok (.bipush 27, 2) := by decide +kernel
theorem dX7_carryOut_15 : decode cX7_carryOut 15 = .ok (.if_icmp .lt 5, 3) := by decide +kernel
theorem dX7_carryOut_18 : decode cX7_carryOut 18 = .ok (.iconst 0, 1) := by decide +kernel
theorem dX7_carryOut_19 : decode cX7_carryOut 19 = .ok (.ireturn, 1) := by decide +kernel
theorem dX7_carryOut_20 : decode cX7_carryOut 20 = .ok (.aload_n 0, 1) := by decide +kernel
theorem dX7_carryOut_21 : decode cX7_carryOut 21 = .ok (.getfield 15, 3) := by decide +kernel
theorem dX7_carryOut_24 : decode cX7_carryOut 24 = .ok (.iload_n 1, 1) := by decide +kernel
theorem dX7_carryOut_25 : decode cX7_carryOut 25 = .ok (.caload, 1) := by decide +kernel
theorem dX7_carryOut_26 : decode cX7_carryOut 26 = .ok (.bipush 114, 2) := by decide +kernel
theorem dX7_carryOut_28 : decode cX7_carryOut 28 = .ok (.if_icmp .ne 10, 3) := by decide +kernel
theorem dX7_carryOut_31 : decode cX7_carryOut 31 = .ok (.aload_n 0, 1) := by decide +kernel
theorem dX7_carryOut_32 : decode cX7_carryOut 32 = .ok (.iload_n 1, 1) := by decide +kernel
theorem dX7_carryOut_33 : decode cX7_carryOut 33 = .ok (.aload_n 2, 1) := by decide +kernel
theorem dX7_carryOut_34 : decode cX7_carryOut 34 = .ok (.invokevirtual 77, 3) := by decide +kernel
theorem dX7_carryOut_37 : decode cX7_carryOut 37 = .ok (.ireturn, 1) := by decide +kernel
theorem dX7_carryOut_38 : decode cX7_carryOut 38 = .ok (.aload_n 0, 1) := by decide +kernel
theorem dX7_carryOut_39 : decode cX7_carryOut 39 = .ok (.getfield 15, 3) := by decide +kernel
theorem dX7_carryOut_42 : decode cX7_carryOut 42 = .ok (.iload_n 1, 1) := by decide +kernel
theorem dX7_carryOut_43 : decode cX7_carryOut 43 = .ok (.caload, 1) := by decide +kernel
theorem dX7_carryOut_44 : decode cX7_carryOut 44 = .ok (.bipush 112, 2) := by decide +kernel
theorem dX7_carryOut_46 : decode cX7_carryOut 46 = .ok (.if_icmp .ne 12, 3) := by decide +kernel
theorem dX7_carryOut_49 : decode cX7_carryOut 49 = .ok (.aload_n 0, 1) := by decide +kernel
theorem dX7_carryOut_50 : decode cX7_carryOut 50 = .ok (.iload_n 1, 1) := by decide +kernel
theorem dX7_carryOut_51 : decode cX7_carryOut 51 = .ok (.aload_n 2, 1) := by decide +kernel
theorem dX7_carryOut_52 : decode cX7_carryOut 52 = .ok (.invokevirtual 81, 3) := by decide +kernel
theorem dX7_carryOut_55 : decode cX7_carryOut 55 = .ok (.goto 9, 3) := by decide +kernel
theorem dX7_carryOut_58 : decode cX7_carryOut 58 = .ok (.aload_n 0, 1) := by decide +kernel
theorem dX7_carryOut_59 : decode cX7_carryOut 59 = .ok (.iload_n 1, 1) := by decide +kernel
theorem dX7_carryOut_60 : decode cX7_carryOut 60 = .ok (.aload_n 2, 1) := by decide +kernel
theorem dX7_carryOut_61 : decode cX7_carryOut 61 = .ok (.invokevirtual 84, 3) := by decide +kernel
theorem dX7_carryOut_64 : decode cX7_carryOut 64 = .ok (.ireturn, 1) := by decide +kernel
theorem dX7_putRoute_0 : decode cX7_putRoute 0 = .ok (.aload_n 0, 1) := by decide +kernel
theorem dX7_putRoute_1 : decode cX7_putRoute 1 = .ok (.getfield 18, 3) := by decide +kernel
theorem dX7_putRoute_4 : decode cX7_putRoute 4 = .ok (.iload_n 1, 1) := by decide +kernel
theorem dX7_putRoute_5 : decode cX7_putRoute 5 = .ok (.iaload, 1) := by decide +kernel
theorem dX7_putRoute_6 : decode cX7_putRoute 6 = .ok (.istore_n 3, 1) := by decide +kernel
theorem dX7_putRoute_7 : decode cX7_putRoute 7 = .ok (.aload_n 0, 1) := by decide +kernel
theorem dX7_putRoute_8 : decode cX7_putRoute 8 = .ok (.getfield 22, 3) := by decide +kernel
theorem dX7_putRoute_11 : decode cX7_putRoute 11 = .ok (.iload_n 1, 1) := by decide +kernel
theorem dX7_putRoute_12 : decode cX7_putRoute 12 = .ok (.iaload, 1) := by decide +kernel
theorem dX7_putRoute_13 : decode cX7_putRoute 13 = .ok (.istore 4, 2) := by decide +kernel
theorem dX7_putRoute_15 : decode cX7_putRoute 15 = .ok (.aload_n 2, 1) := by decide +kernel
theorem dX7_putRoute_16 : decode cX7_putRoute 16 = .ok (.iload_n 3, 1) := by decide +kernel
theorem dX7_putRoute_17 : decode cX7_putRoute 17 = .ok (.aload_n 0, 1) := by decide +kernel
theorem dX7_putRoute_18 : decode cX7_putRoute 18 = .ok (.getfield 25, 3) := by decide +kernel
theorem dX7_putRoute_21 : decode cX7_putRoute 21 = .ok (.iload_n 1, 1) := by decide +kernel
theorem dX7_putRoute_22 : decode cX7_putRoute 22 = .ok (.iaload, 1) := by decide +kernel
theorem dX7_putRoute_23 : decode cX7_putRoute 23 = .ok (.iload 4, 2) := by decide +kernel
theorem dX7_putRoute_25 : decode cX7_putRoute 25 = .ok (.aload_n 0, 1) := by decide +kernel
theorem dX7_putRoute_26 : decode cX7_putRoute 26 = .ok (.getfield 28, 3) := by decide +kernel
theorem dX7_putRoute_29 : decode cX7_putRoute 29 = .ok (.iload_n 1, 1) := by decide +kernel
theorem dX7_putRoute_30 : decode cX7_putRoute 30 = .ok (.iaload, 1) := by decide +kernel
theorem dX7_putRoute_31 : decode cX7_putRoute 31 = .ok (.aload_n 0, 1) := by decide +kernel
theorem dX7_putRoute_32 : decode cX7_putRoute 32 = .ok (.getfield 31, 3) := by decide +kernel
theorem dX7_putRoute_35 : decode cX7_putRoute 35 = .ok (.iload_n 1, 1) := by decide +kernel
theorem dX7_putRoute_36 : decode cX7_putRoute 36 = .ok (.iaload, 1) := by decide +kernel
theorem dX7_putRoute_37 : decode cX7_putRoute 37 = .ok (.invokevirtual 87, 3) := by decide +kernel
theorem dX7_putRoute_40 : decode cX7_putRoute 40 = .ok (.ifCond .eq 5, 3) := by decide +kernel
theorem dX7_putRoute_43 : decode cX7_putRoute 43 = .ok (.iconst 0, 1) := by decide +kernel
theorem dX7_putRoute_44 : decode cX7_putRoute 44 = .ok (.ireturn, 1) := by decide +kernel
theorem dX7_putRoute_45 : decode cX7_putRoute 45 = .ok (.aload_n 2, 1) := by decide +kernel
theorem dX7_putRoute_46 : decode cX7_putRoute 46 = .ok (.invokevirtual 93, 3) := by decide +kernel
theorem dX7_putRoute_49 : decode cX7_putRoute 49 = .ok (.iload_n 3, 1) := by decide +kernel
theorem dX7_putRoute_50 : decode cX7_putRoute 50 = .ok (.aload_n 0, 1) := by decide +kernel
theorem dX7_putRoute_51 : decode cX7_putRoute 51 = .ok (.getfield 25, 3) := by decide +kernel
theorem dX7_putRoute_54 : decode cX7_putRoute 54 = .ok (.iload_n 1, 1) := by decide +kernel
theorem dX7_putRoute_55 : decode cX7_putRoute 55 = .ok (.iaload, 1) := by decide +kernel
theorem dX7_putRoute_56 : decode cX7_putRoute 56 = .ok (.iload 4, 2) := by decide +kernel
theorem dX7_putRoute_58 : decode cX7_putRoute 58 = .ok (.aload_n 0, 1) := by decide +kernel
theorem dX7_putRoute_59 : decode cX7_putRoute 59 = .ok (.getfield 28, 3) := by decide +kernel
theorem dX7_putRoute_62 : decode cX7_putRoute 62 = .ok (.iload_n 1, 1) := by decide +kernel
theorem dX7_putRoute_63 : decode cX7_putRoute 63 = .ok (.iaload, 1) := by decide +kernel
theorem dX7_putRoute_64 : decode cX7_putRoute 64 = .ok (.aload_n 0, 1) := by decide +kernel
theorem dX7_putRoute_65 : decode cX7_putRoute 65 = .ok (.getfield 31, 3) := by decide +kernel
theorem dX7_putRoute_68 : decode cX7_putRoute 68 = .ok (.iload_n 1, 1) := by decide +kernel
theorem dX7_putRoute_69 : decode cX7_putRoute 69 = .ok (.iaload, 1) := by decide +kernel
theorem dX7_putRoute_70 : decode cX7_putRoute 70 = .ok (.invokevirtual 97, 3) := by decide +kernel
theorem dX7_putRoute_73 : decode cX7_putRoute 73 = .ok (.pop, 1) := by decide +kernel
theorem dX7_putRoute_74 : decode cX7_putRoute 74 = .ok (.iconst 1, 1) := by decide +kernel
theorem dX7_putRoute_75 : decode cX7_putRoute 75 = .ok (.ireturn, 1) := by decide +kernel
theorem dX7_putPort_0 : decode cX7_putPort 0 = .ok (.aload_n 2, 1) := by decide +kernel
theorem dX7_putPort_1 : decode cX7_putPort 1 = .ok (.aload_n 0, 1) := by decide +kernel
theorem dX7_putPort_2 : decode cX7_putPort 2 = .ok (.getfield 25, 3) := by decide +kernel
theorem dX7_putPort_5 : decode cX7_putPort 5 = .ok (.iload_n 1, 1) := by decide +kernel
theorem dX7_putPort_6 : decode cX7_putPort 6 = .ok (.iaload, 1) := by decide +kernel
theorem dX7_putPort_7 : decode cX7_putPort 7 = .ok (.aload_n 0, 1) := by decide +kernel
theorem dX7_putPort_8 : decode cX7_putPort 8 = .ok (.getfield 18, 3) := by decide +kernel
theorem dX7_putPort_11 : decode cX7_putPort 11 = .ok (.iload_n 1, 1) := by decide +kernel
theorem dX7_putPort_12 : decode cX7_putPort 12 = .ok (.iaload, 1) := by decide +kernel
theorem dX7_putPort_13 : decode cX7_putPort 13 = .ok (.invokevirtual 102, 3) := by decide +kernel
theorem dX7_putPort_16 : decode cX7_putPort 16 = .ok (.ifCond .eq 5, 3) := by decide +kernel
theorem dX7_putPort_19 : decode cX7_putPort 19 = .ok (.iconst 0, 1) := by decide +kernel
theorem dX7_putPort_20 : decode cX7_putPort 20 = .ok (.ireturn, 1) := by decide +kernel
theorem dX7_putPort_21 : decode cX7_putPort 21 = .ok (.aload_n 2, 1) := by decide +kernel
theorem dX7_putPort_22 : decode cX7_putPort 22 = .ok (.invokevirtual 106, 3) := by decide +kernel
theorem dX7_putPort_25 : decode cX7_putPort 25 = .ok (.aload_n 0, 1) := by decide +kernel
theorem dX7_putPort_26 : decode cX7_putPort 26 = .ok (.getfield 25, 3) := by decide +kernel
theorem dX7_putPort_29 : decode cX7_putPort 29 = .ok (.iload_n 1, 1) := by decide +kernel
theorem dX7_putPort_30 : decode cX7_putPort 30 = .ok (.iaload, 1) := by decide +kernel
theorem dX7_putPort_31 : decode cX7_putPort 31 = .ok (.aload_n 0, 1) := by decide +kernel
theorem dX7_putPort_32 : decode cX7_putPort 32 = .ok (.getfield 18, 3) := by decide +kernel
theorem dX7_putPort_35 : decode cX7_putPort 35 = .ok (.iload_n 1, 1) := by decide +kernel
theorem dX7_putPort_36 : decode cX7_putPort 36 = .ok (.iaload, 1) := by decide +kernel
theorem dX7_putPort_37 : decode cX7_putPort 37 = .ok (.invokevirtual 110, 3) := by decide +kernel
theorem dX7_putPort_40 : decode cX7_putPort 40 = .ok (.pop, 1) := by decide +kernel
theorem dX7_putPort_41 : decode cX7_putPort 41 = .ok (.iconst 1, 1) := by decide +kernel
theorem dX7_putPort_42 : decode cX7_putPort 42 = .ok (.ireturn, 1) := by decide +kernel
theorem dX7_letLookUp_0 : decode cX7_letLookUp 0 = .ok (.aload_n 2, 1) := by decide +kernel
theorem dX7_letLookUp_1 : decode cX7_letLookUp 1 = .ok (.aload_n 0, 1) := by decide +kernel
theorem dX7_letLookUp_2 : decode cX7_letLookUp 2 = .ok (.getfield 18, 3) := by decide +kernel
theorem dX7_letLookUp_5 : decode cX7_letLookUp 5 = .ok (.iload_n 1, 1) := by decide +kernel
theorem dX7_letLookUp_6 : decode cX7_letLookUp 6 = .ok (.iaload, 1) := by decide +kernel
theorem dX7_letLookUp_7 : decode cX7_letLookUp 7 = .ok (.invokevirtual 114, 3) := by decide +kernel
theorem dX7_letLookUp_10 : decode cX7_letLookUp 10 = .ok (.ifCond .ne 5, 3) := by decide +kernel
theorem dX7_letLookUp_13 : decode cX7_letLookUp 13 = .ok (.iconst 0, 1) := by decide +kernel
theorem dX7_letLookUp_14 : decode cX7_letLookUp 14 = .ok (.ireturn, 1) := by decide +kernel
theorem dX7_letLookUp_15 : decode cX7_letLookUp 15 = .ok (.aload_n 2, 1) := by decide +kernel
theorem dX7_letLookUp_16 : decode cX7_letLookUp 16 = .ok (.aload_n 0, 1) := by decide +kernel
theorem dX7_letLookUp_17 : decode cX7_letLookUp 17 = .ok (.getfield 18, 3) := by decide +kernel
theorem dX7_letLookUp_20 : decode cX7_letLookUp 20 = .ok (.iload_n 1, 1) := by decide +kernel
theorem dX7_letLookUp_21 : decode cX7_letLookUp 21 = .ok (.iaload, 1) := by decide +kernel
theorem dX7_letLookUp_22 : decode cX7_letLookUp 22 = .ok (.iconst 1, 1) := by decide +kernel
theorem dX7_letLookUp_23 : decode cX7_letLookUp 23 = .ok (.invokevirtual 117, 3) := by decide +kernel
theorem dX7_letLookUp_26 : decode cX7_letLookUp 26 = .ok (.iconst 1, 1) := by decide +kernel
theorem dX7_letLookUp_27 : decode cX7_letLookUp 27 = .ok (.ireturn, 1) := by decide +kernel
theorem dX8_init_0 : decode cX8_init 0 = .ok (.aload_n 0, 1) := by decide +kernel
theorem dX8_init_1 : decode cX8_init 1 = .ok (.invokespecial 3, 3) := by decide +kernel
theorem dX8_init_4 : decode cX8_init 4 = .ok (.aload_n 0, 1) := by decide +kernel
theorem dX8_init_5 : decode cX8_init 5 = .ok (.bipush 30, 2) := by decide +kernel
theorem dX8_init_7 : decode cX8_init 7 = .ok (.newarray .int, 2) := by decide +kernel
theorem dX8_init_9 : decode cX8_init 9 = .ok (.putfield 9, 3) := by decide +kernel
theorem dX8_init_12 : decode cX8_init 12 = .ok (.aload_n 0, 1) := by decide +kernel
theorem dX8_init_13 : decode cX8_init 13 = .ok (.bipush 30, 2) := by decide +kernel
theorem dX8_init_15 : decode cX8_init 15 = .ok (.newarray .int, 2) := by decide +kernel
theorem dX8_init_17 : decode cX8_init 17 = .ok (.putfield 15, 3) := by decide +kernel
theorem dX8_init_20 : decode cX8_init 20 = .ok (.aload_n 0, 1) := by decide +kernel
theorem dX8_init_21 : decode cX8_init 21 = .ok (.iconst 0, 1) := by decide +kernel
theorem dX8_init_22 : decode cX8_init 22 = .ok (.putfield 18, 3) := by decide +kernel
theorem dX8_init_25 : decode cX8_init 25 = .ok (.return_, 1) := by decide +kernel
theorem dX8_size_0 : decode cX8_size 0 = .ok (.aload_n 0, 1) := by decide +kernel
theorem dX8_size_1 : decode cX8_size 1 = .ok (.getfield 18, 3) := by decide +kernel
theorem dX8_size_4 : decode cX8_size 4 = .ok (.ireturn, 1) := by decide +kernel
theorem dX8_has_0 : decode cX8_has 0 = .ok (.iload_n 1, 1) := by decide +kernel
theorem dX8_has_1 : decode cX8_has 1 = .ok (.ifCond .lt 21, 3) := by decide +kernel
theorem dX8_has_4 : decode cX8_has 4 = .ok (.iload_n 1, 1) := by decide +kernel
theorem dX8_has_5 : decode cX8_has 5 = .ok (.aload_n 0, 1) := by decide +kernel
theorem dX8_has_6 : decode cX8_has 6 = .ok (.getfield 18, 3) := by decide +kernel
theorem dX8_has_9 : decode cX8_has 9 = .ok (.if_icmp .ge 13, 3) := by decide +kernel
theorem dX8_has_12 : decode cX8_has 12 = .ok (.iload_n 1, 1) := by decide +kernel
theorem dX8_has_13 : decode cX8_has 13 = .ok (.bipush 30, 2) := by decide +kernel
theorem dX8_has_15 : decode cX8_has 15 = .ok (.if_icmp .ge 7, 3) := by decide +kernel
theorem dX8_has_18 : decode cX8_has 18 = .ok (.iconst 1, 1) := by decide +kernel
theorem dX8_has_19 : decode cX8_has 19 = .ok (.goto 4, 3) := by decide +kernel
theorem dX8_has_22 : decode cX8_has 22 = .ok (.iconst 0, 1) := by decide +kernel
theorem dX8_has_23 : decode cX8_has 23 = .ok (.ireturn, 1) := by decide +kernel
theorem dX8_empty_0 : decode cX8_empty 0 = .ok (.aload_n 0, 1) := by decide +kernel
theorem dX8_empty_1 : decode cX8_empty 1 = .ok (.iconst 0, 1) := by decide +kernel
theorem dX8_empty_2 : decode cX8_empty 2 = .ok (.putfield 18, 3) := by decide +kernel
theorem dX8_empty_5 : decode cX8_empty 5 = .ok (.return_, 1) := by decide +kernel
theorem dX8_begin_0 : decode cX8_begin 0 = .ok (.aload_n 0, 1) := by decide +kernel
theorem dX8_begin_1 : decode cX8_begin 1 = .ok (.getfield 18, 3) := by decide +kernel
theorem dX8_begin_4 : decode cX8_begin 4 = .ok (.bipush 30, 2) := by decide +kernel
theorem dX8_begin_6 : decode cX8_begin 6 = .ok (.if_icmp .lt 6, 3) := by decide +kernel
theorem dX8_begin_9 : decode cX8_begin 9 = .ok (.bipush (-9), 2) := by decide +kernel
theorem dX8_begin_11 : decode cX8_begin 11 = .ok (.ireturn, 1) := by decide +kernel
theorem dX8_begin_12 : decode cX8_begin 12 = .ok (.aload_n 0, 1) := by decide +kernel
theorem dX8_begin_13 : decode cX8_begin 13 = .ok (.getfield 9, 3) := by decide +kernel
theorem dX8_begin_16 : decode cX8_begin 16 = .ok (.aload_n 0, 1) := by decide +kernel
theorem dX8_begin_17 : decode cX8_begin 17 = .ok (.getfield 18, 3) := by decide +kernel
theorem dX8_begin_20 : decode cX8_begin 20 = .ok (.iload_n 1, 1) := by decide +kernel
theorem dX8_begin_21 : decode cX8_begin 21 = .ok (.iastore, 1) := by decide +kernel
theorem dX8_begin_22 : decode cX8_begin 22 = .ok (.aload_n 0, 1) := by decide +kernel
theorem dX8_begin_23 : decode cX8_begin 23 = .ok (.dup, 1) := by decide +kernel
theorem dX8_begin_24 : decode cX8_begin 24 = .ok (.getfield 18, 3) := by decide +kernel
theorem dX8_begin_27 : decode cX8_begin 27 = .ok (.iconst 1, 1) := by decide +kernel
theorem dX8_begin_28 : decode cX8_begin 28 = .ok (.iadd, 1) := by decide +kernel
theorem dX8_begin_29 : decode cX8_begin 29 = .ok (.putfield 18, 3) := by decide +kernel
theorem dX8_begin_32 : decode cX8_begin 32 = .ok (.aload_n 0, 1) := by decide +kernel
theorem dX8_begin_33 : decode cX8_begin 33 = .ok (.getfield 18, 3) := by decide +kernel
theorem dX8_begin_36 : decode cX8_begin 36 = .ok (.iconst 1, 1) := by decide +kernel
theorem dX8_begin_37 : decode cX8_begin 37 = .ok (.isub, 1) := by decide +kernel
theorem dX8_begin_38 : decode cX8_begin 38 = .ok (.ireturn, 1) := by decide +kernel
theorem dX8_finish_0 : decode cX8_finish 0 = .ok (.aload_n 0, 1) := by decide +kernel
theorem dX8_finish_1 : decode cX8_finish 1 = .ok (.iload_n 1, 1) := by decide +kernel
theorem dX8_finish_2 : decode cX8_finish 2 = .ok (.invokevirtual 22, 3) := by decide +kernel
theorem dX8_finish_5 : decode cX8_finish 5 = .ok (.ifCond .eq 10, 3) := by decide +kernel
theorem dX8_finish_8 : decode cX8_finish 8 = .ok (.aload_n 0, 1) := by decide +kernel
theorem dX8_finish_9 : decode cX8_finish 9 = .ok (.getfield 15, 3) := by decide +kernel
theorem dX8_finish_12 : decode cX8_finish 12 = .ok (.iload_n 1, 1) := by decide +kernel
theorem dX8_finish_13 : decode cX8_finish 13 = .ok (.iload_n 2, 1) := by decide +kernel
theorem dX8_finish_14 : decode cX8_finish 14 = .ok (.iastore, 1) := by decide +kernel
theorem dX8_finish_15 : decode cX8_finish 15 = .ok (.return_, 1) := by decide +kernel
theorem dX8_routeAt_0 : decode cX8_routeAt 0 = .ok (.aload_n 0, 1) := by decide +kernel
theorem dX8_routeAt_1 : decode cX8_routeAt 1 = .ok (.iload_n 1, 1) := by decide +kernel
theorem dX8_routeAt_2 : decode cX8_routeAt 2 = .ok (.invokevirtual 22, 3) := by decide +kernel
theorem dX8_routeAt_5 : decode cX8_routeAt 5 = .ok (.ifCond .eq 12, 3) := by decide +kernel
theorem dX8_routeAt_8 : decode cX8_routeAt 8 = .ok (.aload_n 0, 1) := by decide +kernel
theorem dX8_routeAt_9 : decode cX8_routeAt 9 = .ok (.getfield 9, 3) := by decide +kernel
theorem dX8_routeAt_12 : decode cX8_routeAt 12 = .ok (.iload_n 1, 1) := by decide +kernel
theorem dX8_routeAt_13 : decode cX8_routeAt 13 = .ok (.iaload, 1) := by decide +kernel
theorem dX8_routeAt_14 : decode cX8_routeAt 14 = .ok (.goto 5, 3) := by decide +kernel
theorem dX8_routeAt_17 : decode cX8_routeAt 17 = .ok (.bipush (-9), 2) := by decide +kernel
theorem dX8_routeAt_19 : decode cX8_routeAt 19 = .ok (.ireturn, 1) := by decide +kernel
theorem dX8_codeAt_0 : decode cX8_codeAt 0 = .ok (.aload_n 0, 1) := by decide +kernel
theorem dX8_codeAt_1 : decode cX8_codeAt 1 = .ok (.iload_n 1, 1) := by decide +kernel
theorem dX8_codeAt_2 : decode cX8_codeAt 2 = .ok (.invokevirtual 22, 3) := by decide +kernel
theorem dX8_codeAt_5 : decode cX8_codeAt 5 = .ok (.ifCond .eq 12, 3) := by decide +kernel
theorem dX8_codeAt_8 : decode cX8_codeAt 8 = .ok (.aload_n 0, 1) := by decide +kernel
theorem dX8_codeAt_9 : decode cX8_codeAt 9 = .ok (.getfield 15, 3) := by decide +kernel
theorem dX8_codeAt_12 : decode cX8_codeAt 12 = .ok (.iload_n 1, 1) := by decide +kernel
theorem dX8_codeAt_13 : decode cX8_codeAt 13 = .ok (.iaload, 1) := by decide +kernel
theorem dX8_codeAt_14 : decode cX8_codeAt 14 = .ok (.goto 5, 3) := by decide +kernel
theorem dX8_codeAt_17 : decode cX8_codeAt 17 = .ok (.bipush (-9), 2) := by decide +kernel
theorem dX8_codeAt_19 : decode cX8_codeAt 19 = .ok (.ireturn, 1) := by decide +kernel
theorem dX9_init_0 : decode cX9_init 0 = .ok (.aload_n 0, 1) := by decide +kernel
theorem dX9_init_1 : decode cX9_init 1 = .ok (.invokespecial 1, 3) := by decide +kernel
theorem dX9_init_4 : decode cX9_init 4 = .ok (.aload_n 0, 1) := by decide +kernel
theorem dX9_init_5 : decode cX9_init 5 = .ok (.new 7, 3) := by decide +kernel
theorem dX9_init_8 : decode cX9_init 8 = .ok (.dup, 1) := by decide +kernel
theorem dX9_init_9 : decode cX9_init 9 = .ok (.invokespecial 9, 3) := by decide +kernel
theorem dX9_init_12 : decode cX9_init 12 = .ok (.putfield 10, 3) := by decide +kernel
theorem dX9_init_15 : decode cX9_init 15 = .ok (.aload_n 0, 1) := by decide +kernel
theorem dX9_init_16 : decode cX9_init 16 = .ok (.new 7, 3) := by decide +kernel
theorem dX9_init_19 : decode cX9_init 19 = .ok (.dup, 1) := by decide +kernel
theorem dX9_init_20 : decode cX9_init 20 = .ok (.invokespecial 9, 3) := by decide +kernel
theorem dX9_init_23 : decode cX9_init 23 = .ok (.putfield 16, 3) := by decide +kernel
theorem dX9_init_26 : decode cX9_init 26 = .ok (.aload_n 0, 1) := by decide +kernel
theorem dX9_init_27 : decode cX9_init 27 = .ok (.new 19, 3) := by decide +kernel
theorem dX9_init_30 : decode cX9_init 30 = .ok (.dup, 1) := by decide +kernel
theorem dX9_init_31 : decode cX9_init 31 = .ok (.invokespecial 21, 3) := by decide +kernel
theorem dX9_init_34 : decode cX9_init 34 = .ok (.putfield 22, 3) := by decide +kernel
theorem dX9_init_37 : decode cX9_init 37 = .ok (.aload_n 0, 1) := by decide +kernel
theorem dX9_init_38 : decode cX9_init 38 = .ok (.new 26, 3) := by decide +kernel
theorem dX9_init_41 : decode cX9_init 41 = .ok (.dup, 1) := by decide +kernel
theorem dX9_init_42 : decode cX9_init 42 = .ok (.invokespecial 28, 3) := by decide +kernel
theorem dX9_init_45 : decode cX9_init 45 = .ok (.putfield 29, 3) := by decide +kernel
theorem dX9_init_48 : decode cX9_init 48 = .ok (.aload_n 0, 1) := by decide +kernel
theorem dX9_init_49 : decode cX9_init 49 = .ok (.new 33, 3) := by decide +kernel
theorem dX9_init_52 : decode cX9_init 52 = .ok (.dup, 1) := by decide +kernel
theorem dX9_init_53 : decode cX9_init 53 = .ok (.invokespecial 35, 3) := by decide +kernel
theorem dX9_init_56 : decode cX9_init 56 = .ok (.putfield 36, 3) := by decide +kernel
theorem dX9_init_59 : decode cX9_init 59 = .ok (.aload_n 0, 1) := by decide +kernel
theorem dX9_init_60 : decode cX9_init 60 = .ok (.new 40, 3) := by decide +kernel
theorem dX9_init_63 : decode cX9_init 63 = .ok (.dup, 1) := by decide +kernel
theorem dX9_init_64 : decode cX9_init 64 = .ok (.invokespecial 42, 3) := by decide +kernel
theorem dX9_init_67 : decode cX9_init 67 = .ok (.putfield 43, 3) := by decide +kernel
theorem dX9_init_70 : decode cX9_init 70 = .ok (.return_, 1) := by decide +kernel
theorem dX9_addSwitch_0 : decode cX9_addSwitch 0 = .ok (.aload_n 0, 1) := by decide +kernel
theorem dX9_addSwitch_1 : decode cX9_addSwitch 1 = .ok (.getfield 10, 3) := by decide +kernel
theorem dX9_addSwitch_4 : decode cX9_addSwitch 4 = .ok (.invokevirtual 47, 3) := by decide +kernel
theorem dX9_addSwitch_7 : decode cX9_addSwitch 7 = .ok (.bipush 8, 2) := by decide +kernel
theorem dX9_addSwitch_9 : decode cX9_addSwitch 9 = .ok (.if_icmp .lt 6, 3) := by decide +kernel
theorem dX9_addSwitch_12 : decode cX9_addSwitch 12 = .ok (.bipush (-3), 2) := by decide +kernel
theorem dX9_addSwitch_14 : decode cX9_addSwitch 14 = .ok (.ireturn, 1) := by decide +kernel
theorem dX9_addSwitch_15 : decode cX9_addSwitch 15 = .ok (.aload_n 0, 1) := by decide +kernel
theorem dX9_addSwitch_16 : decode cX9_addSwitch 16 = .ok (.getfield 22, 3) := by decide +kernel
theorem dX9_addSwitch_19 : decode cX9_addSwitch 19 = .ok (.aload_n 0, 1) := by decide +kernel
theorem dX9_addSwitch_20 : decode cX9_addSwitch 20 = .ok (.getfield 10, 3) := by decide +kernel
theorem dX9_addSwitch_23 : decode cX9_addSwitch 23 = .ok (.invokevirtual 51, 3) := by decide +kernel
theorem dX9_addSwitch_26 : decode cX9_addSwitch 26 = .ok (.aload_n 0, 1) := by decide +kernel
theorem dX9_addSwitch_27 : decode cX9_addSwitch 27 = .ok (.getfield 10, 3) := by decide +kernel
theorem dX9_addSwitch_30 : decode cX9_addSwitch 30 = .ok (.invokevirtual 55, 3) := by decide +kernel
theorem dX9_addSwitch_33 : decode cX9_addSwitch 33 = .ok (.ireturn, 1) := by decide +kernel
theorem dX9_setLookup_0 : decode cX9_setLookup 0 = .ok (.aload_n 0, 1) := by decide +kernel
theorem dX9_setLookup_1 : decode cX9_setLookup 1 = .ok (.getfield 10, 3) := by decide +kernel
theorem dX9_setLookup_4 : decode cX9_setLookup 4 = .ok (.iload_n 1, 1) := by decide +kernel
theorem dX9_setLookup_5 : decode cX9_setLookup 5 = .ok (.invokevirtual 58, 3) := by decide +kernel
theorem dX9_setLookup_8 : decode cX9_setLookup 8 = .ok (.ifCond .ne 5, 3) := by decide +kernel
theorem dX9_setLookup_11 : decode cX9_setLookup 11 = .ok (.iconst (-1), 1) := by decide +kernel
theorem dX9_setLookup_12 : decode cX9_setLookup 12 = .ok (.ireturn, 1) := by decide +kernel
theorem dX9_setLookup_13 : decode cX9_setLookup 13 = .ok (.aload_n 0, 1) := by decide +kernel
theorem dX9_setLookup_14 : decode cX9_setLookup 14 = .ok (.getfield 22, 3) := by decide +kernel
theorem dX9_setLookup_17 : decode cX9_setLookup 17 = .ok (.aload_n 0, 1) := by decide +kernel
theorem dX9_setLookup_18 : decode cX9_setLookup 18 = .ok (.getfield 10, 3) := by decide +kernel
theorem dX9_setLookup_21 : decode cX9_setLookup 21 = .ok (.invokevirtual 51, 3) := by decide +kernel
theorem dX9_setLookup_24 : decode cX9_setLookup 24 = .ok (.aload_n 0, 1) := by decide +kernel
theorem dX9_setLookup_25 : decode cX9_setLookup 25 = .ok (.getfield 10, 3) := by decide +kernel
theorem dX9_setLookup_28 : decode cX9_setLookup 28 = .ok (.iload_n 1, 1) := by decide +kernel
theorem dX9_setLookup_29 : decode cX9_setLookup 29 = .ok (.invokevirtual 62, 3) := by decide +kernel
theorem dX9_setLookup_32 : decode cX9_setLookup 32 = .ok (.istore_n 3, 1) := by decide +kernel
theorem dX9_setLookup_33 : decode cX9_setLookup 33 = .ok (.aload_n 0, 1) := by decide +kernel
theorem dX9_setLookup_34 : decode cX9_setLookup 34 = .ok (.getfield 10, 3) := by decide +kernel
theorem dX9_setLookup_37 : decode cX9_setLookup 37 = .ok (.iload_n 1, 1) := by decide +kernel
theorem dX9_setLookup_38 : decode cX9_setLookup 38 = .ok (.iload_n 2, 1) := by decide +kernel
theorem dX9_setLookup_39 : decode cX9_setLookup 39 = .ok (.invokevirtual 65, 3) := by decide +kernel
theorem dX9_setLookup_42 : decode cX9_setLookup 42 = .ok (.iload_n 3, 1) := by decide +kernel
theorem dX9_setLookup_43 : decode cX9_setLookup 43 = .ok (.ifCond .eq 7, 3) := by decide +kernel
theorem dX9_setLookup_46 : decode cX9_setLookup 46 = .ok (.iconst 1, 1) := by decide +kernel
theorem dX9_setLookup_47 : decode cX9_setLookup 47 = .ok (.goto 4, 3) := by decide +kernel
theorem dX9_setLookup_50 : decode cX9_setLookup 50 = .ok (.iconst 0, 1) := by decide +kernel
theorem dX9_setLookup_51 : decode cX9_setLookup 51 = .ok (.ireturn, 1) := by decide +kernel
theorem dX9_setCodes_0 : decode cX9_setCodes 0 = .ok (.aload_n 0, 1) := by decide +kernel
theorem dX9_setCodes_1 : decode cX9_setCodes 1 = .ok (.getfield 10, 3) := by decide +kernel
theorem dX9_setCodes_4 : decode cX9_setCodes 4 = .ok (.iload_n 1, 1) := by decide +kernel
theorem dX9_setCodes_5 : decode cX9_setCodes 5 = .ok (.invokevirtual 58, 3) := by decide +kernel
theorem dX9_setCodes_8 : decode cX9_setCodes 8 = .ok (.ifCond .eq 19, 3) := by decide +kernel
theorem dX9_setCodes_11 : decode cX9_setCodes 11 = .ok (.iload_n 2, 1) := by decide +kernel
theorem dX9_setCodes_12 : decode cX9_setCodes 12 = .ok (.iconst 0, 1) := by decide +kernel
theorem dX9_setCodes_13 : decode cX9_setCodes 13 = .ok (.bipush 62, 2) := by decide +kernel
theorem dX9_setCodes_15 : decode cX9_setCodes 15 = .ok (.invokestatic 69, 3) := by decide +kernel
theorem dX9_setCodes_18 : decode cX9_setCodes 18 = .ok (.ifCond .eq 9, 3) := by decide +kernel
theorem dX9_setCodes_21 : decode cX9_setCodes 21 = .ok (.iload_n 2, 1) := by decide +kernel
theorem dX9_setCodes_22 : decode cX9_setCodes 22 = .ok (.iconst 1, 1) := by decide +kernel
theorem dX9_setCodes_23 : decode cX9_setCodes 23 = .ok (.iand, 1) := by decide +kernel
theorem dX9_setCodes_24 : decode cX9_setCodes 24 = .ok (.ifCond .eq 5, 3) := by decide +kernel
theorem dX9_setCodes_27 : decode cX9_setCodes 27 = .ok (.iconst (-1), 1) := by decide +kernel
theorem dX9_setCodes_28 : decode cX9_setCodes 28 = .ok (.ireturn, 1) := by decide +kernel
theorem dX9_setCodes_29 : decode cX9_setCodes 29 = .ok (.aload_n 0, 1) := by decide +kernel
theorem dX9_setCodes_30 : decode cX9_setCodes 30 = .ok (.getfield 22, 3) := by decide +kernel
theorem dX9_setCodes_33 : decode cX9_setCodes 33 = .ok (.aload_n 0, 1) := by decide +kernel
theorem dX9_setCodes_34 : decode cX9_setCodes 34 = .ok (.getfield 10, 3) := by decide +kernel
theorem dX9_setCodes_37 : decode cX9_setCodes 37 = .ok (.invokevirtual 51, 3) := by decide +kernel
theorem dX9_setCodes_40 : decode cX9_setCodes 40 = .ok (.aload_n 0, 1) := by decide +kernel
theorem dX9_setCodes_41 : decode cX9_setCodes 41 = .ok (.getfield 10, 3) := by decide +kernel
theorem dX9_setCodes_44 : decode cX9_setCodes 44 = .ok (.iload_n 1, 1) := by decide +kernel
theorem dX9_setCodes_45 : decode cX9_setCodes 45 = .ok (.iload_n 2, 1) := by decide +kernel
theorem dX9_setCodes_46 : decode cX9_setCodes 46 = .ok (.invokevirtual 73, 3) := by decide +kernel
theorem dX9_setCodes_49 : decode cX9_setCodes 49 = .ok (.ireturn, 1) := by decide +kernel
theorem dX9_setLimit_0 : decode cX9_setLimit 0 = .ok (.iload_n 1, 1) := by decide +kernel
theorem dX9_setLimit_1 : decode cX9_setLimit 1 = .ok (.iconst 1, 1) := by decide +kernel
theorem dX9_setLimit_2 : decode cX9_setLimit 2 = .ok (.bipush 6, 2) := by decide +kernel
theorem dX9_setLimit_4 : decode cX9_setLimit 4 = .ok (.invokestatic 69, 3) := by decide +kernel
theorem dX9_setLimit_7 : decode cX9_setLimit 7 = .ok (.ifCond .ne 5, 3) := by decide +kernel
theorem dX9_setLimit_10 : decode cX9_setLimit 10 = .ok (.iconst (-1), 1) := by decide +kernel
theorem dX9_setLimit_11 : decode cX9_setLimit 11 = .ok (.ireturn, 1) := by decide +kernel
theorem dX9_setLimit_12 : decode cX9_setLimit 12 = .ok (.aload_n 0, 1) := by decide +kernel
theorem dX9_setLimit_13 : decode cX9_setLimit 13 = .ok (.getfield 22, 3) := by decide +kernel
theorem dX9_setLimit_16 : decode cX9_setLimit 16 = .ok (.aload_n 0, 1) := by decide +kernel
theorem dX9_setLimit_17 : decode cX9_setLimit 17 = .ok (.getfield 10, 3) := by decide +kernel
theorem dX9_setLimit_20 : decode cX9_setLimit 20 = .ok (.invokevirtual 51, 3) := by decide +kernel
theorem dX9_setLimit_23 : decode cX9_setLimit 23 = .ok (.aload_n 0, 1) := by decide +kernel
theorem dX9_setLimit_24 : decode cX9_setLimit 24 = .ok (.getfield 10, 3) := by decide +kernel
theorem dX9_setLimit_27 : decode cX9_setLimit 27 = .ok (.iload_n 1, 1) := by decide +kernel
theorem dX9_setLimit_28 : decode cX9_setLimit 28 = .ok (.invokevirtual 77, 3) := by decide +kernel
theorem dX9_setLimit_31 : decode cX9_setLimit 31 = .ok (.ireturn, 1) := by decide +kernel
theorem dX9_addRoute_0 : decode cX9_addRoute 0 = .ok (.aload_n 0, 1) := by decide +kernel
theorem dX9_addRoute_1 : decode cX9_addRoute 1 = .ok (.getfield 10, 3) := by decide +kernel
theorem dX9_addRoute_4 : decode cX9_addRoute 4 = .ok (.iload_n 1, 1) := by decide +kernel
theorem dX9_addRoute_5 : decode cX9_addRoute 5 = .ok (.iload_n 2, 1) := by decide +kernel
theorem dX9_addRoute_6 : decode cX9_addRoute 6 = .ok (.iload_n 3, 1) := by decide +kernel
theorem dX9_addRoute_7 : decode cX9_addRoute 7 = .ok (.iload 4, 2) := by decide +kernel
theorem dX9_addRoute_9 : decode cX9_addRoute 9 = .ok (.iload 5, 2) := by decide +kernel
theorem dX9_addRoute_11 : decode cX9_addRoute 11 = .ok (.invokevirtual 81, 3) := by decide +kernel
theorem dX9_addRoute_14 : decode cX9_addRoute 14 = .ok (.istore 6, 2) := by decide +kernel
theorem dX9_addRoute_16 : decode cX9_addRoute 16 = .ok (.iload 6, 2) := by decide +kernel
theorem dX9_addRoute_18 : decode cX9_addRoute 18 = .ok (.ifCond .eq 6, 3) := by decide +kernel
theorem dX9_addRoute_21 : decode cX9_addRoute 21 = .ok (.iload 6, 2) := by decide +kernel
theorem dX9_addRoute_23 : decode cX9_addRoute 23 = .ok (.ireturn, 1) := by decide +kernel
theorem dX9_addRoute_24 : decode cX9_addRoute 24 = .ok (.aload_n 0, 1) := by decide +kernel
theorem dX9_addRoute_25 : decode cX9_addRoute 25 = .ok (.getfield 22, 3) := by decide +kernel
theorem dX9_addRoute_28 : decode cX9_addRoute 28 = .ok (.aload_n 0, 1) := by decide +kernel
theorem dX9_addRoute_29 : decode cX9_addRoute 29 = .ok (.getfield 10, 3) := by decide +kernel
theorem dX9_addRoute_32 : decode cX9_addRoute 32 = .ok (.invokevirtual 51, 3) := by decide +kernel
theorem dX9_addRoute_35 : decode cX9_addRoute 35 = .ok (.aload_n 0, 1) := by decide +kernel
theorem dX9_addRoute_36 : decode cX9_addRoute 36 = .ok (.getfield 10, 3) := by decide +kernel
theorem dX9_addRoute_39 : decode cX9_addRoute 39 = .ok (.invokevirtual 85, 3) := by decide +kernel
theorem dX9_addRoute_42 : decode cX9_addRoute 42 = .ok (.iload_n 1, 1) := by decide +kernel
theorem dX9_addRoute_43 : decode cX9_addRoute 43 = .ok (.iload_n 2, 1) := by decide +kernel
theorem dX9_addRoute_44 : decode cX9_addRoute 44 = .ok (.iload_n 3, 1) := by decide +kernel
theorem dX9_addRoute_45 : decode cX9_addRoute 45 = .ok (.iload 4, 2) := by decide +kernel
theorem dX9_addRoute_47 : decode cX9_addRoute 47 = .ok (.iload 5, 2) := by decide +kernel
theorem dX9_addRoute_49 : decode cX9_addRoute 49 = .ok (.invokevirtual 89, 3) := by decide +kernel
theorem dX9_addRoute_52 : decode cX9_addRoute 52 = .ok (.ireturn, 1) := by decide +kernel
theorem dX9_setCost_0 : decode cX9_setCost 0 = .ok (.aload_n 0, 1) := by decide +kernel
theorem dX9_setCost_1 : decode cX9_setCost 1 = .ok (.getfield 10, 3) := by decide +kernel
theorem dX9_setCost_4 : decode cX9_setCost 4 = .ok (.invokevirtual 85, 3) := by decide +kernel
theorem dX9_setCost_7 : decode cX9_setCost 7 = .ok (.iload_n 1, 1) := by decide +kernel
theorem dX9_setCost_8 : decode cX9_setCost 8 = .ok (.invokevirtual 94, 3) := by decide +kernel
theorem dX9_setCost_11 : decode cX9_setCost 11 = .ok (.ifCond .eq 23, 3) := by decide +kernel
theorem dX9_setCost_14 : decode cX9_setCost 14 = .ok (.iload_n 2, 1) := by decide +kernel
theorem dX9_setCost_15 : decode cX9_setCost 15 = .ok (.iconst 0, 1) := by decide +kernel
theorem dX9_setCost_16 : decode cX9_setCost 16 = .ok (.iconst 2, 1) := by decide +kernel
theorem dX9_setCost_17 : decode cX9_setCost 17 = .ok (.invokestatic 69, 3) := by decide +kernel
theorem dX9_setCost_20 : decode cX9_setCost 20 = .ok (.ifCond .eq 14, 3) := by decide +kernel
theorem dX9_setCost_23 : decode cX9_setCost 23 = .ok (.iload_n 3, 1) := by decide +kernel
theorem dX9_setCost_24 : decode cX9_setCost 24 = .ok (.iconst 0, 1) := by decide +kernel
theorem dX9_setCost_25 : decode cX9_setCost 25 = .ok (.sipush 1000, 3) := by decide +kernel
theorem dX9_setCost_28 : decode cX9_setCost 28 = .ok (.invokestatic 69, 3) := by decide +kernel
theorem dX9_setCost_31 : decode cX9_setCost 31 = .ok (.ifCond .ne 5, 3) := by decide +kernel
theorem dX9_setCost_34 : decode cX9_setCost 34 = .ok (.iconst (-1), 1) := by decide +kernel
theorem dX9_setCost_35 : decode cX9_setCost 35 = .ok (.ireturn, 1) := by decide +kernel
theorem dX9_setCost_36 : decode cX9_setCost 36 = .ok (.aload_n 0, 1) := by decide +kernel
theorem dX9_setCost_37 : decode cX9_setCost 37 = .ok (.getfield 22, 3) := by decide +kernel
theorem dX9_setCost_40 : decode cX9_setCost 40 = .ok (.aload_n 0, 1) := by decide +kernel
theorem dX9_setCost_41 : decode cX9_setCost 41 = .ok (.getfield 10, 3) := by decide +kernel
theorem dX9_setCost_44 : decode cX9_setCost 44 = .ok (.invokevirtual 51, 3) := by decide +kernel
theorem dX9_setCost_47 : decode cX9_setCost 47 = .ok (.aload_n 0, 1) := by decide +kernel
theorem dX9_setCost_48 : decode cX9_setCost 48 = .ok (.getfield 10, 3) := by decide +kernel
theorem dX9_setCost_51 : decode cX9_setCost 51 = .ok (.invokevirtual 85, 3) := by decide +kernel
theorem dX9_setCost_54 : decode cX9_setCost 54 = .ok (.iload_n 1, 1) := by decide +kernel
theorem dX9_setCost_55 : decode cX9_setCost 55 = .ok (.iload_n 2, 1) := by decide +kernel
theorem dX9_setCost_56 : decode cX9_setCost 56 = .ok (.iload_n 3, 1) := by decide +kernel
theorem dX9_setCost_57 : decode cX9_setCost 57 = .ok (.invokevirtual 97, 3) := by decide +kernel
theorem dX9_setCost_60 : decode cX9_setCost 60 = .ok (.ireturn, 1) := by decide +kernel
theorem dX9_port_0 : decode cX9_port 0 = .ok (.aload_n 0, 1) := by decide +kernel
theorem dX9_port_1 : decode cX9_port 1 = .ok (.getfield 10, 3) := by decide +kernel
theorem dX9_port_4 : decode cX9_port 4 = .ok (.iload_n 1, 1) := by decide +kernel
theorem dX9_port_5 : decode cX9_port 5 = .ok (.iload_n 2, 1) := by decide +kernel
theorem dX9_port_6 : decode cX9_port 6 = .ok (.invokevirtual 101, 3) := by decide +kernel
theorem dX9_port_9 : decode cX9_port 9 = .ok (.istore_n 3, 1) := by decide +kernel
theorem dX9_port_10 : decode cX9_port 10 = .ok (.iload_n 3, 1) := by decide +kernel
theorem dX9_port_11 : decode cX9_port 11 = .ok (.ifCond .eq 5, 3) := by decide +kernel
theorem dX9_port_14 : decode cX9_port 14 = .ok (.iload_n 3, 1) := by decide +kernel
theorem dX9_port_15 : decode cX9_port 15 = .ok (.ireturn, 1) := by decide +kernel
theorem dX9_port_16 : decode cX9_port 16 = .ok (.aload_n 0, 1) := by decide +kernel
theorem dX9_port_17 : decode cX9_port 17 = .ok (.getfield 22, 3) := by decide +kernel
theorem dX9_port_20 : decode cX9_port 20 = .ok (.aload_n 0, 1) := by decide +kernel
theorem dX9_port_21 : decode cX9_port 21 = .ok (.getfield 10, 3) := by decide +kernel
theorem dX9_port_24 : decode cX9_port 24 = .ok (.invokevirtual 51, 3) := by decide +kernel
theorem dX9_port_27 : decode cX9_port 27 = .ok (.aload_n 0, 1) := by decide +kernel
theorem dX9_port_28 : decode cX9_port 28 = .ok (.getfield 10, 3) := by decide +kernel
theorem dX9_port_31 : decode cX9_port 31 = .ok (.invokevirtual 104, 3) := by decide +kernel
theorem dX9_port_34 : decode cX9_port 34 = .ok (.iload_n 1, 1) := by decide +kernel
theorem dX9_port_35 : decode cX9_port 35 = .ok (.iload_n 2, 1) := by decide +kernel
theorem dX9_port_36 : decode cX9_port 36 = .ok (.invokevirtual 108, 3) := by decide +kernel
theorem dX9_port_39 : decode cX9_port 39 = .ok (.ireturn, 1) := by decide +kernel
theorem dX9_unport_0 : decode cX9_unport 0 = .ok (.iload_n 1, 1) := by decide +kernel
theorem dX9_unport_1 : decode cX9_unport 1 = .ok (.invokestatic 112, 3) := by decide +kernel
theorem dX9_unport_4 : decode cX9_unport 4 = .ok (.ifCond .ne 5, 3) := by decide +kernel
theorem dX9_unport_7 : decode cX9_unport 7 = .ok (.iconst (-1), 1) := by decide +kernel
theorem dX9_unport_8 : decode cX9_unport 8 = .ok (.ireturn, 1) := by decide +kernel
theorem dX9_unport_9 : decode cX9_unport 9 = .ok (.aload_n 0, 1) := by decide +kernel
theorem dX9_unport_10 : decode cX9_unport 10 = .ok (.getfield 10, 3) := by decide +kernel
theorem dX9_unport_13 : decode cX9_unport 13 = .ok (.invokevirtual 104, 3) := by decide +kernel
theorem dX9_unport_16 : decode cX9_unport 16 = .ok (.iload_n 1, 1) := by decide +kernel
theorem dX9_unport_17 : decode cX9_unport 17 = .ok (.invokevirtual 115, 3) := by decide +kernel
theorem dX9_unport_20 : decode cX9_unport 20 = .ok (.bipush (-9), 2) := by decide +kernel
theorem dX9_unport_22 : decode cX9_unport 22 = .ok (.if_icmp .ne 6, 3) := by decide +kernel
theorem dX9_unport_25 : decode cX9_unport 25 = .ok (.bipush (-9), 2) := by decide +kernel
theorem dX9_unport_27 : decode cX9_unport 27 = .ok (.ireturn, 1) := by decide +kernel
theorem dX9_unport_28 : decode cX9_unport 28 = .ok (.aload_n 0, 1) := by decide +kernel
theorem dX9_unport_29 : decode cX9_unport 29 = .ok (.getfield 22, 3) := by decide +kernel
theorem dX9_unport_32 : decode cX9_unport 32 = .ok (.aload_n 0, 1) := by decide +kernel
theorem dX9_unport_33 : decode cX9_unport 33 = .ok (.getfield 10, 3) := by decide +kernel
theorem dX9_unport_36 : decode cX9_unport 36 = .ok (.invokevirtual 51, 3) := by decide +kernel
theorem dX9_unport_39 : decode cX9_unport 39 = .ok (.aload_n 0, 1) := by decide +kernel
theorem dX9_unport_40 : decode cX9_unport 40 = .ok (.getfield 10, 3) := by decide +kernel
theorem dX9_unport_43 : decode cX9_unport 43 = .ok (.invokevirtual 104, 3) := by decide +kernel
theorem dX9_unport_46 : decode cX9_unport 46 = .ok (.iload_n 1, 1) := by decide +kernel
theorem dX9_unport_47 : decode cX9_unport 47 = .ok (.invokevirtual 118, 3) := by decide +kernel
theorem dX9_unport_50 : decode cX9_unport 50 = .ok (.ireturn, 1) := by decide +kernel
theorem dX9_call_0 : decode cX9_call 0 = .ok (.aload_n 0, 1) := by decide +kernel
theorem dX9_call_1 : decode cX9_call 1 = .ok (.getfield 10, 3) := by decide +kernel
theorem dX9_call_4 : decode cX9_call 4 = .ok (.iload_n 1, 1) := by decide +kernel
theorem dX9_call_5 : decode cX9_call 5 = .ok (.invokevirtual 58, 3) := by decide +kernel
theorem dX9_call_8 : decode cX9_call 8 = .ok (.ifCond .eq 10, 3) := by decide +kernel
theorem dX9_call_11 : decode cX9_call 11 = .ok (.iload_n 2, 1) := by decide +kernel
theorem dX9_call_12 : decode cX9_call 12 = .ok (.invokestatic 112, 3) := by decide +kernel
theorem dX9_call_15 : decode cX9_call 15 = .ok (.ifCond .ne 5, 3) := by decide +kernel
theorem dX9_call_18 : decode cX9_call 18 = .ok (.iconst (-1), 1) := by decide +kernel
theorem dX9_call_19 : decode cX9_call 19 = .ok (.ireturn, 1) := by decide +kernel
theorem dX9_call_20 : decode cX9_call 20 = .ok (.aload_n 0, 1) := by decide +kernel
theorem dX9_call_21 : decode cX9_call 21 = .ok (.getfield 10, 3) := by decide +kernel
theorem dX9_call_24 : decode cX9_call 24 = .ok (.invokevirtual 121, 3) := by decide +kernel
theorem dX9_call_27 : decode cX9_call 27 = .ok (.invokevirtual 125, 3) := by decide +kernel
theorem dX9_call_30 : decode cX9_call 30 = .ok (.istore_n 3, 1) := by decide +kernel
theorem dX9_call_31 : decode cX9_call 31 = .ok (.iload_n 3, 1) := by decide +kernel
theorem dX9_call_32 : decode cX9_call 32 = .ok (.bipush (-9), 2) := by decide +kernel
theorem dX9_call_34 : decode cX9_call 34 = .ok (.if_icmp .ne 6, 3) := by decide +kernel
theorem dX9_call_37 : decode cX9_call 37 = .ok (.bipush (-3), 2) := by decide +kernel
theorem dX9_call_39 : decode cX9_call 39 = .ok (.ireturn, 1) := by decide +kernel
theorem dX9_call_40 : decode cX9_call 40 = .ok (.aload_n 0, 1) := by decide +kernel
theorem dX9_call_41 : decode cX9_call 41 = .ok (.getfield 36, 3) := by decide +kernel
theorem dX9_call_44 : decode cX9_call 44 = .ok (.aload_n 0, 1) := by decide +kernel
theorem dX9_call_45 : decode cX9_call 45 = .ok (.getfield 10, 3) := by decide +kernel
theorem dX9_call_48 : decode cX9_call 48 = .ok (.iload_n 1, 1) := by decide +kernel
theorem dX9_call_49 : decode cX9_call 49 = .ok (.iload_n 2, 1) := by decide +kernel
theorem dX9_call_50 : decode cX9_call 50 = .ok (.invokevirtual 130, 3) := by decide +kernel
theorem dX9_call_53 : decode cX9_call 53 = .ok (.istore 4, 2) := by decide +kernel
theorem dX9_call_55 : decode cX9_call 55 = .ok (.iload 4, 2) := by decide +kernel
theorem dX9_call_57 : decode cX9_call 57 = .ok (.ifCond .eq 9, 3) := by decide +kernel
theorem dX9_call_60 : decode cX9_call 60 = .ok (.bipush (-10), 2) := by decide +kernel
theorem dX9_call_62 : decode cX9_call 62 = .ok (.iload 4, 2) := by decide +kernel
theorem dX9_call_64 : decode cX9_call 64 = .ok (.isub, 1) := by decide +kernel
theorem dX9_call_65 : decode cX9_call 65 = .ok (.ireturn, 1) := by decide +kernel
theorem dX9_call_66 : decode cX9_call 66 = .ok (.aload_n 0, 1) := by decide +kernel
theorem dX9_call_67 : decode cX9_call 67 = .ok (.getfield 22, 3) := by decide +kernel
theorem dX9_call_70 : decode cX9_call 70 = .ok (.aload_n 0, 1) := by decide +kernel
theorem dX9_call_71 : decode cX9_call 71 = .ok (.getfield 10, 3) := by decide +kernel
theorem dX9_call_74 : decode cX9_call 74 = .ok (.invokevirtual 51, 3) := by decide +kernel
theorem dX9_call_77 : decode cX9_call 77 = .ok (.aload_n 0, 1) := by decide +kernel
theorem dX9_call_78 : decode cX9_call 78 = .ok (.getfield 10, 3) := by decide +kernel
theorem dX9_call_81 : decode cX9_call 81 = .ok (.iload_n 3, 1) := by decide +kernel
theorem dX9_call_82 : decode cX9_call 82 = .ok (.aload_n 0, 1) := by decide +kernel
theorem dX9_call_83 : decode cX9_call 83 = .ok (.getfield 36, 3) := by decide +kernel
theorem dX9_call_86 : decode cX9_call 86 = .ok (.invokevirtual 134, 3) := by decide +kernel
theorem dX9_call_89 : decode cX9_call 89 = .ok (.iload_n 3, 1) := by decide +kernel
theorem dX9_call_90 : decode cX9_call 90 = .ok (.ireturn, 1) := by decide +kernel
theorem dX9_end_0 : decode cX9_end 0 = .ok (.aload_n 0, 1) := by decide +kernel
theorem dX9_end_1 : decode cX9_end 1 = .ok (.getfield 10, 3) := by decide +kernel
theorem dX9_end_4 : decode cX9_end 4 = .ok (.invokevirtual 121, 3) := by decide +kernel
theorem dX9_end_7 : decode cX9_end 7 = .ok (.iload_n 1, 1) := by decide +kernel
theorem dX9_end_8 : decode cX9_end 8 = .ok (.invokevirtual 138, 3) := by decide +kernel
theorem dX9_end_11 : decode cX9_end 11 = .ok (.ifCond .ne 5, 3) := by decide +kernel
theorem dX9_end_14 : decode cX9_end 14 = .ok (.iconst (-1), 1) := by decide +kernel
theorem dX9_end_15 : decode cX9_end 15 = .ok (.ireturn, 1) := by decide +kernel
theorem dX9_end_16 : decode cX9_end 16 = .ok (.aload_n 0, 1) := by decide +kernel
theorem dX9_end_17 : decode cX9_end 17 = .ok (.getfield 22, 3) := by decide +kernel
theorem dX9_end_20 : decode cX9_end 20 = .ok (.aload_n 0, 1) := by decide +kernel
theorem dX9_end_21 : decode cX9_end 21 = .ok (.getfield 10, 3) := by decide +kernel
theorem dX9_end_24 : decode cX9_end 24 = .ok (.invokevirtual 51, 3) := by decide +kernel
theorem dX9_end_27 : decode cX9_end 27 = .ok (.aload_n 0, 1) := by decide +kernel
theorem dX9_end_28 : decode cX9_end 28 = .ok (.getfield 10, 3) := by decide +kernel
theorem dX9_end_31 : decode cX9_end 31 = .ok (.iload_n 1, 1) := by decide +kernel
theorem dX9_end_32 : decode cX9_end 32 = .ok (.invokevirtual 139, 3) := by decide +kernel
theorem dX9_end_35 : decode cX9_end 35 = .ok (.ireturn, 1) := by decide +kernel
theorem dX9_pass_0 : decode cX9_pass 0 = .ok (.iload_n 1, 1) := by decide +kernel
theorem dX9_pass_1 : decode cX9_pass 1 = .ok (.iconst 1, 1) := by decide +kernel
theorem dX9_pass_2 : decode cX9_pass 2 = .ok (.sipush 10080, 3) := by decide +kernel
theorem dX9_pass_5 : decode cX9_pass 5 = .ok (.invokestatic 69, 3) := by decide +kernel
theorem dX9_pass_8 : decode cX9_pass 8 = .ok (.ifCond .ne 5, 3) := by decide +kernel
theorem dX9_pass_11 : decode cX9_pass 11 = .ok (.iconst (-1), 1) := by decide +kernel
theorem dX9_pass_12 : decode cX9_pass 12 = .ok (.ireturn, 1) := by decide +kernel
theorem dX9_pass_13 : decode cX9_pass 13 = .ok (.aload_n 0, 1) := by decide +kernel
theorem dX9_pass_14 : decode cX9_pass 14 = .ok (.getfield 10, 3) := by decide +kernel
theorem dX9_pass_17 : decode cX9_pass 17 = .ok (.invokevirtual 142, 3) := by decide +kernel
theorem dX9_pass_20 : decode cX9_pass 20 = .ok (.iload_n 1, 1) := by decide +kernel
theorem dX9_pass_21 : decode cX9_pass 21 = .ok (.iadd, 1) := by decide +kernel
theorem dX9_pass_22 : decode cX9_pass 22 = .ok (.ldc 145, 2) := by decide +kernel
theorem dX9_pass_24 : decode cX9_pass 24 = .ok (.if_icmp .le 6, 3) := by decide +kernel
theorem dX9_pass_27 : decode cX9_pass 27 = .ok (.bipush (-2), 2) := by decide +kernel
theorem dX9_pass_29 : decode cX9_pass 29 = .ok (.ireturn, 1) := by decide +kernel
theorem dX9_pass_30 : decode cX9_pass 30 = .ok (.aload_n 0, 1) := by decide +kernel
theorem dX9_pass_31 : decode cX9_pass 31 = .ok (.getfield 22, 3) := by decide +kernel
theorem dX9_pass_34 : decode cX9_pass 34 = .ok (.aload_n 0, 1) := by decide +kernel
theorem dX9_pass_35 : decode cX9_pass 35 = .ok (.getfield 10, 3) := by decide +kernel
theorem dX9_pass_38 : decode cX9_pass 38 = .ok (.invokevirtual 51, 3) := by decide +kernel
theorem dX9_pass_41 : decode cX9_pass 41 = .ok (.aload_n 0, 1) := by decide +kernel
theorem dX9_pass_42 : decode cX9_pass 42 = .ok (.getfield 10, 3) := by decide +kernel
theorem dX9_pass_45 : decode cX9_pass 45 = .ok (.iload_n 1, 1) := by decide +kernel
theorem dX9_pass_46 : decode cX9_pass 46 = .ok (.invokevirtual 146, 3) := by decide +kernel
theorem dX9_pass_49 : decode cX9_pass 49 = .ok (.ireturn, 1) := by decide +kernel
theorem dX9_time_0 : decode cX9_time 0 = .ok (.aload_n 0, 1) := by decide +kernel
theorem dX9_time_1 : decode cX9_time 1 = .ok (.getfield 10, 3) := by decide +kernel
theorem dX9_time_4 : decode cX9_time 4 = .ok (.invokevirtual 142, 3) := by decide +kernel
theorem dX9_time_7 : decode cX9_time 7 = .ok (.ireturn, 1) := by decide +kernel
theorem dX9_band_0 : decode cX9_band 0 = .ok (.aload_n 0, 1) := by decide +kernel
theorem dX9_band_1 : decode cX9_band 1 = .ok (.getfield 10, 3) := by decide +kernel
theorem dX9_band_4 : decode cX9_band 4 = .ok (.invokevirtual 142, 3) := by decide +kernel
theorem dX9_band_7 : decode cX9_band 7 = .ok (.invokestatic 149, 3) := by decide +kernel
theorem dX9_band_10 : decode cX9_band 10 = .ok (.ireturn, 1) := by decide +kernel
theorem dX9_route_0 : decode cX9_route 0 = .ok (.aload_n 0, 1) := by decide +kernel
theorem dX9_route_1 : decode cX9_route 1 = .ok (.getfield 10, 3) := by decide +kernel
theorem dX9_route_4 : decode cX9_route 4 = .ok (.invokevirtual 85, 3) := by decide +kernel
theorem dX9_route_7 : decode cX9_route 7 = .ok (.iload_n 1, 1) := by decide +kernel
theorem dX9_route_8 : decode cX9_route 8 = .ok (.iload_n 2, 1) := by decide +kernel
theorem dX9_route_9 : decode cX9_route 9 = .ok (.invokevirtual 152, 3) := by decide +kernel
theorem dX9_route_12 : decode cX9_route 12 = .ok (.ireturn, 1) := by decide +kernel
theorem dX9_choice_0 : decode cX9_choice 0 = .ok (.aload_n 0, 1) := by decide +kernel
theorem dX9_choice_1 : decode cX9_choice 1 = .ok (.getfield 10, 3) := by decide +kernel
theorem dX9_choice_4 : decode cX9_choice 4 = .ok (.iload_n 1, 1) := by decide +kernel
theorem dX9_choice_5 : decode cX9_choice 5 = .ok (.invokevirtual 58, 3) := by decide +kernel
theorem dX9_choice_8 : decode cX9_choice 8 = .ok (.ifCond .eq 14, 3) := by decide +kernel
theorem dX9_choice_11 : decode cX9_choice 11 = .ok (.iload_n 2, 1) := by decide +kernel
theorem dX9_choice_12 : decode cX9_choice 12 = .ok (.invokestatic 112, 3) := by decide +kernel
theorem dX9_choice_15 : decode cX9_choice 15 = .ok (.ifCond .eq 7, 3) := by decide +kernel
theorem dX9_choice_18 : decode cX9_choice 18 = .ok (.iload_n 3, 1) := by decide +kernel
theorem dX9_choice_19 : decode cX9_choice 19 = .ok (.ifCond .ge 5, 3) := by decide +kernel
theorem dX9_choice_22 : decode cX9_choice 22 = .ok (.iconst (-1), 1) := by decide +kernel
theorem dX9_choice_23 : decode cX9_choice 23 = .ok (.ireturn, 1) := by decide +kernel
theorem dX9_choice_24 : decode cX9_choice 24 = .ok (.aload_n 0, 1) := by decide +kernel
theorem dX9_choice_25 : decode cX9_choice 25 = .ok (.getfield 10, 3) := by decide +kernel
theorem dX9_choice_28 : decode cX9_choice 28 = .ok (.invokevirtual 85, 3) := by decide +kernel
theorem dX9_choice_31 : decode cX9_choice 31 = .ok (.astore 4, 2) := by decide +kernel
theorem dX9_choice_33 : decode cX9_choice 33 = .ok (.aload_n 0, 1) := by decide +kernel
theorem dX9_choice_34 : decode cX9_choice 34 = .ok (.getfield 10, 3) := by decide +kernel
theorem dX9_choice_37 : decode cX9_choice 37 = .ok (.invokevirtual 142, 3) := by decide +kernel
theorem dX9_choice_40 : decode cX9_choice 40 = .ok (.invokestatic 149, 3) := by decide +kernel
theorem dX9_choice_43 : decode cX9_choice 43 = .ok (.istore 5, 2) := by decide +kernel
theorem dX9_choice_45 : decode cX9_choice 45 = .ok (.aload 4, 2) := by decide +kernel
theorem dX9_choice_47 : decode cX9_choice 47 = .ok (.iload_n 1, 1) := by decide +kernel
theorem dX9_choice_48 : decode cX9_choice 48 = .ok (.iload_n 2, 1) := by decide +kernel
theorem dX9_choice_49 : decode cX9_choice 49 = .ok (.bipush (-9), 2) := by decide +kernel
theorem dX9_choice_51 : decode cX9_choice 51 = .ok (.invokestatic 155, 3) := by decide +kernel
theorem dX9_choice_54 : decode cX9_choice 54 = .ok (.invokevirtual 159, 3) := by decide +kernel
theorem dX9_choice_57 : decode cX9_choice 57 = .ok (.istore 6, 2) := by decide +kernel
theorem dX9_choice_59 : decode cX9_choice 59 = .ok (.aload 4, 2) := by decide +kernel
theorem dX9_choice_61 : decode cX9_choice 61 = .ok (.bipush (-9), 2) := by decide +kernel
theorem dX9_choice_63 : decode cX9_choice 63 = .ok (.iload_n 1, 1) := by decide +kernel
theorem dX9_choice_64 : decode cX9_choice 64 = .ok (.iload 6, 2) := by decide +kernel
theorem dX9_choice_66 : decode cX9_choice 66 = .ok (.iload 5, 2) := by decide +kernel
theorem dX9_choice_68 : decode cX9_choice 68 = .ok (.invokevirtual 163, 3) := by decide +kernel
theorem dX9_choice_71 : decode cX9_choice 71 = .ok (.istore 7, 2) := by decide +kernel
theorem dX9_choice_73 : decode cX9_choice 73 = .ok (.iconst 0, 1) := by decide +kernel
theorem dX9_choice_74 : decode cX9_choice 74 = .ok (.istore 8, 2) := by decide +kernel
theorem dX9_choice_76 : decode cX9_choice 76 = .ok (.iload 8, 2) := by decide +kernel
theorem dX9_choice_78 : decode cX9_choice 78 = .ok (.iload_n 3, 1) := by decide +kernel
theorem dX9_choice_79 : decode cX9_choice 79 = .ok (.if_icmp .ge 37, 3) := by decide +kernel
theorem dX9_choice_82 : decode cX9_choice 82 = .ok (.iload 8, 2) := by decide +kernel
theorem dX9_choice_84 : decode cX9_choice 84 = .ok (.bipush 40, 2) := by decide +kernel
theorem dX9_choice_86 : decode cX9_choice 86 = .ok (.if_icmp .ge 30, 3) := by decide +kernel
theorem dX9_choice_89 : decode cX9_choice 89 = .ok (.iload 7, 2) := by decide +kernel
theorem dX9_choice_91 : decode cX9_choice 91 = .ok (.bipush (-9), 2) := by decide +kernel
theorem dX9_choice_93 : decode cX9_choice 93 = .ok (.if_icmp .eq 23, 3) := by decide +kernel
theorem dX9_choice_96 : decode cX9_choice 96 = .ok (.aload 4, 2) := by decide +kernel
theorem dX9_choice_98 : decode cX9_choice 98 = .ok (.iload 7, 2) := by decide +kernel
theorem dX9_choice_100 : decode cX9_choice 100 = .ok (.iload_n 1, 1) := by decide +kernel
theorem dX9_choice_101 : decode cX9_choice 101 = .ok (.iload 6, 2) := by decide +kernel
theorem dX9_choice_103 : decode cX9_choice 103 = .ok (.iload 5, 2) := by decide +kernel
theorem dX9_choice_105 : decode cX9_choice 105 = .ok (.invokevirtual 163, 3) := by decide +kernel
theorem dX9_choice_108 : decode cX9_choice 108 = .ok (.istore 7, 2) := by decide +kernel
theorem dX9_choice_110 : decode cX9_choice 110 = .ok (.iinc 8 1, 3) := by decide +kernel
theorem dX9_choice_113 : decode cX9_choice 113 = .ok (.goto (-37), 3) := by decide +kernel
theorem dX9_choice_116 : decode cX9_choice 116 = .ok (.iload 7, 2) := by decide +kernel
theorem dX9_choice_118 : decode cX9_choice 118 = .ok (.ireturn, 1) := by decide +kernel
theorem dX9_calls_0 : decode cX9_calls 0 = .ok (.aload_n 0, 1) := by decide +kernel
theorem dX9_calls_1 : decode cX9_calls 1 = .ok (.getfield 10, 3) := by decide +kernel
theorem dX9_calls_4 : decode cX9_calls 4 = .ok (.invokevirtual 121, 3) := by decide +kernel
theorem dX9_calls_7 : decode cX9_calls 7 = .ok (.invokevirtual 167, 3) := by decide +kernel
theorem dX9_calls_10 : decode cX9_calls 10 = .ok (.ireturn, 1) := by decide +kernel
theorem dX9_way_0 : decode cX9_way 0 = .ok (.aload_n 0, 1) := by decide +kernel
theorem dX9_way_1 : decode cX9_way 1 = .ok (.getfield 10, 3) := by decide +kernel
theorem dX9_way_4 : decode cX9_way 4 = .ok (.invokevirtual 121, 3) := by decide +kernel
theorem dX9_way_7 : decode cX9_way 7 = .ok (.iload_n 1, 1) := by decide +kernel
theorem dX9_way_8 : decode cX9_way 8 = .ok (.invokevirtual 138, 3) := by decide +kernel
theorem dX9_way_11 : decode cX9_way 11 = .ok (.ifCond .eq 7, 3) := by decide +kernel
theorem dX9_way_14 : decode cX9_way 14 = .ok (.iload_n 2, 1) := by decide +kernel
theorem dX9_way_15 : decode cX9_way 15 = .ok (.ifCond .ge 5, 3) := by decide +kernel
theorem dX9_way_18 : decode cX9_way 18 = .ok (.iconst (-1), 1) := by decide +kernel
theorem dX9_way_19 : decode cX9_way 19 = .ok (.ireturn, 1) := by decide +kernel
theorem dX9_way_20 : decode cX9_way 20 = .ok (.aload_n 0, 1) := by decide +kernel
theorem dX9_way_21 : decode cX9_way 21 = .ok (.getfield 10, 3) := by decide +kernel
theorem dX9_way_24 : decode cX9_way 24 = .ok (.invokevirtual 121, 3) := by decide +kernel
theorem dX9_way_27 : decode cX9_way 27 = .ok (.iload_n 1, 1) := by decide +kernel
theorem dX9_way_28 : decode cX9_way 28 = .ok (.iload_n 2, 1) := by decide +kernel
theorem dX9_way_29 : decode cX9_way 29 = .ok (.invokevirtual 170, 3) := by decide +kernel
theorem dX9_way_32 : decode cX9_way 32 = .ok (.ireturn, 1) := by decide +kernel
theorem dX9_called_0 : decode cX9_called 0 = .ok (.aload_n 0, 1) := by decide +kernel
theorem dX9_called_1 : decode cX9_called 1 = .ok (.getfield 10, 3) := by decide +kernel
theorem dX9_called_4 : decode cX9_called 4 = .ok (.invokevirtual 121, 3) := by decide +kernel
theorem dX9_called_7 : decode cX9_called 7 = .ok (.iload_n 1, 1) := by decide +kernel
theorem dX9_called_8 : decode cX9_called 8 = .ok (.invokevirtual 138, 3) := by decide +kernel
theorem dX9_called_11 : decode cX9_called 11 = .ok (.ifCond .eq 17, 3) := by decide +kernel
theorem dX9_called_14 : decode cX9_called 14 = .ok (.aload_n 0, 1) := by decide +kernel
theorem dX9_called_15 : decode cX9_called 15 = .ok (.getfield 10, 3) := by decide +kernel
theorem dX9_called_18 : decode cX9_called 18 = .ok (.invokevirtual 121, 3) := by decide +kernel
theorem dX9_called_21 : decode cX9_called 21 = .ok (.iload_n 1, 1) := by decide +kernel
theorem dX9_called_22 : decode cX9_called 22 = .ok (.invokevirtual 173, 3) := by decide +kernel
theorem dX9_called_25 : decode cX9_called 25 = .ok (.goto 4, 3) := by decide +kernel
theorem dX9_called_28 : decode cX9_called 28 = .ok (.iconst (-1), 1) := by decide +kernel
theorem dX9_called_29 : decode cX9_called 29 = .ok (.ireturn, 1) := by decide +kernel
theorem dX9_owes_0 : decode cX9_owes 0 = .ok (.aload_n 0, 1) := by decide +kernel
theorem dX9_owes_1 : decode cX9_owes 1 = .ok (.getfield 10, 3) := by decide +kernel
theorem dX9_owes_4 : decode cX9_owes 4 = .ok (.iload_n 1, 1) := by decide +kernel
theorem dX9_owes_5 : decode cX9_owes 5 = .ok (.invokevirtual 58, 3) := by decide +kernel
theorem dX9_owes_8 : decode cX9_owes 8 = .ok (.ifCond .eq 26, 3) := by decide +kernel
theorem dX9_owes_11 : decode cX9_owes 11 = .ok (.aload_n 0, 1) := by decide +kernel
theorem dX9_owes_12 : decode cX9_owes 12 = .ok (.getfield 10, 3) := by decide +kernel
theorem dX9_owes_15 : decode cX9_owes 15 = .ok (.iload_n 2, 1) := by decide +kernel
theorem dX9_owes_16 : decode cX9_owes 16 = .ok (.invokevirtual 58, 3) := by decide +kernel
theorem dX9_owes_19 : decode cX9_owes 19 = .ok (.ifCond .eq 15, 3) := by decide +kernel
theorem dX9_owes_22 : decode cX9_owes 22 = .ok (.aload_n 0, 1) := by decide +kernel
theorem dX9_owes_23 : decode cX9_owes 23 = .ok (.getfield 10, 3) := by decide +kernel
theorem dX9_owes_26 : decode cX9_owes 26 = .ok (.iload_n 1, 1) := by decide +kernel
theorem dX9_owes_27 : decode cX9_owes 27 = .ok (.iload_n 2, 1) := by decide +kernel
theorem dX9_owes_28 : decode cX9_owes 28 = .ok (.invokevirtual 176, 3) := by decide +kernel
theorem dX9_owes_31 : decode cX9_owes 31 = .ok (.goto 4, 3) := by decide +kernel
theorem dX9_owes_34 : decode cX9_owes 34 = .ok (.iconst (-1), 1) := by decide +kernel
theorem dX9_owes_35 : decode cX9_owes 35 = .ok (.ireturn, 1) := by decide +kernel
theorem dX9_attempts_0 : decode cX9_attempts 0 = .ok (.aload_n 0, 1) := by decide +kernel
theorem dX9_attempts_1 : decode cX9_attempts 1 = .ok (.getfield 36, 3) := by decide +kernel
theorem dX9_attempts_4 : decode cX9_attempts 4 = .ok (.invokevirtual 179, 3) := by decide +kernel
theorem dX9_attempts_7 : decode cX9_attempts 7 = .ok (.invokevirtual 183, 3) := by decide +kernel
theorem dX9_attempts_10 : decode cX9_attempts 10 = .ok (.ireturn, 1) := by decide +kernel
theorem dX9_attempt_0 : decode cX9_attempt 0 = .ok (.aload_n 0, 1) := by decide +kernel
theorem dX9_attempt_1 : decode cX9_attempt 1 = .ok (.getfield 36, 3) := by decide +kernel
theorem dX9_attempt_4 : decode cX9_attempt 4 = .ok (.invokevirtual 179, 3) := by decide +kernel
theorem dX9_attempt_7 : decode cX9_attempt 7 = .ok (.astore_n 3, 1) := by decide +kernel
theorem dX9_attempt_8 : decode cX9_attempt 8 = .ok (.aload_n 3, 1) := by decide +kernel
theorem dX9_attempt_9 : decode cX9_attempt 9 = .ok (.iload_n 1, 1) := by decide +kernel
theorem dX9_attempt_10 : decode cX9_attempt 10 = .ok (.invokevirtual 186, 3) := by decide +kernel
theorem dX9_attempt_13 : decode cX9_attempt 13 = .ok (.ifCond .eq 12, 3) := by decide +kernel
theorem dX9_attempt_16 : decode cX9_attempt 16 = .ok (.iload_n 2, 1) := by decide +kernel
theorem dX9_attempt_17 : decode cX9_attempt 17 = .ok (.iconst 0, 1) := by decide +kernel
theorem dX9_attempt_18 : decode cX9_attempt 18 = .ok (.iconst 1, 1) := by decide +kernel
theorem dX9_attempt_19 : decode cX9_attempt 19 = .ok (.invokestatic 69, 3) := by decide +kernel
theorem dX9_attempt_22 : decode cX9_attempt 22 = .ok (.ifCond .ne 5, 3) := by decide +kernel
theorem dX9_attempt_25 : decode cX9_attempt 25 = .ok (.iconst (-1), 1) := by decide +kernel
theorem dX9_attempt_26 : decode cX9_attempt 26 = .ok (.ireturn, 1) := by decide +kernel
theorem dX9_attempt_27 : decode cX9_attempt 27 = .ok (.iload_n 2, 1) := by decide +kernel
theorem dX9_attempt_28 : decode cX9_attempt 28 = .ok (.ifCond .ne 11, 3) := by decide +kernel
theorem dX9_attempt_31 : decode cX9_attempt 31 = .ok (.aload_n 3, 1) := by decide +kernel
theorem dX9_attempt_32 : decode cX9_attempt 32 = .ok (.iload_n 1, 1) := by decide +kernel
theorem dX9_attempt_33 : decode cX9_attempt 33 = .ok (.invokevirtual 187, 3) := by decide +kernel
theorem dX9_attempt_36 : decode cX9_attempt 36 = .ok (.goto 8, 3) := by decide +kernel
theorem dX9_attempt_39 : decode cX9_attempt 39 = .ok (.aload_n 3, 1) := by decide +kernel
theorem dX9_attempt_40 : decode cX9_attempt 40 = .ok (.iload_n 1, 1) := by decide +kernel
theorem dX9_attempt_41 : decode cX9_attempt 41 = .ok (.invokevirtual 190, 3) := by decide +kernel
theorem dX9_attempt_44 : decode cX9_attempt 44 = .ok (.ireturn, 1) := by decide +kernel
theorem dX9_cheapest_0 : decode cX9_cheapest 0 = .ok (.aload_n 0, 1) := by decide +kernel
theorem dX9_cheapest_1 : decode cX9_cheapest 1 = .ok (.getfield 10, 3) := by decide +kernel
theorem dX9_cheapest_4 : decode cX9_cheapest 4 = .ok (.iload_n 1, 1) := by decide +kernel
theorem dX9_cheapest_5 : decode cX9_cheapest 5 = .ok (.invokevirtual 58, 3) := by decide +kernel
theorem dX9_cheapest_8 : decode cX9_cheapest 8 = .ok (.ifCond .eq 10, 3) := by decide +kernel
theorem dX9_cheapest_11 : decode cX9_cheapest 11 = .ok (.iload_n 2, 1) := by decide +kernel
theorem dX9_cheapest_12 : decode cX9_cheapest 12 = .ok (.invokestatic 112, 3) := by decide +kernel
theorem dX9_cheapest_15 : decode cX9_cheapest 15 = .ok (.ifCond .ne 5, 3) := by decide +kernel
theorem dX9_cheapest_18 : decode cX9_cheapest 18 = .ok (.iconst (-1), 1) := by decide +kernel
theorem dX9_cheapest_19 : decode cX9_cheapest 19 = .ok (.ireturn, 1) := by decide +kernel
theorem dX9_cheapest_20 : decode cX9_cheapest 20 = .ok (.aload_n 0, 1) := by decide +kernel
theorem dX9_cheapest_21 : decode cX9_cheapest 21 = .ok (.getfield 43, 3) := by decide +kernel
theorem dX9_cheapest_24 : decode cX9_cheapest 24 = .ok (.aload_n 0, 1) := by decide +kernel
theorem dX9_cheapest_25 : decode cX9_cheapest 25 = .ok (.getfield 10, 3) := by decide +kernel
theorem dX9_cheapest_28 : decode cX9_cheapest 28 = .ok (.iload_n 1, 1) := by decide +kernel
theorem dX9_cheapest_29 : decode cX9_cheapest 29 = .ok (.iload_n 2, 1) := by decide +kernel
theorem dX9_cheapest_30 : decode cX9_cheapest 30 = .ok (.invokevirtual 193, 3) := by decide +kernel
theorem dX9_cheapest_33 : decode cX9_cheapest 33 = .ok (.ireturn, 1) := by decide +kernel
theorem dX9_type_0 : decode cX9_type 0 = .ok (.iload_n 1, 1) := by decide +kernel
theorem dX9_type_1 : decode cX9_type 1 = .ok (.bipush 32, 2) := by decide +kernel
theorem dX9_type_3 : decode cX9_type 3 = .ok (.bipush 126, 2) := by decide +kernel
theorem dX9_type_5 : decode cX9_type 5 = .ok (.invokestatic 69, 3) := by decide +kernel
theorem dX9_type_8 : decode cX9_type 8 = .ok (.ifCond .ne 5, 3) := by decide +kernel
theorem dX9_type_11 : decode cX9_type 11 = .ok (.iconst (-1), 1) := by decide +kernel
theorem dX9_type_12 : decode cX9_type 12 = .ok (.ireturn, 1) := by decide +kernel
theorem dX9_type_13 : decode cX9_type 13 = .ok (.aload_n 0, 1) := by decide +kernel
theorem dX9_type_14 : decode cX9_type 14 = .ok (.getfield 29, 3) := by decide +kernel
theorem dX9_type_17 : decode cX9_type 17 = .ok (.iload_n 1, 1) := by decide +kernel
theorem dX9_type_18 : decode cX9_type 18 = .ok (.i2c, 1) := by decide +kernel
theorem dX9_type_19 : decode cX9_type 19 = .ok (.invokevirtual 196, 3) := by decide +kernel
theorem dX9_type_22 : decode cX9_type 22 = .ok (.ifCond .eq 13, 3) := by decide +kernel
theorem dX9_type_25 : decode cX9_type 25 = .ok (.aload_n 0, 1) := by decide +kernel
theorem dX9_type_26 : decode cX9_type 26 = .ok (.getfield 29, 3) := by decide +kernel
theorem dX9_type_29 : decode cX9_type 29 = .ok (.invokevirtual 200, 3) := by decide +kernel
theorem dX9_type_32 : decode cX9_type 32 = .ok (.goto 5, 3) := by decide +kernel
theorem dX9_type_35 : decode cX9_type 35 = .ok (.bipush (-3), 2) := by decide +kernel
theorem dX9_type_37 : decode cX9_type 37 = .ok (.ireturn, 1) := by decide +kernel
theorem dX9_clear_0 : decode cX9_clear 0 = .ok (.aload_n 0, 1) := by decide +kernel
theorem dX9_clear_1 : decode cX9_clear 1 = .ok (.getfield 29, 3) := by decide +kernel
theorem dX9_clear_4 : decode cX9_clear 4 = .ok (.invokevirtual 200, 3) := by decide +kernel
theorem dX9_clear_7 : decode cX9_clear 7 = .ok (.istore_n 1, 1) := by decide +kernel
theorem dX9_clear_8 : decode cX9_clear 8 = .ok (.aload_n 0, 1) := by decide +kernel
theorem dX9_clear_9 : decode cX9_clear 9 = .ok (.getfield 29, 3) := by decide +kernel
theorem dX9_clear_12 : decode cX9_clear 12 = .ok (.invokevirtual 201, 3) := by decide +kernel
theorem dX9_clear_15 : decode cX9_clear 15 = .ok (.iload_n 1, 1) := by decide +kernel
theorem dX9_clear_16 : decode cX9_clear 16 = .ok (.ireturn, 1) := by decide +kernel
theorem dX9_run_0 : decode cX9_run 0 = .ok (.aload_n 0, 1) := by decide +kernel
theorem dX9_run_1 : decode cX9_run 1 = .ok (.getfield 29, 3) := by decide +kernel
theorem dX9_run_4 : decode cX9_run 4 = .ok (.invokevirtual 204, 3) := by decide +kernel
theorem dX9_run_7 : decode cX9_run 7 = .ok (.ifCond .ne 14, 3) := by decide +kernel
theorem dX9_run_10 : decode cX9_run 10 = .ok (.bipush (-100), 2) := by decide +kernel
theorem dX9_run_12 : decode cX9_run 12 = .ok (.aload_n 0, 1) := by decide +kernel
theorem dX9_run_13 : decode cX9_run 13 = .ok (.getfield 29, 3) := by decide +kernel
theorem dX9_run_16 : decode cX9_run 16 = .ok (.invokevirtual 208, 3) := by decide +kernel
theorem dX9_run_19 : decode cX9_run 19 = .ok (.isub, 1) := by decide +kernel
theorem dX9_run_20 : decode cX9_run 20 = .ok (.ireturn, 1) := by decide +kernel
theorem dX9_run_21 : decode cX9_run 21 = .ok (.aload_n 0, 1) := by decide +kernel
theorem dX9_run_22 : decode cX9_run 22 = .ok (.getfield 16, 3) := by decide +kernel
theorem dX9_run_25 : decode cX9_run 25 = .ok (.aload_n 0, 1) := by decide +kernel
theorem dX9_run_26 : decode cX9_run 26 = .ok (.getfield 10, 3) := by decide +kernel
theorem dX9_run_29 : decode cX9_run 29 = .ok (.invokevirtual 211, 3) := by decide +kernel
theorem dX9_run_32 : decode cX9_run 32 = .ok (.aload_n 0, 1) := by decide +kernel
theorem dX9_run_33 : decode cX9_run 33 = .ok (.getfield 29, 3) := by decide +kernel
theorem dX9_run_36 : decode cX9_run 36 = .ok (.invokevirtual 214, 3) := by decide +kernel
theorem dX9_run_39 : decode cX9_run 39 = .ok (.istore_n 1, 1) := by decide +kernel
theorem dX9_run_40 : decode cX9_run 40 = .ok (.iconst 0, 1) := by decide +kernel
theorem dX9_run_41 : decode cX9_run 41 = .ok (.istore_n 2, 1) := by decide +kernel
theorem dX9_run_42 : decode cX9_run 42 = .ok (.iload_n 2, 1) := by decide +kernel
theorem dX9_run_43 : decode cX9_run 43 = .ok (.iload_n 1, 1) := by decide +kernel
theorem dX9_run_44 : decode cX9_run 44 = .ok (.if_icmp .ge 41, 3) := by decide +kernel
theorem dX9_run_47 : decode cX9_run 47 = .ok (.aload_n 0, 1) := by decide +kernel
theorem dX9_run_48 : decode cX9_run 48 = .ok (.getfield 29, 3) := by decide +kernel
theorem dX9_run_51 : decode cX9_run 51 = .ok (.iload_n 2, 1) := by decide +kernel
theorem dX9_run_52 : decode cX9_run 52 = .ok (.aload_n 0, 1) := by decide +kernel
theorem dX9_run_53 : decode cX9_run 53 = .ok (.getfield 10, 3) := by decide +kernel
theorem dX9_run_56 : decode cX9_run 56 = .ok (.invokevirtual 217, 3) := by decide +kernel
theorem dX9_run_59 : decode cX9_run 59 = .ok (.ifCond .ne 20, 3) := by decide +kernel
theorem dX9_run_62 : decode cX9_run 62 = .ok (.aload_n 0, 1) := by decide +kernel
theorem dX9_run_63 : decode cX9_run 63 = .ok (.getfield 10, 3) := by decide +kernel
theorem dX9_run_66 : decode cX9_run 66 = .ok (.aload_n 0, 1) := by decide +kernel
theorem dX9_run_67 : decode cX9_run 67 = .ok (.getfield 16, 3) := by decide +kernel
theorem dX9_run_70 : decode cX9_run 70 = .ok (.invokevirtual 211, 3) := by decide +kernel
theorem dX9_run_73 : decode cX9_run 73 = .ok (.sipush (-1000), 3) := by decide +kernel
theorem dX9_run_76 : decode cX9_run 76 = .ok (.iload_n 2, 1) := by decide +kernel
theorem dX9_run_77 : decode cX9_run 77 = .ok (.isub, 1) := by decide +kernel
theorem dX9_run_78 : decode cX9_run 78 = .ok (.ireturn, 1) := by decide +kernel
theorem dX9_run_79 : decode cX9_run 79 = .ok (.iinc 2 1, 3) := by decide +kernel
theorem dX9_run_82 : decode cX9_run 82 = .ok (.goto (-40), 3) := by decide +kernel
theorem dX9_run_85 : decode cX9_run 85 = .ok (.aload_n 0, 1) := by decide +kernel
theorem dX9_run_86 : decode cX9_run 86 = .ok (.getfield 22, 3) := by decide +kernel
theorem dX9_run_89 : decode cX9_run 89 = .ok (.aload_n 0, 1) := by decide +kernel
theorem dX9_run_90 : decode cX9_run 90 = .ok (.getfield 16, 3) := by decide +kernel
theorem dX9_run_93 : decode cX9_run 93 = .ok (.invokevirtual 51, 3) := by decide +kernel
theorem dX9_run_96 : decode cX9_run 96 = .ok (.aload_n 0, 1) := by decide +kernel
theorem dX9_run_97 : decode cX9_run 97 = .ok (.getfield 29, 3) := by decide +kernel
theorem dX9_run_100 : decode cX9_run 100 = .ok (.invokevirtual 201, 3) := by decide +kernel
theorem dX9_run_103 : decode cX9_run 103 = .ok (.iload_n 1, 1) := by decide +kernel
theorem dX9_run_104 : decode cX9_run 104 = .ok (.ireturn, 1) := by decide +kernel
theorem dX9_undo_0 : decode cX9_undo 0 = .ok (.aload_n 0, 1) := by decide +kernel
theorem dX9_undo_1 : decode cX9_undo 1 = .ok (.getfield 22, 3) := by decide +kernel
theorem dX9_undo_4 : decode cX9_undo 4 = .ok (.aload_n 0, 1) := by decide +kernel
theorem dX9_undo_5 : decode cX9_undo 5 = .ok (.getfield 10, 3) := by decide +kernel
theorem dX9_undo_8 : decode cX9_undo 8 = .ok (.invokevirtual 221, 3) := by decide +kernel
theorem dX9_undo_11 : decode cX9_undo 11 = .ok (.ifCond .eq 13, 3) := by decide +kernel
theorem dX9_undo_14 : decode cX9_undo 14 = .ok (.aload_n 0, 1) := by decide +kernel
theorem dX9_undo_15 : decode cX9_undo 15 = .ok (.getfield 22, 3) := by decide +kernel
theorem dX9_undo_18 : decode cX9_undo 18 = .ok (.invokevirtual 225, 3) := by decide +kernel
theorem dX9_undo_21 : decode cX9_undo 21 = .ok (.goto 5, 3) := by decide +kernel
theorem dX9_undo_24 : decode cX9_undo 24 = .ok (.bipush (-9), 2) := by decide +kernel
theorem dX9_undo_26 : decode cX9_undo 26 = .ok (.ireturn, 1) := by decide +kernel
theorem dX9_fingerprint_0 : decode cX9_fingerprint 0 = .ok (.aload_n 0, 1) := by decide +kernel
theorem dX9_fingerprint_1 : decode cX9_fingerprint 1 = .ok (.getfield 10, 3) := by decide +kernel
theorem dX9_fingerprint_4 : decode cX9_fingerprint 4 = .ok (.invokevirtual 85, 3) := by decide +kernel
theorem dX9_fingerprint_7 : decode cX9_fingerprint 7 = .ok (.ldc2_w 226, 3) := by decide +kernel
theorem dX9_fingerprint_10 : decode cX9_fingerprint 10 = .ok (.ldc2_w 228, 3) := by decide +kernel
theorem dX9_fingerprint_13 : decode cX9_fingerprint 13 = .ok (.aload_n 0, 1) := by decide +kernel
theorem dX9_fingerprint_14 : decode cX9_fingerprint 14 = .ok (.getfield 10, 3) := by decide +kernel
theorem dX9_fingerprint_17 : decode cX9_fingerprint 17 = .ok (.invokevirtual 47, 3) := by decide +kernel
theorem dX9_fingerprint_20 : decode cX9_fingerprint 20 = .ok (.i2l, 1) := by decide +kernel
theorem dX9_fingerprint_21 : decode cX9_fingerprint 21 = .ok (.ladd, 1) := by decide +kernel
theorem dX9_fingerprint_22 : decode cX9_fingerprint 22 = .ok (.lmul, 1) := by decide +kernel
theorem dX9_fingerprint_23 : decode cX9_fingerprint 23 = .ok (.aload_n 0, 1) := by decide +kernel
theorem dX9_fingerprint_24 : decode cX9_fingerprint 24 = .ok (.getfield 10, 3) := by decide +kernel
theorem dX9_fingerprint_27 : decode cX9_fingerprint 27 = .ok (.invokevirtual 85, 3) := by decide +kernel
theorem dX9_fingerprint_30 : decode cX9_fingerprint 30 = .ok (.invokevirtual 230, 3) := by decide +kernel
theorem dX9_fingerprint_33 : decode cX9_fingerprint 33 = .ok (.i2l, 1) := by decide +kernel
theorem dX9_fingerprint_34 : decode cX9_fingerprint 34 = .ok (.ladd, 1) := by decide +kernel
theorem dX9_fingerprint_35 : decode cX9_fingerprint 35 = .ok (.invokevirtual 231, 3) := by decide +kernel
theorem dX9_fingerprint_38 : decode cX9_fingerprint 38 = .ok (.lstore_n 1, 1) := by decide +kernel
theorem dX9_fingerprint_39 : decode cX9_fingerprint 39 = .ok (.ldc2_w 226, 3) := by decide +kernel
theorem dX9_fingerprint_42 : decode cX9_fingerprint 42 = .ok (.lload_n 1, 1) := by decide +kernel
theorem dX9_fingerprint_43 : decode cX9_fingerprint 43 = .ok (.lmul, 1) := by decide +kernel
theorem dX9_fingerprint_44 : decode cX9_fingerprint 44 = .ok (.aload_n 0, 1) := by decide +kernel
theorem dX9_fingerprint_45 : decode cX9_fingerprint 45 = .ok (.getfield 10, 3) := by decide +kernel
theorem dX9_fingerprint_48 : decode cX9_fingerprint 48 = .ok (.invokevirtual 104, 3) := by decide +kernel
theorem dX9_fingerprint_51 : decode cX9_fingerprint 51 = .ok (.invokevirtual 235, 3) := by decide +kernel
theorem dX9_fingerprint_54 : decode cX9_fingerprint 54 = .ok (.i2l, 1) := by decide +kernel
theorem dX9_fingerprint_55 : decode cX9_fingerprint 55 = .ok (.ladd, 1) := by decide +kernel
theorem dX9_fingerprint_56 : decode cX9_fingerprint 56 = .ok (.lstore_n 1, 1) := by decide +kernel
theorem dX9_fingerprint_57 : decode cX9_fingerprint 57 = .ok (.ldc2_w 226, 3) := by decide +kernel
theorem dX9_fingerprint_60 : decode cX9_fingerprint 60 = .ok (.lload_n 1, 1) := by decide +kernel
theorem dX9_fingerprint_61 : decode cX9_fingerprint 61 = .ok (.lmul, 1) := by decide +kernel
theorem dX9_fingerprint_62 : decode cX9_fingerprint 62 = .ok (.aload_n 0, 1) := by decide +kernel
theorem dX9_fingerprint_63 : decode cX9_fingerprint 63 = .ok (.getfield 10, 3) := by decide +kernel
theorem dX9_fingerprint_66 : decode cX9_fingerprint 66 = .ok (.invokevirtual 236, 3) := by decide +kernel
theorem dX9_fingerprint_69 : decode cX9_fingerprint 69 = .ok (.i2l, 1) := by decide +kernel
theorem dX9_fingerprint_70 : decode cX9_fingerprint 70 = .ok (.ladd, 1) := by decide +kernel
theorem dX9_fingerprint_71 : decode cX9_fingerprint 71 = .ok (.lstore_n 1, 1) := by decide +kernel
theorem dX9_fingerprint_72 : decode cX9_fingerprint 72 = .ok (.ldc2_w 226, 3) := by decide +kernel
theorem dX9_fingerprint_75 : decode cX9_fingerprint 75 = .ok (.lload_n 1, 1) := by decide +kernel
theorem dX9_fingerprint_76 : decode cX9_fingerprint 76 = .ok (.lmul, 1) := by decide +kernel
theorem dX9_fingerprint_77 : decode cX9_fingerprint 77 = .ok (.aload_n 0, 1) := by decide +kernel
theorem dX9_fingerprint_78 : decode cX9_fingerprint 78 = .ok (.getfield 10, 3) := by decide +kernel
theorem dX9_fingerprint_81 : decode cX9_fingerprint 81 = .ok (.invokevirtual 142, 3) := by decide +kernel
theorem dX9_fingerprint_84 : decode cX9_fingerprint 84 = .ok (.i2l, 1) := by decide +kernel
theorem dX9_fingerprint_85 : decode cX9_fingerprint 85 = .ok (.ladd, 1) := by decide +kernel
theorem dX9_fingerprint_86 : decode cX9_fingerprint 86 = .ok (.lstore_n 1, 1) := by decide +kernel
theorem dX9_fingerprint_87 : decode cX9_fingerprint 87 = .ok (.ldc2_w 226, 3) := by decide +kernel
theorem dX9_fingerprint_90 : decode cX9_fingerprint 90 = .ok (.lload_n 1, 1) := by decide +kernel
theorem dX9_fingerprint_91 : decode cX9_fingerprint 91 = .ok (.lmul, 1) := by decide +kernel
theorem dX9_fingerprint_92 : decode cX9_fingerprint 92 = .ok (.aload_n 0, 1) := by decide +kernel
theorem dX9_fingerprint_93 : decode cX9_fingerprint 93 = .ok (.getfield 10, 3) := by decide +kernel
theorem dX9_fingerprint_96 : decode cX9_fingerprint 96 = .ok (.invokevirtual 121, 3) := by decide +kernel
theorem dX9_fingerprint_99 : decode cX9_fingerprint 99 = .ok (.invokevirtual 167, 3) := by decide +kernel
theorem dX9_fingerprint_102 : decode cX9_fingerprint 102 = .ok (.i2l, 1) := by decide +kernel
theorem dX9_fingerprint_103 : decode cX9_fingerprint 103 = .ok (.ladd, 1) := by decide +kernel
theorem dX9_fingerprint_104 : decode cX9_fingerprint 104 = .ok (.lstore_n 1, 1) := by decide +kernel
theorem dX9_fingerprint_105 : decode cX9_fingerprint 105 = .ok (.aload_n 0, 1) := by decide +kernel
theorem dX9_fingerprint_106 : decode cX9_fingerprint 106 = .ok (.getfield 10, 3) := by decide +kernel
theorem dX9_fingerprint_109 : decode cX9_fingerprint 109 = .ok (.lload_n 1, 1) := by decide +kernel
theorem dX9_fingerprint_110 : decode cX9_fingerprint 110 = .ok (.invokevirtual 239, 3) := by decide +kernel
theorem dX9_fingerprint_113 : decode cX9_fingerprint 113 = .ok (.lreturn, 1) := by decide +kernel
theorem dX9_inRange_0 : decode cX9_inRange 0 = .ok (.iload_n 0, 1) := by decide +kernel
theorem dX9_inRange_1 : decode cX9_inRange 1 = .ok (.iload_n 1, 1) := by decide +kernel
theorem dX9_inRange_2 : decode cX9_inRange 2 = .ok (.if_icmp .lt 12, 3) := by decide +kernel
theorem dX9_inRange_5 : decode cX9_inRange 5 = .ok (.iload_n 0, 1) := by decide +kernel
theorem dX9_inRange_6 : decode cX9_inRange 6 = .ok (.iload_n 2, 1) := by decide +kernel
theorem dX9_inRange_7 : decode cX9_inRange 7 = .ok (.if_icmp .gt 7, 3) := by decide +kernel
theorem dX9_inRange_10 : decode cX9_inRange 10 = .ok (.iconst 1, 1) := by decide +kernel
theorem dX9_inRange_11 : decode cX9_inRange 11 = .ok (.goto 4, 3) := by decide +kernel
theorem dX9_inRange_14 : decode cX9_inRange 14 = .ok (.iconst 0, 1) := by decide +kernel
theorem dX9_inRange_15 : decode cX9_inRange 15 = .ok (.ireturn, 1) := by decide +kernel
theorem dX9_isNumber_0 : decode cX9_isNumber 0 = .ok (.iload_n 0, 1) := by decide +kernel
theorem dX9_isNumber_1 : decode cX9_isNumber 1 = .ok (.iconst 1, 1) := by decide +kernel
theorem dX9_isNumber_2 : decode cX9_isNumber 2 = .ok (.ldc 242, 2) := by decide +kernel
theorem dX9_isNumber_4 : decode cX9_isNumber 4 = .ok (.invokestatic 69, 3) := by decide +kernel
theorem dX9_isNumber_7 : decode cX9_isNumber 7 = .ok (.ireturn, 1) := by decide +kernel
theorem dX9_bandOf_0 : decode cX9_bandOf 0 = .ok (.iload_n 0, 1) := by decide +kernel
theorem dX9_bandOf_1 : decode cX9_bandOf 1 = .ok (.sipush 10080, 3) := by decide +kernel
theorem dX9_bandOf_4 : decode cX9_bandOf 4 = .ok (.invokestatic 243, 3) := by decide +kernel
theorem dX9_bandOf_7 : decode cX9_bandOf 7 = .ok (.istore_n 1, 1) := by decide +kernel
theorem dX9_bandOf_8 : decode cX9_bandOf 8 = .ok (.iload_n 1, 1) := by decide +kernel
theorem dX9_bandOf_9 : decode cX9_bandOf 9 = .ok (.sipush 7200, 3) := by decide +kernel
theorem dX9_bandOf_12 : decode cX9_bandOf 12 = .ok (.if_icmp .lt 5, 3) := by decide +kernel
theorem dX9_bandOf_15 : decode cX9_bandOf 15 = .ok (.iconst 2, 1) := by decide +kernel
theorem dX9_bandOf_16 : decode cX9_bandOf 16 = .ok (.ireturn, 1) := by decide +kernel
theorem dX9_bandOf_17 : decode cX9_bandOf 17 = .ok (.iload_n 1, 1) := by decide +kernel
theorem dX9_bandOf_18 : decode cX9_bandOf 18 = .ok (.sipush 1440, 3) := by decide +kernel
theorem dX9_bandOf_21 : decode cX9_bandOf 21 = .ok (.irem, 1) := by decide +kernel
theorem dX9_bandOf_22 : decode cX9_bandOf 22 = .ok (.sipush 480, 3) := by decide +kernel
theorem dX9_bandOf_25 : decode cX9_bandOf 25 = .ok (.sipush 1199, 3) := by decide +kernel
theorem dX9_bandOf_28 : decode cX9_bandOf 28 = .ok (.invokestatic 69, 3) := by decide +kernel
theorem dX9_bandOf_31 : decode cX9_bandOf 31 = .ok (.ifCond .eq 7, 3) := by decide +kernel
theorem dX9_bandOf_34 : decode cX9_bandOf 34 = .ok (.iconst 0, 1) := by decide +kernel
theorem dX9_bandOf_35 : decode cX9_bandOf 35 = .ok (.goto 4, 3) := by decide +kernel
theorem dX9_bandOf_38 : decode cX9_bandOf 38 = .ok (.iconst 1, 1) := by decide +kernel
theorem dX9_bandOf_39 : decode cX9_bandOf 39 = .ok (.ireturn, 1) := by decide +kernel
theorem dX9_digitsOf_0 : decode cX9_digitsOf 0 = .ok (.iload_n 1, 1) := by decide +kernel
theorem dX9_digitsOf_1 : decode cX9_digitsOf 1 = .ok (.bipush (-9), 2) := by decide +kernel
theorem dX9_digitsOf_3 : decode cX9_digitsOf 3 = .ok (.if_icmp .ne 6, 3) := by decide +kernel
theorem dX9_digitsOf_6 : decode cX9_digitsOf 6 = .ok (.iload_n 0, 1) := by decide +kernel
theorem dX9_digitsOf_7 : decode cX9_digitsOf 7 = .ok (.i2l, 1) := by decide +kernel
theorem dX9_digitsOf_8 : decode cX9_digitsOf 8 = .ok (.lreturn, 1) := by decide +kernel
theorem dX9_digitsOf_9 : decode cX9_digitsOf 9 = .ok (.lconst 1, 1) := by decide +kernel
theorem dX9_digitsOf_10 : decode cX9_digitsOf 10 = .ok (.lstore_n 2, 1) := by decide +kernel
theorem dX9_digitsOf_11 : decode cX9_digitsOf 11 = .ok (.iconst 0, 1) := by decide +kernel
theorem dX9_digitsOf_12 : decode cX9_digitsOf 12 = .ok (.istore 4, 2) := by decide +kernel
theorem dX9_digitsOf_14 : decode cX9_digitsOf 14 = .ok (.iload 4, 2) := by decide +kernel
theorem dX9_digitsOf_16 : decode cX9_digitsOf 16 = .ok (.bipush 9, 2) := by decide +kernel
theorem dX9_digitsOf_18 : decode cX9_digitsOf 18 = .ok (.if_icmp .ge 22, 3) := by decide +kernel
theorem dX9_digitsOf_21 : decode cX9_digitsOf 21 = .ok (.lload_n 2, 1) := by decide +kernel
theorem dX9_digitsOf_22 : decode cX9_digitsOf 22 = .ok (.iload_n 0, 1) := by decide +kernel
theorem dX9_digitsOf_23 : decode cX9_digitsOf 23 = .ok (.i2l, 1) := by decide +kernel
theorem dX9_digitsOf_24 : decode cX9_digitsOf 24 = .ok (.lcmp, 1) := by decide +kernel
theorem dX9_digitsOf_25 : decode cX9_digitsOf 25 = .ok (.ifCond .gt 15, 3) := by decide +kernel
theorem dX9_digitsOf_28 : decode cX9_digitsOf 28 = .ok (.lload_n 2, 1) := by decide +kernel
theorem dX9_digitsOf_29 : decode cX9_digitsOf 29 = .ok (.ldc2_w 248, 3) := by decide +kernel
theorem dX9_digitsOf_32 : decode cX9_digitsOf 32 = .ok (.lmul, 1) := by decide +kernel
theorem dX9_digitsOf_33 : decode cX9_digitsOf 33 = .ok (.lstore_n 2, 1) := by decide +kernel
theorem dX9_digitsOf_34 : decode cX9_digitsOf 34 = .ok (.iinc 4 1, 3) := by decide +kernel
theorem dX9_digitsOf_37 : decode cX9_digitsOf 37 = .ok (.goto (-23), 3) := by decide +kernel
theorem dX9_digitsOf_40 : decode cX9_digitsOf 40 = .ok (.ldc2_w 250, 3) := by decide +kernel
theorem dX9_digitsOf_43 : decode cX9_digitsOf 43 = .ok (.iload_n 1, 1) := by decide +kernel
theorem dX9_digitsOf_44 : decode cX9_digitsOf 44 = .ok (.i2l, 1) := by decide +kernel
theorem dX9_digitsOf_45 : decode cX9_digitsOf 45 = .ok (.ladd, 1) := by decide +kernel
theorem dX9_digitsOf_46 : decode cX9_digitsOf 46 = .ok (.lload_n 2, 1) := by decide +kernel
theorem dX9_digitsOf_47 : decode cX9_digitsOf 47 = .ok (.lmul, 1) := by decide +kernel
theorem dX9_digitsOf_48 : decode cX9_digitsOf 48 = .ok (.iload_n 0, 1) := by decide +kernel
theorem dX9_digitsOf_49 : decode cX9_digitsOf 49 = .ok (.i2l, 1) := by decide +kernel
theorem dX9_digitsOf_50 : decode cX9_digitsOf 50 = .ok (.ladd, 1) := by decide +kernel
theorem dX9_digitsOf_51 : decode cX9_digitsOf 51 = .ok (.lreturn, 1) := by decide +kernel
theorem dX9_beginsWith_0 : decode cX9_beginsWith 0 = .ok (.lload_n 0, 1) := by decide +kernel
theorem dX9_beginsWith_1 : decode cX9_beginsWith 1 = .ok (.lstore_n 3, 1) := by decide +kernel
theorem dX9_beginsWith_2 : decode cX9_beginsWith 2 = .ok (.iconst 0, 1) := by decide +kernel
theorem dX9_beginsWith_3 : decode cX9_beginsWith 3 = .ok (.istore 5, 2) := by decide +kernel
theorem dX9_beginsWith_5 : decode cX9_beginsWith 5 = .ok (.iload 5, 2) := by decide +kernel
theorem dX9_beginsWith_7 : decode cX9_beginsWith 7 = .ok (.bipush 13, 2) := by decide +kernel
theorem dX9_beginsWith_9 : decode cX9_beginsWith 9 = .ok (.if_icmp .ge 22, 3) := by decide +kernel
theorem dX9_beginsWith_12 : decode cX9_beginsWith 12 = .ok (.lload_n 3, 1) := by decide +kernel
theorem dX9_beginsWith_13 : decode cX9_beginsWith 13 = .ok (.iload_n 2, 1) := by decide +kernel
theorem dX9_beginsWith_14 : decode cX9_beginsWith 14 = .ok (.i2l, 1) := by decide +kernel
theorem dX9_beginsWith_15 : decode cX9_beginsWith 15 = .ok (.lcmp, 1) := by decide +kernel
theorem dX9_beginsWith_16 : decode cX9_beginsWith 16 = .ok (.ifCond .le 15, 3) := by decide +kernel
theorem dX9_beginsWith_19 : decode cX9_beginsWith 19 = .ok (.lload_n 3, 1) := by decide +kernel
theorem dX9_beginsWith_20 : decode cX9_beginsWith 20 = .ok (.ldc2_w 248, 3) := by decide +kernel
theorem dX9_beginsWith_23 : decode cX9_beginsWith 23 = .ok (.ldiv, 1) := by decide +kernel
theorem dX9_beginsWith_24 : decode cX9_beginsWith 24 = .ok (.lstore_n 3, 1) := by decide +kernel
theorem dX9_beginsWith_25 : decode cX9_beginsWith 25 = .ok (.iinc 5 1, 3) := by decide +kernel
theorem dX9_beginsWith_28 : decode cX9_beginsWith 28 = .ok (.goto (-23), 3) := by decide +kernel
theorem dX9_beginsWith_31 : decode cX9_beginsWith 31 = .ok (.lload_n 3, 1) := by decide +kernel
theorem dX9_beginsWith_32 : decode cX9_beginsWith 32 = .ok (.iload_n 2, 1) := by decide +kernel
theorem dX9_beginsWith_33 : decode cX9_beginsWith 33 = .ok (.i2l, 1) := by decide +kernel
theorem dX9_beginsWith_34 : decode cX9_beginsWith 34 = .ok (.lcmp, 1) := by decide +kernel
theorem dX9_beginsWith_35 : decode cX9_beginsWith 35 = .ok (.ifCond .ne 7, 3) := by decide +kernel
theorem dX9_beginsWith_38 : decode cX9_beginsWith 38 = .ok (.iconst 1, 1) := by decide +kernel
theorem dX9_beginsWith_39 : decode cX9_beginsWith 39 = .ok (.goto 4, 3) := by decide +kernel
theorem dX9_beginsWith_42 : decode cX9_beginsWith 42 = .ok (.iconst 0, 1) := by decide +kernel
theorem dX9_beginsWith_43 : decode cX9_beginsWith 43 = .ok (.ireturn, 1) := by decide +kernel
theorem dX10_init_0 : decode cX10_init 0 = .ok (.aload_n 0, 1) := by decide +kernel
theorem dX10_init_1 : decode cX10_init 1 = .ok (.invokespecial 1, 3) := by decide +kernel
theorem dX10_init_4 : decode cX10_init 4 = .ok (.aload_n 0, 1) := by decide +kernel
theorem dX10_init_5 : decode cX10_init 5 = .ok (.sipush 640, 3) := by decide +kernel
theorem dX10_init_8 : decode cX10_init 8 = .ok (.newarray .int, 2) := by decide +kernel
theorem dX10_init_10 : decode cX10_init 10 = .ok (.putfield 7, 3) := by decide +kernel
theorem dX10_init_13 : decode cX10_init 13 = .ok (.aload_n 0, 1) := by decide +kernel
theorem dX10_init_14 : decode cX10_init 14 = .ok (.sipush 640, 3) := by decide +kernel
theorem dX10_init_17 : decode cX10_init 17 = .ok (.newarray .int, 2) := by decide +kernel
theorem dX10_init_19 : decode cX10_init 19 = .ok (.putfield 13, 3) := by decide +kernel
theorem dX10_init_22 : decode cX10_init 22 = .ok (.aload_n 0, 1) := by decide +kernel
theorem dX10_init_23 : decode cX10_init 23 = .ok (.sipush 3200, 3) := by decide +kernel
theorem dX10_init_26 : decode cX10_init 26 = .ok (.newarray .int, 2) := by decide +kernel
theorem dX10_init_28 : decode cX10_init 28 = .ok (.putfield 16, 3) := by decide +kernel
