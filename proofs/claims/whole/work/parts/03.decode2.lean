theorem dX4_portRefusal_12 : decode cX4_portRefusal 12 = .ok (.ifCond .ne 5, 3) := by decide +kernel
theorem dX4_portRefusal_15 : decode cX4_portRefusal 15 = .ok (.iconst (-1), 1) := by decide +kernel
theorem dX4_portRefusal_16 : decode cX4_portRefusal 16 = .ok (.ireturn, 1) := by decide +kernel
theorem dX4_portRefusal_17 : decode cX4_portRefusal 17 = .ok (.aload_n 0, 1) := by decide +kernel
theorem dX4_portRefusal_18 : decode cX4_portRefusal 18 = .ok (.getfield 28, 3) := by decide +kernel
theorem dX4_portRefusal_21 : decode cX4_portRefusal 21 = .ok (.iload_n 1, 1) := by decide +kernel
theorem dX4_portRefusal_22 : decode cX4_portRefusal 22 = .ok (.invokevirtual 84, 3) := by decide +kernel
theorem dX4_portRefusal_25 : decode cX4_portRefusal 25 = .ok (.bipush (-9), 2) := by decide +kernel
theorem dX4_portRefusal_27 : decode cX4_portRefusal 27 = .ok (.if_icmp .ne 7, 3) := by decide +kernel
theorem dX4_portRefusal_30 : decode cX4_portRefusal 30 = .ok (.iconst 1, 1) := by decide +kernel
theorem dX4_portRefusal_31 : decode cX4_portRefusal 31 = .ok (.goto 4, 3) := by decide +kernel
theorem dX4_portRefusal_34 : decode cX4_portRefusal 34 = .ok (.iconst 0, 1) := by decide +kernel
theorem dX4_portRefusal_35 : decode cX4_portRefusal 35 = .ok (.istore_n 3, 1) := by decide +kernel
theorem dX4_portRefusal_36 : decode cX4_portRefusal 36 = .ok (.iload_n 3, 1) := by decide +kernel
theorem dX4_portRefusal_37 : decode cX4_portRefusal 37 = .ok (.ifCond .eq 20, 3) := by decide +kernel
theorem dX4_portRefusal_40 : decode cX4_portRefusal 40 = .ok (.aload_n 0, 1) := by decide +kernel
theorem dX4_portRefusal_41 : decode cX4_portRefusal 41 = .ok (.getfield 28, 3) := by decide +kernel
theorem dX4_portRefusal_44 : decode cX4_portRefusal 44 = .ok (.invokevirtual 88, 3) := by decide +kernel
theorem dX4_portRefusal_47 : decode cX4_portRefusal 47 = .ok (.bipush 30, 2) := by decide +kernel
theorem dX4_portRefusal_49 : decode cX4_portRefusal 49 = .ok (.if_icmp .lt 8, 3) := by decide +kernel
theorem dX4_portRefusal_52 : decode cX4_portRefusal 52 = .ok (.bipush (-3), 2) := by decide +kernel
theorem dX4_portRefusal_54 : decode cX4_portRefusal 54 = .ok (.goto 4, 3) := by decide +kernel
theorem dX4_portRefusal_57 : decode cX4_portRefusal 57 = .ok (.iconst 0, 1) := by decide +kernel
theorem dX4_portRefusal_58 : decode cX4_portRefusal 58 = .ok (.ireturn, 1) := by decide +kernel
theorem dX4_markAt_0 : decode cX4_markAt 0 = .ok (.iload_n 3, 1) := by decide +kernel
theorem dX4_markAt_1 : decode cX4_markAt 1 = .ok (.bipush (-9), 2) := by decide +kernel
theorem dX4_markAt_3 : decode cX4_markAt 3 = .ok (.if_icmp .ne 22, 3) := by decide +kernel
theorem dX4_markAt_6 : decode cX4_markAt 6 = .ok (.aload_n 0, 1) := by decide +kernel
theorem dX4_markAt_7 : decode cX4_markAt 7 = .ok (.iload_n 1, 1) := by decide +kernel
theorem dX4_markAt_8 : decode cX4_markAt 8 = .ok (.invokevirtual 89, 3) := by decide +kernel
theorem dX4_markAt_11 : decode cX4_markAt 11 = .ok (.ifCond .eq 14, 3) := by decide +kernel
theorem dX4_markAt_14 : decode cX4_markAt 14 = .ok (.aload_n 0, 1) := by decide +kernel
theorem dX4_markAt_15 : decode cX4_markAt 15 = .ok (.getfield 28, 3) := by decide +kernel
theorem dX4_markAt_18 : decode cX4_markAt 18 = .ok (.iload_n 2, 1) := by decide +kernel
theorem dX4_markAt_19 : decode cX4_markAt 19 = .ok (.invokevirtual 84, 3) := by decide +kernel
theorem dX4_markAt_22 : decode cX4_markAt 22 = .ok (.goto 4, 3) := by decide +kernel
theorem dX4_markAt_25 : decode cX4_markAt 25 = .ok (.iload_n 3, 1) := by decide +kernel
theorem dX4_markAt_26 : decode cX4_markAt 26 = .ok (.ireturn, 1) := by decide +kernel
theorem dX4_connect_0 : decode cX4_connect 0 = .ok (.aload_n 0, 1) := by decide +kernel
theorem dX4_connect_1 : decode cX4_connect 1 = .ok (.getfield 35, 3) := by decide +kernel
theorem dX4_connect_4 : decode cX4_connect 4 = .ok (.iload_n 1, 1) := by decide +kernel
theorem dX4_connect_5 : decode cX4_connect 5 = .ok (.aload_n 2, 1) := by decide +kernel
theorem dX4_connect_6 : decode cX4_connect 6 = .ok (.invokevirtual 92, 3) := by decide +kernel
theorem dX4_connect_9 : decode cX4_connect 9 = .ok (.aload_n 0, 1) := by decide +kernel
theorem dX4_connect_10 : decode cX4_connect 10 = .ok (.getfield 49, 3) := by decide +kernel
theorem dX4_connect_13 : decode cX4_connect 13 = .ok (.invokevirtual 97, 3) := by decide +kernel
theorem dX4_connect_16 : decode cX4_connect 16 = .ok (.iconst 0, 1) := by decide +kernel
theorem dX4_connect_17 : decode cX4_connect 17 = .ok (.istore_n 3, 1) := by decide +kernel
theorem dX4_connect_18 : decode cX4_connect 18 = .ok (.iload_n 3, 1) := by decide +kernel
theorem dX4_connect_19 : decode cX4_connect 19 = .ok (.bipush 6, 2) := by decide +kernel
theorem dX4_connect_21 : decode cX4_connect 21 = .ok (.if_icmp .ge 43, 3) := by decide +kernel
theorem dX4_connect_24 : decode cX4_connect 24 = .ok (.iload_n 3, 1) := by decide +kernel
theorem dX4_connect_25 : decode cX4_connect 25 = .ok (.aload_n 2, 1) := by decide +kernel
theorem dX4_connect_26 : decode cX4_connect 26 = .ok (.invokevirtual 101, 3) := by decide +kernel
theorem dX4_connect_29 : decode cX4_connect 29 = .ok (.if_icmp .ge 35, 3) := by decide +kernel
theorem dX4_connect_32 : decode cX4_connect 32 = .ok (.aload_n 2, 1) := by decide +kernel
theorem dX4_connect_33 : decode cX4_connect 33 = .ok (.iload_n 3, 1) := by decide +kernel
theorem dX4_connect_34 : decode cX4_connect 34 = .ok (.invokevirtual 104, 3) := by decide +kernel
theorem dX4_connect_37 : decode cX4_connect 37 = .ok (.istore 4, 2) := by decide +kernel
theorem dX4_connect_39 : decode cX4_connect 39 = .ok (.aload_n 0, 1) := by decide +kernel
theorem dX4_connect_40 : decode cX4_connect 40 = .ok (.getfield 35, 3) := by decide +kernel
theorem dX4_connect_43 : decode cX4_connect 43 = .ok (.iload_n 1, 1) := by decide +kernel
theorem dX4_connect_44 : decode cX4_connect 44 = .ok (.iload 4, 2) := by decide +kernel
theorem dX4_connect_46 : decode cX4_connect 46 = .ok (.invokevirtual 107, 3) := by decide +kernel
theorem dX4_connect_49 : decode cX4_connect 49 = .ok (.aload_n 0, 1) := by decide +kernel
theorem dX4_connect_50 : decode cX4_connect 50 = .ok (.getfield 21, 3) := by decide +kernel
theorem dX4_connect_53 : decode cX4_connect 53 = .ok (.iload 4, 2) := by decide +kernel
theorem dX4_connect_55 : decode cX4_connect 55 = .ok (.invokevirtual 111, 3) := by decide +kernel
theorem dX4_connect_58 : decode cX4_connect 58 = .ok (.iinc 3 1, 3) := by decide +kernel
theorem dX4_connect_61 : decode cX4_connect 61 = .ok (.goto (-43), 3) := by decide +kernel
theorem dX4_connect_64 : decode cX4_connect 64 = .ok (.return_, 1) := by decide +kernel
theorem dX4_settle_0 : decode cX4_settle 0 = .ok (.aload_n 0, 1) := by decide +kernel
theorem dX4_settle_1 : decode cX4_settle 1 = .ok (.getfield 35, 3) := by decide +kernel
theorem dX4_settle_4 : decode cX4_settle 4 = .ok (.iload_n 1, 1) := by decide +kernel
theorem dX4_settle_5 : decode cX4_settle 5 = .ok (.invokevirtual 115, 3) := by decide +kernel
theorem dX4_settle_8 : decode cX4_settle 8 = .ok (.istore_n 2, 1) := by decide +kernel
theorem dX4_settle_9 : decode cX4_settle 9 = .ok (.iconst 1, 1) := by decide +kernel
theorem dX4_settle_10 : decode cX4_settle 10 = .ok (.aload_n 0, 1) := by decide +kernel
theorem dX4_settle_11 : decode cX4_settle 11 = .ok (.getfield 49, 3) := by decide +kernel
theorem dX4_settle_14 : decode cX4_settle 14 = .ok (.iload_n 2, 1) := by decide +kernel
theorem dX4_settle_15 : decode cX4_settle 15 = .ok (.isub, 1) := by decide +kernel
theorem dX4_settle_16 : decode cX4_settle 16 = .ok (.invokestatic 118, 3) := by decide +kernel
theorem dX4_settle_19 : decode cX4_settle 19 = .ok (.istore_n 3, 1) := by decide +kernel
theorem dX4_settle_20 : decode cX4_settle 20 = .ok (.iconst 0, 1) := by decide +kernel
theorem dX4_settle_21 : decode cX4_settle 21 = .ok (.istore 4, 2) := by decide +kernel
theorem dX4_settle_23 : decode cX4_settle 23 = .ok (.iconst 0, 1) := by decide +kernel
theorem dX4_settle_24 : decode cX4_settle 24 = .ok (.istore 5, 2) := by decide +kernel
theorem dX4_settle_26 : decode cX4_settle 26 = .ok (.iload 5, 2) := by decide +kernel
theorem dX4_settle_28 : decode cX4_settle 28 = .ok (.bipush 6, 2) := by decide +kernel
theorem dX4_settle_30 : decode cX4_settle 30 = .ok (.if_icmp .ge 46, 3) := by decide +kernel
theorem dX4_settle_33 : decode cX4_settle 33 = .ok (.iload 5, 2) := by decide +kernel
theorem dX4_settle_35 : decode cX4_settle 35 = .ok (.aload_n 0, 1) := by decide +kernel
theorem dX4_settle_36 : decode cX4_settle 36 = .ok (.getfield 35, 3) := by decide +kernel
theorem dX4_settle_39 : decode cX4_settle 39 = .ok (.iload_n 1, 1) := by decide +kernel
theorem dX4_settle_40 : decode cX4_settle 40 = .ok (.invokevirtual 124, 3) := by decide +kernel
theorem dX4_settle_43 : decode cX4_settle 43 = .ok (.if_icmp .ge 33, 3) := by decide +kernel
theorem dX4_settle_46 : decode cX4_settle 46 = .ok (.iload 4, 2) := by decide +kernel
theorem dX4_settle_48 : decode cX4_settle 48 = .ok (.aload_n 0, 1) := by decide +kernel
theorem dX4_settle_49 : decode cX4_settle 49 = .ok (.aload_n 0, 1) := by decide +kernel
theorem dX4_settle_50 : decode cX4_settle 50 = .ok (.getfield 35, 3) := by decide +kernel
theorem dX4_settle_53 : decode cX4_settle 53 = .ok (.iload_n 1, 1) := by decide +kernel
theorem dX4_settle_54 : decode cX4_settle 54 = .ok (.iload 5, 2) := by decide +kernel
theorem dX4_settle_56 : decode cX4_settle 56 = .ok (.invokevirtual 126, 3) := by decide +kernel
theorem dX4_settle_59 : decode cX4_settle 59 = .ok (.iload_n 2, 1) := by decide +kernel
theorem dX4_settle_60 : decode cX4_settle 60 = .ok (.invokestatic 128, 3) := by decide +kernel
theorem dX4_settle_63 : decode cX4_settle 63 = .ok (.iload_n 3, 1) := by decide +kernel
theorem dX4_settle_64 : decode cX4_settle 64 = .ok (.invokevirtual 131, 3) := by decide +kernel
theorem dX4_settle_67 : decode cX4_settle 67 = .ok (.iadd, 1) := by decide +kernel
theorem dX4_settle_68 : decode cX4_settle 68 = .ok (.istore 4, 2) := by decide +kernel
theorem dX4_settle_70 : decode cX4_settle 70 = .ok (.iinc 5 1, 3) := by decide +kernel
theorem dX4_settle_73 : decode cX4_settle 73 = .ok (.goto (-47), 3) := by decide +kernel
theorem dX4_settle_76 : decode cX4_settle 76 = .ok (.aload_n 0, 1) := by decide +kernel
theorem dX4_settle_77 : decode cX4_settle 77 = .ok (.getfield 35, 3) := by decide +kernel
theorem dX4_settle_80 : decode cX4_settle 80 = .ok (.iload_n 1, 1) := by decide +kernel
theorem dX4_settle_81 : decode cX4_settle 81 = .ok (.invokevirtual 135, 3) := by decide +kernel
theorem dX4_settle_84 : decode cX4_settle 84 = .ok (.iload 4, 2) := by decide +kernel
theorem dX4_settle_86 : decode cX4_settle 86 = .ok (.ireturn, 1) := by decide +kernel
theorem dX4_settleStep_0 : decode cX4_settleStep 0 = .ok (.aload_n 0, 1) := by decide +kernel
theorem dX4_settleStep_1 : decode cX4_settleStep 1 = .ok (.getfield 21, 3) := by decide +kernel
theorem dX4_settleStep_4 : decode cX4_settleStep 4 = .ok (.iload_n 1, 1) := by decide +kernel
theorem dX4_settleStep_5 : decode cX4_settleStep 5 = .ok (.invokevirtual 138, 3) := by decide +kernel
theorem dX4_settleStep_8 : decode cX4_settleStep 8 = .ok (.ifCond .eq 5, 3) := by decide +kernel
theorem dX4_settleStep_11 : decode cX4_settleStep 11 = .ok (.iconst 0, 1) := by decide +kernel
theorem dX4_settleStep_12 : decode cX4_settleStep 12 = .ok (.ireturn, 1) := by decide +kernel
theorem dX4_settleStep_13 : decode cX4_settleStep 13 = .ok (.aload_n 0, 1) := by decide +kernel
theorem dX4_settleStep_14 : decode cX4_settleStep 14 = .ok (.getfield 21, 3) := by decide +kernel
theorem dX4_settleStep_17 : decode cX4_settleStep 17 = .ok (.iload_n 1, 1) := by decide +kernel
theorem dX4_settleStep_18 : decode cX4_settleStep 18 = .ok (.iload_n 2, 1) := by decide +kernel
theorem dX4_settleStep_19 : decode cX4_settleStep 19 = .ok (.invokevirtual 141, 3) := by decide +kernel
theorem dX4_settleStep_22 : decode cX4_settleStep 22 = .ok (.iload_n 3, 1) := by decide +kernel
theorem dX4_settleStep_23 : decode cX4_settleStep 23 = .ok (.imul, 1) := by decide +kernel
theorem dX4_settleStep_24 : decode cX4_settleStep 24 = .ok (.istore 4, 2) := by decide +kernel
theorem dX4_settleStep_26 : decode cX4_settleStep 26 = .ok (.aload_n 0, 1) := by decide +kernel
theorem dX4_settleStep_27 : decode cX4_settleStep 27 = .ok (.getfield 21, 3) := by decide +kernel
theorem dX4_settleStep_30 : decode cX4_settleStep 30 = .ok (.iload_n 1, 1) := by decide +kernel
theorem dX4_settleStep_31 : decode cX4_settleStep 31 = .ok (.invokevirtual 144, 3) := by decide +kernel
theorem dX4_settleStep_34 : decode cX4_settleStep 34 = .ok (.aload_n 0, 1) := by decide +kernel
theorem dX4_settleStep_35 : decode cX4_settleStep 35 = .ok (.aload_n 0, 1) := by decide +kernel
theorem dX4_settleStep_36 : decode cX4_settleStep 36 = .ok (.getfield 21, 3) := by decide +kernel
theorem dX4_settleStep_39 : decode cX4_settleStep 39 = .ok (.iload_n 1, 1) := by decide +kernel
theorem dX4_settleStep_40 : decode cX4_settleStep 40 = .ok (.invokevirtual 147, 3) := by decide +kernel
theorem dX4_settleStep_43 : decode cX4_settleStep 43 = .ok (.aload_n 0, 1) := by decide +kernel
theorem dX4_settleStep_44 : decode cX4_settleStep 44 = .ok (.getfield 21, 3) := by decide +kernel
theorem dX4_settleStep_47 : decode cX4_settleStep 47 = .ok (.iload_n 1, 1) := by decide +kernel
theorem dX4_settleStep_48 : decode cX4_settleStep 48 = .ok (.invokevirtual 148, 3) := by decide +kernel
theorem dX4_settleStep_51 : decode cX4_settleStep 51 = .ok (.iload 4, 2) := by decide +kernel
theorem dX4_settleStep_53 : decode cX4_settleStep 53 = .ok (.invokevirtual 151, 3) := by decide +kernel
theorem dX4_settleStep_56 : decode cX4_settleStep 56 = .ok (.iload 4, 2) := by decide +kernel
theorem dX4_settleStep_58 : decode cX4_settleStep 58 = .ok (.ireturn, 1) := by decide +kernel
theorem dX4_addDebt_0 : decode cX4_addDebt 0 = .ok (.aload_n 0, 1) := by decide +kernel
theorem dX4_addDebt_1 : decode cX4_addDebt 1 = .ok (.iload_n 1, 1) := by decide +kernel
theorem dX4_addDebt_2 : decode cX4_addDebt 2 = .ok (.invokevirtual 68, 3) := by decide +kernel
theorem dX4_addDebt_5 : decode cX4_addDebt 5 = .ok (.ifCond .eq 26, 3) := by decide +kernel
theorem dX4_addDebt_8 : decode cX4_addDebt 8 = .ok (.aload_n 0, 1) := by decide +kernel
theorem dX4_addDebt_9 : decode cX4_addDebt 9 = .ok (.iload_n 2, 1) := by decide +kernel
theorem dX4_addDebt_10 : decode cX4_addDebt 10 = .ok (.invokevirtual 68, 3) := by decide +kernel
theorem dX4_addDebt_13 : decode cX4_addDebt 13 = .ok (.ifCond .eq 18, 3) := by decide +kernel
theorem dX4_addDebt_16 : decode cX4_addDebt 16 = .ok (.aload_n 0, 1) := by decide +kernel
theorem dX4_addDebt_17 : decode cX4_addDebt 17 = .ok (.getfield 15, 3) := by decide +kernel
theorem dX4_addDebt_20 : decode cX4_addDebt 20 = .ok (.iload_n 1, 1) := by decide +kernel
theorem dX4_addDebt_21 : decode cX4_addDebt 21 = .ok (.bipush 8, 2) := by decide +kernel
theorem dX4_addDebt_23 : decode cX4_addDebt 23 = .ok (.imul, 1) := by decide +kernel
theorem dX4_addDebt_24 : decode cX4_addDebt 24 = .ok (.iload_n 2, 1) := by decide +kernel
theorem dX4_addDebt_25 : decode cX4_addDebt 25 = .ok (.iadd, 1) := by decide +kernel
theorem dX4_addDebt_26 : decode cX4_addDebt 26 = .ok (.dup2, 1) := by decide +kernel
theorem dX4_addDebt_27 : decode cX4_addDebt 27 = .ok (.iaload, 1) := by decide +kernel
theorem dX4_addDebt_28 : decode cX4_addDebt 28 = .ok (.iload_n 3, 1) := by decide +kernel
theorem dX4_addDebt_29 : decode cX4_addDebt 29 = .ok (.iadd, 1) := by decide +kernel
theorem dX4_addDebt_30 : decode cX4_addDebt 30 = .ok (.iastore, 1) := by decide +kernel
theorem dX4_addDebt_31 : decode cX4_addDebt 31 = .ok (.return_, 1) := by decide +kernel
theorem dX4_debt_0 : decode cX4_debt 0 = .ok (.aload_n 0, 1) := by decide +kernel
theorem dX4_debt_1 : decode cX4_debt 1 = .ok (.iload_n 1, 1) := by decide +kernel
theorem dX4_debt_2 : decode cX4_debt 2 = .ok (.invokevirtual 68, 3) := by decide +kernel
theorem dX4_debt_5 : decode cX4_debt 5 = .ok (.ifCond .eq 25, 3) := by decide +kernel
theorem dX4_debt_8 : decode cX4_debt 8 = .ok (.aload_n 0, 1) := by decide +kernel
theorem dX4_debt_9 : decode cX4_debt 9 = .ok (.iload_n 2, 1) := by decide +kernel
theorem dX4_debt_10 : decode cX4_debt 10 = .ok (.invokevirtual 68, 3) := by decide +kernel
theorem dX4_debt_13 : decode cX4_debt 13 = .ok (.ifCond .eq 17, 3) := by decide +kernel
theorem dX4_debt_16 : decode cX4_debt 16 = .ok (.aload_n 0, 1) := by decide +kernel
theorem dX4_debt_17 : decode cX4_debt 17 = .ok (.getfield 15, 3) := by decide +kernel
theorem dX4_debt_20 : decode cX4_debt 20 = .ok (.iload_n 1, 1) := by decide +kernel
theorem dX4_debt_21 : decode cX4_debt 21 = .ok (.bipush 8, 2) := by decide +kernel
theorem dX4_debt_23 : decode cX4_debt 23 = .ok (.imul, 1) := by decide +kernel
theorem dX4_debt_24 : decode cX4_debt 24 = .ok (.iload_n 2, 1) := by decide +kernel
theorem dX4_debt_25 : decode cX4_debt 25 = .ok (.iadd, 1) := by decide +kernel
theorem dX4_debt_26 : decode cX4_debt 26 = .ok (.iaload, 1) := by decide +kernel
theorem dX4_debt_27 : decode cX4_debt 27 = .ok (.goto 4, 3) := by decide +kernel
theorem dX4_debt_30 : decode cX4_debt 30 = .ok (.iconst 0, 1) := by decide +kernel
theorem dX4_debt_31 : decode cX4_debt 31 = .ok (.ireturn, 1) := by decide +kernel
theorem dX4_foldDebts_0 : decode cX4_foldDebts 0 = .ok (.lload_n 1, 1) := by decide +kernel
theorem dX4_foldDebts_1 : decode cX4_foldDebts 1 = .ok (.lstore_n 3, 1) := by decide +kernel
theorem dX4_foldDebts_2 : decode cX4_foldDebts 2 = .ok (.iconst 0, 1) := by decide +kernel
theorem dX4_foldDebts_3 : decode cX4_foldDebts 3 = .ok (.istore 5, 2) := by decide +kernel
theorem dX4_foldDebts_5 : decode cX4_foldDebts 5 = .ok (.iload 5, 2) := by decide +kernel
theorem dX4_foldDebts_7 : decode cX4_foldDebts 7 = .ok (.aload_n 0, 1) := by decide +kernel
theorem dX4_foldDebts_8 : decode cX4_foldDebts 8 = .ok (.getfield 39, 3) := by decide +kernel
theorem dX4_foldDebts_11 : decode cX4_foldDebts 11 = .ok (.if_icmp .ge 43, 3) := by decide +kernel
theorem dX4_foldDebts_14 : decode cX4_foldDebts 14 = .ok (.iconst 0, 1) := by decide +kernel
theorem dX4_foldDebts_15 : decode cX4_foldDebts 15 = .ok (.istore 6, 2) := by decide +kernel
theorem dX4_foldDebts_17 : decode cX4_foldDebts 17 = .ok (.iload 6, 2) := by decide +kernel
theorem dX4_foldDebts_19 : decode cX4_foldDebts 19 = .ok (.aload_n 0, 1) := by decide +kernel
theorem dX4_foldDebts_20 : decode cX4_foldDebts 20 = .ok (.getfield 39, 3) := by decide +kernel
theorem dX4_foldDebts_23 : decode cX4_foldDebts 23 = .ok (.if_icmp .ge 25, 3) := by decide +kernel
theorem dX4_foldDebts_26 : decode cX4_foldDebts 26 = .ok (.ldc2_w 154, 3) := by decide +kernel
theorem dX4_foldDebts_29 : decode cX4_foldDebts 29 = .ok (.lload_n 3, 1) := by decide +kernel
theorem dX4_foldDebts_30 : decode cX4_foldDebts 30 = .ok (.lmul, 1) := by decide +kernel
theorem dX4_foldDebts_31 : decode cX4_foldDebts 31 = .ok (.aload_n 0, 1) := by decide +kernel
theorem dX4_foldDebts_32 : decode cX4_foldDebts 32 = .ok (.iload 5, 2) := by decide +kernel
theorem dX4_foldDebts_34 : decode cX4_foldDebts 34 = .ok (.iload 6, 2) := by decide +kernel
theorem dX4_foldDebts_36 : decode cX4_foldDebts 36 = .ok (.invokevirtual 156, 3) := by decide +kernel
theorem dX4_foldDebts_39 : decode cX4_foldDebts 39 = .ok (.i2l, 1) := by decide +kernel
theorem dX4_foldDebts_40 : decode cX4_foldDebts 40 = .ok (.ladd, 1) := by decide +kernel
theorem dX4_foldDebts_41 : decode cX4_foldDebts 41 = .ok (.lstore_n 3, 1) := by decide +kernel
theorem dX4_foldDebts_42 : decode cX4_foldDebts 42 = .ok (.iinc 6 1, 3) := by decide +kernel
theorem dX4_foldDebts_45 : decode cX4_foldDebts 45 = .ok (.goto (-28), 3) := by decide +kernel
theorem dX4_foldDebts_48 : decode cX4_foldDebts 48 = .ok (.iinc 5 1, 3) := by decide +kernel
theorem dX4_foldDebts_51 : decode cX4_foldDebts 51 = .ok (.goto (-46), 3) := by decide +kernel
theorem dX4_foldDebts_54 : decode cX4_foldDebts 54 = .ok (.lload_n 3, 1) := by decide +kernel
theorem dX4_foldDebts_55 : decode cX4_foldDebts 55 = .ok (.lreturn, 1) := by decide +kernel
theorem dX5_init_0 : decode cX5_init 0 = .ok (.aload_n 0, 1) := by decide +kernel
theorem dX5_init_1 : decode cX5_init 1 = .ok (.invokespecial 3, 3) := by decide +kernel
theorem dX5_init_4 : decode cX5_init 4 = .ok (.aload_n 0, 1) := by decide +kernel
theorem dX5_init_5 : decode cX5_init 5 = .ok (.bipush 30, 2) := by decide +kernel
theorem dX5_init_7 : decode cX5_init 7 = .ok (.newarray .int, 2) := by decide +kernel
theorem dX5_init_9 : decode cX5_init 9 = .ok (.putfield 9, 3) := by decide +kernel
theorem dX5_init_12 : decode cX5_init 12 = .ok (.aload_n 0, 1) := by decide +kernel
theorem dX5_init_13 : decode cX5_init 13 = .ok (.bipush 30, 2) := by decide +kernel
theorem dX5_init_15 : decode cX5_init 15 = .ok (.newarray .int, 2) := by decide +kernel
theorem dX5_init_17 : decode cX5_init 17 = .ok (.putfield 15, 3) := by decide +kernel
theorem dX5_init_20 : decode cX5_init 20 = .ok (.aload_n 0, 1) := by decide +kernel
theorem dX5_init_21 : decode cX5_init 21 = .ok (.iconst 0, 1) := by decide +kernel
theorem dX5_init_22 : decode cX5_init 22 = .ok (.putfield 18, 3) := by decide +kernel
theorem dX5_init_25 : decode cX5_init 25 = .ok (.return_, 1) := by decide +kernel
theorem dX5_copyFrom_0 : decode cX5_copyFrom 0 = .ok (.aload_n 1, 1) := by decide +kernel
theorem dX5_copyFrom_1 : decode cX5_copyFrom 1 = .ok (.getfield 9, 3) := by decide +kernel
theorem dX5_copyFrom_4 : decode cX5_copyFrom 4 = .ok (.iconst 0, 1) := by decide +kernel
theorem dX5_copyFrom_5 : decode cX5_copyFrom 5 = .ok (.aload_n 0, 1) := by decide +kernel
theorem dX5_copyFrom_6 : decode cX5_copyFrom 6 = .ok (.getfield 9, 3) := by decide +kernel
theorem dX5_copyFrom_9 : decode cX5_copyFrom 9 = .ok (.iconst 0, 1) := by decide +kernel
theorem dX5_copyFrom_10 : decode cX5_copyFrom 10 = .ok (.bipush 30, 2) := by decide +kernel
theorem dX5_copyFrom_12 : decode cX5_copyFrom 12 = .ok (.invokestatic 22, 3) := by decide +kernel
theorem dX5_copyFrom_15 : decode cX5_copyFrom 15 = .ok (.aload_n 1, 1) := by decide +kernel
theorem dX5_copyFrom_16 : decode cX5_copyFrom 16 = .ok (.getfield 15, 3) := by decide +kernel
theorem dX5_copyFrom_19 : decode cX5_copyFrom 19 = .ok (.iconst 0, 1) := by decide +kernel
theorem dX5_copyFrom_20 : decode cX5_copyFrom 20 = .ok (.aload_n 0, 1) := by decide +kernel
theorem dX5_copyFrom_21 : decode cX5_copyFrom 21 = .ok (.getfield 15, 3) := by decide +kernel
theorem dX5_copyFrom_24 : decode cX5_copyFrom 24 = .ok (.iconst 0, 1) := by decide +kernel
theorem dX5_copyFrom_25 : decode cX5_copyFrom 25 = .ok (.bipush 30, 2) := by decide +kernel
theorem dX5_copyFrom_27 : decode cX5_copyFrom 27 = .ok (.invokestatic 22, 3) := by decide +kernel
theorem dX5_copyFrom_30 : decode cX5_copyFrom 30 = .ok (.aload_n 0, 1) := by decide +kernel
theorem dX5_copyFrom_31 : decode cX5_copyFrom 31 = .ok (.aload_n 1, 1) := by decide +kernel
theorem dX5_copyFrom_32 : decode cX5_copyFrom 32 = .ok (.getfield 18, 3) := by decide +kernel
theorem dX5_copyFrom_35 : decode cX5_copyFrom 35 = .ok (.putfield 18, 3) := by decide +kernel
theorem dX5_copyFrom_38 : decode cX5_copyFrom 38 = .ok (.return_, 1) := by decide +kernel
theorem dX5_size_0 : decode cX5_size 0 = .ok (.aload_n 0, 1) := by decide +kernel
theorem dX5_size_1 : decode cX5_size 1 = .ok (.getfield 18, 3) := by decide +kernel
theorem dX5_size_4 : decode cX5_size 4 = .ok (.ireturn, 1) := by decide +kernel
theorem dX5_indexOf_0 : decode cX5_indexOf 0 = .ok (.iconst 0, 1) := by decide +kernel
theorem dX5_indexOf_1 : decode cX5_indexOf 1 = .ok (.istore_n 2, 1) := by decide +kernel
theorem dX5_indexOf_2 : decode cX5_indexOf 2 = .ok (.iload_n 2, 1) := by decide +kernel
theorem dX5_indexOf_3 : decode cX5_indexOf 3 = .ok (.aload_n 0, 1) := by decide +kernel
theorem dX5_indexOf_4 : decode cX5_indexOf 4 = .ok (.getfield 18, 3) := by decide +kernel
theorem dX5_indexOf_7 : decode cX5_indexOf 7 = .ok (.if_icmp .ge 27, 3) := by decide +kernel
theorem dX5_indexOf_10 : decode cX5_indexOf 10 = .ok (.iload_n 2, 1) := by decide +kernel
theorem dX5_indexOf_11 : decode cX5_indexOf 11 = .ok (.bipush 30, 2) := by decide +kernel
theorem dX5_indexOf_13 : decode cX5_indexOf 13 = .ok (.if_icmp .ge 21, 3) := by decide +kernel
theorem dX5_indexOf_16 : decode cX5_indexOf 16 = .ok (.aload_n 0, 1) := by decide +kernel
theorem dX5_indexOf_17 : decode cX5_indexOf 17 = .ok (.getfield 9, 3) := by decide +kernel
theorem dX5_indexOf_20 : decode cX5_indexOf 20 = .ok (.iload_n 2, 1) := by decide +kernel
theorem dX5_indexOf_21 : decode cX5_indexOf 21 = .ok (.iaload, 1) := by decide +kernel
theorem dX5_indexOf_22 : decode cX5_indexOf 22 = .ok (.iload_n 1, 1) := by decide +kernel
theorem dX5_indexOf_23 : decode cX5_indexOf 23 = .ok (.if_icmp .ne 5, 3) := by decide +kernel
theorem dX5_indexOf_26 : decode cX5_indexOf 26 = .ok (.iload_n 2, 1) := by decide +kernel
theorem dX5_indexOf_27 : decode cX5_indexOf 27 = .ok (.ireturn, 1) := by decide +kernel
theorem dX5_indexOf_28 : decode cX5_indexOf 28 = .ok (.iinc 2 1, 3) := by decide +kernel
theorem dX5_indexOf_31 : decode cX5_indexOf 31 = .ok (.goto (-29), 3) := by decide +kernel
theorem dX5_indexOf_34 : decode cX5_indexOf 34 = .ok (.bipush (-9), 2) := by decide +kernel
theorem dX5_indexOf_36 : decode cX5_indexOf 36 = .ok (.ireturn, 1) := by decide +kernel
theorem dX5_switchOf_0 : decode cX5_switchOf 0 = .ok (.aload_n 0, 1) := by decide +kernel
theorem dX5_switchOf_1 : decode cX5_switchOf 1 = .ok (.iload_n 1, 1) := by decide +kernel
theorem dX5_switchOf_2 : decode cX5_switchOf 2 = .ok (.invokevirtual 28, 3) := by decide +kernel
theorem dX5_switchOf_5 : decode cX5_switchOf 5 = .ok (.istore_n 2, 1) := by decide +kernel
theorem dX5_switchOf_6 : decode cX5_switchOf 6 = .ok (.iload_n 2, 1) := by decide +kernel
theorem dX5_switchOf_7 : decode cX5_switchOf 7 = .ok (.ifCond .lt 12, 3) := by decide +kernel
theorem dX5_switchOf_10 : decode cX5_switchOf 10 = .ok (.aload_n 0, 1) := by decide +kernel
theorem dX5_switchOf_11 : decode cX5_switchOf 11 = .ok (.getfield 15, 3) := by decide +kernel
theorem dX5_switchOf_14 : decode cX5_switchOf 14 = .ok (.iload_n 2, 1) := by decide +kernel
theorem dX5_switchOf_15 : decode cX5_switchOf 15 = .ok (.iaload, 1) := by decide +kernel
theorem dX5_switchOf_16 : decode cX5_switchOf 16 = .ok (.goto 5, 3) := by decide +kernel
theorem dX5_switchOf_19 : decode cX5_switchOf 19 = .ok (.bipush (-9), 2) := by decide +kernel
theorem dX5_switchOf_21 : decode cX5_switchOf 21 = .ok (.ireturn, 1) := by decide +kernel
theorem dX5_put_0 : decode cX5_put 0 = .ok (.aload_n 0, 1) := by decide +kernel
theorem dX5_put_1 : decode cX5_put 1 = .ok (.iload_n 1, 1) := by decide +kernel
theorem dX5_put_2 : decode cX5_put 2 = .ok (.invokevirtual 28, 3) := by decide +kernel
theorem dX5_put_5 : decode cX5_put 5 = .ok (.istore_n 3, 1) := by decide +kernel
theorem dX5_put_6 : decode cX5_put 6 = .ok (.iload_n 3, 1) := by decide +kernel
theorem dX5_put_7 : decode cX5_put 7 = .ok (.ifCond .lt 21, 3) := by decide +kernel
theorem dX5_put_10 : decode cX5_put 10 = .ok (.aload_n 0, 1) := by decide +kernel
theorem dX5_put_11 : decode cX5_put 11 = .ok (.getfield 15, 3) := by decide +kernel
theorem dX5_put_14 : decode cX5_put 14 = .ok (.iload_n 3, 1) := by decide +kernel
theorem dX5_put_15 : decode cX5_put 15 = .ok (.iaload, 1) := by decide +kernel
theorem dX5_put_16 : decode cX5_put 16 = .ok (.istore 4, 2) := by decide +kernel
theorem dX5_put_18 : decode cX5_put 18 = .ok (.aload_n 0, 1) := by decide +kernel
theorem dX5_put_19 : decode cX5_put 19 = .ok (.getfield 15, 3) := by decide +kernel
theorem dX5_put_22 : decode cX5_put 22 = .ok (.iload_n 3, 1) := by decide +kernel
theorem dX5_put_23 : decode cX5_put 23 = .ok (.iload_n 2, 1) := by decide +kernel
theorem dX5_put_24 : decode cX5_put 24 = .ok (.iastore, 1) := by decide +kernel
theorem dX5_put_25 : decode cX5_put 25 = .ok (.iload 4, 2) := by decide +kernel
theorem dX5_put_27 : decode cX5_put 27 = .ok (.ireturn, 1) := by decide +kernel
theorem dX5_put_28 : decode cX5_put 28 = .ok (.aload_n 0, 1) := by decide +kernel
theorem dX5_put_29 : decode cX5_put 29 = .ok (.getfield 18, 3) := by decide +kernel
theorem dX5_put_32 : decode cX5_put 32 = .ok (.bipush 30, 2) := by decide +kernel
theorem dX5_put_34 : decode cX5_put 34 = .ok (.if_icmp .ge 33, 3) := by decide +kernel
theorem dX5_put_37 : decode cX5_put 37 = .ok (.aload_n 0, 1) := by decide +kernel
theorem dX5_put_38 : decode cX5_put 38 = .ok (.getfield 9, 3) := by decide +kernel
theorem dX5_put_41 : decode cX5_put 41 = .ok (.aload_n 0, 1) := by decide +kernel
theorem dX5_put_42 : decode cX5_put 42 = .ok (.getfield 18, 3) := by decide +kernel
theorem dX5_put_45 : decode cX5_put 45 = .ok (.iload_n 1, 1) := by decide +kernel
theorem dX5_put_46 : decode cX5_put 46 = .ok (.iastore, 1) := by decide +kernel
theorem dX5_put_47 : decode cX5_put 47 = .ok (.aload_n 0, 1) := by decide +kernel
theorem dX5_put_48 : decode cX5_put 48 = .ok (.getfield 15, 3) := by decide +kernel
theorem dX5_put_51 : decode cX5_put 51 = .ok (.aload_n 0, 1) := by decide +kernel
theorem dX5_put_52 : decode cX5_put 52 = .ok (.getfield 18, 3) := by decide +kernel
theorem dX5_put_55 : decode cX5_put 55 = .ok (.iload_n 2, 1) := by decide +kernel
theorem dX5_put_56 : decode cX5_put 56 = .ok (.iastore, 1) := by decide +kernel
theorem dX5_put_57 : decode cX5_put 57 = .ok (.aload_n 0, 1) := by decide +kernel
theorem dX5_put_58 : decode cX5_put 58 = .ok (.dup, 1) := by decide +kernel
theorem dX5_put_59 : decode cX5_put 59 = .ok (.getfield 18, 3) := by decide +kernel
theorem dX5_put_62 : decode cX5_put 62 = .ok (.iconst 1, 1) := by decide +kernel
theorem dX5_put_63 : decode cX5_put 63 = .ok (.iadd, 1) := by decide +kernel
theorem dX5_put_64 : decode cX5_put 64 = .ok (.putfield 18, 3) := by decide +kernel
theorem dX5_put_67 : decode cX5_put 67 = .ok (.bipush (-9), 2) := by decide +kernel
theorem dX5_put_69 : decode cX5_put 69 = .ok (.ireturn, 1) := by decide +kernel
theorem dX5_remove_0 : decode cX5_remove 0 = .ok (.aload_n 0, 1) := by decide +kernel
theorem dX5_remove_1 : decode cX5_remove 1 = .ok (.iload_n 1, 1) := by decide +kernel
theorem dX5_remove_2 : decode cX5_remove 2 = .ok (.invokevirtual 28, 3) := by decide +kernel
theorem dX5_remove_5 : decode cX5_remove 5 = .ok (.istore_n 2, 1) := by decide +kernel
theorem dX5_remove_6 : decode cX5_remove 6 = .ok (.iload_n 2, 1) := by decide +kernel
theorem dX5_remove_7 : decode cX5_remove 7 = .ok (.ifCond .ge 6, 3) := by decide +kernel
theorem dX5_remove_10 : decode cX5_remove 10 = .ok (.bipush (-9), 2) := by decide +kernel
theorem dX5_remove_12 : decode cX5_remove 12 = .ok (.ireturn, 1) := by decide +kernel
theorem dX5_remove_13 : decode cX5_remove 13 = .ok (.aload_n 0, 1) := by decide +kernel
theorem dX5_remove_14 : decode cX5_remove 14 = .ok (.getfield 15, 3) := by decide +kernel
theorem dX5_remove_17 : decode cX5_remove 17 = .ok (.iload_n 2, 1) := by decide +kernel
theorem dX5_remove_18 : decode cX5_remove 18 = .ok (.iaload, 1) := by decide +kernel
theorem dX5_remove_19 : decode cX5_remove 19 = .ok (.istore_n 3, 1) := by decide +kernel
theorem dX5_remove_20 : decode cX5_remove 20 = .ok (.aload_n 0, 1) := by decide +kernel
theorem dX5_remove_21 : decode cX5_remove 21 = .ok (.dup, 1) := by decide +kernel
theorem dX5_remove_22 : decode cX5_remove 22 = .ok (.getfield 18, 3) := by decide +kernel
theorem dX5_remove_25 : decode cX5_remove 25 = .ok (.iconst 1, 1) := by decide +kernel
theorem dX5_remove_26 : decode cX5_remove 26 = .ok (.isub, 1) := by decide +kernel
theorem dX5_remove_27 : decode cX5_remove 27 = .ok (.putfield 18, 3) := by decide +kernel
theorem dX5_remove_30 : decode cX5_remove 30 = .ok (.aload_n 0, 1) := by decide +kernel
theorem dX5_remove_31 : decode cX5_remove 31 = .ok (.getfield 9, 3) := by decide +kernel
theorem dX5_remove_34 : decode cX5_remove 34 = .ok (.iload_n 2, 1) := by decide +kernel
theorem dX5_remove_35 : decode cX5_remove 35 = .ok (.aload_n 0, 1) := by decide +kernel
theorem dX5_remove_36 : decode cX5_remove 36 = .ok (.getfield 9, 3) := by decide +kernel
theorem dX5_remove_39 : decode cX5_remove 39 = .ok (.aload_n 0, 1) := by decide +kernel
theorem dX5_remove_40 : decode cX5_remove 40 = .ok (.getfield 18, 3) := by decide +kernel
theorem dX5_remove_43 : decode cX5_remove 43 = .ok (.iaload, 1) := by decide +kernel
theorem dX5_remove_44 : decode cX5_remove 44 = .ok (.iastore, 1) := by decide +kernel
theorem dX5_remove_45 : decode cX5_remove 45 = .ok (.aload_n 0, 1) := by decide +kernel
theorem dX5_remove_46 : decode cX5_remove 46 = .ok (.getfield 15, 3) := by decide +kernel
theorem dX5_remove_49 : decode cX5_remove 49 = .ok (.iload_n 2, 1) := by decide +kernel
theorem dX5_remove_50 : decode cX5_remove 50 = .ok (.aload_n 0, 1) := by decide +kernel
theorem dX5_remove_51 : decode cX5_remove 51 = .ok (.getfield 15, 3) := by decide +kernel
theorem dX5_remove_54 : decode cX5_remove 54 = .ok (.aload_n 0, 1) := by decide +kernel
theorem dX5_remove_55 : decode cX5_remove 55 = .ok (.getfield 18, 3) := by decide +kernel
theorem dX5_remove_58 : decode cX5_remove 58 = .ok (.iaload, 1) := by decide +kernel
theorem dX5_remove_59 : decode cX5_remove 59 = .ok (.iastore, 1) := by decide +kernel
theorem dX5_remove_60 : decode cX5_remove 60 = .ok (.iload_n 3, 1) := by decide +kernel
theorem dX5_remove_61 : decode cX5_remove 61 = .ok (.ireturn, 1) := by decide +kernel
theorem dX6_init_0 : decode cX6_init 0 = .ok (.aload_n 0, 1) := by decide +kernel
theorem dX6_init_1 : decode cX6_init 1 = .ok (.invokespecial 3, 3) := by decide +kernel
theorem dX6_init_4 : decode cX6_init 4 = .ok (.aload_n 0, 1) := by decide +kernel
theorem dX6_init_5 : decode cX6_init 5 = .ok (.bipush 40, 2) := by decide +kernel
theorem dX6_init_7 : decode cX6_init 7 = .ok (.newarray .int, 2) := by decide +kernel
theorem dX6_init_9 : decode cX6_init 9 = .ok (.putfield 9, 3) := by decide +kernel
theorem dX6_init_12 : decode cX6_init 12 = .ok (.aload_n 0, 1) := by decide +kernel
theorem dX6_init_13 : decode cX6_init 13 = .ok (.bipush 40, 2) := by decide +kernel
theorem dX6_init_15 : decode cX6_init 15 = .ok (.newarray .int, 2) := by decide +kernel
theorem dX6_init_17 : decode cX6_init 17 = .ok (.putfield 15, 3) := by decide +kernel
theorem dX6_init_20 : decode cX6_init 20 = .ok (.aload_n 0, 1) := by decide +kernel
theorem dX6_init_21 : decode cX6_init 21 = .ok (.bipush 40, 2) := by decide +kernel
theorem dX6_init_23 : decode cX6_init 23 = .ok (.newarray .int, 2) := by decide +kernel
theorem dX6_init_25 : decode cX6_init 25 = .ok (.putfield 18, 3) := by decide +kernel
theorem dX6_init_28 : decode cX6_init 28 = .ok (.aload_n 0, 1) := by decide +kernel
theorem dX6_init_29 : decode cX6_init 29 = .ok (.bipush 120, 2) := by decide +kernel
theorem dX6_init_31 : decode cX6_init 31 = .ok (.newarray .int, 2) := by decide +kernel
theorem dX6_init_33 : decode cX6_init 33 = .ok (.putfield 21, 3) := by decide +kernel
theorem dX6_init_36 : decode cX6_init 36 = .ok (.aload_n 0, 1) := by decide +kernel
theorem dX6_init_37 : decode cX6_init 37 = .ok (.bipush 40, 2) := by decide +kernel
theorem dX6_init_39 : decode cX6_init 39 = .ok (.newarray .int, 2) := by decide +kernel
theorem dX6_init_41 : decode cX6_init 41 = .ok (.putfield 24, 3) := by decide +kernel
theorem dX6_init_44 : decode cX6_init 44 = .ok (.aload_n 0, 1) := by decide +kernel
theorem dX6_init_45 : decode cX6_init 45 = .ok (.bipush 40, 2) := by decide +kernel
theorem dX6_init_47 : decode cX6_init 47 = .ok (.newarray .int, 2) := by decide +kernel
theorem dX6_init_49 : decode cX6_init 49 = .ok (.putfield 27, 3) := by decide +kernel
theorem dX6_init_52 : decode cX6_init 52 = .ok (.aload_n 0, 1) := by decide +kernel
theorem dX6_init_53 : decode cX6_init 53 = .ok (.iconst 0, 1) := by decide +kernel
theorem dX6_init_54 : decode cX6_init 54 = .ok (.putfield 30, 3) := by decide +kernel
theorem dX6_init_57 : decode cX6_init 57 = .ok (.return_, 1) := by decide +kernel
theorem dX6_copyFrom_0 : decode cX6_copyFrom 0 = .ok (.aload_n 1, 1) := by decide +kernel
theorem dX6_copyFrom_1 : decode cX6_copyFrom 1 = .ok (.getfield 9, 3) := by decide +kernel
theorem dX6_copyFrom_4 : decode cX6_copyFrom 4 = .ok (.iconst 0, 1) := by decide +kernel
theorem dX6_copyFrom_5 : decode cX6_copyFrom 5 = .ok (.aload_n 0, 1) := by decide +kernel
theorem dX6_copyFrom_6 : decode cX6_copyFrom 6 = .ok (.getfield 9, 3) := by decide +kernel
theorem dX6_copyFrom_9 : decode cX6_copyFrom 9 = .ok (.iconst 0, 1) := by decide +kernel
theorem dX6_copyFrom_10 : decode cX6_copyFrom 10 = .ok (.bipush 40, 2) := by decide +kernel
theorem dX6_copyFrom_12 : decode cX6_copyFrom 12 = .ok (.invokestatic 34, 3) := by decide +kernel
theorem dX6_copyFrom_15 : decode cX6_copyFrom 15 = .ok (.aload_n 1, 1) := by decide +kernel
theorem dX6_copyFrom_16 : decode cX6_copyFrom 16 = .ok (.getfield 15, 3) := by decide +kernel
theorem dX6_copyFrom_19 : decode cX6_copyFrom 19 = .ok (.iconst 0, 1) := by decide +kernel
theorem dX6_copyFrom_20 : decode cX6_copyFrom 20 = .ok (.aload_n 0, 1) := by decide +kernel
theorem dX6_copyFrom_21 : decode cX6_copyFrom 21 = .ok (.getfield 15, 3) := by decide +kernel
theorem dX6_copyFrom_24 : decode cX6_copyFrom 24 = .ok (.iconst 0, 1) := by decide +kernel
theorem dX6_copyFrom_25 : decode cX6_copyFrom 25 = .ok (.bipush 40, 2) := by decide +kernel
theorem dX6_copyFrom_27 : decode cX6_copyFrom 27 = .ok (.invokestatic 34, 3) := by decide +kernel
theorem dX6_copyFrom_30 : decode cX6_copyFrom 30 = .ok (.aload_n 1, 1) := by decide +kernel
theorem dX6_copyFrom_31 : decode cX6_copyFrom 31 = .ok (.getfield 18, 3) := by decide +kernel
theorem dX6_copyFrom_34 : decode cX6_copyFrom 34 = .ok (.iconst 0, 1) := by decide +kernel
theorem dX6_copyFrom_35 : decode cX6_copyFrom 35 = .ok (.aload_n 0, 1) := by decide +kernel
theorem dX6_copyFrom_36 : decode cX6_copyFrom 36 = .ok (.getfield 18, 3) := by decide +kernel
theorem dX6_copyFrom_39 : decode cX6_copyFrom 39 = .ok (.iconst 0, 1) := by decide +kernel
theorem dX6_copyFrom_40 : decode cX6_copyFrom 40 = .ok (.bipush 40, 2) := by decide +kernel
theorem dX6_copyFrom_42 : decode cX6_copyFrom 42 = .ok (.invokestatic 34, 3) := by decide +kernel
theorem dX6_copyFrom_45 : decode cX6_copyFrom 45 = .ok (.aload_n 1, 1) := by decide +kernel
theorem dX6_copyFrom_46 : decode cX6_copyFrom 46 = .ok (.getfield 21, 3) := by decide +kernel
theorem dX6_copyFrom_49 : decode cX6_copyFrom 49 = .ok (.iconst 0, 1) := by decide +kernel
theorem dX6_copyFrom_50 : decode cX6_copyFrom 50 = .ok (.aload_n 0, 1) := by decide +kernel
theorem dX6_copyFrom_51 : decode cX6_copyFrom 51 = .ok (.getfield 21, 3) := by decide +kernel
theorem dX6_copyFrom_54 : decode cX6_copyFrom 54 = .ok (.iconst 0, 1) := by decide +kernel
theorem dX6_copyFrom_55 : decode cX6_copyFrom 55 = .ok (.bipush 120, 2) := by decide +kernel
theorem dX6_copyFrom_57 : decode cX6_copyFrom 57 = .ok (.invokestatic 34, 3) := by decide +kernel
theorem dX6_copyFrom_60 : decode cX6_copyFrom 60 = .ok (.aload_n 1, 1) := by decide +kernel
theorem dX6_copyFrom_61 : decode cX6_copyFrom 61 = .ok (.getfield 24, 3) := by decide +kernel
theorem dX6_copyFrom_64 : decode cX6_copyFrom 64 = .ok (.iconst 0, 1) := by decide +kernel
theorem dX6_copyFrom_65 : decode cX6_copyFrom 65 = .ok (.aload_n 0, 1) := by decide +kernel
theorem dX6_copyFrom_66 : decode cX6_copyFrom 66 = .ok (.getfield 24, 3) := by decide +kernel
theorem dX6_copyFrom_69 : decode cX6_copyFrom 69 = .ok (.iconst 0, 1) := by decide +kernel
theorem dX6_copyFrom_70 : decode cX6_copyFrom 70 = .ok (.bipush 40, 2) := by decide +kernel
theorem dX6_copyFrom_72 : decode cX6_copyFrom 72 = .ok (.invokestatic 34, 3) := by decide +kernel
theorem dX6_copyFrom_75 : decode cX6_copyFrom 75 = .ok (.aload_n 1, 1) := by decide +kernel
theorem dX6_copyFrom_76 : decode cX6_copyFrom 76 = .ok (.getfield 27, 3) := by decide +kernel
theorem dX6_copyFrom_79 : decode cX6_copyFrom 79 = .ok (.iconst 0, 1) := by decide +kernel
theorem dX6_copyFrom_80 : decode cX6_copyFrom 80 = .ok (.aload_n 0, 1) := by decide +kernel
theorem dX6_copyFrom_81 : decode cX6_copyFrom 81 = .ok (.getfield 27, 3) := by decide +kernel
theorem dX6_copyFrom_84 : decode cX6_copyFrom 84 = .ok (.iconst 0, 1) := by decide +kernel
theorem dX6_copyFrom_85 : decode cX6_copyFrom 85 = .ok (.bipush 40, 2) := by decide +kernel
theorem dX6_copyFrom_87 : decode cX6_copyFrom 87 = .ok (.invokestatic 34, 3) := by decide +kernel
theorem dX6_copyFrom_90 : decode cX6_copyFrom 90 = .ok (.aload_n 0, 1) := by decide +kernel
theorem dX6_copyFrom_91 : decode cX6_copyFrom 91 = .ok (.aload_n 1, 1) := by decide +kernel
theorem dX6_copyFrom_92 : decode cX6_copyFrom 92 = .ok (.getfield 30, 3) := by decide +kernel
theorem dX6_copyFrom_95 : decode cX6_copyFrom 95 = .ok (.putfield 30, 3) := by decide +kernel
theorem dX6_copyFrom_98 : decode cX6_copyFrom 98 = .ok (.return_, 1) := by decide +kernel
theorem dX6_size_0 : decode cX6_size 0 = .ok (.aload_n 0, 1) := by decide +kernel
theorem dX6_size_1 : decode cX6_size 1 = .ok (.getfield 30, 3) := by decide +kernel
theorem dX6_size_4 : decode cX6_size 4 = .ok (.ireturn, 1) := by decide +kernel
theorem dX6_has_0 : decode cX6_has 0 = .ok (.iload_n 1, 1) := by decide +kernel
theorem dX6_has_1 : decode cX6_has 1 = .ok (.ifCond .lt 21, 3) := by decide +kernel
theorem dX6_has_4 : decode cX6_has 4 = .ok (.iload_n 1, 1) := by decide +kernel
theorem dX6_has_5 : decode cX6_has 5 = .ok (.aload_n 0, 1) := by decide +kernel
theorem dX6_has_6 : decode cX6_has 6 = .ok (.getfield 30, 3) := by decide +kernel
theorem dX6_has_9 : decode cX6_has 9 = .ok (.if_icmp .ge 13, 3) := by decide +kernel
theorem dX6_has_12 : decode cX6_has 12 = .ok (.iload_n 1, 1) := by decide +kernel
theorem dX6_has_13 : decode cX6_has 13 = .ok (.bipush 40, 2) := by decide +kernel
theorem dX6_has_15 : decode cX6_has 15 = .ok (.if_icmp .ge 7, 3) := by decide +kernel
theorem dX6_has_18 : decode cX6_has 18 = .ok (.iconst 1, 1) := by decide +kernel
theorem dX6_has_19 : decode cX6_has 19 = .ok (.goto 4, 3) := by decide +kernel
theorem dX6_has_22 : decode cX6_has 22 = .ok (.iconst 0, 1) := by decide +kernel
theorem dX6_has_23 : decode cX6_has 23 = .ok (.ireturn, 1) := by decide +kernel
theorem dX6_put_0 : decode cX6_put 0 = .ok (.aload_n 0, 1) := by decide +kernel
theorem dX6_put_1 : decode cX6_put 1 = .ok (.getfield 30, 3) := by decide +kernel
theorem dX6_put_4 : decode cX6_put 4 = .ok (.istore 6, 2) := by decide +kernel
theorem dX6_put_6 : decode cX6_put 6 = .ok (.iload 6, 2) := by decide +kernel
theorem dX6_put_8 : decode cX6_put 8 = .ok (.bipush 40, 2) := by decide +kernel
theorem dX6_put_10 : decode cX6_put 10 = .ok (.if_icmp .lt 6, 3) := by decide +kernel
theorem dX6_put_13 : decode cX6_put 13 = .ok (.bipush (-3), 2) := by decide +kernel
theorem dX6_put_15 : decode cX6_put 15 = .ok (.ireturn, 1) := by decide +kernel
theorem dX6_put_16 : decode cX6_put 16 = .ok (.aload_n 0, 1) := by decide +kernel
theorem dX6_put_17 : decode cX6_put 17 = .ok (.getfield 9, 3) := by decide +kernel
theorem dX6_put_20 : decode cX6_put 20 = .ok (.iload 6, 2) := by decide +kernel
theorem dX6_put_22 : decode cX6_put 22 = .ok (.iload_n 1, 1) := by decide +kernel
theorem dX6_put_23 : decode cX6_put 23 = .ok (.iastore, 1) := by decide +kernel
theorem dX6_put_24 : decode cX6_put 24 = .ok (.aload_n 0, 1) := by decide +kernel
theorem dX6_put_25 : decode cX6_put 25 = .ok (.getfield 15, 3) := by decide +kernel
theorem dX6_put_28 : decode cX6_put 28 = .ok (.iload 6, 2) := by decide +kernel
theorem dX6_put_30 : decode cX6_put 30 = .ok (.iload_n 2, 1) := by decide +kernel
theorem dX6_put_31 : decode cX6_put 31 = .ok (.iastore, 1) := by decide +kernel
theorem dX6_put_32 : decode cX6_put 32 = .ok (.aload_n 0, 1) := by decide +kernel
theorem dX6_put_33 : decode cX6_put 33 = .ok (.getfield 18, 3) := by decide +kernel
theorem dX6_put_36 : decode cX6_put 36 = .ok (.iload 6, 2) := by decide +kernel
theorem dX6_put_38 : decode cX6_put 38 = .ok (.iload_n 3, 1) := by decide +kernel
theorem dX6_put_39 : decode cX6_put 39 = .ok (.iastore, 1) := by decide +kernel
theorem dX6_put_40 : decode cX6_put 40 = .ok (.iconst 0, 1) := by decide +kernel
theorem dX6_put_41 : decode cX6_put 41 = .ok (.istore 7, 2) := by decide +kernel
theorem dX6_put_43 : decode cX6_put 43 = .ok (.iload 7, 2) := by decide +kernel
theorem dX6_put_45 : decode cX6_put 45 = .ok (.iconst 3, 1) := by decide +kernel
theorem dX6_put_46 : decode cX6_put 46 = .ok (.if_icmp .ge 23, 3) := by decide +kernel
theorem dX6_put_49 : decode cX6_put 49 = .ok (.aload_n 0, 1) := by decide +kernel
theorem dX6_put_50 : decode cX6_put 50 = .ok (.getfield 21, 3) := by decide +kernel
theorem dX6_put_53 : decode cX6_put 53 = .ok (.iload 6, 2) := by decide +kernel
theorem dX6_put_55 : decode cX6_put 55 = .ok (.iconst 3, 1) := by decide +kernel
theorem dX6_put_56 : decode cX6_put 56 = .ok (.imul, 1) := by decide +kernel
theorem dX6_put_57 : decode cX6_put 57 = .ok (.iload 7, 2) := by decide +kernel
theorem dX6_put_59 : decode cX6_put 59 = .ok (.iadd, 1) := by decide +kernel
theorem dX6_put_60 : decode cX6_put 60 = .ok (.iload 4, 2) := by decide +kernel
theorem dX6_put_62 : decode cX6_put 62 = .ok (.iastore, 1) := by decide +kernel
theorem dX6_put_63 : decode cX6_put 63 = .ok (.iinc 7 1, 3) := by decide +kernel
theorem dX6_put_66 : decode cX6_put 66 = .ok (.goto (-23), 3) := by decide +kernel
theorem dX6_put_69 : decode cX6_put 69 = .ok (.aload_n 0, 1) := by decide +kernel
theorem dX6_put_70 : decode cX6_put 70 = .ok (.getfield 24, 3) := by decide +kernel
theorem dX6_put_73 : decode cX6_put 73 = .ok (.iload 6, 2) := by decide +kernel
theorem dX6_put_75 : decode cX6_put 75 = .ok (.iload 5, 2) := by decide +kernel
theorem dX6_put_77 : decode cX6_put 77 = .ok (.iastore, 1) := by decide +kernel
theorem dX6_put_78 : decode cX6_put 78 = .ok (.aload_n 0, 1) := by decide +kernel
theorem dX6_put_79 : decode cX6_put 79 = .ok (.getfield 27, 3) := by decide +kernel
theorem dX6_put_82 : decode cX6_put 82 = .ok (.iload 6, 2) := by decide +kernel
theorem dX6_put_84 : decode cX6_put 84 = .ok (.iconst 0, 1) := by decide +kernel
theorem dX6_put_85 : decode cX6_put 85 = .ok (.iastore, 1) := by decide +kernel
theorem dX6_put_86 : decode cX6_put 86 = .ok (.aload_n 0, 1) := by decide +kernel
theorem dX6_put_87 : decode cX6_put 87 = .ok (.iload 6, 2) := by decide +kernel
theorem dX6_put_89 : decode cX6_put 89 = .ok (.iconst 1, 1) := by decide +kernel
theorem dX6_put_90 : decode cX6_put 90 = .ok (.iadd, 1) := by decide +kernel
theorem dX6_put_91 : decode cX6_put 91 = .ok (.putfield 30, 3) := by decide +kernel
theorem dX6_put_94 : decode cX6_put 94 = .ok (.iload 6, 2) := by decide +kernel
theorem dX6_put_96 : decode cX6_put 96 = .ok (.ireturn, 1) := by decide +kernel
theorem dX6_switchOf_0 : decode cX6_switchOf 0 = .ok (.aload_n 0, 1) := by decide +kernel
theorem dX6_switchOf_1 : decode cX6_switchOf 1 = .ok (.iload_n 1, 1) := by decide +kernel
theorem dX6_switchOf_2 : decode cX6_switchOf 2 = .ok (.invokevirtual 40, 3) := by decide +kernel
theorem dX6_switchOf_5 : decode cX6_switchOf 5 = .ok (.ifCond .eq 12, 3) := by decide +kernel
theorem dX6_switchOf_8 : decode cX6_switchOf 8 = .ok (.aload_n 0, 1) := by decide +kernel
theorem dX6_switchOf_9 : decode cX6_switchOf 9 = .ok (.getfield 9, 3) := by decide +kernel
theorem dX6_switchOf_12 : decode cX6_switchOf 12 = .ok (.iload_n 1, 1) := by decide +kernel
theorem dX6_switchOf_13 : decode cX6_switchOf 13 = .ok (.iaload, 1) := by decide +kernel
theorem dX6_switchOf_14 : decode cX6_switchOf 14 = .ok (.goto 5, 3) := by decide +kernel
theorem dX6_switchOf_17 : decode cX6_switchOf 17 = .ok (.bipush (-9), 2) := by decide +kernel
theorem dX6_switchOf_19 : decode cX6_switchOf 19 = .ok (.ireturn, 1) := by decide +kernel
theorem dX6_nextOf_0 : decode cX6_nextOf 0 = .ok (.aload_n 0, 1) := by decide +kernel
theorem dX6_nextOf_1 : decode cX6_nextOf 1 = .ok (.iload_n 1, 1) := by decide +kernel
theorem dX6_nextOf_2 : decode cX6_nextOf 2 = .ok (.invokevirtual 40, 3) := by decide +kernel
theorem dX6_nextOf_5 : decode cX6_nextOf 5 = .ok (.ifCond .eq 12, 3) := by decide +kernel
theorem dX6_nextOf_8 : decode cX6_nextOf 8 = .ok (.aload_n 0, 1) := by decide +kernel
theorem dX6_nextOf_9 : decode cX6_nextOf 9 = .ok (.getfield 18, 3) := by decide +kernel
theorem dX6_nextOf_12 : decode cX6_nextOf 12 = .ok (.iload_n 1, 1) := by decide +kernel
theorem dX6_nextOf_13 : decode cX6_nextOf 13 = .ok (.iaload, 1) := by decide +kernel
theorem dX6_nextOf_14 : decode cX6_nextOf 14 = .ok (.goto 5, 3) := by decide +kernel
theorem dX6_nextOf_17 : decode cX6_nextOf 17 = .ok (.bipush (-9), 2) := by decide +kernel
theorem dX6_nextOf_19 : decode cX6_nextOf 19 = .ok (.ireturn, 1) := by decide +kernel
theorem dX6_serves_0 : decode cX6_serves 0 = .ok (.aload_n 0, 1) := by decide +kernel
theorem dX6_serves_1 : decode cX6_serves 1 = .ok (.iload_n 1, 1) := by decide +kernel
theorem dX6_serves_2 : decode cX6_serves 2 = .ok (.invokevirtual 40, 3) := by decide +kernel
theorem dX6_serves_5 : decode cX6_serves 5 = .ok (.ifCond .eq 22, 3) := by decide +kernel
theorem dX6_serves_8 : decode cX6_serves 8 = .ok (.aload_n 0, 1) := by decide +kernel
theorem dX6_serves_9 : decode cX6_serves 9 = .ok (.getfield 9, 3) := by decide +kernel
theorem dX6_serves_12 : decode cX6_serves 12 = .ok (.iload_n 1, 1) := by decide +kernel
theorem dX6_serves_13 : decode cX6_serves 13 = .ok (.iaload, 1) := by decide +kernel
theorem dX6_serves_14 : decode cX6_serves 14 = .ok (.aload_n 0, 1) := by decide +kernel
theorem dX6_serves_15 : decode cX6_serves 15 = .ok (.getfield 18, 3) := by decide +kernel
theorem dX6_serves_18 : decode cX6_serves 18 = .ok (.iload_n 1, 1) := by decide +kernel
theorem dX6_serves_19 : decode cX6_serves 19 = .ok (.iaload, 1) := by decide +kernel
theorem dX6_serves_20 : decode cX6_serves 20 = .ok (.if_icmp .ne 7, 3) := by decide +kernel
theorem dX6_serves_23 : decode cX6_serves 23 = .ok (.iconst 1, 1) := by decide +kernel
theorem dX6_serves_24 : decode cX6_serves 24 = .ok (.goto 4, 3) := by decide +kernel
theorem dX6_serves_27 : decode cX6_serves 27 = .ok (.iconst 0, 1) := by decide +kernel
theorem dX6_serves_28 : decode cX6_serves 28 = .ok (.ireturn, 1) := by decide +kernel
theorem dX6_costOf_0 : decode cX6_costOf 0 = .ok (.iload_n 1, 1) := by decide +kernel
theorem dX6_costOf_1 : decode cX6_costOf 1 = .ok (.iconst 3, 1) := by decide +kernel
theorem dX6_costOf_2 : decode cX6_costOf 2 = .ok (.imul, 1) := by decide +kernel
theorem dX6_costOf_3 : decode cX6_costOf 3 = .ok (.iload_n 2, 1) := by decide +kernel
theorem dX6_costOf_4 : decode cX6_costOf 4 = .ok (.iadd, 1) := by decide +kernel
theorem dX6_costOf_5 : decode cX6_costOf 5 = .ok (.istore_n 3, 1) := by decide +kernel
theorem dX6_costOf_6 : decode cX6_costOf 6 = .ok (.iload_n 3, 1) := by decide +kernel
theorem dX6_costOf_7 : decode cX6_costOf 7 = .ok (.ifCond .lt 18, 3) := by decide +kernel
theorem dX6_costOf_10 : decode cX6_costOf 10 = .ok (.iload_n 3, 1) := by decide +kernel
theorem dX6_costOf_11 : decode cX6_costOf 11 = .ok (.bipush 120, 2) := by decide +kernel
theorem dX6_costOf_13 : decode cX6_costOf 13 = .ok (.if_icmp .ge 12, 3) := by decide +kernel
theorem dX6_costOf_16 : decode cX6_costOf 16 = .ok (.aload_n 0, 1) := by decide +kernel
theorem dX6_costOf_17 : decode cX6_costOf 17 = .ok (.getfield 21, 3) := by decide +kernel
theorem dX6_costOf_20 : decode cX6_costOf 20 = .ok (.iload_n 3, 1) := by decide +kernel
theorem dX6_costOf_21 : decode cX6_costOf 21 = .ok (.iaload, 1) := by decide +kernel
theorem dX6_costOf_22 : decode cX6_costOf 22 = .ok (.goto 4, 3) := by decide +kernel
theorem dX6_costOf_25 : decode cX6_costOf 25 = .ok (.iconst 0, 1) := by decide +kernel
theorem dX6_costOf_26 : decode cX6_costOf 26 = .ok (.ireturn, 1) := by decide +kernel
theorem dX6_changeCost_0 : decode cX6_changeCost 0 = .ok (.aload_n 0, 1) := by decide +kernel
theorem dX6_changeCost_1 : decode cX6_changeCost 1 = .ok (.iload_n 1, 1) := by decide +kernel
theorem dX6_changeCost_2 : decode cX6_changeCost 2 = .ok (.invokevirtual 40, 3) := by decide +kernel
theorem dX6_changeCost_5 : decode cX6_changeCost 5 = .ok (.ifCond .eq 12, 3) := by decide +kernel
theorem dX6_changeCost_8 : decode cX6_changeCost 8 = .ok (.iload_n 2, 1) := by decide +kernel
theorem dX6_changeCost_9 : decode cX6_changeCost 9 = .ok (.iconst 0, 1) := by decide +kernel
theorem dX6_changeCost_10 : decode cX6_changeCost 10 = .ok (.iconst 2, 1) := by decide +kernel
theorem dX6_changeCost_11 : decode cX6_changeCost 11 = .ok (.invokestatic 44, 3) := by decide +kernel
theorem dX6_changeCost_14 : decode cX6_changeCost 14 = .ok (.ifCond .ne 5, 3) := by decide +kernel
theorem dX6_changeCost_17 : decode cX6_changeCost 17 = .ok (.iconst (-1), 1) := by decide +kernel
theorem dX6_changeCost_18 : decode cX6_changeCost 18 = .ok (.ireturn, 1) := by decide +kernel
theorem dX6_changeCost_19 : decode cX6_changeCost 19 = .ok (.aload_n 0, 1) := by decide +kernel
theorem dX6_changeCost_20 : decode cX6_changeCost 20 = .ok (.getfield 21, 3) := by decide +kernel
theorem dX6_changeCost_23 : decode cX6_changeCost 23 = .ok (.iload_n 1, 1) := by decide +kernel
theorem dX6_changeCost_24 : decode cX6_changeCost 24 = .ok (.iconst 3, 1) := by decide +kernel
theorem dX6_changeCost_25 : decode cX6_changeCost 25 = .ok (.imul, 1) := by decide +kernel
theorem dX6_changeCost_26 : decode cX6_changeCost 26 = .ok (.iload_n 2, 1) := by decide +kernel
theorem dX6_changeCost_27 : decode cX6_changeCost 27 = .ok (.iadd, 1) := by decide +kernel
theorem dX6_changeCost_28 : decode cX6_changeCost 28 = .ok (.iaload, 1) := by decide +kernel
theorem dX6_changeCost_29 : decode cX6_changeCost 29 = .ok (.istore 4, 2) := by decide +kernel
theorem dX6_changeCost_31 : decode cX6_changeCost 31 = .ok (.aload_n 0, 1) := by decide +kernel
theorem dX6_changeCost_32 : decode cX6_changeCost 32 = .ok (.getfield 21, 3) := by decide +kernel
theorem dX6_changeCost_35 : decode cX6_changeCost 35 = .ok (.iload_n 1, 1) := by decide +kernel
theorem dX6_changeCost_36 : decode cX6_changeCost 36 = .ok (.iconst 3, 1) := by decide +kernel
theorem dX6_changeCost_37 : decode cX6_changeCost 37 = .ok (.imul, 1) := by decide +kernel
theorem dX6_changeCost_38 : decode cX6_changeCost 38 = .ok (.iload_n 2, 1) := by decide +kernel
theorem dX6_changeCost_39 : decode cX6_changeCost 39 = .ok (.iadd, 1) := by decide +kernel
theorem dX6_changeCost_40 : decode cX6_changeCost 40 = .ok (.iload_n 3, 1) := by decide +kernel
theorem dX6_changeCost_41 : decode cX6_changeCost 41 = .ok (.iastore, 1) := by decide +kernel
theorem dX6_changeCost_42 : decode cX6_changeCost 42 = .ok (.iload 4, 2) := by decide +kernel
theorem dX6_changeCost_44 : decode cX6_changeCost 44 = .ok (.ireturn, 1) := by decide +kernel
theorem dX6_hasFreeLine_0 : decode cX6_hasFreeLine 0 = .ok (.aload_n 0, 1) := by decide +kernel
theorem dX6_hasFreeLine_1 : decode cX6_hasFreeLine 1 = .ok (.iload_n 1, 1) := by decide +kernel
theorem dX6_hasFreeLine_2 : decode cX6_hasFreeLine 2 = .ok (.invokevirtual 40, 3) := by decide +kernel
theorem dX6_hasFreeLine_5 : decode cX6_hasFreeLine 5 = .ok (.ifCond .eq 22, 3) := by decide +kernel
theorem dX6_hasFreeLine_8 : decode cX6_hasFreeLine 8 = .ok (.aload_n 0, 1) := by decide +kernel
theorem dX6_hasFreeLine_9 : decode cX6_hasFreeLine 9 = .ok (.getfield 27, 3) := by decide +kernel
theorem dX6_hasFreeLine_12 : decode cX6_hasFreeLine 12 = .ok (.iload_n 1, 1) := by decide +kernel
theorem dX6_hasFreeLine_13 : decode cX6_hasFreeLine 13 = .ok (.iaload, 1) := by decide +kernel
theorem dX6_hasFreeLine_14 : decode cX6_hasFreeLine 14 = .ok (.aload_n 0, 1) := by decide +kernel
theorem dX6_hasFreeLine_15 : decode cX6_hasFreeLine 15 = .ok (.getfield 24, 3) := by decide +kernel
theorem dX6_hasFreeLine_18 : decode cX6_hasFreeLine 18 = .ok (.iload_n 1, 1) := by decide +kernel
theorem dX6_hasFreeLine_19 : decode cX6_hasFreeLine 19 = .ok (.iaload, 1) := by decide +kernel
theorem dX6_hasFreeLine_20 : decode cX6_hasFreeLine 20 = .ok (.if_icmp .ge 7, 3) := by decide +kernel
theorem dX6_hasFreeLine_23 : decode cX6_hasFreeLine 23 = .ok (.iconst 1, 1) := by decide +kernel
theorem dX6_hasFreeLine_24 : decode cX6_hasFreeLine 24 = .ok (.goto 4, 3) := by decide +kernel
theorem dX6_hasFreeLine_27 : decode cX6_hasFreeLine 27 = .ok (.iconst 0, 1) := by decide +kernel
theorem dX6_hasFreeLine_28 : decode cX6_hasFreeLine 28 = .ok (.ireturn, 1) := by decide +kernel
theorem dX6_occupy_0 : decode cX6_occupy 0 = .ok (.aload_n 0, 1) := by decide +kernel
theorem dX6_occupy_1 : decode cX6_occupy 1 = .ok (.iload_n 1, 1) := by decide +kernel
theorem dX6_occupy_2 : decode cX6_occupy 2 = .ok (.invokevirtual 40, 3) := by decide +kernel
theorem dX6_occupy_5 : decode cX6_occupy 5 = .ok (.ifCond .eq 21, 3) := by decide +kernel
theorem dX6_occupy_8 : decode cX6_occupy 8 = .ok (.aload_n 0, 1) := by decide +kernel
theorem dX6_occupy_9 : decode cX6_occupy 9 = .ok (.iload_n 1, 1) := by decide +kernel
theorem dX6_occupy_10 : decode cX6_occupy 10 = .ok (.invokevirtual 48, 3) := by decide +kernel
theorem dX6_occupy_13 : decode cX6_occupy 13 = .ok (.ifCond .ne 13, 3) := by decide +kernel
theorem dX6_occupy_16 : decode cX6_occupy 16 = .ok (.aload_n 0, 1) := by decide +kernel
theorem dX6_occupy_17 : decode cX6_occupy 17 = .ok (.getfield 27, 3) := by decide +kernel
theorem dX6_occupy_20 : decode cX6_occupy 20 = .ok (.iload_n 1, 1) := by decide +kernel
theorem dX6_occupy_21 : decode cX6_occupy 21 = .ok (.dup2, 1) := by decide +kernel
theorem dX6_occupy_22 : decode cX6_occupy 22 = .ok (.iaload, 1) := by decide +kernel
theorem dX6_occupy_23 : decode cX6_occupy 23 = .ok (.iconst 1, 1) := by decide +kernel
theorem dX6_occupy_24 : decode cX6_occupy 24 = .ok (.iadd, 1) := by decide +kernel
theorem dX6_occupy_25 : decode cX6_occupy 25 = .ok (.iastore, 1) := by decide +kernel
theorem dX6_occupy_26 : decode cX6_occupy 26 = .ok (.return_, 1) := by decide +kernel
theorem dX6_release_0 : decode cX6_release 0 = .ok (.aload_n 0, 1) := by decide +kernel
theorem dX6_release_1 : decode cX6_release 1 = .ok (.iload_n 1, 1) := by decide +kernel
theorem dX6_release_2 : decode cX6_release 2 = .ok (.invokevirtual 40, 3) := by decide +kernel
theorem dX6_release_5 : decode cX6_release 5 = .ok (.ifCond .eq 21, 3) := by decide +kernel
theorem dX6_release_8 : decode cX6_release 8 = .ok (.aload_n 0, 1) := by decide +kernel
theorem dX6_release_9 : decode cX6_release 9 = .ok (.iload_n 1, 1) := by decide +kernel
theorem dX6_release_10 : decode cX6_release 10 = .ok (.invokevirtual 48, 3) := by decide +kernel
theorem dX6_release_13 : decode cX6_release 13 = .ok (.ifCond .ne 13, 3) := by decide +kernel
theorem dX6_release_16 : decode cX6_release 16 = .ok (.aload_n 0, 1) := by decide +kernel
theorem dX6_release_17 : decode cX6_release 17 = .ok (.getfield 27, 3) := by decide +kernel
theorem dX6_release_20 : decode cX6_release 20 = .ok (.iload_n 1, 1) := by decide +kernel
theorem dX6_release_21 : decode cX6_release 21 = .ok (.dup2, 1) := by decide +kernel
theorem dX6_release_22 : decode cX6_release 22 = .ok (.iaload, 1) := by decide +kernel
theorem dX6_release_23 : decode cX6_release 23 = .ok (.iconst 1, 1) := by decide +kernel
theorem dX6_release_24 : decode cX6_release 24 = .ok (.isub, 1) := by decide +kernel
theorem dX6_release_25 : decode cX6_release 25 = .ok (.iastore, 1) := by decide +kernel
theorem dX6_release_26 : decode cX6_release 26 = .ok (.return_, 1) := by decide +kernel
theorem dX6_numberOf_0 : decode cX6_numberOf 0 = .ok (.aload_n 0, 1) := by decide +kernel
theorem dX6_numberOf_1 : decode cX6_numberOf 1 = .ok (.iload_n 1, 1) := by decide +kernel
theorem dX6_numberOf_2 : decode cX6_numberOf 2 = .ok (.invokevirtual 40, 3) := by decide +kernel
theorem dX6_numberOf_5 : decode cX6_numberOf 5 = .ok (.ifCond .ne 5, 3) := by decide +kernel
theorem dX6_numberOf_8 : decode cX6_numberOf 8 = .ok (.iconst (-1), 1) := by decide +kernel
theorem dX6_numberOf_9 : decode cX6_numberOf 9 = .ok (.ireturn, 1) := by decide +kernel
theorem dX6_numberOf_10 : decode cX6_numberOf 10 = .ok (.iload_n 2, 1) := by decide +kernel
theorem dX6_numberOf_11 : decode cX6_numberOf 11 = .ok (.tableswitch 89 0 7 #[45, 52, 59, 66, 66, 66, 75, 82], 45) := by decide +kernel
theorem dX6_numberOf_56 : decode cX6_numberOf 56 = .ok (.aload_n 0, 1) := by decide +kernel
theorem dX6_numberOf_57 : decode cX6_numberOf 57 = .ok (.getfield 9, 3) := by decide +kernel
theorem dX6_numberOf_60 : decode cX6_numberOf 60 = .ok (.iload_n 1, 1) := by decide +kernel
theorem dX6_numberOf_61 : decode cX6_numberOf 61 = .ok (.iaload, 1) := by decide +kernel
theorem dX6_numberOf_62 : decode cX6_numberOf 62 = .ok (.ireturn, 1) := by decide +kernel
theorem dX6_numberOf_63 : decode cX6_numberOf 63 = .ok (.aload_n 0, 1) := by decide +kernel
theorem dX6_numberOf_64 : decode cX6_numberOf 64 = .ok (.getfield 15, 3) := by decide +kernel
theorem dX6_numberOf_67 : decode cX6_numberOf 67 = .ok (.iload_n 1, 1) := by decide +kernel
theorem dX6_numberOf_68 : decode cX6_numberOf 68 = .ok (.iaload, 1) := by decide +kernel
theorem dX6_numberOf_69 : decode cX6_numberOf 69 = .ok (.ireturn, 1) := by decide +kernel
theorem dX6_numberOf_70 : decode cX6_numberOf 70 = .ok (.aload_n 0, 1) := by decide +kernel
theorem dX6_numberOf_71 : decode cX6_numberOf 71 = .ok (.getfield 18, 3) := by decide +kernel
theorem dX6_numberOf_74 : decode cX6_numberOf 74 = .ok (.iload_n 1, 1) := by decide +kernel
theorem dX6_numberOf_75 : decode cX6_numberOf 75 = .ok (.iaload, 1) := by decide +kernel
theorem dX6_numberOf_76 : decode cX6_numberOf 76 = .ok (.ireturn, 1) := by decide +kernel
theorem dX6_numberOf_77 : decode cX6_numberOf 77 = .ok (.aload_n 0, 1) := by decide +kernel
theorem dX6_numberOf_78 : decode cX6_numberOf 78 = .ok (.iload_n 1, 1) := by decide +kernel
theorem dX6_numberOf_79 : decode cX6_numberOf 79 = .ok (.iload_n 2, 1) := by decide +kernel
theorem dX6_numberOf_80 : decode cX6_numberOf 80 = .ok (.iconst 3, 1) := by decide +kernel
theorem dX6_numberOf_81 : decode cX6_numberOf 81 = .ok (.isub, 1) := by decide +kernel
theorem dX6_numberOf_82 : decode cX6_numberOf 82 = .ok (.invokevirtual 51, 3) := by decide +kernel
theorem dX6_numberOf_85 : decode cX6_numberOf 85 = .ok (.ireturn, 1) := by decide +kernel
theorem dX6_numberOf_86 : decode cX6_numberOf 86 = .ok (.aload_n 0, 1) := by decide +kernel
theorem dX6_numberOf_87 : decode cX6_numberOf 87 = .ok (.getfield 24, 3) := by decide +kernel
theorem dX6_numberOf_90 : decode cX6_numberOf 90 = .ok (.iload_n 1, 1) := by decide +kernel
theorem dX6_numberOf_91 : decode cX6_numberOf 91 = .ok (.iaload, 1) := by decide +kernel
theorem dX6_numberOf_92 : decode cX6_numberOf 92 = .ok (.ireturn, 1) := by decide +kernel
theorem dX6_numberOf_93 : decode cX6_numberOf 93 = .ok (.aload_n 0, 1) := by decide +kernel
theorem dX6_numberOf_94 : decode cX6_numberOf 94 = .ok (.getfield 27, 3) := by decide +kernel
theorem dX6_numberOf_97 : decode cX6_numberOf 97 = .ok (.iload_n 1, 1) := by decide +kernel
theorem dX6_numberOf_98 : decode cX6_numberOf 98 = .ok (.iaload, 1) := by decide +kernel
theorem dX6_numberOf_99 : decode cX6_numberOf 99 = .ok (.ireturn, 1) := by decide +kernel
theorem dX6_numberOf_100 : decode cX6_numberOf 100 = .ok (.iconst (-1), 1) := by decide +kernel
theorem dX6_numberOf_101 : decode cX6_numberOf 101 = .ok (.ireturn, 1) := by decide +kernel
theorem dX6_longestPrefix_0 : decode cX6_longestPrefix 0 = .ok (.bipush (-9), 2) := by decide +kernel
theorem dX6_longestPrefix_2 : decode cX6_longestPrefix 2 = .ok (.istore 4, 2) := by decide +kernel
theorem dX6_longestPrefix_4 : decode cX6_longestPrefix 4 = .ok (.iconst 0, 1) := by decide +kernel
theorem dX6_longestPrefix_5 : decode cX6_longestPrefix 5 = .ok (.istore 5, 2) := by decide +kernel
theorem dX6_longestPrefix_7 : decode cX6_longestPrefix 7 = .ok (.iload 5, 2) := by decide +kernel
theorem dX6_longestPrefix_9 : decode cX6_longestPrefix 9 = .ok (.aload_n 0, 1) := by decide +kernel
theorem dX6_longestPrefix_10 : decode cX6_longestPrefix 10 = .ok (.getfield 30, 3) := by decide +kernel
theorem dX6_longestPrefix_13 : decode cX6_longestPrefix 13 = .ok (.if_icmp .ge 56, 3) := by decide +kernel
theorem dX6_longestPrefix_16 : decode cX6_longestPrefix 16 = .ok (.iload 5, 2) := by decide +kernel
theorem dX6_longestPrefix_18 : decode cX6_longestPrefix 18 = .ok (.bipush 40, 2) := by decide +kernel
theorem dX6_longestPrefix_20 : decode cX6_longestPrefix 20 = .ok (.if_icmp .ge 49, 3) := by decide +kernel
theorem dX6_longestPrefix_23 : decode cX6_longestPrefix 23 = .ok (.aload_n 0, 1) := by decide +kernel
theorem dX6_longestPrefix_24 : decode cX6_longestPrefix 24 = .ok (.getfield 15, 3) := by decide +kernel
theorem dX6_longestPrefix_27 : decode cX6_longestPrefix 27 = .ok (.iload 5, 2) := by decide +kernel
theorem dX6_longestPrefix_29 : decode cX6_longestPrefix 29 = .ok (.iaload, 1) := by decide +kernel
theorem dX6_longestPrefix_30 : decode cX6_longestPrefix 30 = .ok (.istore 6, 2) := by decide +kernel
theorem dX6_longestPrefix_32 : decode cX6_longestPrefix 32 = .ok (.aload_n 0, 1) := by decide +kernel
theorem dX6_longestPrefix_33 : decode cX6_longestPrefix 33 = .ok (.getfield 9, 3) := by decide +kernel
theorem dX6_longestPrefix_36 : decode cX6_longestPrefix 36 = .ok (.iload 5, 2) := by decide +kernel
theorem dX6_longestPrefix_38 : decode cX6_longestPrefix 38 = .ok (.iaload, 1) := by decide +kernel
theorem dX6_longestPrefix_39 : decode cX6_longestPrefix 39 = .ok (.iload_n 1, 1) := by decide +kernel
theorem dX6_longestPrefix_40 : decode cX6_longestPrefix 40 = .ok (.if_icmp .ne 23, 3) := by decide +kernel
theorem dX6_longestPrefix_43 : decode cX6_longestPrefix 43 = .ok (.iload 6, 2) := by decide +kernel
theorem dX6_longestPrefix_45 : decode cX6_longestPrefix 45 = .ok (.iload 4, 2) := by decide +kernel
theorem dX6_longestPrefix_47 : decode cX6_longestPrefix 47 = .ok (.if_icmp .le 16, 3) := by decide +kernel
theorem dX6_longestPrefix_50 : decode cX6_longestPrefix 50 = .ok (.lload_n 2, 1) := by decide +kernel
theorem dX6_longestPrefix_51 : decode cX6_longestPrefix 51 = .ok (.iload 6, 2) := by decide +kernel
theorem dX6_longestPrefix_53 : decode cX6_longestPrefix 53 = .ok (.invokestatic 55, 3) := by decide +kernel
theorem dX6_longestPrefix_56 : decode cX6_longestPrefix 56 = .ok (.ifCond .eq 7, 3) := by decide +kernel
theorem dX6_longestPrefix_59 : decode cX6_longestPrefix 59 = .ok (.iload 6, 2) := by decide +kernel
theorem dX6_longestPrefix_61 : decode cX6_longestPrefix 61 = .ok (.istore 4, 2) := by decide +kernel
theorem dX6_longestPrefix_63 : decode cX6_longestPrefix 63 = .ok (.iinc 5 1, 3) := by decide +kernel
theorem dX6_longestPrefix_66 : decode cX6_longestPrefix 66 = .ok (.goto (-59), 3) := by decide +kernel
theorem dX6_longestPrefix_69 : decode cX6_longestPrefix 69 = .ok (.iload 4, 2) := by decide +kernel
theorem dX6_longestPrefix_71 : decode cX6_longestPrefix 71 = .ok (.ireturn, 1) := by decide +kernel
theorem dX6_belongs_0 : decode cX6_belongs 0 = .ok (.aload_n 0, 1) := by decide +kernel
theorem dX6_belongs_1 : decode cX6_belongs 1 = .ok (.iload_n 1, 1) := by decide +kernel
theorem dX6_belongs_2 : decode cX6_belongs 2 = .ok (.invokevirtual 40, 3) := by decide +kernel
theorem dX6_belongs_5 : decode cX6_belongs 5 = .ok (.ifCond .eq 27, 3) := by decide +kernel
theorem dX6_belongs_8 : decode cX6_belongs 8 = .ok (.aload_n 0, 1) := by decide +kernel
theorem dX6_belongs_9 : decode cX6_belongs 9 = .ok (.getfield 9, 3) := by decide +kernel
theorem dX6_belongs_12 : decode cX6_belongs 12 = .ok (.iload_n 1, 1) := by decide +kernel
theorem dX6_belongs_13 : decode cX6_belongs 13 = .ok (.iaload, 1) := by decide +kernel
theorem dX6_belongs_14 : decode cX6_belongs 14 = .ok (.iload_n 2, 1) := by decide +kernel
theorem dX6_belongs_15 : decode cX6_belongs 15 = .ok (.if_icmp .ne 17, 3) := by decide +kernel
theorem dX6_belongs_18 : decode cX6_belongs 18 = .ok (.aload_n 0, 1) := by decide +kernel
theorem dX6_belongs_19 : decode cX6_belongs 19 = .ok (.getfield 15, 3) := by decide +kernel
theorem dX6_belongs_22 : decode cX6_belongs 22 = .ok (.iload_n 1, 1) := by decide +kernel
theorem dX6_belongs_23 : decode cX6_belongs 23 = .ok (.iaload, 1) := by decide +kernel
theorem dX6_belongs_24 : decode cX6_belongs 24 = .ok (.iload_n 3, 1) := by decide +kernel
theorem dX6_belongs_25 : decode cX6_belongs 25 = .ok (.if_icmp .ne 7, 3) := by decide +kernel
theorem dX6_belongs_28 : decode cX6_belongs 28 = .ok (.iconst 1, 1) := by decide +kernel
theorem dX6_belongs_29 : decode cX6_belongs 29 = .ok (.goto 4, 3) := by decide +kernel
theorem dX6_belongs_32 : decode cX6_belongs 32 = .ok (.iconst 0, 1) := by decide +kernel
theorem dX6_belongs_33 : decode cX6_belongs 33 = .ok (.ireturn, 1) := by decide +kernel
theorem dX6_choiceAfter_0 : decode cX6_choiceAfter 0 = .ok (.bipush (-9), 2) := by decide +kernel
theorem dX6_choiceAfter_2 : decode cX6_choiceAfter 2 = .ok (.istore 5, 2) := by decide +kernel
theorem dX6_choiceAfter_4 : decode cX6_choiceAfter 4 = .ok (.iconst 0, 1) := by decide +kernel
theorem dX6_choiceAfter_5 : decode cX6_choiceAfter 5 = .ok (.istore 6, 2) := by decide +kernel
theorem dX6_choiceAfter_7 : decode cX6_choiceAfter 7 = .ok (.iload 6, 2) := by decide +kernel
theorem dX6_choiceAfter_9 : decode cX6_choiceAfter 9 = .ok (.aload_n 0, 1) := by decide +kernel
theorem dX6_choiceAfter_10 : decode cX6_choiceAfter 10 = .ok (.getfield 30, 3) := by decide +kernel
theorem dX6_choiceAfter_13 : decode cX6_choiceAfter 13 = .ok (.if_icmp .ge 62, 3) := by decide +kernel
theorem dX6_choiceAfter_16 : decode cX6_choiceAfter 16 = .ok (.aload_n 0, 1) := by decide +kernel
theorem dX6_choiceAfter_17 : decode cX6_choiceAfter 17 = .ok (.iload 6, 2) := by decide +kernel
theorem dX6_choiceAfter_19 : decode cX6_choiceAfter 19 = .ok (.iload_n 2, 1) := by decide +kernel
theorem dX6_choiceAfter_20 : decode cX6_choiceAfter 20 = .ok (.iload_n 3, 1) := by decide +kernel
theorem dX6_choiceAfter_21 : decode cX6_choiceAfter 21 = .ok (.invokevirtual 59, 3) := by decide +kernel
theorem dX6_choiceAfter_24 : decode cX6_choiceAfter 24 = .ok (.ifCond .eq 45, 3) := by decide +kernel
theorem dX6_choiceAfter_27 : decode cX6_choiceAfter 27 = .ok (.iload_n 1, 1) := by decide +kernel
theorem dX6_choiceAfter_28 : decode cX6_choiceAfter 28 = .ok (.bipush (-9), 2) := by decide +kernel
theorem dX6_choiceAfter_30 : decode cX6_choiceAfter 30 = .ok (.if_icmp .eq 15, 3) := by decide +kernel
theorem dX6_choiceAfter_33 : decode cX6_choiceAfter 33 = .ok (.aload_n 0, 1) := by decide +kernel
theorem dX6_choiceAfter_34 : decode cX6_choiceAfter 34 = .ok (.iload_n 1, 1) := by decide +kernel
theorem dX6_choiceAfter_35 : decode cX6_choiceAfter 35 = .ok (.iload 6, 2) := by decide +kernel
theorem dX6_choiceAfter_37 : decode cX6_choiceAfter 37 = .ok (.iload 4, 2) := by decide +kernel
theorem dX6_choiceAfter_39 : decode cX6_choiceAfter 39 = .ok (.invokevirtual 62, 3) := by decide +kernel
theorem dX6_choiceAfter_42 : decode cX6_choiceAfter 42 = .ok (.ifCond .eq 27, 3) := by decide +kernel
theorem dX6_choiceAfter_45 : decode cX6_choiceAfter 45 = .ok (.iload 5, 2) := by decide +kernel
theorem dX6_choiceAfter_47 : decode cX6_choiceAfter 47 = .ok (.bipush (-9), 2) := by decide +kernel
theorem dX6_choiceAfter_49 : decode cX6_choiceAfter 49 = .ok (.if_icmp .eq 16, 3) := by decide +kernel
theorem dX6_choiceAfter_52 : decode cX6_choiceAfter 52 = .ok (.aload_n 0, 1) := by decide +kernel
theorem dX6_choiceAfter_53 : decode cX6_choiceAfter 53 = .ok (.iload 6, 2) := by decide +kernel
theorem dX6_choiceAfter_55 : decode cX6_choiceAfter 55 = .ok (.iload 5, 2) := by decide +kernel
theorem dX6_choiceAfter_57 : decode cX6_choiceAfter 57 = .ok (.iload 4, 2) := by decide +kernel
theorem dX6_choiceAfter_59 : decode cX6_choiceAfter 59 = .ok (.invokevirtual 62, 3) := by decide +kernel
theorem dX6_choiceAfter_62 : decode cX6_choiceAfter 62 = .ok (.ifCond .eq 7, 3) := by decide +kernel
theorem dX6_choiceAfter_65 : decode cX6_choiceAfter 65 = .ok (.iload 6, 2) := by decide +kernel
theorem dX6_choiceAfter_67 : decode cX6_choiceAfter 67 = .ok (.istore 5, 2) := by decide +kernel
theorem dX6_choiceAfter_69 : decode cX6_choiceAfter 69 = .ok (.iinc 6 1, 3) := by decide +kernel
theorem dX6_choiceAfter_72 : decode cX6_choiceAfter 72 = .ok (.goto (-65), 3) := by decide +kernel
theorem dX6_choiceAfter_75 : decode cX6_choiceAfter 75 = .ok (.iload 5, 2) := by decide +kernel
theorem dX6_choiceAfter_77 : decode cX6_choiceAfter 77 = .ok (.ireturn, 1) := by decide +kernel
theorem dX6_isBefore_0 : decode cX6_isBefore 0 = .ok (.aload_n 0, 1) := by decide +kernel
theorem dX6_isBefore_1 : decode cX6_isBefore 1 = .ok (.iload_n 1, 1) := by decide +kernel
theorem dX6_isBefore_2 : decode cX6_isBefore 2 = .ok (.iload_n 3, 1) := by decide +kernel
theorem dX6_isBefore_3 : decode cX6_isBefore 3 = .ok (.invokevirtual 51, 3) := by decide +kernel
theorem dX6_isBefore_6 : decode cX6_isBefore 6 = .ok (.istore 4, 2) := by decide +kernel
theorem dX6_isBefore_8 : decode cX6_isBefore 8 = .ok (.aload_n 0, 1) := by decide +kernel
theorem dX6_isBefore_9 : decode cX6_isBefore 9 = .ok (.iload_n 2, 1) := by decide +kernel
theorem dX6_isBefore_10 : decode cX6_isBefore 10 = .ok (.iload_n 3, 1) := by decide +kernel
theorem dX6_isBefore_11 : decode cX6_isBefore 11 = .ok (.invokevirtual 51, 3) := by decide +kernel
theorem dX6_isBefore_14 : decode cX6_isBefore 14 = .ok (.istore 5, 2) := by decide +kernel
theorem dX6_isBefore_16 : decode cX6_isBefore 16 = .ok (.iload 4, 2) := by decide +kernel
theorem dX6_isBefore_18 : decode cX6_isBefore 18 = .ok (.iload 5, 2) := by decide +kernel
theorem dX6_isBefore_20 : decode cX6_isBefore 20 = .ok (.if_icmp .lt 15, 3) := by decide +kernel
theorem dX6_isBefore_23 : decode cX6_isBefore 23 = .ok (.iload 4, 2) := by decide +kernel
theorem dX6_isBefore_25 : decode cX6_isBefore 25 = .ok (.iload 5, 2) := by decide +kernel
theorem dX6_isBefore_27 : decode cX6_isBefore 27 = .ok (.if_icmp .ne 12, 3) := by decide +kernel
theorem dX6_isBefore_30 : decode cX6_isBefore 30 = .ok (.iload_n 1, 1) := by decide +kernel
theorem dX6_isBefore_31 : decode cX6_isBefore 31 = .ok (.iload_n 2, 1) := by decide +kernel
theorem dX6_isBefore_32 : decode cX6_isBefore 32 = .ok (.if_icmp .ge 7, 3) := by decide +kernel
theorem dX6_isBefore_35 : decode cX6_isBefore 35 = .ok (.iconst 1, 1) := by decide +kernel
theorem dX6_isBefore_36 : decode cX6_isBefore 36 = .ok (.goto 4, 3) := by decide +kernel
theorem dX6_isBefore_39 : decode cX6_isBefore 39 = .ok (.iconst 0, 1) := by decide +kernel
theorem dX6_isBefore_40 : decode cX6_isBefore 40 = .ok (.ireturn, 1) := by decide +kernel
theorem dX6_fold_0 : decode cX6_fold 0 = .ok (.lload_n 1, 1) := by decide +kernel
theorem dX6_fold_1 : decode cX6_fold 1 = .ok (.lstore_n 3, 1) := by decide +kernel
theorem dX6_fold_2 : decode cX6_fold 2 = .ok (.iconst 0, 1) := by decide +kernel
theorem dX6_fold_3 : decode cX6_fold 3 = .ok (.istore 5, 2) := by decide +kernel
theorem dX6_fold_5 : decode cX6_fold 5 = .ok (.iload 5, 2) := by decide +kernel
theorem dX6_fold_7 : decode cX6_fold 7 = .ok (.aload_n 0, 1) := by decide +kernel
theorem dX6_fold_8 : decode cX6_fold 8 = .ok (.getfield 30, 3) := by decide +kernel
theorem dX6_fold_11 : decode cX6_fold 11 = .ok (.if_icmp .ge 41, 3) := by decide +kernel
theorem dX6_fold_14 : decode cX6_fold 14 = .ok (.iconst 0, 1) := by decide +kernel
theorem dX6_fold_15 : decode cX6_fold 15 = .ok (.istore 6, 2) := by decide +kernel
theorem dX6_fold_17 : decode cX6_fold 17 = .ok (.iload 6, 2) := by decide +kernel
theorem dX6_fold_19 : decode cX6_fold 19 = .ok (.bipush 8, 2) := by decide +kernel
theorem dX6_fold_21 : decode cX6_fold 21 = .ok (.if_icmp .ge 25, 3) := by decide +kernel
theorem dX6_fold_24 : decode cX6_fold 24 = .ok (.ldc2_w 65, 3) := by decide +kernel
theorem dX6_fold_27 : decode cX6_fold 27 = .ok (.lload_n 3, 1) := by decide +kernel
theorem dX6_fold_28 : decode cX6_fold 28 = .ok (.lmul, 1) := by decide +kernel
theorem dX6_fold_29 : decode cX6_fold 29 = .ok (.aload_n 0, 1) := by decide +kernel
theorem dX6_fold_30 : decode cX6_fold 30 = .ok (.iload 5, 2) := by decide +kernel
theorem dX6_fold_32 : decode cX6_fold 32 = .ok (.iload 6, 2) := by decide +kernel
theorem dX6_fold_34 : decode cX6_fold 34 = .ok (.invokevirtual 67, 3) := by decide +kernel
theorem dX6_fold_37 : decode cX6_fold 37 = .ok (.i2l, 1) := by decide +kernel
theorem dX6_fold_38 : decode cX6_fold 38 = .ok (.ladd, 1) := by decide +kernel
theorem dX6_fold_39 : decode cX6_fold 39 = .ok (.lstore_n 3, 1) := by decide +kernel
theorem dX6_fold_40 : decode cX6_fold 40 = .ok (.iinc 6 1, 3) := by decide +kernel
theorem dX6_fold_43 : decode cX6_fold 43 = .ok (.goto (-26), 3) := by decide +kernel
theorem dX6_fold_46 : decode cX6_fold 46 = .ok (.iinc 5 1, 3) := by decide +kernel
theorem dX6_fold_49 : decode cX6_fold 49 = .ok (.goto (-44), 3) := by decide +kernel
theorem dX6_fold_52 : decode cX6_fold 52 = .ok (.lload_n 3, 1) := by decide +kernel
theorem dX6_fold_53 : decode cX6_fold 53 = .ok (.lreturn, 1) := by decide +kernel
theorem dX7_init_0 : decode cX7_init 0 = .ok (.aload_n 0, 1) := by decide +kernel
theorem dX7_init_1 : decode cX7_init 1 = .ok (.invokespecial 3, 3) := by decide +kernel
theorem dX7_init_4 : decode cX7_init 4 = .ok (.aload_n 0, 1) := by decide +kernel
theorem dX7_init_5 : decode cX7_init 5 = .ok (.bipush 80, 2) := by decide +kernel
theorem dX7_init_7 : decode cX7_init 7 = .ok (.newarray .char, 2) := by decide +kernel
theorem dX7_init_9 : decode cX7_init 9 = .ok (.putfield 9, 3) := by decide +kernel
theorem dX7_init_12 : decode cX7_init 12 = .ok (.aload_n 0, 1) := by decide +kernel
theorem dX7_init_13 : decode cX7_init 13 = .ok (.bipush 27, 2) := by decide +kernel
theorem dX7_init_15 : decode cX7_init 15 = .ok (.newarray .char, 2) := by decide +kernel
theorem dX7_init_17 : decode cX7_init 17 = .ok (.putfield 15, 3) := by decide +kernel
theorem dX7_init_20 : decode cX7_init 20 = .ok (.aload_n 0, 1) := by decide +kernel
theorem dX7_init_21 : decode cX7_init 21 = .ok (.bipush 27, 2) := by decide +kernel
theorem dX7_init_23 : decode cX7_init 23 = .ok (.newarray .int, 2) := by decide +kernel
theorem dX7_init_25 : decode cX7_init 25 = .ok (.putfield 18, 3) := by decide +kernel
theorem dX7_init_28 : decode cX7_init 28 = .ok (.aload_n 0, 1) := by decide +kernel
theorem dX7_init_29 : decode cX7_init 29 = .ok (.bipush 27, 2) := by decide +kernel
theorem dX7_init_31 : decode cX7_init 31 = .ok (.newarray .int, 2) := by decide +kernel
theorem dX7_init_33 : decode cX7_init 33 = .ok (.putfield 22, 3) := by decide +kernel
theorem dX7_init_36 : decode cX7_init 36 = .ok (.aload_n 0, 1) := by decide +kernel
theorem dX7_init_37 : decode cX7_init 37 = .ok (.bipush 27, 2) := by decide +kernel
theorem dX7_init_39 : decode cX7_init 39 = .ok (.newarray .int, 2) := by decide +kernel
theorem dX7_init_41 : decode cX7_init 41 = .ok (.putfield 25, 3) := by decide +kernel
theorem dX7_init_44 : decode cX7_init 44 = .ok (.aload_n 0, 1) := by decide +kernel
theorem dX7_init_45 : decode cX7_init 45 = .ok (.bipush 27, 2) := by decide +kernel
theorem dX7_init_47 : decode cX7_init 47 = .ok (.newarray .int, 2) := by decide +kernel
theorem dX7_init_49 : decode cX7_init 49 = .ok (.putfield 28, 3) := by decide +kernel
theorem dX7_init_52 : decode cX7_init 52 = .ok (.aload_n 0, 1) := by decide +kernel
theorem dX7_init_53 : decode cX7_init 53 = .ok (.bipush 27, 2) := by decide +kernel
theorem dX7_init_55 : decode cX7_init 55 = .ok (.newarray .int, 2) := by decide +kernel
theorem dX7_init_57 : decode cX7_init 57 = .ok (.putfield 31, 3) := by decide +kernel
theorem dX7_init_60 : decode cX7_init 60 = .ok (.aload_n 0, 1) := by decide +kernel
theorem dX7_init_61 : decode cX7_init 61 = .ok (.iconst 0, 1) := by decide +kernel
theorem dX7_init_62 : decode cX7_init 62 = .ok (.putfield 34, 3) := by decide +kernel
theorem dX7_init_65 : decode cX7_init 65 = .ok (.aload_n 0, 1) := by decide +kernel
theorem dX7_init_66 : decode cX7_init 66 = .ok (.iconst 0, 1) := by decide +kernel
theorem dX7_init_67 : decode cX7_init 67 = .ok (.putfield 38, 3) := by decide +kernel
theorem dX7_init_70 : decode cX7_init 70 = .ok (.aload_n 0, 1) := by decide +kernel
theorem dX7_init_71 : decode cX7_init 71 = .ok (.iconst 0, 1) := by decide +kernel
theorem dX7_init_72 : decode cX7_init 72 = .ok (.putfield 41, 3) := by decide +kernel
theorem dX7_init_75 : decode cX7_init 75 = .ok (.return_, 1) := by decide +kernel
theorem dX7_size_0 : decode cX7_size 0 = .ok (.aload_n 0, 1) := by decide +kernel
theorem dX7_size_1 : decode cX7_size 1 = .ok (.getfield 34, 3) := by decide +kernel
theorem dX7_size_4 : decode cX7_size 4 = .ok (.ireturn, 1) := by decide +kernel
theorem dX7_empty_0 : decode cX7_empty 0 = .ok (.aload_n 0, 1) := by decide +kernel
theorem dX7_empty_1 : decode cX7_empty 1 = .ok (.iconst 0, 1) := by decide +kernel
theorem dX7_empty_2 : decode cX7_empty 2 = .ok (.putfield 34, 3) := by decide +kernel
theorem dX7_empty_5 : decode cX7_empty 5 = .ok (.return_, 1) := by decide +kernel
theorem dX7_append_0 : decode cX7_append 0 = .ok (.aload_n 0, 1) := by decide +kernel
theorem dX7_append_1 : decode cX7_append 1 = .ok (.getfield 34, 3) := by decide +kernel
theorem dX7_append_4 : decode cX7_append 4 = .ok (.bipush 80, 2) := by decide +kernel
theorem dX7_append_6 : decode cX7_append 6 = .ok (.if_icmp .lt 5, 3) := by decide +kernel
theorem dX7_append_9 : decode cX7_append 9 = .ok (.iconst 0, 1) := by decide +kernel
theorem dX7_append_10 : decode cX7_append 10 = .ok (.ireturn, 1) := by decide +kernel
theorem dX7_append_11 : decode cX7_append 11 = .ok (.aload_n 0, 1) := by decide +kernel
theorem dX7_append_12 : decode cX7_append 12 = .ok (.getfield 9, 3) := by decide +kernel
theorem dX7_append_15 : decode cX7_append 15 = .ok (.aload_n 0, 1) := by decide +kernel
theorem dX7_append_16 : decode cX7_append 16 = .ok (.getfield 34, 3) := by decide +kernel
theorem dX7_append_19 : decode cX7_append 19 = .ok (.iload_n 1, 1) := by decide +kernel
theorem dX7_append_20 : decode cX7_append 20 = .ok (.castore, 1) := by decide +kernel
theorem dX7_append_21 : decode cX7_append 21 = .ok (.aload_n 0, 1) := by decide +kernel
theorem dX7_append_22 : decode cX7_append 22 = .ok (.dup, 1) := by decide +kernel
theorem dX7_append_23 : decode cX7_append 23 = .ok (.getfield 34, 3) := by decide +kernel
theorem dX7_append_26 : decode cX7_append 26 = .ok (.iconst 1, 1) := by decide +kernel
theorem dX7_append_27 : decode cX7_append 27 = .ok (.iadd, 1) := by decide +kernel
theorem dX7_append_28 : decode cX7_append 28 = .ok (.putfield 34, 3) := by decide +kernel
theorem dX7_append_31 : decode cX7_append 31 = .ok (.iconst 1, 1) := by decide +kernel
theorem dX7_append_32 : decode cX7_append 32 = .ok (.ireturn, 1) := by decide +kernel
theorem dX7_commandCount_0 : decode cX7_commandCount 0 = .ok (.aload_n 0, 1) := by decide +kernel
theorem dX7_commandCount_1 : decode cX7_commandCount 1 = .ok (.getfield 38, 3) := by decide +kernel
theorem dX7_commandCount_4 : decode cX7_commandCount 4 = .ok (.ireturn, 1) := by decide +kernel
theorem dX7_errorPlace_0 : decode cX7_errorPlace 0 = .ok (.aload_n 0, 1) := by decide +kernel
theorem dX7_errorPlace_1 : decode cX7_errorPlace 1 = .ok (.getfield 41, 3) := by decide +kernel
theorem dX7_errorPlace_4 : decode cX7_errorPlace 4 = .ok (.ireturn, 1) := by decide +kernel
theorem dX7_parse_0 : decode cX7_parse 0 = .ok (.aload_n 0, 1) := by decide +kernel
theorem dX7_parse_1 : decode cX7_parse 1 = .ok (.iconst 0, 1) := by decide +kernel
theorem dX7_parse_2 : decode cX7_parse 2 = .ok (.putfield 41, 3) := by decide +kernel
theorem dX7_parse_5 : decode cX7_parse 5 = .ok (.aload_n 0, 1) := by decide +kernel
theorem dX7_parse_6 : decode cX7_parse 6 = .ok (.iconst 0, 1) := by decide +kernel
theorem dX7_parse_7 : decode cX7_parse 7 = .ok (.putfield 38, 3) := by decide +kernel
theorem dX7_parse_10 : decode cX7_parse 10 = .ok (.iconst 0, 1) := by decide +kernel
theorem dX7_parse_11 : decode cX7_parse 11 = .ok (.istore_n 1, 1) := by decide +kernel
theorem dX7_parse_12 : decode cX7_parse 12 = .ok (.iload_n 1, 1) := by decide +kernel
theorem dX7_parse_13 : decode cX7_parse 13 = .ok (.bipush 27, 2) := by decide +kernel
theorem dX7_parse_15 : decode cX7_parse 15 = .ok (.if_icmp .ge 50, 3) := by decide +kernel
theorem dX7_parse_18 : decode cX7_parse 18 = .ok (.aload_n 0, 1) := by decide +kernel
theorem dX7_parse_19 : decode cX7_parse 19 = .ok (.iload_n 1, 1) := by decide +kernel
theorem dX7_parse_20 : decode cX7_parse 20 = .ok (.invokevirtual 44, 3) := by decide +kernel
theorem dX7_parse_23 : decode cX7_parse 23 = .ok (.ifCond .ne 5, 3) := by decide +kernel
theorem dX7_parse_26 : decode cX7_parse 26 = .ok (.iconst 0, 1) := by decide +kernel
theorem dX7_parse_27 : decode cX7_parse 27 = .ok (.ireturn, 1) := by decide +kernel
theorem dX7_parse_28 : decode cX7_parse 28 = .ok (.aload_n 0, 1) := by decide +kernel
theorem dX7_parse_29 : decode cX7_parse 29 = .ok (.iload_n 1, 1) := by decide +kernel
theorem dX7_parse_30 : decode cX7_parse 30 = .ok (.iconst 1, 1) := by decide +kernel
theorem dX7_parse_31 : decode cX7_parse 31 = .ok (.iadd, 1) := by decide +kernel
theorem dX7_parse_32 : decode cX7_parse 32 = .ok (.putfield 38, 3) := by decide +kernel
theorem dX7_parse_35 : decode cX7_parse 35 = .ok (.aload_n 0, 1) := by decide +kernel
theorem dX7_parse_36 : decode cX7_parse 36 = .ok (.getfield 41, 3) := by decide +kernel
theorem dX7_parse_39 : decode cX7_parse 39 = .ok (.aload_n 0, 1) := by decide +kernel
theorem dX7_parse_40 : decode cX7_parse 40 = .ok (.getfield 34, 3) := by decide +kernel
theorem dX7_parse_43 : decode cX7_parse 43 = .ok (.if_icmp .lt 5, 3) := by decide +kernel
theorem dX7_parse_46 : decode cX7_parse 46 = .ok (.iconst 1, 1) := by decide +kernel
theorem dX7_parse_47 : decode cX7_parse 47 = .ok (.ireturn, 1) := by decide +kernel
theorem dX7_parse_48 : decode cX7_parse 48 = .ok (.aload_n 0, 1) := by decide +kernel
theorem dX7_parse_49 : decode cX7_parse 49 = .ok (.bipush 59, 2) := by decide +kernel
theorem dX7_parse_51 : decode cX7_parse 51 = .ok (.invokevirtual 48, 3) := by decide +kernel
theorem dX7_parse_54 : decode cX7_parse 54 = .ok (.ifCond .ne 5, 3) := by decide +kernel
theorem dX7_parse_57 : decode cX7_parse 57 = .ok (.iconst 0, 1) := by decide +kernel
theorem dX7_parse_58 : decode cX7_parse 58 = .ok (.ireturn, 1) := by decide +kernel
theorem dX7_parse_59 : decode cX7_parse 59 = .ok (.iinc 1 1, 3) := by decide +kernel
theorem dX7_parse_62 : decode cX7_parse 62 = .ok (.goto (-50), 3) := by decide +kernel
theorem dX7_parse_65 : decode cX7_parse 65 = .ok (.iconst 0, 1) := by decide +kernel
theorem dX7_parse_66 : decode cX7_parse 66 = .ok (.ireturn, 1) := by decide +kernel
theorem dX7_sign_0 : decode cX7_sign 0 = .ok (.aload_n 0, 1) := by decide +kernel
theorem dX7_sign_1 : decode cX7_sign 1 = .ok (.getfield 41, 3) := by decide +kernel
theorem dX7_sign_4 : decode cX7_sign 4 = .ok (.ifCond .lt 35, 3) := by decide +kernel
theorem dX7_sign_7 : decode cX7_sign 7 = .ok (.aload_n 0, 1) := by decide +kernel
theorem dX7_sign_8 : decode cX7_sign 8 = .ok (.getfield 41, 3) := by decide +kernel
theorem dX7_sign_11 : decode cX7_sign 11 = .ok (.aload_n 0, 1) := by decide +kernel
theorem dX7_sign_12 : decode cX7_sign 12 = .ok (.getfield 34, 3) := by decide +kernel
theorem dX7_sign_15 : decode cX7_sign 15 = .ok (.if_icmp .ge 24, 3) := by decide +kernel
theorem dX7_sign_18 : decode cX7_sign 18 = .ok (.aload_n 0, 1) := by decide +kernel
theorem dX7_sign_19 : decode cX7_sign 19 = .ok (.getfield 41, 3) := by decide +kernel
theorem dX7_sign_22 : decode cX7_sign 22 = .ok (.bipush 80, 2) := by decide +kernel
theorem dX7_sign_24 : decode cX7_sign 24 = .ok (.if_icmp .ge 15, 3) := by decide +kernel
theorem dX7_sign_27 : decode cX7_sign 27 = .ok (.aload_n 0, 1) := by decide +kernel
theorem dX7_sign_28 : decode cX7_sign 28 = .ok (.getfield 9, 3) := by decide +kernel
theorem dX7_sign_31 : decode cX7_sign 31 = .ok (.aload_n 0, 1) := by decide +kernel
theorem dX7_sign_32 : decode cX7_sign 32 = .ok (.getfield 41, 3) := by decide +kernel
theorem dX7_sign_35 : decode cX7_sign 35 = .ok (.caload, 1) := by decide +kernel
theorem dX7_sign_36 : decode cX7_sign 36 = .ok (.goto 4, 3) := by decide +kernel
theorem dX7_sign_39 : decode cX7_sign 39 = .ok (.iconst 0, 1) := by decide +kernel
theorem dX7_sign_40 : decode cX7_sign 40 = .ok (.ireturn, 1) := by decide +kernel
theorem dX7_skip_0 : decode cX7_skip 0 = .ok (.aload_n 0, 1) := by decide +kernel
theorem dX7_skip_1 : decode cX7_skip 1 = .ok (.invokevirtual 52, 3) := by decide +kernel
theorem dX7_skip_4 : decode cX7_skip 4 = .ok (.iload_n 1, 1) := by decide +kernel
theorem dX7_skip_5 : decode cX7_skip 5 = .ok (.if_icmp .eq 5, 3) := by decide +kernel
theorem dX7_skip_8 : decode cX7_skip 8 = .ok (.iconst 0, 1) := by decide +kernel
theorem dX7_skip_9 : decode cX7_skip 9 = .ok (.ireturn, 1) := by decide +kernel
theorem dX7_skip_10 : decode cX7_skip 10 = .ok (.aload_n 0, 1) := by decide +kernel
theorem dX7_skip_11 : decode cX7_skip 11 = .ok (.dup, 1) := by decide +kernel
theorem dX7_skip_12 : decode cX7_skip 12 = .ok (.getfield 41, 3) := by decide +kernel
theorem dX7_skip_15 : decode cX7_skip 15 = .ok (.iconst 1, 1) := by decide +kernel
theorem dX7_skip_16 : decode cX7_skip 16 = .ok (.iadd, 1) := by decide +kernel
theorem dX7_skip_17 : decode cX7_skip 17 = .ok (.putfield 41, 3) := by decide +kernel
theorem dX7_skip_20 : decode cX7_skip 20 = .ok (.iconst 1, 1) := by decide +kernel
theorem dX7_skip_21 : decode cX7_skip 21 = .ok (.ireturn, 1) := by decide +kernel
theorem dX7_isDigit_0 : decode cX7_isDigit 0 = .ok (.aload_n 0, 1) := by decide +kernel
theorem dX7_isDigit_1 : decode cX7_isDigit 1 = .ok (.invokevirtual 52, 3) := by decide +kernel
theorem dX7_isDigit_4 : decode cX7_isDigit 4 = .ok (.bipush 48, 2) := by decide +kernel
theorem dX7_isDigit_6 : decode cX7_isDigit 6 = .ok (.if_icmp .lt 16, 3) := by decide +kernel
theorem dX7_isDigit_9 : decode cX7_isDigit 9 = .ok (.aload_n 0, 1) := by decide +kernel
theorem dX7_isDigit_10 : decode cX7_isDigit 10 = .ok (.invokevirtual 52, 3) := by decide +kernel
theorem dX7_isDigit_13 : decode cX7_isDigit 13 = .ok (.bipush 57, 2) := by decide +kernel
theorem dX7_isDigit_15 : decode cX7_isDigit 15 = .ok (.if_icmp .gt 7, 3) := by decide +kernel
theorem dX7_isDigit_18 : decode cX7_isDigit 18 = .ok (.iconst 1, 1) := by decide +kernel
theorem dX7_isDigit_19 : decode cX7_isDigit 19 = .ok (.goto 4, 3) := by decide +kernel
theorem dX7_isDigit_22 : decode cX7_isDigit 22 = .ok (.iconst 0, 1) := by decide +kernel
theorem dX7_isDigit_23 : decode cX7_isDigit 23 = .ok (.ireturn, 1) := by decide +kernel
theorem dX7_readDigit_0 : decode cX7_readDigit 0 = .ok (.aload_n 0, 1) := by decide +kernel
theorem dX7_readDigit_1 : decode cX7_readDigit 1 = .ok (.invokevirtual 56, 3) := by decide +kernel
theorem dX7_readDigit_4 : decode cX7_readDigit 4 = .ok (.ifCond .ne 6, 3) := by decide +kernel
theorem dX7_readDigit_7 : decode cX7_readDigit 7 = .ok (.bipush (-9), 2) := by decide +kernel
theorem dX7_readDigit_9 : decode cX7_readDigit 9 = .ok (.ireturn, 1) := by decide +kernel
theorem dX7_readDigit_10 : decode cX7_readDigit 10 = .ok (.aload_n 0, 1) := by decide +kernel
theorem dX7_readDigit_11 : decode cX7_readDigit 11 = .ok (.invokevirtual 52, 3) := by decide +kernel
theorem dX7_readDigit_14 : decode cX7_readDigit 14 = .ok (.bipush 48, 2) := by decide +kernel
theorem dX7_readDigit_16 : decode cX7_readDigit 16 = .ok (.isub, 1) := by decide +kernel
theorem dX7_readDigit_17 : decode cX7_readDigit 17 = .ok (.istore_n 1, 1) := by decide +kernel
theorem dX7_readDigit_18 : decode cX7_readDigit 18 = .ok (.aload_n 0, 1) := by decide +kernel
theorem dX7_readDigit_19 : decode cX7_readDigit 19 = .ok (.dup, 1) := by decide +kernel
theorem dX7_readDigit_20 : decode cX7_readDigit 20 = .ok (.getfield 41, 3) := by decide +kernel
theorem dX7_readDigit_23 : decode cX7_readDigit 23 = .ok (.iconst 1, 1) := by decide +kernel
theorem dX7_readDigit_24 : decode cX7_readDigit 24 = .ok (.iadd, 1) := by decide +kernel
theorem dX7_readDigit_25 : decode cX7_readDigit 25 = .ok (.putfield 41, 3) := by decide +kernel
theorem dX7_readDigit_28 : decode cX7_readDigit 28 = .ok (.iload_n 1, 1) := by decide +kernel
theorem dX7_readDigit_29 : decode cX7_readDigit 29 = .ok (.ireturn, 1) := by decide +kernel
theorem dX7_readDigits_0 : decode cX7_readDigits 0 = .ok (.iconst 0, 1) := by decide +kernel
theorem dX7_readDigits_1 : decode cX7_readDigits 1 = .ok (.istore_n 2, 1) := by decide +kernel
theorem dX7_readDigits_2 : decode cX7_readDigits 2 = .ok (.iconst 0, 1) := by decide +kernel
theorem dX7_readDigits_3 : decode cX7_readDigits 3 = .ok (.istore_n 3, 1) := by decide +kernel
theorem dX7_readDigits_4 : decode cX7_readDigits 4 = .ok (.iload_n 3, 1) := by decide +kernel
theorem dX7_readDigits_5 : decode cX7_readDigits 5 = .ok (.iload_n 1, 1) := by decide +kernel
theorem dX7_readDigits_6 : decode cX7_readDigits 6 = .ok (.if_icmp .ge 39, 3) := by decide +kernel
theorem dX7_readDigits_9 : decode cX7_readDigits 9 = .ok (.aload_n 0, 1) := by decide +kernel
theorem dX7_readDigits_10 : decode cX7_readDigits 10 = .ok (.invokevirtual 56, 3) := by decide +kernel
theorem dX7_readDigits_13 : decode cX7_readDigits 13 = .ok (.ifCond .eq 32, 3) := by decide +kernel
theorem dX7_readDigits_16 : decode cX7_readDigits 16 = .ok (.bipush 10, 2) := by decide +kernel
theorem dX7_readDigits_18 : decode cX7_readDigits 18 = .ok (.iload_n 2, 1) := by decide +kernel
theorem dX7_readDigits_19 : decode cX7_readDigits 19 = .ok (.imul, 1) := by decide +kernel
theorem dX7_readDigits_20 : decode cX7_readDigits 20 = .ok (.aload_n 0, 1) := by decide +kernel
theorem dX7_readDigits_21 : decode cX7_readDigits 21 = .ok (.invokevirtual 52, 3) := by decide +kernel
theorem dX7_readDigits_24 : decode cX7_readDigits 24 = .ok (.bipush 48, 2) := by decide +kernel
theorem dX7_readDigits_26 : decode cX7_readDigits 26 = .ok (.isub, 1) := by decide +kernel
theorem dX7_readDigits_27 : decode cX7_readDigits 27 = .ok (.iadd, 1) := by decide +kernel
theorem dX7_readDigits_28 : decode cX7_readDigits 28 = .ok (.istore_n 2, 1) := by decide +kernel
theorem dX7_readDigits_29 : decode cX7_readDigits 29 = .ok (.aload_n 0, 1) := by decide +kernel
theorem dX7_readDigits_30 : decode cX7_readDigits 30 = .ok (.dup, 1) := by decide +kernel
theorem dX7_readDigits_31 : decode cX7_readDigits 31 = .ok (.getfield 41, 3) := by decide +kernel
theorem dX7_readDigits_34 : decode cX7_readDigits 34 = .ok (.iconst 1, 1) := by decide +kernel
theorem dX7_readDigits_35 : decode cX7_readDigits 35 = .ok (.iadd, 1) := by decide +kernel
theorem dX7_readDigits_36 : decode cX7_readDigits 36 = .ok (.putfield 41, 3) := by decide +kernel
theorem dX7_readDigits_39 : decode cX7_readDigits 39 = .ok (.iinc 3 1, 3) := by decide +kernel
theorem dX7_readDigits_42 : decode cX7_readDigits 42 = .ok (.goto (-38), 3) := by decide +kernel
theorem dX7_readDigits_45 : decode cX7_readDigits 45 = .ok (.iload_n 2, 1) := by decide +kernel
theorem dX7_readDigits_46 : decode cX7_readDigits 46 = .ok (.ireturn, 1) := by decide +kernel
theorem dX7_readCommand_0 : decode cX7_readCommand 0 = .ok (.iload_n 1, 1) := by decide +kernel
theorem dX7_readCommand_1 : decode cX7_readCommand 1 = .ok (.ifCond .lt 9, 3) := by decide +kernel
theorem dX7_readCommand_4 : decode cX7_readCommand 4 = .ok (.iload_n 1, 1) := by decide +kernel
theorem dX7_readCommand_5 : decode cX7_readCommand 5 = .ok (.bipush 27, 2) := by decide +kernel
theorem dX7_readCommand_7 : decode cX7_readCommand 7 = .ok (.if_icmp .lt 5, 3) := by decide +kernel
theorem dX7_readCommand_10 : decode cX7_readCommand 10 = .ok (.iconst 0, 1) := by decide +kernel
theorem dX7_readCommand_11 : decode cX7_readCommand 11 = .ok (.ireturn, 1) := by decide +kernel
theorem dX7_readCommand_12 : decode cX7_readCommand 12 = .ok (.aload_n 0, 1) := by decide +kernel
theorem dX7_readCommand_13 : decode cX7_readCommand 13 = .ok (.getfield 15, 3) := by decide +kernel
theorem dX7_readCommand_16 : decode cX7_readCommand 16 = .ok (.iload_n 1, 1) := by decide +kernel
theorem dX7_readCommand_17 : decode cX7_readCommand 17 = .ok (.aload_n 0, 1) := by decide +kernel
theorem dX7_readCommand_18 : decode cX7_readCommand 18 = .ok (.invokevirtual 52, 3) := by decide +kernel
theorem dX7_readCommand_21 : decode cX7_readCommand 21 = .ok (.castore, 1) := by decide +kernel
theorem dX7_readCommand_22 : decode cX7_readCommand 22 = .ok (.aload_n 0, 1) := by decide +kernel
theorem dX7_readCommand_23 : decode cX7_readCommand 23 = .ok (.bipush 114, 2) := by decide +kernel
theorem dX7_readCommand_25 : decode cX7_readCommand 25 = .ok (.invokevirtual 48, 3) := by decide +kernel
theorem dX7_readCommand_28 : decode cX7_readCommand 28 = .ok (.ifCond .eq 9, 3) := by decide +kernel
theorem dX7_readCommand_31 : decode cX7_readCommand 31 = .ok (.aload_n 0, 1) := by decide +kernel
theorem dX7_readCommand_32 : decode cX7_readCommand 32 = .ok (.iload_n 1, 1) := by decide +kernel
theorem dX7_readCommand_33 : decode cX7_readCommand 33 = .ok (.invokevirtual 60, 3) := by decide +kernel
theorem dX7_readCommand_36 : decode cX7_readCommand 36 = .ok (.ireturn, 1) := by decide +kernel
theorem dX7_readCommand_37 : decode cX7_readCommand 37 = .ok (.aload_n 0, 1) := by decide +kernel
theorem dX7_readCommand_38 : decode cX7_readCommand 38 = .ok (.bipush 112, 2) := by decide +kernel
theorem dX7_readCommand_40 : decode cX7_readCommand 40 = .ok (.invokevirtual 48, 3) := by decide +kernel
theorem dX7_readCommand_43 : decode cX7_readCommand 43 = .ok (.ifCond .eq 9, 3) := by decide +kernel
theorem dX7_readCommand_46 : decode cX7_readCommand 46 = .ok (.aload_n 0, 1) := by decide +kernel
theorem dX7_readCommand_47 : decode cX7_readCommand 47 = .ok (.iload_n 1, 1) := by decide +kernel
theorem dX7_readCommand_48 : decode cX7_readCommand 48 = .ok (.invokevirtual 63, 3) := by decide +kernel
theorem dX7_readCommand_51 : decode cX7_readCommand 51 = .ok (.ireturn, 1) := by decide +kernel
theorem dX7_readCommand_52 : decode cX7_readCommand 52 = .ok (.aload_n 0, 1) := by decide +kernel
theorem dX7_readCommand_53 : decode cX7_readCommand 53 = .ok (.bipush 108, 2) := by decide +kernel
theorem dX7_readCommand_55 : decode cX7_readCommand 55 = .ok (.invokevirtual 48, 3) := by decide +kernel
theorem dX7_readCommand_58 : decode cX7_readCommand 58 = .ok (.ifCond .eq 15, 3) := by decide +kernel
theorem dX7_readCommand_61 : decode cX7_readCommand 61 = .ok (.aload_n 0, 1) := by decide +kernel
theorem dX7_readCommand_62 : decode cX7_readCommand 62 = .ok (.iload_n 1, 1) := by decide +kernel
theorem dX7_readCommand_63 : decode cX7_readCommand 63 = .ok (.invokevirtual 66, 3) := by decide +kernel
theorem dX7_readCommand_66 : decode cX7_readCommand 66 = .ok (.ifCond .eq 7, 3) := by decide +kernel
theorem dX7_readCommand_69 : decode cX7_readCommand 69 = .ok (.iconst 1, 1) := by decide +kernel
theorem dX7_readCommand_70 : decode cX7_readCommand 70 = .ok (.goto 4, 3) := by decide +kernel
theorem dX7_readCommand_73 : decode cX7_readCommand 73 = .ok (.iconst 0, 1) := by decide +kernel
