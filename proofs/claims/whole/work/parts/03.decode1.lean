theorem dX0_init_0 : decode cX0_init 0 = .ok (.aload_n 0, 1) := by decide +kernel
theorem dX0_init_1 : decode cX0_init 1 = .ok (.invokespecial 3, 3) := by decide +kernel
theorem dX0_init_4 : decode cX0_init 4 = .ok (.aload_n 0, 1) := by decide +kernel
theorem dX0_init_5 : decode cX0_init 5 = .ok (.bipush 10, 2) := by decide +kernel
theorem dX0_init_7 : decode cX0_init 7 = .ok (.newarray .int, 2) := by decide +kernel
theorem dX0_init_9 : decode cX0_init 9 = .ok (.putfield 9, 3) := by decide +kernel
theorem dX0_init_12 : decode cX0_init 12 = .ok (.aload_n 0, 1) := by decide +kernel
theorem dX0_init_13 : decode cX0_init 13 = .ok (.bipush 10, 2) := by decide +kernel
theorem dX0_init_15 : decode cX0_init 15 = .ok (.newarray .int, 2) := by decide +kernel
theorem dX0_init_17 : decode cX0_init 17 = .ok (.putfield 15, 3) := by decide +kernel
theorem dX0_init_20 : decode cX0_init 20 = .ok (.aload_n 0, 1) := by decide +kernel
theorem dX0_init_21 : decode cX0_init 21 = .ok (.bipush 10, 2) := by decide +kernel
theorem dX0_init_23 : decode cX0_init 23 = .ok (.newarray .int, 2) := by decide +kernel
theorem dX0_init_25 : decode cX0_init 25 = .ok (.putfield 18, 3) := by decide +kernel
theorem dX0_init_28 : decode cX0_init 28 = .ok (.aload_n 0, 1) := by decide +kernel
theorem dX0_init_29 : decode cX0_init 29 = .ok (.bipush 60, 2) := by decide +kernel
theorem dX0_init_31 : decode cX0_init 31 = .ok (.newarray .int, 2) := by decide +kernel
theorem dX0_init_33 : decode cX0_init 33 = .ok (.putfield 21, 3) := by decide +kernel
theorem dX0_init_36 : decode cX0_init 36 = .ok (.aload_n 0, 1) := by decide +kernel
theorem dX0_init_37 : decode cX0_init 37 = .ok (.iconst 0, 1) := by decide +kernel
theorem dX0_init_38 : decode cX0_init 38 = .ok (.putfield 24, 3) := by decide +kernel
theorem dX0_init_41 : decode cX0_init 41 = .ok (.return_, 1) := by decide +kernel
theorem dX0_copyFrom_0 : decode cX0_copyFrom 0 = .ok (.aload_n 1, 1) := by decide +kernel
theorem dX0_copyFrom_1 : decode cX0_copyFrom 1 = .ok (.getfield 9, 3) := by decide +kernel
theorem dX0_copyFrom_4 : decode cX0_copyFrom 4 = .ok (.iconst 0, 1) := by decide +kernel
theorem dX0_copyFrom_5 : decode cX0_copyFrom 5 = .ok (.aload_n 0, 1) := by decide +kernel
theorem dX0_copyFrom_6 : decode cX0_copyFrom 6 = .ok (.getfield 9, 3) := by decide +kernel
theorem dX0_copyFrom_9 : decode cX0_copyFrom 9 = .ok (.iconst 0, 1) := by decide +kernel
theorem dX0_copyFrom_10 : decode cX0_copyFrom 10 = .ok (.bipush 10, 2) := by decide +kernel
theorem dX0_copyFrom_12 : decode cX0_copyFrom 12 = .ok (.invokestatic 28, 3) := by decide +kernel
theorem dX0_copyFrom_15 : decode cX0_copyFrom 15 = .ok (.aload_n 1, 1) := by decide +kernel
theorem dX0_copyFrom_16 : decode cX0_copyFrom 16 = .ok (.getfield 15, 3) := by decide +kernel
theorem dX0_copyFrom_19 : decode cX0_copyFrom 19 = .ok (.iconst 0, 1) := by decide +kernel
theorem dX0_copyFrom_20 : decode cX0_copyFrom 20 = .ok (.aload_n 0, 1) := by decide +kernel
theorem dX0_copyFrom_21 : decode cX0_copyFrom 21 = .ok (.getfield 15, 3) := by decide +kernel
theorem dX0_copyFrom_24 : decode cX0_copyFrom 24 = .ok (.iconst 0, 1) := by decide +kernel
theorem dX0_copyFrom_25 : decode cX0_copyFrom 25 = .ok (.bipush 10, 2) := by decide +kernel
theorem dX0_copyFrom_27 : decode cX0_copyFrom 27 = .ok (.invokestatic 28, 3) := by decide +kernel
theorem dX0_copyFrom_30 : decode cX0_copyFrom 30 = .ok (.aload_n 1, 1) := by decide +kernel
theorem dX0_copyFrom_31 : decode cX0_copyFrom 31 = .ok (.getfield 18, 3) := by decide +kernel
theorem dX0_copyFrom_34 : decode cX0_copyFrom 34 = .ok (.iconst 0, 1) := by decide +kernel
theorem dX0_copyFrom_35 : decode cX0_copyFrom 35 = .ok (.aload_n 0, 1) := by decide +kernel
theorem dX0_copyFrom_36 : decode cX0_copyFrom 36 = .ok (.getfield 18, 3) := by decide +kernel
theorem dX0_copyFrom_39 : decode cX0_copyFrom 39 = .ok (.iconst 0, 1) := by decide +kernel
theorem dX0_copyFrom_40 : decode cX0_copyFrom 40 = .ok (.bipush 10, 2) := by decide +kernel
theorem dX0_copyFrom_42 : decode cX0_copyFrom 42 = .ok (.invokestatic 28, 3) := by decide +kernel
theorem dX0_copyFrom_45 : decode cX0_copyFrom 45 = .ok (.aload_n 1, 1) := by decide +kernel
theorem dX0_copyFrom_46 : decode cX0_copyFrom 46 = .ok (.getfield 21, 3) := by decide +kernel
theorem dX0_copyFrom_49 : decode cX0_copyFrom 49 = .ok (.iconst 0, 1) := by decide +kernel
theorem dX0_copyFrom_50 : decode cX0_copyFrom 50 = .ok (.aload_n 0, 1) := by decide +kernel
theorem dX0_copyFrom_51 : decode cX0_copyFrom 51 = .ok (.getfield 21, 3) := by decide +kernel
theorem dX0_copyFrom_54 : decode cX0_copyFrom 54 = .ok (.iconst 0, 1) := by decide +kernel
theorem dX0_copyFrom_55 : decode cX0_copyFrom 55 = .ok (.bipush 60, 2) := by decide +kernel
theorem dX0_copyFrom_57 : decode cX0_copyFrom 57 = .ok (.invokestatic 28, 3) := by decide +kernel
theorem dX0_copyFrom_60 : decode cX0_copyFrom 60 = .ok (.aload_n 0, 1) := by decide +kernel
theorem dX0_copyFrom_61 : decode cX0_copyFrom 61 = .ok (.aload_n 1, 1) := by decide +kernel
theorem dX0_copyFrom_62 : decode cX0_copyFrom 62 = .ok (.getfield 24, 3) := by decide +kernel
theorem dX0_copyFrom_65 : decode cX0_copyFrom 65 = .ok (.putfield 24, 3) := by decide +kernel
theorem dX0_copyFrom_68 : decode cX0_copyFrom 68 = .ok (.return_, 1) := by decide +kernel
theorem dX0_size_0 : decode cX0_size 0 = .ok (.aload_n 0, 1) := by decide +kernel
theorem dX0_size_1 : decode cX0_size 1 = .ok (.getfield 24, 3) := by decide +kernel
theorem dX0_size_4 : decode cX0_size 4 = .ok (.ireturn, 1) := by decide +kernel
theorem dX0_has_0 : decode cX0_has 0 = .ok (.iload_n 1, 1) := by decide +kernel
theorem dX0_has_1 : decode cX0_has 1 = .ok (.ifCond .lt 22, 3) := by decide +kernel
theorem dX0_has_4 : decode cX0_has 4 = .ok (.iload_n 1, 1) := by decide +kernel
theorem dX0_has_5 : decode cX0_has 5 = .ok (.bipush 10, 2) := by decide +kernel
theorem dX0_has_7 : decode cX0_has 7 = .ok (.if_icmp .ge 16, 3) := by decide +kernel
theorem dX0_has_10 : decode cX0_has 10 = .ok (.aload_n 0, 1) := by decide +kernel
theorem dX0_has_11 : decode cX0_has 11 = .ok (.getfield 9, 3) := by decide +kernel
theorem dX0_has_14 : decode cX0_has 14 = .ok (.iload_n 1, 1) := by decide +kernel
theorem dX0_has_15 : decode cX0_has 15 = .ok (.iaload, 1) := by decide +kernel
theorem dX0_has_16 : decode cX0_has 16 = .ok (.ifCond .eq 7, 3) := by decide +kernel
theorem dX0_has_19 : decode cX0_has 19 = .ok (.iconst 1, 1) := by decide +kernel
theorem dX0_has_20 : decode cX0_has 20 = .ok (.goto 4, 3) := by decide +kernel
theorem dX0_has_23 : decode cX0_has 23 = .ok (.iconst 0, 1) := by decide +kernel
theorem dX0_has_24 : decode cX0_has 24 = .ok (.ireturn, 1) := by decide +kernel
theorem dX0_freePlace_0 : decode cX0_freePlace 0 = .ok (.iconst 0, 1) := by decide +kernel
theorem dX0_freePlace_1 : decode cX0_freePlace 1 = .ok (.istore_n 1, 1) := by decide +kernel
theorem dX0_freePlace_2 : decode cX0_freePlace 2 = .ok (.iload_n 1, 1) := by decide +kernel
theorem dX0_freePlace_3 : decode cX0_freePlace 3 = .ok (.bipush 10, 2) := by decide +kernel
theorem dX0_freePlace_5 : decode cX0_freePlace 5 = .ok (.if_icmp .ge 20, 3) := by decide +kernel
theorem dX0_freePlace_8 : decode cX0_freePlace 8 = .ok (.aload_n 0, 1) := by decide +kernel
theorem dX0_freePlace_9 : decode cX0_freePlace 9 = .ok (.getfield 9, 3) := by decide +kernel
theorem dX0_freePlace_12 : decode cX0_freePlace 12 = .ok (.iload_n 1, 1) := by decide +kernel
theorem dX0_freePlace_13 : decode cX0_freePlace 13 = .ok (.iaload, 1) := by decide +kernel
theorem dX0_freePlace_14 : decode cX0_freePlace 14 = .ok (.ifCond .ne 5, 3) := by decide +kernel
theorem dX0_freePlace_17 : decode cX0_freePlace 17 = .ok (.iload_n 1, 1) := by decide +kernel
theorem dX0_freePlace_18 : decode cX0_freePlace 18 = .ok (.ireturn, 1) := by decide +kernel
theorem dX0_freePlace_19 : decode cX0_freePlace 19 = .ok (.iinc 1 1, 3) := by decide +kernel
theorem dX0_freePlace_22 : decode cX0_freePlace 22 = .ok (.goto (-20), 3) := by decide +kernel
theorem dX0_freePlace_25 : decode cX0_freePlace 25 = .ok (.bipush (-9), 2) := by decide +kernel
theorem dX0_freePlace_27 : decode cX0_freePlace 27 = .ok (.ireturn, 1) := by decide +kernel
theorem dX0_isBusy_0 : decode cX0_isBusy 0 = .ok (.iconst 0, 1) := by decide +kernel
theorem dX0_isBusy_1 : decode cX0_isBusy 1 = .ok (.istore_n 2, 1) := by decide +kernel
theorem dX0_isBusy_2 : decode cX0_isBusy 2 = .ok (.iload_n 2, 1) := by decide +kernel
theorem dX0_isBusy_3 : decode cX0_isBusy 3 = .ok (.bipush 10, 2) := by decide +kernel
theorem dX0_isBusy_5 : decode cX0_isBusy 5 = .ok (.if_icmp .ge 21, 3) := by decide +kernel
theorem dX0_isBusy_8 : decode cX0_isBusy 8 = .ok (.aload_n 0, 1) := by decide +kernel
theorem dX0_isBusy_9 : decode cX0_isBusy 9 = .ok (.getfield 9, 3) := by decide +kernel
theorem dX0_isBusy_12 : decode cX0_isBusy 12 = .ok (.iload_n 2, 1) := by decide +kernel
theorem dX0_isBusy_13 : decode cX0_isBusy 13 = .ok (.iaload, 1) := by decide +kernel
theorem dX0_isBusy_14 : decode cX0_isBusy 14 = .ok (.iload_n 1, 1) := by decide +kernel
theorem dX0_isBusy_15 : decode cX0_isBusy 15 = .ok (.if_icmp .ne 5, 3) := by decide +kernel
theorem dX0_isBusy_18 : decode cX0_isBusy 18 = .ok (.iconst 1, 1) := by decide +kernel
theorem dX0_isBusy_19 : decode cX0_isBusy 19 = .ok (.ireturn, 1) := by decide +kernel
theorem dX0_isBusy_20 : decode cX0_isBusy 20 = .ok (.iinc 2 1, 3) := by decide +kernel
theorem dX0_isBusy_23 : decode cX0_isBusy 23 = .ok (.goto (-21), 3) := by decide +kernel
theorem dX0_isBusy_26 : decode cX0_isBusy 26 = .ok (.iconst 0, 1) := by decide +kernel
theorem dX0_isBusy_27 : decode cX0_isBusy 27 = .ok (.ireturn, 1) := by decide +kernel
theorem dX0_put_0 : decode cX0_put 0 = .ok (.iload_n 1, 1) := by decide +kernel
theorem dX0_put_1 : decode cX0_put 1 = .ok (.iconst 0, 1) := by decide +kernel
theorem dX0_put_2 : decode cX0_put 2 = .ok (.bipush 9, 2) := by decide +kernel
theorem dX0_put_4 : decode cX0_put 4 = .ok (.invokestatic 34, 3) := by decide +kernel
theorem dX0_put_7 : decode cX0_put 7 = .ok (.ifCond .eq 34, 3) := by decide +kernel
theorem dX0_put_10 : decode cX0_put 10 = .ok (.aload_n 0, 1) := by decide +kernel
theorem dX0_put_11 : decode cX0_put 11 = .ok (.getfield 9, 3) := by decide +kernel
theorem dX0_put_14 : decode cX0_put 14 = .ok (.iload_n 1, 1) := by decide +kernel
theorem dX0_put_15 : decode cX0_put 15 = .ok (.iload_n 2, 1) := by decide +kernel
theorem dX0_put_16 : decode cX0_put 16 = .ok (.iastore, 1) := by decide +kernel
theorem dX0_put_17 : decode cX0_put 17 = .ok (.aload_n 0, 1) := by decide +kernel
theorem dX0_put_18 : decode cX0_put 18 = .ok (.getfield 15, 3) := by decide +kernel
theorem dX0_put_21 : decode cX0_put 21 = .ok (.iload_n 1, 1) := by decide +kernel
theorem dX0_put_22 : decode cX0_put 22 = .ok (.iload_n 3, 1) := by decide +kernel
theorem dX0_put_23 : decode cX0_put 23 = .ok (.iastore, 1) := by decide +kernel
theorem dX0_put_24 : decode cX0_put 24 = .ok (.aload_n 0, 1) := by decide +kernel
theorem dX0_put_25 : decode cX0_put 25 = .ok (.getfield 18, 3) := by decide +kernel
theorem dX0_put_28 : decode cX0_put 28 = .ok (.iload_n 1, 1) := by decide +kernel
theorem dX0_put_29 : decode cX0_put 29 = .ok (.iconst 0, 1) := by decide +kernel
theorem dX0_put_30 : decode cX0_put 30 = .ok (.iastore, 1) := by decide +kernel
theorem dX0_put_31 : decode cX0_put 31 = .ok (.aload_n 0, 1) := by decide +kernel
theorem dX0_put_32 : decode cX0_put 32 = .ok (.dup, 1) := by decide +kernel
theorem dX0_put_33 : decode cX0_put 33 = .ok (.getfield 24, 3) := by decide +kernel
theorem dX0_put_36 : decode cX0_put 36 = .ok (.iconst 1, 1) := by decide +kernel
theorem dX0_put_37 : decode cX0_put 37 = .ok (.iadd, 1) := by decide +kernel
theorem dX0_put_38 : decode cX0_put 38 = .ok (.putfield 24, 3) := by decide +kernel
theorem dX0_put_41 : decode cX0_put 41 = .ok (.return_, 1) := by decide +kernel
theorem dX0_addStep_0 : decode cX0_addStep 0 = .ok (.aload_n 0, 1) := by decide +kernel
theorem dX0_addStep_1 : decode cX0_addStep 1 = .ok (.iload_n 1, 1) := by decide +kernel
theorem dX0_addStep_2 : decode cX0_addStep 2 = .ok (.invokevirtual 38, 3) := by decide +kernel
theorem dX0_addStep_5 : decode cX0_addStep 5 = .ok (.ifCond .eq 44, 3) := by decide +kernel
theorem dX0_addStep_8 : decode cX0_addStep 8 = .ok (.aload_n 0, 1) := by decide +kernel
theorem dX0_addStep_9 : decode cX0_addStep 9 = .ok (.getfield 18, 3) := by decide +kernel
theorem dX0_addStep_12 : decode cX0_addStep 12 = .ok (.iload_n 1, 1) := by decide +kernel
theorem dX0_addStep_13 : decode cX0_addStep 13 = .ok (.iaload, 1) := by decide +kernel
theorem dX0_addStep_14 : decode cX0_addStep 14 = .ok (.iconst 0, 1) := by decide +kernel
theorem dX0_addStep_15 : decode cX0_addStep 15 = .ok (.iconst 5, 1) := by decide +kernel
theorem dX0_addStep_16 : decode cX0_addStep 16 = .ok (.invokestatic 34, 3) := by decide +kernel
theorem dX0_addStep_19 : decode cX0_addStep 19 = .ok (.ifCond .eq 30, 3) := by decide +kernel
theorem dX0_addStep_22 : decode cX0_addStep 22 = .ok (.aload_n 0, 1) := by decide +kernel
theorem dX0_addStep_23 : decode cX0_addStep 23 = .ok (.getfield 21, 3) := by decide +kernel
theorem dX0_addStep_26 : decode cX0_addStep 26 = .ok (.iload_n 1, 1) := by decide +kernel
theorem dX0_addStep_27 : decode cX0_addStep 27 = .ok (.bipush 6, 2) := by decide +kernel
theorem dX0_addStep_29 : decode cX0_addStep 29 = .ok (.imul, 1) := by decide +kernel
theorem dX0_addStep_30 : decode cX0_addStep 30 = .ok (.aload_n 0, 1) := by decide +kernel
theorem dX0_addStep_31 : decode cX0_addStep 31 = .ok (.getfield 18, 3) := by decide +kernel
theorem dX0_addStep_34 : decode cX0_addStep 34 = .ok (.iload_n 1, 1) := by decide +kernel
theorem dX0_addStep_35 : decode cX0_addStep 35 = .ok (.iaload, 1) := by decide +kernel
theorem dX0_addStep_36 : decode cX0_addStep 36 = .ok (.iadd, 1) := by decide +kernel
theorem dX0_addStep_37 : decode cX0_addStep 37 = .ok (.iload_n 2, 1) := by decide +kernel
theorem dX0_addStep_38 : decode cX0_addStep 38 = .ok (.iastore, 1) := by decide +kernel
theorem dX0_addStep_39 : decode cX0_addStep 39 = .ok (.aload_n 0, 1) := by decide +kernel
theorem dX0_addStep_40 : decode cX0_addStep 40 = .ok (.getfield 18, 3) := by decide +kernel
theorem dX0_addStep_43 : decode cX0_addStep 43 = .ok (.iload_n 1, 1) := by decide +kernel
theorem dX0_addStep_44 : decode cX0_addStep 44 = .ok (.dup2, 1) := by decide +kernel
theorem dX0_addStep_45 : decode cX0_addStep 45 = .ok (.iaload, 1) := by decide +kernel
theorem dX0_addStep_46 : decode cX0_addStep 46 = .ok (.iconst 1, 1) := by decide +kernel
theorem dX0_addStep_47 : decode cX0_addStep 47 = .ok (.iadd, 1) := by decide +kernel
theorem dX0_addStep_48 : decode cX0_addStep 48 = .ok (.iastore, 1) := by decide +kernel
theorem dX0_addStep_49 : decode cX0_addStep 49 = .ok (.return_, 1) := by decide +kernel
theorem dX0_remove_0 : decode cX0_remove 0 = .ok (.aload_n 0, 1) := by decide +kernel
theorem dX0_remove_1 : decode cX0_remove 1 = .ok (.iload_n 1, 1) := by decide +kernel
theorem dX0_remove_2 : decode cX0_remove 2 = .ok (.invokevirtual 38, 3) := by decide +kernel
theorem dX0_remove_5 : decode cX0_remove 5 = .ok (.ifCond .eq 20, 3) := by decide +kernel
theorem dX0_remove_8 : decode cX0_remove 8 = .ok (.aload_n 0, 1) := by decide +kernel
theorem dX0_remove_9 : decode cX0_remove 9 = .ok (.getfield 9, 3) := by decide +kernel
theorem dX0_remove_12 : decode cX0_remove 12 = .ok (.iload_n 1, 1) := by decide +kernel
theorem dX0_remove_13 : decode cX0_remove 13 = .ok (.iconst 0, 1) := by decide +kernel
theorem dX0_remove_14 : decode cX0_remove 14 = .ok (.iastore, 1) := by decide +kernel
theorem dX0_remove_15 : decode cX0_remove 15 = .ok (.aload_n 0, 1) := by decide +kernel
theorem dX0_remove_16 : decode cX0_remove 16 = .ok (.dup, 1) := by decide +kernel
theorem dX0_remove_17 : decode cX0_remove 17 = .ok (.getfield 24, 3) := by decide +kernel
theorem dX0_remove_20 : decode cX0_remove 20 = .ok (.iconst 1, 1) := by decide +kernel
theorem dX0_remove_21 : decode cX0_remove 21 = .ok (.isub, 1) := by decide +kernel
theorem dX0_remove_22 : decode cX0_remove 22 = .ok (.putfield 24, 3) := by decide +kernel
theorem dX0_remove_25 : decode cX0_remove 25 = .ok (.return_, 1) := by decide +kernel
theorem dX0_numberAt_0 : decode cX0_numberAt 0 = .ok (.aload_n 0, 1) := by decide +kernel
theorem dX0_numberAt_1 : decode cX0_numberAt 1 = .ok (.iload_n 1, 1) := by decide +kernel
theorem dX0_numberAt_2 : decode cX0_numberAt 2 = .ok (.invokevirtual 38, 3) := by decide +kernel
theorem dX0_numberAt_5 : decode cX0_numberAt 5 = .ok (.ifCond .eq 12, 3) := by decide +kernel
theorem dX0_numberAt_8 : decode cX0_numberAt 8 = .ok (.aload_n 0, 1) := by decide +kernel
theorem dX0_numberAt_9 : decode cX0_numberAt 9 = .ok (.getfield 9, 3) := by decide +kernel
theorem dX0_numberAt_12 : decode cX0_numberAt 12 = .ok (.iload_n 1, 1) := by decide +kernel
theorem dX0_numberAt_13 : decode cX0_numberAt 13 = .ok (.iaload, 1) := by decide +kernel
theorem dX0_numberAt_14 : decode cX0_numberAt 14 = .ok (.goto 5, 3) := by decide +kernel
theorem dX0_numberAt_17 : decode cX0_numberAt 17 = .ok (.bipush (-9), 2) := by decide +kernel
theorem dX0_numberAt_19 : decode cX0_numberAt 19 = .ok (.ireturn, 1) := by decide +kernel
theorem dX0_startOf_0 : decode cX0_startOf 0 = .ok (.aload_n 0, 1) := by decide +kernel
theorem dX0_startOf_1 : decode cX0_startOf 1 = .ok (.iload_n 1, 1) := by decide +kernel
theorem dX0_startOf_2 : decode cX0_startOf 2 = .ok (.invokevirtual 38, 3) := by decide +kernel
theorem dX0_startOf_5 : decode cX0_startOf 5 = .ok (.ifCond .eq 12, 3) := by decide +kernel
theorem dX0_startOf_8 : decode cX0_startOf 8 = .ok (.aload_n 0, 1) := by decide +kernel
theorem dX0_startOf_9 : decode cX0_startOf 9 = .ok (.getfield 15, 3) := by decide +kernel
theorem dX0_startOf_12 : decode cX0_startOf 12 = .ok (.iload_n 1, 1) := by decide +kernel
theorem dX0_startOf_13 : decode cX0_startOf 13 = .ok (.iaload, 1) := by decide +kernel
theorem dX0_startOf_14 : decode cX0_startOf 14 = .ok (.goto 4, 3) := by decide +kernel
theorem dX0_startOf_17 : decode cX0_startOf 17 = .ok (.iconst 0, 1) := by decide +kernel
theorem dX0_startOf_18 : decode cX0_startOf 18 = .ok (.ireturn, 1) := by decide +kernel
theorem dX0_length_0 : decode cX0_length 0 = .ok (.aload_n 0, 1) := by decide +kernel
theorem dX0_length_1 : decode cX0_length 1 = .ok (.iload_n 1, 1) := by decide +kernel
theorem dX0_length_2 : decode cX0_length 2 = .ok (.invokevirtual 38, 3) := by decide +kernel
theorem dX0_length_5 : decode cX0_length 5 = .ok (.ifCond .eq 12, 3) := by decide +kernel
theorem dX0_length_8 : decode cX0_length 8 = .ok (.aload_n 0, 1) := by decide +kernel
theorem dX0_length_9 : decode cX0_length 9 = .ok (.getfield 18, 3) := by decide +kernel
theorem dX0_length_12 : decode cX0_length 12 = .ok (.iload_n 1, 1) := by decide +kernel
theorem dX0_length_13 : decode cX0_length 13 = .ok (.iaload, 1) := by decide +kernel
theorem dX0_length_14 : decode cX0_length 14 = .ok (.goto 4, 3) := by decide +kernel
theorem dX0_length_17 : decode cX0_length 17 = .ok (.iconst 0, 1) := by decide +kernel
theorem dX0_length_18 : decode cX0_length 18 = .ok (.ireturn, 1) := by decide +kernel
theorem dX0_step_0 : decode cX0_step 0 = .ok (.iload_n 2, 1) := by decide +kernel
theorem dX0_step_1 : decode cX0_step 1 = .ok (.ifCond .lt 32, 3) := by decide +kernel
theorem dX0_step_4 : decode cX0_step 4 = .ok (.iload_n 2, 1) := by decide +kernel
theorem dX0_step_5 : decode cX0_step 5 = .ok (.aload_n 0, 1) := by decide +kernel
theorem dX0_step_6 : decode cX0_step 6 = .ok (.iload_n 1, 1) := by decide +kernel
theorem dX0_step_7 : decode cX0_step 7 = .ok (.invokevirtual 42, 3) := by decide +kernel
theorem dX0_step_10 : decode cX0_step 10 = .ok (.if_icmp .ge 23, 3) := by decide +kernel
theorem dX0_step_13 : decode cX0_step 13 = .ok (.iload_n 2, 1) := by decide +kernel
theorem dX0_step_14 : decode cX0_step 14 = .ok (.bipush 6, 2) := by decide +kernel
theorem dX0_step_16 : decode cX0_step 16 = .ok (.if_icmp .ge 17, 3) := by decide +kernel
theorem dX0_step_19 : decode cX0_step 19 = .ok (.aload_n 0, 1) := by decide +kernel
theorem dX0_step_20 : decode cX0_step 20 = .ok (.getfield 21, 3) := by decide +kernel
theorem dX0_step_23 : decode cX0_step 23 = .ok (.iload_n 1, 1) := by decide +kernel
theorem dX0_step_24 : decode cX0_step 24 = .ok (.bipush 6, 2) := by decide +kernel
theorem dX0_step_26 : decode cX0_step 26 = .ok (.imul, 1) := by decide +kernel
theorem dX0_step_27 : decode cX0_step 27 = .ok (.iload_n 2, 1) := by decide +kernel
theorem dX0_step_28 : decode cX0_step 28 = .ok (.iadd, 1) := by decide +kernel
theorem dX0_step_29 : decode cX0_step 29 = .ok (.iaload, 1) := by decide +kernel
theorem dX0_step_30 : decode cX0_step 30 = .ok (.goto 5, 3) := by decide +kernel
theorem dX0_step_33 : decode cX0_step 33 = .ok (.bipush (-9), 2) := by decide +kernel
theorem dX0_step_35 : decode cX0_step 35 = .ok (.ireturn, 1) := by decide +kernel
theorem dX1_init_0 : decode cX1_init 0 = .ok (.aload_n 0, 1) := by decide +kernel
theorem dX1_init_1 : decode cX1_init 1 = .ok (.invokespecial 3, 3) := by decide +kernel
theorem dX1_init_4 : decode cX1_init 4 = .ok (.aload_n 0, 1) := by decide +kernel
theorem dX1_init_5 : decode cX1_init 5 = .ok (.bipush 64, 2) := by decide +kernel
theorem dX1_init_7 : decode cX1_init 7 = .ok (.newarray .int, 2) := by decide +kernel
theorem dX1_init_9 : decode cX1_init 9 = .ok (.putfield 9, 3) := by decide +kernel
theorem dX1_init_12 : decode cX1_init 12 = .ok (.aload_n 0, 1) := by decide +kernel
theorem dX1_init_13 : decode cX1_init 13 = .ok (.bipush 64, 2) := by decide +kernel
theorem dX1_init_15 : decode cX1_init 15 = .ok (.newarray .int, 2) := by decide +kernel
theorem dX1_init_17 : decode cX1_init 17 = .ok (.putfield 15, 3) := by decide +kernel
theorem dX1_init_20 : decode cX1_init 20 = .ok (.aload_n 0, 1) := by decide +kernel
theorem dX1_init_21 : decode cX1_init 21 = .ok (.iconst 0, 1) := by decide +kernel
theorem dX1_init_22 : decode cX1_init 22 = .ok (.putfield 18, 3) := by decide +kernel
theorem dX1_init_25 : decode cX1_init 25 = .ok (.aload_n 0, 1) := by decide +kernel
theorem dX1_init_26 : decode cX1_init 26 = .ok (.ldc 22, 2) := by decide +kernel
theorem dX1_init_28 : decode cX1_init 28 = .ok (.putfield 23, 3) := by decide +kernel
theorem dX1_init_31 : decode cX1_init 31 = .ok (.return_, 1) := by decide +kernel
theorem dX1_search_0 : decode cX1_search 0 = .ok (.aload_n 0, 1) := by decide +kernel
theorem dX1_search_1 : decode cX1_search 1 = .ok (.iload_n 3, 1) := by decide +kernel
theorem dX1_search_2 : decode cX1_search 2 = .ok (.putfield 18, 3) := by decide +kernel
theorem dX1_search_5 : decode cX1_search 5 = .ok (.aload_n 0, 1) := by decide +kernel
theorem dX1_search_6 : decode cX1_search 6 = .ok (.ldc 22, 2) := by decide +kernel
theorem dX1_search_8 : decode cX1_search 8 = .ok (.putfield 23, 3) := by decide +kernel
theorem dX1_search_11 : decode cX1_search 11 = .ok (.aload_n 0, 1) := by decide +kernel
theorem dX1_search_12 : decode cX1_search 12 = .ok (.aload_n 1, 1) := by decide +kernel
theorem dX1_search_13 : decode cX1_search 13 = .ok (.aload_n 0, 1) := by decide +kernel
theorem dX1_search_14 : decode cX1_search 14 = .ok (.getfield 9, 3) := by decide +kernel
theorem dX1_search_17 : decode cX1_search 17 = .ok (.bipush (-9), 2) := by decide +kernel
theorem dX1_search_19 : decode cX1_search 19 = .ok (.invokevirtual 26, 3) := by decide +kernel
theorem dX1_search_22 : decode cX1_search 22 = .ok (.aload_n 1, 1) := by decide +kernel
theorem dX1_search_23 : decode cX1_search 23 = .ok (.invokevirtual 30, 3) := by decide +kernel
theorem dX1_search_26 : decode cX1_search 26 = .ok (.iload_n 3, 1) := by decide +kernel
theorem dX1_search_27 : decode cX1_search 27 = .ok (.invokevirtual 36, 3) := by decide +kernel
theorem dX1_search_30 : decode cX1_search 30 = .ok (.istore 4, 2) := by decide +kernel
theorem dX1_search_32 : decode cX1_search 32 = .ok (.iload 4, 2) := by decide +kernel
theorem dX1_search_34 : decode cX1_search 34 = .ok (.bipush (-9), 2) := by decide +kernel
theorem dX1_search_36 : decode cX1_search 36 = .ok (.if_icmp .eq 14, 3) := by decide +kernel
theorem dX1_search_39 : decode cX1_search 39 = .ok (.aload_n 0, 1) := by decide +kernel
theorem dX1_search_40 : decode cX1_search 40 = .ok (.aload_n 1, 1) := by decide +kernel
theorem dX1_search_41 : decode cX1_search 41 = .ok (.aload_n 0, 1) := by decide +kernel
theorem dX1_search_42 : decode cX1_search 42 = .ok (.getfield 15, 3) := by decide +kernel
theorem dX1_search_45 : decode cX1_search 45 = .ok (.iload 4, 2) := by decide +kernel
theorem dX1_search_47 : decode cX1_search 47 = .ok (.invokevirtual 26, 3) := by decide +kernel
theorem dX1_search_50 : decode cX1_search 50 = .ok (.aload_n 0, 1) := by decide +kernel
theorem dX1_search_51 : decode cX1_search 51 = .ok (.aload_n 1, 1) := by decide +kernel
theorem dX1_search_52 : decode cX1_search 52 = .ok (.iload_n 2, 1) := by decide +kernel
theorem dX1_search_53 : decode cX1_search 53 = .ok (.iconst 0, 1) := by decide +kernel
theorem dX1_search_54 : decode cX1_search 54 = .ok (.bipush (-9), 2) := by decide +kernel
theorem dX1_search_56 : decode cX1_search 56 = .ok (.iconst 0, 1) := by decide +kernel
theorem dX1_search_57 : decode cX1_search 57 = .ok (.invokevirtual 42, 3) := by decide +kernel
theorem dX1_search_60 : decode cX1_search 60 = .ok (.aload_n 0, 1) := by decide +kernel
theorem dX1_search_61 : decode cX1_search 61 = .ok (.getfield 23, 3) := by decide +kernel
theorem dX1_search_64 : decode cX1_search 64 = .ok (.ldc 22, 2) := by decide +kernel
theorem dX1_search_66 : decode cX1_search 66 = .ok (.if_icmp .ne 8, 3) := by decide +kernel
theorem dX1_search_69 : decode cX1_search 69 = .ok (.bipush (-9), 2) := by decide +kernel
theorem dX1_search_71 : decode cX1_search 71 = .ok (.goto 7, 3) := by decide +kernel
theorem dX1_search_74 : decode cX1_search 74 = .ok (.aload_n 0, 1) := by decide +kernel
theorem dX1_search_75 : decode cX1_search 75 = .ok (.getfield 23, 3) := by decide +kernel
theorem dX1_search_78 : decode cX1_search 78 = .ok (.ireturn, 1) := by decide +kernel
theorem dX1_fill_0 : decode cX1_fill 0 = .ok (.iconst 0, 1) := by decide +kernel
theorem dX1_fill_1 : decode cX1_fill 1 = .ok (.istore 4, 2) := by decide +kernel
theorem dX1_fill_3 : decode cX1_fill 3 = .ok (.iload 4, 2) := by decide +kernel
theorem dX1_fill_5 : decode cX1_fill 5 = .ok (.aload_n 2, 1) := by decide +kernel
theorem dX1_fill_6 : decode cX1_fill 6 = .ok (.arraylength, 1) := by decide +kernel
theorem dX1_fill_7 : decode cX1_fill 7 = .ok (.if_icmp .ge 15, 3) := by decide +kernel
theorem dX1_fill_10 : decode cX1_fill 10 = .ok (.aload_n 2, 1) := by decide +kernel
theorem dX1_fill_11 : decode cX1_fill 11 = .ok (.iload 4, 2) := by decide +kernel
theorem dX1_fill_13 : decode cX1_fill 13 = .ok (.ldc 22, 2) := by decide +kernel
theorem dX1_fill_15 : decode cX1_fill 15 = .ok (.iastore, 1) := by decide +kernel
theorem dX1_fill_16 : decode cX1_fill 16 = .ok (.iinc 4 1, 3) := by decide +kernel
theorem dX1_fill_19 : decode cX1_fill 19 = .ok (.goto (-16), 3) := by decide +kernel
theorem dX1_fill_22 : decode cX1_fill 22 = .ok (.aload_n 0, 1) := by decide +kernel
theorem dX1_fill_23 : decode cX1_fill 23 = .ok (.getfield 18, 3) := by decide +kernel
theorem dX1_fill_26 : decode cX1_fill 26 = .ok (.iload_n 3, 1) := by decide +kernel
theorem dX1_fill_27 : decode cX1_fill 27 = .ok (.invokestatic 46, 3) := by decide +kernel
theorem dX1_fill_30 : decode cX1_fill 30 = .ok (.lstore 4, 2) := by decide +kernel
theorem dX1_fill_32 : decode cX1_fill 32 = .ok (.iconst 0, 1) := by decide +kernel
theorem dX1_fill_33 : decode cX1_fill 33 = .ok (.istore 6, 2) := by decide +kernel
theorem dX1_fill_35 : decode cX1_fill 35 = .ok (.iload 6, 2) := by decide +kernel
theorem dX1_fill_37 : decode cX1_fill 37 = .ok (.aload_n 1, 1) := by decide +kernel
theorem dX1_fill_38 : decode cX1_fill 38 = .ok (.invokevirtual 50, 3) := by decide +kernel
theorem dX1_fill_41 : decode cX1_fill 41 = .ok (.if_icmp .ge 28, 3) := by decide +kernel
theorem dX1_fill_44 : decode cX1_fill 44 = .ok (.aload_n 0, 1) := by decide +kernel
theorem dX1_fill_45 : decode cX1_fill 45 = .ok (.aload_n 1, 1) := by decide +kernel
theorem dX1_fill_46 : decode cX1_fill 46 = .ok (.aload_n 2, 1) := by decide +kernel
theorem dX1_fill_47 : decode cX1_fill 47 = .ok (.iload 6, 2) := by decide +kernel
theorem dX1_fill_49 : decode cX1_fill 49 = .ok (.aload_n 1, 1) := by decide +kernel
theorem dX1_fill_50 : decode cX1_fill 50 = .ok (.invokevirtual 54, 3) := by decide +kernel
theorem dX1_fill_53 : decode cX1_fill 53 = .ok (.iload 6, 2) := by decide +kernel
theorem dX1_fill_55 : decode cX1_fill 55 = .ok (.lload 4, 2) := by decide +kernel
theorem dX1_fill_57 : decode cX1_fill 57 = .ok (.invokevirtual 58, 3) := by decide +kernel
theorem dX1_fill_60 : decode cX1_fill 60 = .ok (.invokevirtual 64, 3) := by decide +kernel
theorem dX1_fill_63 : decode cX1_fill 63 = .ok (.iinc 6 1, 3) := by decide +kernel
theorem dX1_fill_66 : decode cX1_fill 66 = .ok (.goto (-31), 3) := by decide +kernel
theorem dX1_fill_69 : decode cX1_fill 69 = .ok (.return_, 1) := by decide +kernel
theorem dX1_fillSwitch_0 : decode cX1_fillSwitch 0 = .ok (.aload_n 1, 1) := by decide +kernel
theorem dX1_fillSwitch_1 : decode cX1_fillSwitch 1 = .ok (.invokevirtual 54, 3) := by decide +kernel
theorem dX1_fillSwitch_4 : decode cX1_fillSwitch 4 = .ok (.astore 5, 2) := by decide +kernel
theorem dX1_fillSwitch_6 : decode cX1_fillSwitch 6 = .ok (.aload_n 1, 1) := by decide +kernel
theorem dX1_fillSwitch_7 : decode cX1_fillSwitch 7 = .ok (.invokevirtual 68, 3) := by decide +kernel
theorem dX1_fillSwitch_10 : decode cX1_fillSwitch 10 = .ok (.invokestatic 71, 3) := by decide +kernel
theorem dX1_fillSwitch_13 : decode cX1_fillSwitch 13 = .ok (.istore 6, 2) := by decide +kernel
theorem dX1_fillSwitch_15 : decode cX1_fillSwitch 15 = .ok (.iconst 0, 1) := by decide +kernel
theorem dX1_fillSwitch_16 : decode cX1_fillSwitch 16 = .ok (.istore 7, 2) := by decide +kernel
theorem dX1_fillSwitch_18 : decode cX1_fillSwitch 18 = .ok (.iload 7, 2) := by decide +kernel
theorem dX1_fillSwitch_20 : decode cX1_fillSwitch 20 = .ok (.aload 5, 2) := by decide +kernel
theorem dX1_fillSwitch_22 : decode cX1_fillSwitch 22 = .ok (.invokevirtual 74, 3) := by decide +kernel
theorem dX1_fillSwitch_25 : decode cX1_fillSwitch 25 = .ok (.if_icmp .ge 86, 3) := by decide +kernel
theorem dX1_fillSwitch_28 : decode cX1_fillSwitch 28 = .ok (.iload_n 3, 1) := by decide +kernel
theorem dX1_fillSwitch_29 : decode cX1_fillSwitch 29 = .ok (.bipush 8, 2) := by decide +kernel
theorem dX1_fillSwitch_31 : decode cX1_fillSwitch 31 = .ok (.imul, 1) := by decide +kernel
theorem dX1_fillSwitch_32 : decode cX1_fillSwitch 32 = .ok (.aload 5, 2) := by decide +kernel
theorem dX1_fillSwitch_34 : decode cX1_fillSwitch 34 = .ok (.iload 7, 2) := by decide +kernel
theorem dX1_fillSwitch_36 : decode cX1_fillSwitch 36 = .ok (.invokevirtual 77, 3) := by decide +kernel
theorem dX1_fillSwitch_39 : decode cX1_fillSwitch 39 = .ok (.iadd, 1) := by decide +kernel
theorem dX1_fillSwitch_40 : decode cX1_fillSwitch 40 = .ok (.istore 8, 2) := by decide +kernel
theorem dX1_fillSwitch_42 : decode cX1_fillSwitch 42 = .ok (.aload 5, 2) := by decide +kernel
theorem dX1_fillSwitch_44 : decode cX1_fillSwitch 44 = .ok (.iload 7, 2) := by decide +kernel
theorem dX1_fillSwitch_46 : decode cX1_fillSwitch 46 = .ok (.iload_n 3, 1) := by decide +kernel
theorem dX1_fillSwitch_47 : decode cX1_fillSwitch 47 = .ok (.iload 4, 2) := by decide +kernel
theorem dX1_fillSwitch_49 : decode cX1_fillSwitch 49 = .ok (.invokevirtual 80, 3) := by decide +kernel
theorem dX1_fillSwitch_52 : decode cX1_fillSwitch 52 = .ok (.ifCond .eq 53, 3) := by decide +kernel
theorem dX1_fillSwitch_55 : decode cX1_fillSwitch 55 = .ok (.iload 8, 2) := by decide +kernel
theorem dX1_fillSwitch_57 : decode cX1_fillSwitch 57 = .ok (.ifCond .lt 48, 3) := by decide +kernel
theorem dX1_fillSwitch_60 : decode cX1_fillSwitch 60 = .ok (.iload 8, 2) := by decide +kernel
theorem dX1_fillSwitch_62 : decode cX1_fillSwitch 62 = .ok (.aload_n 2, 1) := by decide +kernel
theorem dX1_fillSwitch_63 : decode cX1_fillSwitch 63 = .ok (.arraylength, 1) := by decide +kernel
theorem dX1_fillSwitch_64 : decode cX1_fillSwitch 64 = .ok (.if_icmp .ge 41, 3) := by decide +kernel
theorem dX1_fillSwitch_67 : decode cX1_fillSwitch 67 = .ok (.aload 5, 2) := by decide +kernel
theorem dX1_fillSwitch_69 : decode cX1_fillSwitch 69 = .ok (.iload 7, 2) := by decide +kernel
theorem dX1_fillSwitch_71 : decode cX1_fillSwitch 71 = .ok (.invokevirtual 84, 3) := by decide +kernel
theorem dX1_fillSwitch_74 : decode cX1_fillSwitch 74 = .ok (.ifCond .eq 7, 3) := by decide +kernel
theorem dX1_fillSwitch_77 : decode cX1_fillSwitch 77 = .ok (.iconst 0, 1) := by decide +kernel
theorem dX1_fillSwitch_78 : decode cX1_fillSwitch 78 = .ok (.goto 12, 3) := by decide +kernel
theorem dX1_fillSwitch_81 : decode cX1_fillSwitch 81 = .ok (.aload 5, 2) := by decide +kernel
theorem dX1_fillSwitch_83 : decode cX1_fillSwitch 83 = .ok (.iload 7, 2) := by decide +kernel
theorem dX1_fillSwitch_85 : decode cX1_fillSwitch 85 = .ok (.iload 6, 2) := by decide +kernel
theorem dX1_fillSwitch_87 : decode cX1_fillSwitch 87 = .ok (.invokevirtual 88, 3) := by decide +kernel
theorem dX1_fillSwitch_90 : decode cX1_fillSwitch 90 = .ok (.istore 9, 2) := by decide +kernel
theorem dX1_fillSwitch_92 : decode cX1_fillSwitch 92 = .ok (.aload_n 2, 1) := by decide +kernel
theorem dX1_fillSwitch_93 : decode cX1_fillSwitch 93 = .ok (.iload 8, 2) := by decide +kernel
theorem dX1_fillSwitch_95 : decode cX1_fillSwitch 95 = .ok (.aload_n 2, 1) := by decide +kernel
theorem dX1_fillSwitch_96 : decode cX1_fillSwitch 96 = .ok (.iload 8, 2) := by decide +kernel
theorem dX1_fillSwitch_98 : decode cX1_fillSwitch 98 = .ok (.iaload, 1) := by decide +kernel
theorem dX1_fillSwitch_99 : decode cX1_fillSwitch 99 = .ok (.iload 9, 2) := by decide +kernel
theorem dX1_fillSwitch_101 : decode cX1_fillSwitch 101 = .ok (.invokestatic 92, 3) := by decide +kernel
theorem dX1_fillSwitch_104 : decode cX1_fillSwitch 104 = .ok (.iastore, 1) := by decide +kernel
theorem dX1_fillSwitch_105 : decode cX1_fillSwitch 105 = .ok (.iinc 7 1, 3) := by decide +kernel
theorem dX1_fillSwitch_108 : decode cX1_fillSwitch 108 = .ok (.goto (-90), 3) := by decide +kernel
theorem dX1_fillSwitch_111 : decode cX1_fillSwitch 111 = .ok (.return_, 1) := by decide +kernel
theorem dX1_costBetween_0 : decode cX1_costBetween 0 = .ok (.iload_n 1, 1) := by decide +kernel
theorem dX1_costBetween_1 : decode cX1_costBetween 1 = .ok (.bipush 8, 2) := by decide +kernel
theorem dX1_costBetween_3 : decode cX1_costBetween 3 = .ok (.imul, 1) := by decide +kernel
theorem dX1_costBetween_4 : decode cX1_costBetween 4 = .ok (.iload_n 2, 1) := by decide +kernel
theorem dX1_costBetween_5 : decode cX1_costBetween 5 = .ok (.iadd, 1) := by decide +kernel
theorem dX1_costBetween_6 : decode cX1_costBetween 6 = .ok (.istore 4, 2) := by decide +kernel
theorem dX1_costBetween_8 : decode cX1_costBetween 8 = .ok (.iload 4, 2) := by decide +kernel
theorem dX1_costBetween_10 : decode cX1_costBetween 10 = .ok (.ifCond .lt 10, 3) := by decide +kernel
theorem dX1_costBetween_13 : decode cX1_costBetween 13 = .ok (.iload 4, 2) := by decide +kernel
theorem dX1_costBetween_15 : decode cX1_costBetween 15 = .ok (.bipush 64, 2) := by decide +kernel
theorem dX1_costBetween_17 : decode cX1_costBetween 17 = .ok (.if_icmp .lt 6, 3) := by decide +kernel
theorem dX1_costBetween_20 : decode cX1_costBetween 20 = .ok (.ldc 22, 2) := by decide +kernel
theorem dX1_costBetween_22 : decode cX1_costBetween 22 = .ok (.ireturn, 1) := by decide +kernel
theorem dX1_costBetween_23 : decode cX1_costBetween 23 = .ok (.iload_n 3, 1) := by decide +kernel
theorem dX1_costBetween_24 : decode cX1_costBetween 24 = .ok (.bipush (-9), 2) := by decide +kernel
theorem dX1_costBetween_26 : decode cX1_costBetween 26 = .ok (.if_icmp .ne 13, 3) := by decide +kernel
theorem dX1_costBetween_29 : decode cX1_costBetween 29 = .ok (.aload_n 0, 1) := by decide +kernel
theorem dX1_costBetween_30 : decode cX1_costBetween 30 = .ok (.getfield 9, 3) := by decide +kernel
theorem dX1_costBetween_33 : decode cX1_costBetween 33 = .ok (.iload 4, 2) := by decide +kernel
theorem dX1_costBetween_35 : decode cX1_costBetween 35 = .ok (.iaload, 1) := by decide +kernel
theorem dX1_costBetween_36 : decode cX1_costBetween 36 = .ok (.goto 10, 3) := by decide +kernel
theorem dX1_costBetween_39 : decode cX1_costBetween 39 = .ok (.aload_n 0, 1) := by decide +kernel
theorem dX1_costBetween_40 : decode cX1_costBetween 40 = .ok (.getfield 15, 3) := by decide +kernel
theorem dX1_costBetween_43 : decode cX1_costBetween 43 = .ok (.iload 4, 2) := by decide +kernel
theorem dX1_costBetween_45 : decode cX1_costBetween 45 = .ok (.iaload, 1) := by decide +kernel
theorem dX1_costBetween_46 : decode cX1_costBetween 46 = .ok (.ireturn, 1) := by decide +kernel
theorem dX1_arrive_0 : decode cX1_arrive 0 = .ok (.iload_n 3, 1) := by decide +kernel
theorem dX1_arrive_1 : decode cX1_arrive 1 = .ok (.invokestatic 97, 3) := by decide +kernel
theorem dX1_arrive_4 : decode cX1_arrive 4 = .ok (.istore 6, 2) := by decide +kernel
theorem dX1_arrive_6 : decode cX1_arrive 6 = .ok (.iload_n 3, 1) := by decide +kernel
theorem dX1_arrive_7 : decode cX1_arrive 7 = .ok (.iload_n 2, 1) := by decide +kernel
theorem dX1_arrive_8 : decode cX1_arrive 8 = .ok (.ishr, 1) := by decide +kernel
theorem dX1_arrive_9 : decode cX1_arrive 9 = .ok (.iconst 1, 1) := by decide +kernel
theorem dX1_arrive_10 : decode cX1_arrive 10 = .ok (.iand, 1) := by decide +kernel
theorem dX1_arrive_11 : decode cX1_arrive 11 = .ok (.ifCond .ne 28, 3) := by decide +kernel
theorem dX1_arrive_14 : decode cX1_arrive 14 = .ok (.iload 6, 2) := by decide +kernel
theorem dX1_arrive_16 : decode cX1_arrive 16 = .ok (.aload_n 1, 1) := by decide +kernel
theorem dX1_arrive_17 : decode cX1_arrive 17 = .ok (.invokevirtual 102, 3) := by decide +kernel
theorem dX1_arrive_20 : decode cX1_arrive 20 = .ok (.if_icmp .ge 19, 3) := by decide +kernel
theorem dX1_arrive_23 : decode cX1_arrive 23 = .ok (.iload 6, 2) := by decide +kernel
theorem dX1_arrive_25 : decode cX1_arrive 25 = .ok (.bipush 6, 2) := by decide +kernel
theorem dX1_arrive_27 : decode cX1_arrive 27 = .ok (.if_icmp .ge 12, 3) := by decide +kernel
theorem dX1_arrive_30 : decode cX1_arrive 30 = .ok (.iload 5, 2) := by decide +kernel
theorem dX1_arrive_32 : decode cX1_arrive 32 = .ok (.aload_n 0, 1) := by decide +kernel
theorem dX1_arrive_33 : decode cX1_arrive 33 = .ok (.getfield 23, 3) := by decide +kernel
theorem dX1_arrive_36 : decode cX1_arrive 36 = .ok (.if_icmp .lt 4, 3) := by decide +kernel
theorem dX1_arrive_39 : decode cX1_arrive 39 = .ok (.return_, 1) := by decide +kernel
theorem dX1_arrive_40 : decode cX1_arrive 40 = .ok (.aload_n 1, 1) := by decide +kernel
theorem dX1_arrive_41 : decode cX1_arrive 41 = .ok (.iload_n 2, 1) := by decide +kernel
theorem dX1_arrive_42 : decode cX1_arrive 42 = .ok (.aload_n 0, 1) := by decide +kernel
theorem dX1_arrive_43 : decode cX1_arrive 43 = .ok (.getfield 18, 3) := by decide +kernel
theorem dX1_arrive_46 : decode cX1_arrive 46 = .ok (.iload 4, 2) := by decide +kernel
theorem dX1_arrive_48 : decode cX1_arrive 48 = .ok (.invokevirtual 105, 3) := by decide +kernel
theorem dX1_arrive_51 : decode cX1_arrive 51 = .ok (.istore 7, 2) := by decide +kernel
theorem dX1_arrive_53 : decode cX1_arrive 53 = .ok (.iload 7, 2) := by decide +kernel
theorem dX1_arrive_55 : decode cX1_arrive 55 = .ok (.iload_n 2, 1) := by decide +kernel
theorem dX1_arrive_56 : decode cX1_arrive 56 = .ok (.if_icmp .eq 14, 3) := by decide +kernel
theorem dX1_arrive_59 : decode cX1_arrive 59 = .ok (.aload_n 0, 1) := by decide +kernel
theorem dX1_arrive_60 : decode cX1_arrive 60 = .ok (.iload_n 2, 1) := by decide +kernel
theorem dX1_arrive_61 : decode cX1_arrive 61 = .ok (.iload_n 2, 1) := by decide +kernel
theorem dX1_arrive_62 : decode cX1_arrive 62 = .ok (.iload 7, 2) := by decide +kernel
theorem dX1_arrive_64 : decode cX1_arrive 64 = .ok (.invokevirtual 109, 3) := by decide +kernel
theorem dX1_arrive_67 : decode cX1_arrive 67 = .ok (.ifCond .ne 10, 3) := by decide +kernel
theorem dX1_arrive_70 : decode cX1_arrive 70 = .ok (.aload_n 0, 1) := by decide +kernel
theorem dX1_arrive_71 : decode cX1_arrive 71 = .ok (.iload 5, 2) := by decide +kernel
theorem dX1_arrive_73 : decode cX1_arrive 73 = .ok (.putfield 23, 3) := by decide +kernel
theorem dX1_arrive_76 : decode cX1_arrive 76 = .ok (.return_, 1) := by decide +kernel
theorem dX1_arrive_77 : decode cX1_arrive 77 = .ok (.iconst 0, 1) := by decide +kernel
theorem dX1_arrive_78 : decode cX1_arrive 78 = .ok (.istore 8, 2) := by decide +kernel
theorem dX1_arrive_80 : decode cX1_arrive 80 = .ok (.iload 8, 2) := by decide +kernel
theorem dX1_arrive_82 : decode cX1_arrive 82 = .ok (.aload_n 1, 1) := by decide +kernel
theorem dX1_arrive_83 : decode cX1_arrive 83 = .ok (.invokevirtual 50, 3) := by decide +kernel
theorem dX1_arrive_86 : decode cX1_arrive 86 = .ok (.if_icmp .ge 46, 3) := by decide +kernel
theorem dX1_arrive_89 : decode cX1_arrive 89 = .ok (.aload_n 0, 1) := by decide +kernel
theorem dX1_arrive_90 : decode cX1_arrive 90 = .ok (.iload_n 2, 1) := by decide +kernel
theorem dX1_arrive_91 : decode cX1_arrive 91 = .ok (.iload 8, 2) := by decide +kernel
theorem dX1_arrive_93 : decode cX1_arrive 93 = .ok (.iload 7, 2) := by decide +kernel
theorem dX1_arrive_95 : decode cX1_arrive 95 = .ok (.invokevirtual 109, 3) := by decide +kernel
theorem dX1_arrive_98 : decode cX1_arrive 98 = .ok (.istore 9, 2) := by decide +kernel
theorem dX1_arrive_100 : decode cX1_arrive 100 = .ok (.iload 9, 2) := by decide +kernel
theorem dX1_arrive_102 : decode cX1_arrive 102 = .ok (.ldc 22, 2) := by decide +kernel
theorem dX1_arrive_104 : decode cX1_arrive 104 = .ok (.if_icmp .eq 22, 3) := by decide +kernel
theorem dX1_arrive_107 : decode cX1_arrive 107 = .ok (.aload_n 0, 1) := by decide +kernel
theorem dX1_arrive_108 : decode cX1_arrive 108 = .ok (.aload_n 1, 1) := by decide +kernel
theorem dX1_arrive_109 : decode cX1_arrive 109 = .ok (.iload 8, 2) := by decide +kernel
theorem dX1_arrive_111 : decode cX1_arrive 111 = .ok (.iload_n 3, 1) := by decide +kernel
theorem dX1_arrive_112 : decode cX1_arrive 112 = .ok (.iconst 1, 1) := by decide +kernel
theorem dX1_arrive_113 : decode cX1_arrive 113 = .ok (.iload_n 2, 1) := by decide +kernel
theorem dX1_arrive_114 : decode cX1_arrive 114 = .ok (.ishl, 1) := by decide +kernel
theorem dX1_arrive_115 : decode cX1_arrive 115 = .ok (.ior, 1) := by decide +kernel
theorem dX1_arrive_116 : decode cX1_arrive 116 = .ok (.iload 7, 2) := by decide +kernel
theorem dX1_arrive_118 : decode cX1_arrive 118 = .ok (.iload 5, 2) := by decide +kernel
theorem dX1_arrive_120 : decode cX1_arrive 120 = .ok (.iload 9, 2) := by decide +kernel
theorem dX1_arrive_122 : decode cX1_arrive 122 = .ok (.iadd, 1) := by decide +kernel
theorem dX1_arrive_123 : decode cX1_arrive 123 = .ok (.invokevirtual 42, 3) := by decide +kernel
theorem dX1_arrive_126 : decode cX1_arrive 126 = .ok (.iinc 8 1, 3) := by decide +kernel
theorem dX1_arrive_129 : decode cX1_arrive 129 = .ok (.goto (-49), 3) := by decide +kernel
theorem dX1_arrive_132 : decode cX1_arrive 132 = .ok (.return_, 1) := by decide +kernel
theorem dX2_init_0 : decode cX2_init 0 = .ok (.aload_n 0, 1) := by decide +kernel
theorem dX2_init_1 : decode cX2_init 1 = .ok (.invokespecial 3, 3) := by decide +kernel
theorem dX2_init_4 : decode cX2_init 4 = .ok (.aload_n 0, 1) := by decide +kernel
theorem dX2_init_5 : decode cX2_init 5 = .ok (.iconst 5, 1) := by decide +kernel
theorem dX2_init_6 : decode cX2_init 6 = .ok (.anewarray 9, 3) := by decide +kernel
theorem dX2_init_9 : decode cX2_init 9 = .ok (.putfield 11, 3) := by decide +kernel
theorem dX2_init_12 : decode cX2_init 12 = .ok (.aload_n 0, 1) := by decide +kernel
theorem dX2_init_13 : decode cX2_init 13 = .ok (.iconst 0, 1) := by decide +kernel
theorem dX2_init_14 : decode cX2_init 14 = .ok (.putfield 17, 3) := by decide +kernel
theorem dX2_init_17 : decode cX2_init 17 = .ok (.aload_n 0, 1) := by decide +kernel
theorem dX2_init_18 : decode cX2_init 18 = .ok (.iconst 0, 1) := by decide +kernel
theorem dX2_init_19 : decode cX2_init 19 = .ok (.putfield 21, 3) := by decide +kernel
theorem dX2_init_22 : decode cX2_init 22 = .ok (.iconst 0, 1) := by decide +kernel
theorem dX2_init_23 : decode cX2_init 23 = .ok (.istore_n 1, 1) := by decide +kernel
theorem dX2_init_24 : decode cX2_init 24 = .ok (.iload_n 1, 1) := by decide +kernel
theorem dX2_init_25 : decode cX2_init 25 = .ok (.iconst 5, 1) := by decide +kernel
theorem dX2_init_26 : decode cX2_init 26 = .ok (.if_icmp .ge 22, 3) := by decide +kernel
theorem dX2_init_29 : decode cX2_init 29 = .ok (.aload_n 0, 1) := by decide +kernel
theorem dX2_init_30 : decode cX2_init 30 = .ok (.getfield 11, 3) := by decide +kernel
theorem dX2_init_33 : decode cX2_init 33 = .ok (.iload_n 1, 1) := by decide +kernel
theorem dX2_init_34 : decode cX2_init 34 = .ok (.new 9, 3) := by decide +kernel
theorem dX2_init_37 : decode cX2_init 37 = .ok (.dup, 1) := by decide +kernel
theorem dX2_init_38 : decode cX2_init 38 = .ok (.invokespecial 24, 3) := by decide +kernel
theorem dX2_init_41 : decode cX2_init 41 = .ok (.aastore, 1) := by decide +kernel
theorem dX2_init_42 : decode cX2_init 42 = .ok (.iinc 1 1, 3) := by decide +kernel
theorem dX2_init_45 : decode cX2_init 45 = .ok (.goto (-21), 3) := by decide +kernel
theorem dX2_init_48 : decode cX2_init 48 = .ok (.return_, 1) := by decide +kernel
theorem dX2_size_0 : decode cX2_size 0 = .ok (.aload_n 0, 1) := by decide +kernel
theorem dX2_size_1 : decode cX2_size 1 = .ok (.getfield 21, 3) := by decide +kernel
theorem dX2_size_4 : decode cX2_size 4 = .ok (.ireturn, 1) := by decide +kernel
theorem dX2_stateAt_0 : decode cX2_stateAt 0 = .ok (.aload_n 0, 1) := by decide +kernel
theorem dX2_stateAt_1 : decode cX2_stateAt 1 = .ok (.getfield 11, 3) := by decide +kernel
theorem dX2_stateAt_4 : decode cX2_stateAt 4 = .ok (.aload_n 0, 1) := by decide +kernel
theorem dX2_stateAt_5 : decode cX2_stateAt 5 = .ok (.getfield 17, 3) := by decide +kernel
theorem dX2_stateAt_8 : decode cX2_stateAt 8 = .ok (.iload_n 1, 1) := by decide +kernel
theorem dX2_stateAt_9 : decode cX2_stateAt 9 = .ok (.iadd, 1) := by decide +kernel
theorem dX2_stateAt_10 : decode cX2_stateAt 10 = .ok (.iconst 5, 1) := by decide +kernel
theorem dX2_stateAt_11 : decode cX2_stateAt 11 = .ok (.invokestatic 25, 3) := by decide +kernel
theorem dX2_stateAt_14 : decode cX2_stateAt 14 = .ok (.aaload, 1) := by decide +kernel
theorem dX2_stateAt_15 : decode cX2_stateAt 15 = .ok (.areturn, 1) := by decide +kernel
theorem dX2_push_0 : decode cX2_push 0 = .ok (.aload_n 0, 1) := by decide +kernel
theorem dX2_push_1 : decode cX2_push 1 = .ok (.getfield 21, 3) := by decide +kernel
theorem dX2_push_4 : decode cX2_push 4 = .ok (.iconst 5, 1) := by decide +kernel
theorem dX2_push_5 : decode cX2_push 5 = .ok (.if_icmp .ne 25, 3) := by decide +kernel
theorem dX2_push_8 : decode cX2_push 8 = .ok (.aload_n 0, 1) := by decide +kernel
theorem dX2_push_9 : decode cX2_push 9 = .ok (.aload_n 0, 1) := by decide +kernel
theorem dX2_push_10 : decode cX2_push 10 = .ok (.getfield 17, 3) := by decide +kernel
theorem dX2_push_13 : decode cX2_push 13 = .ok (.iconst 1, 1) := by decide +kernel
theorem dX2_push_14 : decode cX2_push 14 = .ok (.iadd, 1) := by decide +kernel
theorem dX2_push_15 : decode cX2_push 15 = .ok (.iconst 5, 1) := by decide +kernel
theorem dX2_push_16 : decode cX2_push 16 = .ok (.irem, 1) := by decide +kernel
theorem dX2_push_17 : decode cX2_push 17 = .ok (.putfield 17, 3) := by decide +kernel
theorem dX2_push_20 : decode cX2_push 20 = .ok (.aload_n 0, 1) := by decide +kernel
theorem dX2_push_21 : decode cX2_push 21 = .ok (.dup, 1) := by decide +kernel
theorem dX2_push_22 : decode cX2_push 22 = .ok (.getfield 21, 3) := by decide +kernel
theorem dX2_push_25 : decode cX2_push 25 = .ok (.iconst 1, 1) := by decide +kernel
theorem dX2_push_26 : decode cX2_push 26 = .ok (.isub, 1) := by decide +kernel
theorem dX2_push_27 : decode cX2_push 27 = .ok (.putfield 21, 3) := by decide +kernel
theorem dX2_push_30 : decode cX2_push 30 = .ok (.aload_n 0, 1) := by decide +kernel
theorem dX2_push_31 : decode cX2_push 31 = .ok (.aload_n 0, 1) := by decide +kernel
theorem dX2_push_32 : decode cX2_push 32 = .ok (.getfield 21, 3) := by decide +kernel
theorem dX2_push_35 : decode cX2_push 35 = .ok (.invokevirtual 31, 3) := by decide +kernel
theorem dX2_push_38 : decode cX2_push 38 = .ok (.astore_n 2, 1) := by decide +kernel
theorem dX2_push_39 : decode cX2_push 39 = .ok (.aload_n 2, 1) := by decide +kernel
theorem dX2_push_40 : decode cX2_push 40 = .ok (.ifnull 18, 3) := by decide +kernel
theorem dX2_push_43 : decode cX2_push 43 = .ok (.aload_n 2, 1) := by decide +kernel
theorem dX2_push_44 : decode cX2_push 44 = .ok (.aload_n 1, 1) := by decide +kernel
theorem dX2_push_45 : decode cX2_push 45 = .ok (.invokevirtual 35, 3) := by decide +kernel
theorem dX2_push_48 : decode cX2_push 48 = .ok (.aload_n 0, 1) := by decide +kernel
theorem dX2_push_49 : decode cX2_push 49 = .ok (.dup, 1) := by decide +kernel
theorem dX2_push_50 : decode cX2_push 50 = .ok (.getfield 21, 3) := by decide +kernel
theorem dX2_push_53 : decode cX2_push 53 = .ok (.iconst 1, 1) := by decide +kernel
theorem dX2_push_54 : decode cX2_push 54 = .ok (.iadd, 1) := by decide +kernel
theorem dX2_push_55 : decode cX2_push 55 = .ok (.putfield 21, 3) := by decide +kernel
theorem dX2_push_58 : decode cX2_push 58 = .ok (.return_, 1) := by decide +kernel
theorem dX2_pop_0 : decode cX2_pop 0 = .ok (.aload_n 0, 1) := by decide +kernel
theorem dX2_pop_1 : decode cX2_pop 1 = .ok (.getfield 21, 3) := by decide +kernel
theorem dX2_pop_4 : decode cX2_pop 4 = .ok (.ifCond .ne 5, 3) := by decide +kernel
theorem dX2_pop_7 : decode cX2_pop 7 = .ok (.iconst 0, 1) := by decide +kernel
theorem dX2_pop_8 : decode cX2_pop 8 = .ok (.ireturn, 1) := by decide +kernel
theorem dX2_pop_9 : decode cX2_pop 9 = .ok (.aload_n 0, 1) := by decide +kernel
theorem dX2_pop_10 : decode cX2_pop 10 = .ok (.dup, 1) := by decide +kernel
theorem dX2_pop_11 : decode cX2_pop 11 = .ok (.getfield 21, 3) := by decide +kernel
theorem dX2_pop_14 : decode cX2_pop 14 = .ok (.iconst 1, 1) := by decide +kernel
theorem dX2_pop_15 : decode cX2_pop 15 = .ok (.isub, 1) := by decide +kernel
theorem dX2_pop_16 : decode cX2_pop 16 = .ok (.putfield 21, 3) := by decide +kernel
theorem dX2_pop_19 : decode cX2_pop 19 = .ok (.aload_n 0, 1) := by decide +kernel
theorem dX2_pop_20 : decode cX2_pop 20 = .ok (.aload_n 0, 1) := by decide +kernel
theorem dX2_pop_21 : decode cX2_pop 21 = .ok (.getfield 21, 3) := by decide +kernel
theorem dX2_pop_24 : decode cX2_pop 24 = .ok (.invokevirtual 31, 3) := by decide +kernel
theorem dX2_pop_27 : decode cX2_pop 27 = .ok (.astore_n 2, 1) := by decide +kernel
theorem dX2_pop_28 : decode cX2_pop 28 = .ok (.aload_n 2, 1) := by decide +kernel
theorem dX2_pop_29 : decode cX2_pop 29 = .ok (.ifnull 8, 3) := by decide +kernel
theorem dX2_pop_32 : decode cX2_pop 32 = .ok (.aload_n 1, 1) := by decide +kernel
theorem dX2_pop_33 : decode cX2_pop 33 = .ok (.aload_n 2, 1) := by decide +kernel
theorem dX2_pop_34 : decode cX2_pop 34 = .ok (.invokevirtual 35, 3) := by decide +kernel
theorem dX2_pop_37 : decode cX2_pop 37 = .ok (.iconst 1, 1) := by decide +kernel
theorem dX2_pop_38 : decode cX2_pop 38 = .ok (.ireturn, 1) := by decide +kernel
theorem dX3_init_0 : decode cX3_init 0 = .ok (.aload_n 0, 1) := by decide +kernel
theorem dX3_init_1 : decode cX3_init 1 = .ok (.invokespecial 3, 3) := by decide +kernel
theorem dX3_init_4 : decode cX3_init 4 = .ok (.aload_n 0, 1) := by decide +kernel
theorem dX3_init_5 : decode cX3_init 5 = .ok (.new 9, 3) := by decide +kernel
theorem dX3_init_8 : decode cX3_init 8 = .ok (.dup, 1) := by decide +kernel
theorem dX3_init_9 : decode cX3_init 9 = .ok (.invokespecial 11, 3) := by decide +kernel
theorem dX3_init_12 : decode cX3_init 12 = .ok (.putfield 12, 3) := by decide +kernel
theorem dX3_init_15 : decode cX3_init 15 = .ok (.aload_n 0, 1) := by decide +kernel
theorem dX3_init_16 : decode cX3_init 16 = .ok (.bipush 6, 2) := by decide +kernel
theorem dX3_init_18 : decode cX3_init 18 = .ok (.newarray .int, 2) := by decide +kernel
theorem dX3_init_20 : decode cX3_init 20 = .ok (.putfield 18, 3) := by decide +kernel
theorem dX3_init_23 : decode cX3_init 23 = .ok (.aload_n 0, 1) := by decide +kernel
theorem dX3_init_24 : decode cX3_init 24 = .ok (.iconst 0, 1) := by decide +kernel
theorem dX3_init_25 : decode cX3_init 25 = .ok (.putfield 22, 3) := by decide +kernel
theorem dX3_init_28 : decode cX3_init 28 = .ok (.aload_n 0, 1) := by decide +kernel
theorem dX3_init_29 : decode cX3_init 29 = .ok (.iconst 0, 1) := by decide +kernel
theorem dX3_init_30 : decode cX3_init 30 = .ok (.putfield 26, 3) := by decide +kernel
theorem dX3_init_33 : decode cX3_init 33 = .ok (.aload_n 0, 1) := by decide +kernel
theorem dX3_init_34 : decode cX3_init 34 = .ok (.iconst 0, 1) := by decide +kernel
theorem dX3_init_35 : decode cX3_init 35 = .ok (.putfield 29, 3) := by decide +kernel
theorem dX3_init_38 : decode cX3_init 38 = .ok (.aload_n 0, 1) := by decide +kernel
theorem dX3_init_39 : decode cX3_init 39 = .ok (.iconst 0, 1) := by decide +kernel
theorem dX3_init_40 : decode cX3_init 40 = .ok (.putfield 32, 3) := by decide +kernel
theorem dX3_init_43 : decode cX3_init 43 = .ok (.return_, 1) := by decide +kernel
theorem dX3_trace_0 : decode cX3_trace 0 = .ok (.aload_n 0, 1) := by decide +kernel
theorem dX3_trace_1 : decode cX3_trace 1 = .ok (.getfield 12, 3) := by decide +kernel
theorem dX3_trace_4 : decode cX3_trace 4 = .ok (.areturn, 1) := by decide +kernel
theorem dX3_number_0 : decode cX3_number 0 = .ok (.aload_n 0, 1) := by decide +kernel
theorem dX3_number_1 : decode cX3_number 1 = .ok (.getfield 26, 3) := by decide +kernel
theorem dX3_number_4 : decode cX3_number 4 = .ok (.ireturn, 1) := by decide +kernel
theorem dX3_length_0 : decode cX3_length 0 = .ok (.aload_n 0, 1) := by decide +kernel
theorem dX3_length_1 : decode cX3_length 1 = .ok (.getfield 22, 3) := by decide +kernel
theorem dX3_length_4 : decode cX3_length 4 = .ok (.ireturn, 1) := by decide +kernel
theorem dX3_step_0 : decode cX3_step 0 = .ok (.iload_n 1, 1) := by decide +kernel
theorem dX3_step_1 : decode cX3_step 1 = .ok (.ifCond .lt 26, 3) := by decide +kernel
theorem dX3_step_4 : decode cX3_step 4 = .ok (.iload_n 1, 1) := by decide +kernel
theorem dX3_step_5 : decode cX3_step 5 = .ok (.aload_n 0, 1) := by decide +kernel
theorem dX3_step_6 : decode cX3_step 6 = .ok (.getfield 22, 3) := by decide +kernel
theorem dX3_step_9 : decode cX3_step 9 = .ok (.if_icmp .ge 18, 3) := by decide +kernel
theorem dX3_step_12 : decode cX3_step 12 = .ok (.iload_n 1, 1) := by decide +kernel
theorem dX3_step_13 : decode cX3_step 13 = .ok (.bipush 6, 2) := by decide +kernel
theorem dX3_step_15 : decode cX3_step 15 = .ok (.if_icmp .ge 12, 3) := by decide +kernel
theorem dX3_step_18 : decode cX3_step 18 = .ok (.aload_n 0, 1) := by decide +kernel
theorem dX3_step_19 : decode cX3_step 19 = .ok (.getfield 18, 3) := by decide +kernel
theorem dX3_step_22 : decode cX3_step 22 = .ok (.iload_n 1, 1) := by decide +kernel
theorem dX3_step_23 : decode cX3_step 23 = .ok (.iaload, 1) := by decide +kernel
theorem dX3_step_24 : decode cX3_step 24 = .ok (.goto 5, 3) := by decide +kernel
theorem dX3_step_27 : decode cX3_step 27 = .ok (.bipush (-9), 2) := by decide +kernel
theorem dX3_step_29 : decode cX3_step 29 = .ok (.ireturn, 1) := by decide +kernel
theorem dX3_start_0 : decode cX3_start 0 = .ok (.aload_n 0, 1) := by decide +kernel
theorem dX3_start_1 : decode cX3_start 1 = .ok (.iload_n 3, 1) := by decide +kernel
theorem dX3_start_2 : decode cX3_start 2 = .ok (.putfield 26, 3) := by decide +kernel
theorem dX3_start_5 : decode cX3_start 5 = .ok (.aload_n 0, 1) := by decide +kernel
theorem dX3_start_6 : decode cX3_start 6 = .ok (.iconst 0, 1) := by decide +kernel
theorem dX3_start_7 : decode cX3_start 7 = .ok (.putfield 22, 3) := by decide +kernel
theorem dX3_start_10 : decode cX3_start 10 = .ok (.aload_n 0, 1) := by decide +kernel
theorem dX3_start_11 : decode cX3_start 11 = .ok (.aload_n 1, 1) := by decide +kernel
theorem dX3_start_12 : decode cX3_start 12 = .ok (.invokevirtual 35, 3) := by decide +kernel
theorem dX3_start_15 : decode cX3_start 15 = .ok (.invokestatic 41, 3) := by decide +kernel
theorem dX3_start_18 : decode cX3_start 18 = .ok (.putfield 29, 3) := by decide +kernel
theorem dX3_start_21 : decode cX3_start 21 = .ok (.aload_n 0, 1) := by decide +kernel
theorem dX3_start_22 : decode cX3_start 22 = .ok (.aload_n 1, 1) := by decide +kernel
theorem dX3_start_23 : decode cX3_start 23 = .ok (.invokevirtual 45, 3) := by decide +kernel
theorem dX3_start_26 : decode cX3_start 26 = .ok (.iload_n 3, 1) := by decide +kernel
theorem dX3_start_27 : decode cX3_start 27 = .ok (.invokevirtual 49, 3) := by decide +kernel
theorem dX3_start_30 : decode cX3_start 30 = .ok (.ifCond .eq 7, 3) := by decide +kernel
theorem dX3_start_33 : decode cX3_start 33 = .ok (.iconst 5, 1) := by decide +kernel
theorem dX3_start_34 : decode cX3_start 34 = .ok (.goto 4, 3) := by decide +kernel
theorem dX3_start_37 : decode cX3_start 37 = .ok (.iconst 0, 1) := by decide +kernel
theorem dX3_start_38 : decode cX3_start 38 = .ok (.putfield 32, 3) := by decide +kernel
theorem dX3_start_41 : decode cX3_start 41 = .ok (.aload_n 0, 1) := by decide +kernel
theorem dX3_start_42 : decode cX3_start 42 = .ok (.getfield 12, 3) := by decide +kernel
theorem dX3_start_45 : decode cX3_start 45 = .ok (.invokevirtual 55, 3) := by decide +kernel
theorem dX3_start_48 : decode cX3_start 48 = .ok (.aload_n 0, 1) := by decide +kernel
theorem dX3_start_49 : decode cX3_start 49 = .ok (.aload_n 1, 1) := by decide +kernel
theorem dX3_start_50 : decode cX3_start 50 = .ok (.iload_n 2, 1) := by decide +kernel
theorem dX3_start_51 : decode cX3_start 51 = .ok (.iconst 0, 1) := by decide +kernel
theorem dX3_start_52 : decode cX3_start 52 = .ok (.bipush (-9), 2) := by decide +kernel
theorem dX3_start_54 : decode cX3_start 54 = .ok (.invokevirtual 58, 3) := by decide +kernel
theorem dX3_start_57 : decode cX3_start 57 = .ok (.ireturn, 1) := by decide +kernel
theorem dX3_arrive_0 : decode cX3_arrive 0 = .ok (.iload_n 3, 1) := by decide +kernel
theorem dX3_arrive_1 : decode cX3_arrive 1 = .ok (.invokestatic 62, 3) := by decide +kernel
theorem dX3_arrive_4 : decode cX3_arrive 4 = .ok (.istore 5, 2) := by decide +kernel
theorem dX3_arrive_6 : decode cX3_arrive 6 = .ok (.iload_n 3, 1) := by decide +kernel
theorem dX3_arrive_7 : decode cX3_arrive 7 = .ok (.iload_n 2, 1) := by decide +kernel
theorem dX3_arrive_8 : decode cX3_arrive 8 = .ok (.ishr, 1) := by decide +kernel
theorem dX3_arrive_9 : decode cX3_arrive 9 = .ok (.iconst 1, 1) := by decide +kernel
theorem dX3_arrive_10 : decode cX3_arrive 10 = .ok (.iand, 1) := by decide +kernel
theorem dX3_arrive_11 : decode cX3_arrive 11 = .ok (.ifCond .eq 5, 3) := by decide +kernel
theorem dX3_arrive_14 : decode cX3_arrive 14 = .ok (.iconst 3, 1) := by decide +kernel
theorem dX3_arrive_15 : decode cX3_arrive 15 = .ok (.ireturn, 1) := by decide +kernel
theorem dX3_arrive_16 : decode cX3_arrive 16 = .ok (.iload 5, 2) := by decide +kernel
theorem dX3_arrive_18 : decode cX3_arrive 18 = .ok (.aload_n 1, 1) := by decide +kernel
theorem dX3_arrive_19 : decode cX3_arrive 19 = .ok (.invokevirtual 67, 3) := by decide +kernel
theorem dX3_arrive_22 : decode cX3_arrive 22 = .ok (.if_icmp .ge 10, 3) := by decide +kernel
theorem dX3_arrive_25 : decode cX3_arrive 25 = .ok (.iload 5, 2) := by decide +kernel
theorem dX3_arrive_27 : decode cX3_arrive 27 = .ok (.bipush 6, 2) := by decide +kernel
theorem dX3_arrive_29 : decode cX3_arrive 29 = .ok (.if_icmp .lt 5, 3) := by decide +kernel
theorem dX3_arrive_32 : decode cX3_arrive 32 = .ok (.iconst 4, 1) := by decide +kernel
theorem dX3_arrive_33 : decode cX3_arrive 33 = .ok (.ireturn, 1) := by decide +kernel
theorem dX3_arrive_34 : decode cX3_arrive 34 = .ok (.aload_n 1, 1) := by decide +kernel
theorem dX3_arrive_35 : decode cX3_arrive 35 = .ok (.iload_n 2, 1) := by decide +kernel
theorem dX3_arrive_36 : decode cX3_arrive 36 = .ok (.aload_n 0, 1) := by decide +kernel
theorem dX3_arrive_37 : decode cX3_arrive 37 = .ok (.getfield 26, 3) := by decide +kernel
theorem dX3_arrive_40 : decode cX3_arrive 40 = .ok (.iload 4, 2) := by decide +kernel
theorem dX3_arrive_42 : decode cX3_arrive 42 = .ok (.invokevirtual 70, 3) := by decide +kernel
theorem dX3_arrive_45 : decode cX3_arrive 45 = .ok (.istore 6, 2) := by decide +kernel
theorem dX3_arrive_47 : decode cX3_arrive 47 = .ok (.iload 6, 2) := by decide +kernel
theorem dX3_arrive_49 : decode cX3_arrive 49 = .ok (.iload_n 2, 1) := by decide +kernel
theorem dX3_arrive_50 : decode cX3_arrive 50 = .ok (.if_icmp .ne 14, 3) := by decide +kernel
theorem dX3_arrive_53 : decode cX3_arrive 53 = .ok (.aload_n 0, 1) := by decide +kernel
theorem dX3_arrive_54 : decode cX3_arrive 54 = .ok (.iload 5, 2) := by decide +kernel
theorem dX3_arrive_56 : decode cX3_arrive 56 = .ok (.putfield 22, 3) := by decide +kernel
theorem dX3_arrive_59 : decode cX3_arrive 59 = .ok (.aload_n 0, 1) := by decide +kernel
theorem dX3_arrive_60 : decode cX3_arrive 60 = .ok (.getfield 32, 3) := by decide +kernel
theorem dX3_arrive_63 : decode cX3_arrive 63 = .ok (.ireturn, 1) := by decide +kernel
theorem dX3_arrive_64 : decode cX3_arrive 64 = .ok (.aload_n 0, 1) := by decide +kernel
theorem dX3_arrive_65 : decode cX3_arrive 65 = .ok (.aload_n 1, 1) := by decide +kernel
theorem dX3_arrive_66 : decode cX3_arrive 66 = .ok (.iload_n 2, 1) := by decide +kernel
theorem dX3_arrive_67 : decode cX3_arrive 67 = .ok (.iload_n 3, 1) := by decide +kernel
theorem dX3_arrive_68 : decode cX3_arrive 68 = .ok (.iload 6, 2) := by decide +kernel
theorem dX3_arrive_70 : decode cX3_arrive 70 = .ok (.invokevirtual 74, 3) := by decide +kernel
theorem dX3_arrive_73 : decode cX3_arrive 73 = .ok (.ireturn, 1) := by decide +kernel
theorem dX3_tryRoutes_0 : decode cX3_tryRoutes 0 = .ok (.aload_n 1, 1) := by decide +kernel
theorem dX3_tryRoutes_1 : decode cX3_tryRoutes 1 = .ok (.invokevirtual 77, 3) := by decide +kernel
theorem dX3_tryRoutes_4 : decode cX3_tryRoutes 4 = .ok (.astore 5, 2) := by decide +kernel
theorem dX3_tryRoutes_6 : decode cX3_tryRoutes 6 = .ok (.aload 5, 2) := by decide +kernel
theorem dX3_tryRoutes_8 : decode cX3_tryRoutes 8 = .ok (.iload_n 2, 1) := by decide +kernel
theorem dX3_tryRoutes_9 : decode cX3_tryRoutes 9 = .ok (.aload_n 0, 1) := by decide +kernel
theorem dX3_tryRoutes_10 : decode cX3_tryRoutes 10 = .ok (.getfield 26, 3) := by decide +kernel
theorem dX3_tryRoutes_13 : decode cX3_tryRoutes 13 = .ok (.iload 4, 2) := by decide +kernel
theorem dX3_tryRoutes_15 : decode cX3_tryRoutes 15 = .ok (.invokestatic 81, 3) := by decide +kernel
theorem dX3_tryRoutes_18 : decode cX3_tryRoutes 18 = .ok (.invokevirtual 85, 3) := by decide +kernel
theorem dX3_tryRoutes_21 : decode cX3_tryRoutes 21 = .ok (.istore 6, 2) := by decide +kernel
theorem dX3_tryRoutes_23 : decode cX3_tryRoutes 23 = .ok (.aload 5, 2) := by decide +kernel
theorem dX3_tryRoutes_25 : decode cX3_tryRoutes 25 = .ok (.bipush (-9), 2) := by decide +kernel
theorem dX3_tryRoutes_27 : decode cX3_tryRoutes 27 = .ok (.iload_n 2, 1) := by decide +kernel
theorem dX3_tryRoutes_28 : decode cX3_tryRoutes 28 = .ok (.iload 6, 2) := by decide +kernel
theorem dX3_tryRoutes_30 : decode cX3_tryRoutes 30 = .ok (.aload_n 0, 1) := by decide +kernel
theorem dX3_tryRoutes_31 : decode cX3_tryRoutes 31 = .ok (.getfield 29, 3) := by decide +kernel
theorem dX3_tryRoutes_34 : decode cX3_tryRoutes 34 = .ok (.invokevirtual 91, 3) := by decide +kernel
theorem dX3_tryRoutes_37 : decode cX3_tryRoutes 37 = .ok (.istore 7, 2) := by decide +kernel
theorem dX3_tryRoutes_39 : decode cX3_tryRoutes 39 = .ok (.iconst 1, 1) := by decide +kernel
theorem dX3_tryRoutes_40 : decode cX3_tryRoutes 40 = .ok (.istore 8, 2) := by decide +kernel
theorem dX3_tryRoutes_42 : decode cX3_tryRoutes 42 = .ok (.iconst 0, 1) := by decide +kernel
theorem dX3_tryRoutes_43 : decode cX3_tryRoutes 43 = .ok (.istore 9, 2) := by decide +kernel
theorem dX3_tryRoutes_45 : decode cX3_tryRoutes 45 = .ok (.iload 9, 2) := by decide +kernel
theorem dX3_tryRoutes_47 : decode cX3_tryRoutes 47 = .ok (.bipush 40, 2) := by decide +kernel
theorem dX3_tryRoutes_49 : decode cX3_tryRoutes 49 = .ok (.if_icmp .ge 57, 3) := by decide +kernel
theorem dX3_tryRoutes_52 : decode cX3_tryRoutes 52 = .ok (.iload 7, 2) := by decide +kernel
theorem dX3_tryRoutes_54 : decode cX3_tryRoutes 54 = .ok (.bipush (-9), 2) := by decide +kernel
theorem dX3_tryRoutes_56 : decode cX3_tryRoutes 56 = .ok (.if_icmp .eq 50, 3) := by decide +kernel
theorem dX3_tryRoutes_59 : decode cX3_tryRoutes 59 = .ok (.aload_n 0, 1) := by decide +kernel
theorem dX3_tryRoutes_60 : decode cX3_tryRoutes 60 = .ok (.aload_n 1, 1) := by decide +kernel
theorem dX3_tryRoutes_61 : decode cX3_tryRoutes 61 = .ok (.iload 7, 2) := by decide +kernel
theorem dX3_tryRoutes_63 : decode cX3_tryRoutes 63 = .ok (.iload_n 3, 1) := by decide +kernel
theorem dX3_tryRoutes_64 : decode cX3_tryRoutes 64 = .ok (.iload 4, 2) := by decide +kernel
theorem dX3_tryRoutes_66 : decode cX3_tryRoutes 66 = .ok (.invokevirtual 95, 3) := by decide +kernel
theorem dX3_tryRoutes_69 : decode cX3_tryRoutes 69 = .ok (.istore 8, 2) := by decide +kernel
theorem dX3_tryRoutes_71 : decode cX3_tryRoutes 71 = .ok (.aload_n 1, 1) := by decide +kernel
theorem dX3_tryRoutes_72 : decode cX3_tryRoutes 72 = .ok (.iload_n 2, 1) := by decide +kernel
theorem dX3_tryRoutes_73 : decode cX3_tryRoutes 73 = .ok (.iload 8, 2) := by decide +kernel
theorem dX3_tryRoutes_75 : decode cX3_tryRoutes 75 = .ok (.invokevirtual 98, 3) := by decide +kernel
theorem dX3_tryRoutes_78 : decode cX3_tryRoutes 78 = .ok (.ifCond .ne 6, 3) := by decide +kernel
theorem dX3_tryRoutes_81 : decode cX3_tryRoutes 81 = .ok (.iload 8, 2) := by decide +kernel
theorem dX3_tryRoutes_83 : decode cX3_tryRoutes 83 = .ok (.ireturn, 1) := by decide +kernel
theorem dX3_tryRoutes_84 : decode cX3_tryRoutes 84 = .ok (.aload 5, 2) := by decide +kernel
theorem dX3_tryRoutes_86 : decode cX3_tryRoutes 86 = .ok (.iload 7, 2) := by decide +kernel
theorem dX3_tryRoutes_88 : decode cX3_tryRoutes 88 = .ok (.iload_n 2, 1) := by decide +kernel
theorem dX3_tryRoutes_89 : decode cX3_tryRoutes 89 = .ok (.iload 6, 2) := by decide +kernel
theorem dX3_tryRoutes_91 : decode cX3_tryRoutes 91 = .ok (.aload_n 0, 1) := by decide +kernel
theorem dX3_tryRoutes_92 : decode cX3_tryRoutes 92 = .ok (.getfield 29, 3) := by decide +kernel
theorem dX3_tryRoutes_95 : decode cX3_tryRoutes 95 = .ok (.invokevirtual 91, 3) := by decide +kernel
theorem dX3_tryRoutes_98 : decode cX3_tryRoutes 98 = .ok (.istore 7, 2) := by decide +kernel
theorem dX3_tryRoutes_100 : decode cX3_tryRoutes 100 = .ok (.iinc 9 1, 3) := by decide +kernel
theorem dX3_tryRoutes_103 : decode cX3_tryRoutes 103 = .ok (.goto (-58), 3) := by decide +kernel
theorem dX3_tryRoutes_106 : decode cX3_tryRoutes 106 = .ok (.iload 8, 2) := by decide +kernel
theorem dX3_tryRoutes_108 : decode cX3_tryRoutes 108 = .ok (.ireturn, 1) := by decide +kernel
theorem dX3_tryRoute_0 : decode cX3_tryRoute 0 = .ok (.iload_n 3, 1) := by decide +kernel
theorem dX3_tryRoute_1 : decode cX3_tryRoute 1 = .ok (.invokestatic 62, 3) := by decide +kernel
theorem dX3_tryRoute_4 : decode cX3_tryRoute 4 = .ok (.istore 5, 2) := by decide +kernel
theorem dX3_tryRoute_6 : decode cX3_tryRoute 6 = .ok (.iload 5, 2) := by decide +kernel
theorem dX3_tryRoute_8 : decode cX3_tryRoute 8 = .ok (.bipush 6, 2) := by decide +kernel
theorem dX3_tryRoute_10 : decode cX3_tryRoute 10 = .ok (.if_icmp .lt 5, 3) := by decide +kernel
theorem dX3_tryRoute_13 : decode cX3_tryRoute 13 = .ok (.iconst 4, 1) := by decide +kernel
theorem dX3_tryRoute_14 : decode cX3_tryRoute 14 = .ok (.ireturn, 1) := by decide +kernel
theorem dX3_tryRoute_15 : decode cX3_tryRoute 15 = .ok (.aload_n 0, 1) := by decide +kernel
theorem dX3_tryRoute_16 : decode cX3_tryRoute 16 = .ok (.getfield 12, 3) := by decide +kernel
theorem dX3_tryRoute_19 : decode cX3_tryRoute 19 = .ok (.iload_n 2, 1) := by decide +kernel
theorem dX3_tryRoute_20 : decode cX3_tryRoute 20 = .ok (.invokevirtual 102, 3) := by decide +kernel
theorem dX3_tryRoute_23 : decode cX3_tryRoute 23 = .ok (.istore 6, 2) := by decide +kernel
theorem dX3_tryRoute_25 : decode cX3_tryRoute 25 = .ok (.iload 6, 2) := by decide +kernel
theorem dX3_tryRoute_27 : decode cX3_tryRoute 27 = .ok (.bipush (-9), 2) := by decide +kernel
theorem dX3_tryRoute_29 : decode cX3_tryRoute 29 = .ok (.if_icmp .ne 6, 3) := by decide +kernel
theorem dX3_tryRoute_32 : decode cX3_tryRoute 32 = .ok (.bipush 6, 2) := by decide +kernel
theorem dX3_tryRoute_34 : decode cX3_tryRoute 34 = .ok (.ireturn, 1) := by decide +kernel
theorem dX3_tryRoute_35 : decode cX3_tryRoute 35 = .ok (.aload_n 1, 1) := by decide +kernel
theorem dX3_tryRoute_36 : decode cX3_tryRoute 36 = .ok (.invokevirtual 77, 3) := by decide +kernel
theorem dX3_tryRoute_39 : decode cX3_tryRoute 39 = .ok (.astore 7, 2) := by decide +kernel
theorem dX3_tryRoute_41 : decode cX3_tryRoute 41 = .ok (.iconst 2, 1) := by decide +kernel
theorem dX3_tryRoute_42 : decode cX3_tryRoute 42 = .ok (.istore 8, 2) := by decide +kernel
theorem dX3_tryRoute_44 : decode cX3_tryRoute 44 = .ok (.aload_n 0, 1) := by decide +kernel
theorem dX3_tryRoute_45 : decode cX3_tryRoute 45 = .ok (.getfield 18, 3) := by decide +kernel
theorem dX3_tryRoute_48 : decode cX3_tryRoute 48 = .ok (.iload 5, 2) := by decide +kernel
theorem dX3_tryRoute_50 : decode cX3_tryRoute 50 = .ok (.iload_n 2, 1) := by decide +kernel
theorem dX3_tryRoute_51 : decode cX3_tryRoute 51 = .ok (.iastore, 1) := by decide +kernel
theorem dX3_tryRoute_52 : decode cX3_tryRoute 52 = .ok (.aload 7, 2) := by decide +kernel
theorem dX3_tryRoute_54 : decode cX3_tryRoute 54 = .ok (.iload_n 2, 1) := by decide +kernel
theorem dX3_tryRoute_55 : decode cX3_tryRoute 55 = .ok (.invokevirtual 105, 3) := by decide +kernel
theorem dX3_tryRoute_58 : decode cX3_tryRoute 58 = .ok (.ifCond .eq 20, 3) := by decide +kernel
theorem dX3_tryRoute_61 : decode cX3_tryRoute 61 = .ok (.aload_n 0, 1) := by decide +kernel
theorem dX3_tryRoute_62 : decode cX3_tryRoute 62 = .ok (.iload 5, 2) := by decide +kernel
theorem dX3_tryRoute_64 : decode cX3_tryRoute 64 = .ok (.iconst 1, 1) := by decide +kernel
theorem dX3_tryRoute_65 : decode cX3_tryRoute 65 = .ok (.iadd, 1) := by decide +kernel
theorem dX3_tryRoute_66 : decode cX3_tryRoute 66 = .ok (.putfield 22, 3) := by decide +kernel
theorem dX3_tryRoute_69 : decode cX3_tryRoute 69 = .ok (.aload_n 0, 1) := by decide +kernel
theorem dX3_tryRoute_70 : decode cX3_tryRoute 70 = .ok (.getfield 32, 3) := by decide +kernel
theorem dX3_tryRoute_73 : decode cX3_tryRoute 73 = .ok (.istore 8, 2) := by decide +kernel
theorem dX3_tryRoute_75 : decode cX3_tryRoute 75 = .ok (.goto 37, 3) := by decide +kernel
theorem dX3_tryRoute_78 : decode cX3_tryRoute 78 = .ok (.aload 7, 2) := by decide +kernel
theorem dX3_tryRoute_80 : decode cX3_tryRoute 80 = .ok (.iload_n 2, 1) := by decide +kernel
theorem dX3_tryRoute_81 : decode cX3_tryRoute 81 = .ok (.invokevirtual 108, 3) := by decide +kernel
theorem dX3_tryRoute_84 : decode cX3_tryRoute 84 = .ok (.ifCond .eq 28, 3) := by decide +kernel
theorem dX3_tryRoute_87 : decode cX3_tryRoute 87 = .ok (.aload_n 0, 1) := by decide +kernel
theorem dX3_tryRoute_88 : decode cX3_tryRoute 88 = .ok (.aload_n 1, 1) := by decide +kernel
theorem dX3_tryRoute_89 : decode cX3_tryRoute 89 = .ok (.aload 7, 2) := by decide +kernel
theorem dX3_tryRoute_91 : decode cX3_tryRoute 91 = .ok (.iload_n 2, 1) := by decide +kernel
theorem dX3_tryRoute_92 : decode cX3_tryRoute 92 = .ok (.invokevirtual 111, 3) := by decide +kernel
theorem dX3_tryRoute_95 : decode cX3_tryRoute 95 = .ok (.iload_n 3, 1) := by decide +kernel
theorem dX3_tryRoute_96 : decode cX3_tryRoute 96 = .ok (.iconst 1, 1) := by decide +kernel
theorem dX3_tryRoute_97 : decode cX3_tryRoute 97 = .ok (.aload 7, 2) := by decide +kernel
theorem dX3_tryRoute_99 : decode cX3_tryRoute 99 = .ok (.iload_n 2, 1) := by decide +kernel
theorem dX3_tryRoute_100 : decode cX3_tryRoute 100 = .ok (.invokevirtual 114, 3) := by decide +kernel
theorem dX3_tryRoute_103 : decode cX3_tryRoute 103 = .ok (.ishl, 1) := by decide +kernel
theorem dX3_tryRoute_104 : decode cX3_tryRoute 104 = .ok (.ior, 1) := by decide +kernel
theorem dX3_tryRoute_105 : decode cX3_tryRoute 105 = .ok (.iload 4, 2) := by decide +kernel
theorem dX3_tryRoute_107 : decode cX3_tryRoute 107 = .ok (.invokevirtual 58, 3) := by decide +kernel
theorem dX3_tryRoute_110 : decode cX3_tryRoute 110 = .ok (.istore 8, 2) := by decide +kernel
theorem dX3_tryRoute_112 : decode cX3_tryRoute 112 = .ok (.aload_n 0, 1) := by decide +kernel
theorem dX3_tryRoute_113 : decode cX3_tryRoute 113 = .ok (.getfield 12, 3) := by decide +kernel
theorem dX3_tryRoute_116 : decode cX3_tryRoute 116 = .ok (.iload 6, 2) := by decide +kernel
theorem dX3_tryRoute_118 : decode cX3_tryRoute 118 = .ok (.iload 8, 2) := by decide +kernel
theorem dX3_tryRoute_120 : decode cX3_tryRoute 120 = .ok (.invokevirtual 117, 3) := by decide +kernel
theorem dX3_tryRoute_123 : decode cX3_tryRoute 123 = .ok (.iload 8, 2) := by decide +kernel
theorem dX3_tryRoute_125 : decode cX3_tryRoute 125 = .ok (.ireturn, 1) := by decide +kernel
theorem dX4_init_0 : decode cX4_init 0 = .ok (.aload_n 0, 1) := by decide +kernel
theorem dX4_init_1 : decode cX4_init 1 = .ok (.invokespecial 3, 3) := by decide +kernel
theorem dX4_init_4 : decode cX4_init 4 = .ok (.aload_n 0, 1) := by decide +kernel
theorem dX4_init_5 : decode cX4_init 5 = .ok (.bipush 8, 2) := by decide +kernel
theorem dX4_init_7 : decode cX4_init 7 = .ok (.newarray .int, 2) := by decide +kernel
theorem dX4_init_9 : decode cX4_init 9 = .ok (.putfield 9, 3) := by decide +kernel
theorem dX4_init_12 : decode cX4_init 12 = .ok (.aload_n 0, 1) := by decide +kernel
theorem dX4_init_13 : decode cX4_init 13 = .ok (.bipush 64, 2) := by decide +kernel
theorem dX4_init_15 : decode cX4_init 15 = .ok (.newarray .int, 2) := by decide +kernel
theorem dX4_init_17 : decode cX4_init 17 = .ok (.putfield 15, 3) := by decide +kernel
theorem dX4_init_20 : decode cX4_init 20 = .ok (.aload_n 0, 1) := by decide +kernel
theorem dX4_init_21 : decode cX4_init 21 = .ok (.new 18, 3) := by decide +kernel
theorem dX4_init_24 : decode cX4_init 24 = .ok (.dup, 1) := by decide +kernel
theorem dX4_init_25 : decode cX4_init 25 = .ok (.invokespecial 20, 3) := by decide +kernel
theorem dX4_init_28 : decode cX4_init 28 = .ok (.putfield 21, 3) := by decide +kernel
theorem dX4_init_31 : decode cX4_init 31 = .ok (.aload_n 0, 1) := by decide +kernel
theorem dX4_init_32 : decode cX4_init 32 = .ok (.new 25, 3) := by decide +kernel
theorem dX4_init_35 : decode cX4_init 35 = .ok (.dup, 1) := by decide +kernel
theorem dX4_init_36 : decode cX4_init 36 = .ok (.invokespecial 27, 3) := by decide +kernel
theorem dX4_init_39 : decode cX4_init 39 = .ok (.putfield 28, 3) := by decide +kernel
theorem dX4_init_42 : decode cX4_init 42 = .ok (.aload_n 0, 1) := by decide +kernel
theorem dX4_init_43 : decode cX4_init 43 = .ok (.new 32, 3) := by decide +kernel
theorem dX4_init_46 : decode cX4_init 46 = .ok (.dup, 1) := by decide +kernel
theorem dX4_init_47 : decode cX4_init 47 = .ok (.invokespecial 34, 3) := by decide +kernel
theorem dX4_init_50 : decode cX4_init 50 = .ok (.putfield 35, 3) := by decide +kernel
theorem dX4_init_53 : decode cX4_init 53 = .ok (.aload_n 0, 1) := by decide +kernel
theorem dX4_init_54 : decode cX4_init 54 = .ok (.iconst 0, 1) := by decide +kernel
theorem dX4_init_55 : decode cX4_init 55 = .ok (.putfield 39, 3) := by decide +kernel
theorem dX4_init_58 : decode cX4_init 58 = .ok (.aload_n 0, 1) := by decide +kernel
theorem dX4_init_59 : decode cX4_init 59 = .ok (.iconst 0, 1) := by decide +kernel
theorem dX4_init_60 : decode cX4_init 60 = .ok (.putfield 43, 3) := by decide +kernel
theorem dX4_init_63 : decode cX4_init 63 = .ok (.aload_n 0, 1) := by decide +kernel
theorem dX4_init_64 : decode cX4_init 64 = .ok (.iconst 5, 1) := by decide +kernel
theorem dX4_init_65 : decode cX4_init 65 = .ok (.putfield 46, 3) := by decide +kernel
theorem dX4_init_68 : decode cX4_init 68 = .ok (.aload_n 0, 1) := by decide +kernel
theorem dX4_init_69 : decode cX4_init 69 = .ok (.iconst 0, 1) := by decide +kernel
theorem dX4_init_70 : decode cX4_init 70 = .ok (.putfield 49, 3) := by decide +kernel
theorem dX4_init_73 : decode cX4_init 73 = .ok (.return_, 1) := by decide +kernel
theorem dX4_copyFrom_0 : decode cX4_copyFrom 0 = .ok (.aload_n 1, 1) := by decide +kernel
theorem dX4_copyFrom_1 : decode cX4_copyFrom 1 = .ok (.getfield 9, 3) := by decide +kernel
theorem dX4_copyFrom_4 : decode cX4_copyFrom 4 = .ok (.iconst 0, 1) := by decide +kernel
theorem dX4_copyFrom_5 : decode cX4_copyFrom 5 = .ok (.aload_n 0, 1) := by decide +kernel
theorem dX4_copyFrom_6 : decode cX4_copyFrom 6 = .ok (.getfield 9, 3) := by decide +kernel
theorem dX4_copyFrom_9 : decode cX4_copyFrom 9 = .ok (.iconst 0, 1) := by decide +kernel
theorem dX4_copyFrom_10 : decode cX4_copyFrom 10 = .ok (.bipush 8, 2) := by decide +kernel
theorem dX4_copyFrom_12 : decode cX4_copyFrom 12 = .ok (.invokestatic 52, 3) := by decide +kernel
theorem dX4_copyFrom_15 : decode cX4_copyFrom 15 = .ok (.aload_n 1, 1) := by decide +kernel
theorem dX4_copyFrom_16 : decode cX4_copyFrom 16 = .ok (.getfield 15, 3) := by decide +kernel
theorem dX4_copyFrom_19 : decode cX4_copyFrom 19 = .ok (.iconst 0, 1) := by decide +kernel
theorem dX4_copyFrom_20 : decode cX4_copyFrom 20 = .ok (.aload_n 0, 1) := by decide +kernel
theorem dX4_copyFrom_21 : decode cX4_copyFrom 21 = .ok (.getfield 15, 3) := by decide +kernel
theorem dX4_copyFrom_24 : decode cX4_copyFrom 24 = .ok (.iconst 0, 1) := by decide +kernel
theorem dX4_copyFrom_25 : decode cX4_copyFrom 25 = .ok (.bipush 64, 2) := by decide +kernel
theorem dX4_copyFrom_27 : decode cX4_copyFrom 27 = .ok (.invokestatic 52, 3) := by decide +kernel
theorem dX4_copyFrom_30 : decode cX4_copyFrom 30 = .ok (.aload_n 0, 1) := by decide +kernel
theorem dX4_copyFrom_31 : decode cX4_copyFrom 31 = .ok (.getfield 21, 3) := by decide +kernel
theorem dX4_copyFrom_34 : decode cX4_copyFrom 34 = .ok (.aload_n 1, 1) := by decide +kernel
theorem dX4_copyFrom_35 : decode cX4_copyFrom 35 = .ok (.getfield 21, 3) := by decide +kernel
theorem dX4_copyFrom_38 : decode cX4_copyFrom 38 = .ok (.invokevirtual 58, 3) := by decide +kernel
theorem dX4_copyFrom_41 : decode cX4_copyFrom 41 = .ok (.aload_n 0, 1) := by decide +kernel
theorem dX4_copyFrom_42 : decode cX4_copyFrom 42 = .ok (.getfield 28, 3) := by decide +kernel
theorem dX4_copyFrom_45 : decode cX4_copyFrom 45 = .ok (.aload_n 1, 1) := by decide +kernel
theorem dX4_copyFrom_46 : decode cX4_copyFrom 46 = .ok (.getfield 28, 3) := by decide +kernel
theorem dX4_copyFrom_49 : decode cX4_copyFrom 49 = .ok (.invokevirtual 62, 3) := by decide +kernel
theorem dX4_copyFrom_52 : decode cX4_copyFrom 52 = .ok (.aload_n 0, 1) := by decide +kernel
theorem dX4_copyFrom_53 : decode cX4_copyFrom 53 = .ok (.getfield 35, 3) := by decide +kernel
theorem dX4_copyFrom_56 : decode cX4_copyFrom 56 = .ok (.aload_n 1, 1) := by decide +kernel
theorem dX4_copyFrom_57 : decode cX4_copyFrom 57 = .ok (.getfield 35, 3) := by decide +kernel
theorem dX4_copyFrom_60 : decode cX4_copyFrom 60 = .ok (.invokevirtual 65, 3) := by decide +kernel
theorem dX4_copyFrom_63 : decode cX4_copyFrom 63 = .ok (.aload_n 0, 1) := by decide +kernel
theorem dX4_copyFrom_64 : decode cX4_copyFrom 64 = .ok (.aload_n 1, 1) := by decide +kernel
theorem dX4_copyFrom_65 : decode cX4_copyFrom 65 = .ok (.getfield 39, 3) := by decide +kernel
theorem dX4_copyFrom_68 : decode cX4_copyFrom 68 = .ok (.putfield 39, 3) := by decide +kernel
theorem dX4_copyFrom_71 : decode cX4_copyFrom 71 = .ok (.aload_n 0, 1) := by decide +kernel
theorem dX4_copyFrom_72 : decode cX4_copyFrom 72 = .ok (.aload_n 1, 1) := by decide +kernel
theorem dX4_copyFrom_73 : decode cX4_copyFrom 73 = .ok (.getfield 43, 3) := by decide +kernel
theorem dX4_copyFrom_76 : decode cX4_copyFrom 76 = .ok (.putfield 43, 3) := by decide +kernel
theorem dX4_copyFrom_79 : decode cX4_copyFrom 79 = .ok (.aload_n 0, 1) := by decide +kernel
theorem dX4_copyFrom_80 : decode cX4_copyFrom 80 = .ok (.aload_n 1, 1) := by decide +kernel
theorem dX4_copyFrom_81 : decode cX4_copyFrom 81 = .ok (.getfield 46, 3) := by decide +kernel
theorem dX4_copyFrom_84 : decode cX4_copyFrom 84 = .ok (.putfield 46, 3) := by decide +kernel
theorem dX4_copyFrom_87 : decode cX4_copyFrom 87 = .ok (.aload_n 0, 1) := by decide +kernel
theorem dX4_copyFrom_88 : decode cX4_copyFrom 88 = .ok (.aload_n 1, 1) := by decide +kernel
theorem dX4_copyFrom_89 : decode cX4_copyFrom 89 = .ok (.getfield 49, 3) := by decide +kernel
theorem dX4_copyFrom_92 : decode cX4_copyFrom 92 = .ok (.putfield 49, 3) := by decide +kernel
theorem dX4_copyFrom_95 : decode cX4_copyFrom 95 = .ok (.return_, 1) := by decide +kernel
theorem dX4_routeRows_0 : decode cX4_routeRows 0 = .ok (.aload_n 0, 1) := by decide +kernel
theorem dX4_routeRows_1 : decode cX4_routeRows 1 = .ok (.getfield 21, 3) := by decide +kernel
theorem dX4_routeRows_4 : decode cX4_routeRows 4 = .ok (.areturn, 1) := by decide +kernel
theorem dX4_portRows_0 : decode cX4_portRows 0 = .ok (.aload_n 0, 1) := by decide +kernel
theorem dX4_portRows_1 : decode cX4_portRows 1 = .ok (.getfield 28, 3) := by decide +kernel
theorem dX4_portRows_4 : decode cX4_portRows 4 = .ok (.areturn, 1) := by decide +kernel
theorem dX4_callRows_0 : decode cX4_callRows 0 = .ok (.aload_n 0, 1) := by decide +kernel
theorem dX4_callRows_1 : decode cX4_callRows 1 = .ok (.getfield 35, 3) := by decide +kernel
theorem dX4_callRows_4 : decode cX4_callRows 4 = .ok (.areturn, 1) := by decide +kernel
theorem dX4_switchCount_0 : decode cX4_switchCount 0 = .ok (.aload_n 0, 1) := by decide +kernel
theorem dX4_switchCount_1 : decode cX4_switchCount 1 = .ok (.getfield 39, 3) := by decide +kernel
theorem dX4_switchCount_4 : decode cX4_switchCount 4 = .ok (.ireturn, 1) := by decide +kernel
theorem dX4_hopLimit_0 : decode cX4_hopLimit 0 = .ok (.aload_n 0, 1) := by decide +kernel
theorem dX4_hopLimit_1 : decode cX4_hopLimit 1 = .ok (.getfield 46, 3) := by decide +kernel
theorem dX4_hopLimit_4 : decode cX4_hopLimit 4 = .ok (.ireturn, 1) := by decide +kernel
theorem dX4_minutes_0 : decode cX4_minutes 0 = .ok (.aload_n 0, 1) := by decide +kernel
theorem dX4_minutes_1 : decode cX4_minutes 1 = .ok (.getfield 49, 3) := by decide +kernel
theorem dX4_minutes_4 : decode cX4_minutes 4 = .ok (.ireturn, 1) := by decide +kernel
theorem dX4_hasSwitch_0 : decode cX4_hasSwitch 0 = .ok (.iload_n 1, 1) := by decide +kernel
theorem dX4_hasSwitch_1 : decode cX4_hasSwitch 1 = .ok (.ifCond .lt 21, 3) := by decide +kernel
theorem dX4_hasSwitch_4 : decode cX4_hasSwitch 4 = .ok (.iload_n 1, 1) := by decide +kernel
theorem dX4_hasSwitch_5 : decode cX4_hasSwitch 5 = .ok (.aload_n 0, 1) := by decide +kernel
theorem dX4_hasSwitch_6 : decode cX4_hasSwitch 6 = .ok (.getfield 39, 3) := by decide +kernel
theorem dX4_hasSwitch_9 : decode cX4_hasSwitch 9 = .ok (.if_icmp .ge 13, 3) := by decide +kernel
theorem dX4_hasSwitch_12 : decode cX4_hasSwitch 12 = .ok (.iload_n 1, 1) := by decide +kernel
theorem dX4_hasSwitch_13 : decode cX4_hasSwitch 13 = .ok (.bipush 8, 2) := by decide +kernel
theorem dX4_hasSwitch_15 : decode cX4_hasSwitch 15 = .ok (.if_icmp .ge 7, 3) := by decide +kernel
theorem dX4_hasSwitch_18 : decode cX4_hasSwitch 18 = .ok (.iconst 1, 1) := by decide +kernel
theorem dX4_hasSwitch_19 : decode cX4_hasSwitch 19 = .ok (.goto 4, 3) := by decide +kernel
theorem dX4_hasSwitch_22 : decode cX4_hasSwitch 22 = .ok (.iconst 0, 1) := by decide +kernel
theorem dX4_hasSwitch_23 : decode cX4_hasSwitch 23 = .ok (.ireturn, 1) := by decide +kernel
theorem dX4_putSwitch_0 : decode cX4_putSwitch 0 = .ok (.aload_n 0, 1) := by decide +kernel
theorem dX4_putSwitch_1 : decode cX4_putSwitch 1 = .ok (.getfield 39, 3) := by decide +kernel
theorem dX4_putSwitch_4 : decode cX4_putSwitch 4 = .ok (.istore_n 1, 1) := by decide +kernel
theorem dX4_putSwitch_5 : decode cX4_putSwitch 5 = .ok (.iload_n 1, 1) := by decide +kernel
theorem dX4_putSwitch_6 : decode cX4_putSwitch 6 = .ok (.bipush 8, 2) := by decide +kernel
theorem dX4_putSwitch_8 : decode cX4_putSwitch 8 = .ok (.if_icmp .lt 6, 3) := by decide +kernel
theorem dX4_putSwitch_11 : decode cX4_putSwitch 11 = .ok (.bipush (-3), 2) := by decide +kernel
theorem dX4_putSwitch_13 : decode cX4_putSwitch 13 = .ok (.ireturn, 1) := by decide +kernel
theorem dX4_putSwitch_14 : decode cX4_putSwitch 14 = .ok (.aload_n 0, 1) := by decide +kernel
theorem dX4_putSwitch_15 : decode cX4_putSwitch 15 = .ok (.getfield 9, 3) := by decide +kernel
theorem dX4_putSwitch_18 : decode cX4_putSwitch 18 = .ok (.iload_n 1, 1) := by decide +kernel
theorem dX4_putSwitch_19 : decode cX4_putSwitch 19 = .ok (.bipush 30, 2) := by decide +kernel
theorem dX4_putSwitch_21 : decode cX4_putSwitch 21 = .ok (.iastore, 1) := by decide +kernel
theorem dX4_putSwitch_22 : decode cX4_putSwitch 22 = .ok (.aload_n 0, 1) := by decide +kernel
theorem dX4_putSwitch_23 : decode cX4_putSwitch 23 = .ok (.iload_n 1, 1) := by decide +kernel
theorem dX4_putSwitch_24 : decode cX4_putSwitch 24 = .ok (.iconst 1, 1) := by decide +kernel
theorem dX4_putSwitch_25 : decode cX4_putSwitch 25 = .ok (.iadd, 1) := by decide +kernel
theorem dX4_putSwitch_26 : decode cX4_putSwitch 26 = .ok (.putfield 39, 3) := by decide +kernel
theorem dX4_putSwitch_29 : decode cX4_putSwitch 29 = .ok (.iload_n 1, 1) := by decide +kernel
theorem dX4_putSwitch_30 : decode cX4_putSwitch 30 = .ok (.ireturn, 1) := by decide +kernel
theorem dX4_looksUp_0 : decode cX4_looksUp 0 = .ok (.aload_n 0, 1) := by decide +kernel
theorem dX4_looksUp_1 : decode cX4_looksUp 1 = .ok (.iload_n 1, 1) := by decide +kernel
theorem dX4_looksUp_2 : decode cX4_looksUp 2 = .ok (.invokevirtual 68, 3) := by decide +kernel
theorem dX4_looksUp_5 : decode cX4_looksUp 5 = .ok (.ifCond .eq 18, 3) := by decide +kernel
theorem dX4_looksUp_8 : decode cX4_looksUp 8 = .ok (.aload_n 0, 1) := by decide +kernel
theorem dX4_looksUp_9 : decode cX4_looksUp 9 = .ok (.getfield 43, 3) := by decide +kernel
theorem dX4_looksUp_12 : decode cX4_looksUp 12 = .ok (.iload_n 1, 1) := by decide +kernel
theorem dX4_looksUp_13 : decode cX4_looksUp 13 = .ok (.ishr, 1) := by decide +kernel
theorem dX4_looksUp_14 : decode cX4_looksUp 14 = .ok (.iconst 1, 1) := by decide +kernel
theorem dX4_looksUp_15 : decode cX4_looksUp 15 = .ok (.iand, 1) := by decide +kernel
theorem dX4_looksUp_16 : decode cX4_looksUp 16 = .ok (.ifCond .eq 7, 3) := by decide +kernel
theorem dX4_looksUp_19 : decode cX4_looksUp 19 = .ok (.iconst 1, 1) := by decide +kernel
theorem dX4_looksUp_20 : decode cX4_looksUp 20 = .ok (.goto 4, 3) := by decide +kernel
theorem dX4_looksUp_23 : decode cX4_looksUp 23 = .ok (.iconst 0, 1) := by decide +kernel
theorem dX4_looksUp_24 : decode cX4_looksUp 24 = .ok (.ireturn, 1) := by decide +kernel
theorem dX4_changeLookup_0 : decode cX4_changeLookup 0 = .ok (.aload_n 0, 1) := by decide +kernel
theorem dX4_changeLookup_1 : decode cX4_changeLookup 1 = .ok (.iload_n 1, 1) := by decide +kernel
theorem dX4_changeLookup_2 : decode cX4_changeLookup 2 = .ok (.invokevirtual 68, 3) := by decide +kernel
theorem dX4_changeLookup_5 : decode cX4_changeLookup 5 = .ok (.ifCond .eq 32, 3) := by decide +kernel
theorem dX4_changeLookup_8 : decode cX4_changeLookup 8 = .ok (.aload_n 0, 1) := by decide +kernel
theorem dX4_changeLookup_9 : decode cX4_changeLookup 9 = .ok (.iload_n 2, 1) := by decide +kernel
theorem dX4_changeLookup_10 : decode cX4_changeLookup 10 = .ok (.ifCond .eq 14, 3) := by decide +kernel
theorem dX4_changeLookup_13 : decode cX4_changeLookup 13 = .ok (.aload_n 0, 1) := by decide +kernel
theorem dX4_changeLookup_14 : decode cX4_changeLookup 14 = .ok (.getfield 43, 3) := by decide +kernel
theorem dX4_changeLookup_17 : decode cX4_changeLookup 17 = .ok (.iconst 1, 1) := by decide +kernel
theorem dX4_changeLookup_18 : decode cX4_changeLookup 18 = .ok (.iload_n 1, 1) := by decide +kernel
theorem dX4_changeLookup_19 : decode cX4_changeLookup 19 = .ok (.ishl, 1) := by decide +kernel
theorem dX4_changeLookup_20 : decode cX4_changeLookup 20 = .ok (.ior, 1) := by decide +kernel
theorem dX4_changeLookup_21 : decode cX4_changeLookup 21 = .ok (.goto 13, 3) := by decide +kernel
theorem dX4_changeLookup_24 : decode cX4_changeLookup 24 = .ok (.aload_n 0, 1) := by decide +kernel
theorem dX4_changeLookup_25 : decode cX4_changeLookup 25 = .ok (.getfield 43, 3) := by decide +kernel
theorem dX4_changeLookup_28 : decode cX4_changeLookup 28 = .ok (.iconst 1, 1) := by decide +kernel
theorem dX4_changeLookup_29 : decode cX4_changeLookup 29 = .ok (.iload_n 1, 1) := by decide +kernel
theorem dX4_changeLookup_30 : decode cX4_changeLookup 30 = .ok (.ishl, 1) := by decide +kernel
theorem dX4_changeLookup_31 : decode cX4_changeLookup 31 = .ok (.iconst (-1), 1) := by decide +kernel
theorem dX4_changeLookup_32 : decode cX4_changeLookup 32 = .ok (.ixor, 1) := by decide +kernel
theorem dX4_changeLookup_33 : decode cX4_changeLookup 33 = .ok (.iand, 1) := by decide +kernel
theorem dX4_changeLookup_34 : decode cX4_changeLookup 34 = .ok (.putfield 43, 3) := by decide +kernel
theorem dX4_changeLookup_37 : decode cX4_changeLookup 37 = .ok (.return_, 1) := by decide +kernel
theorem dX4_changeCodes_0 : decode cX4_changeCodes 0 = .ok (.aload_n 0, 1) := by decide +kernel
theorem dX4_changeCodes_1 : decode cX4_changeCodes 1 = .ok (.iload_n 1, 1) := by decide +kernel
theorem dX4_changeCodes_2 : decode cX4_changeCodes 2 = .ok (.invokevirtual 68, 3) := by decide +kernel
theorem dX4_changeCodes_5 : decode cX4_changeCodes 5 = .ok (.ifCond .ne 5, 3) := by decide +kernel
theorem dX4_changeCodes_8 : decode cX4_changeCodes 8 = .ok (.iconst (-1), 1) := by decide +kernel
theorem dX4_changeCodes_9 : decode cX4_changeCodes 9 = .ok (.ireturn, 1) := by decide +kernel
theorem dX4_changeCodes_10 : decode cX4_changeCodes 10 = .ok (.aload_n 0, 1) := by decide +kernel
theorem dX4_changeCodes_11 : decode cX4_changeCodes 11 = .ok (.getfield 9, 3) := by decide +kernel
theorem dX4_changeCodes_14 : decode cX4_changeCodes 14 = .ok (.iload_n 1, 1) := by decide +kernel
theorem dX4_changeCodes_15 : decode cX4_changeCodes 15 = .ok (.iaload, 1) := by decide +kernel
theorem dX4_changeCodes_16 : decode cX4_changeCodes 16 = .ok (.istore_n 3, 1) := by decide +kernel
theorem dX4_changeCodes_17 : decode cX4_changeCodes 17 = .ok (.aload_n 0, 1) := by decide +kernel
theorem dX4_changeCodes_18 : decode cX4_changeCodes 18 = .ok (.getfield 9, 3) := by decide +kernel
theorem dX4_changeCodes_21 : decode cX4_changeCodes 21 = .ok (.iload_n 1, 1) := by decide +kernel
theorem dX4_changeCodes_22 : decode cX4_changeCodes 22 = .ok (.iload_n 2, 1) := by decide +kernel
theorem dX4_changeCodes_23 : decode cX4_changeCodes 23 = .ok (.iastore, 1) := by decide +kernel
theorem dX4_changeCodes_24 : decode cX4_changeCodes 24 = .ok (.iload_n 3, 1) := by decide +kernel
theorem dX4_changeCodes_25 : decode cX4_changeCodes 25 = .ok (.ireturn, 1) := by decide +kernel
theorem dX4_goesOn_0 : decode cX4_goesOn 0 = .ok (.aload_n 0, 1) := by decide +kernel
theorem dX4_goesOn_1 : decode cX4_goesOn 1 = .ok (.iload_n 1, 1) := by decide +kernel
theorem dX4_goesOn_2 : decode cX4_goesOn 2 = .ok (.invokevirtual 68, 3) := by decide +kernel
theorem dX4_goesOn_5 : decode cX4_goesOn 5 = .ok (.ifCond .eq 20, 3) := by decide +kernel
theorem dX4_goesOn_8 : decode cX4_goesOn 8 = .ok (.aload_n 0, 1) := by decide +kernel
theorem dX4_goesOn_9 : decode cX4_goesOn 9 = .ok (.getfield 9, 3) := by decide +kernel
theorem dX4_goesOn_12 : decode cX4_goesOn 12 = .ok (.iload_n 1, 1) := by decide +kernel
theorem dX4_goesOn_13 : decode cX4_goesOn 13 = .ok (.iaload, 1) := by decide +kernel
theorem dX4_goesOn_14 : decode cX4_goesOn 14 = .ok (.iload_n 2, 1) := by decide +kernel
theorem dX4_goesOn_15 : decode cX4_goesOn 15 = .ok (.ishr, 1) := by decide +kernel
theorem dX4_goesOn_16 : decode cX4_goesOn 16 = .ok (.iconst 1, 1) := by decide +kernel
theorem dX4_goesOn_17 : decode cX4_goesOn 17 = .ok (.iand, 1) := by decide +kernel
theorem dX4_goesOn_18 : decode cX4_goesOn 18 = .ok (.ifCond .eq 7, 3) := by decide +kernel
theorem dX4_goesOn_21 : decode cX4_goesOn 21 = .ok (.iconst 1, 1) := by decide +kernel
theorem dX4_goesOn_22 : decode cX4_goesOn 22 = .ok (.goto 4, 3) := by decide +kernel
theorem dX4_goesOn_25 : decode cX4_goesOn 25 = .ok (.iconst 0, 1) := by decide +kernel
theorem dX4_goesOn_26 : decode cX4_goesOn 26 = .ok (.ireturn, 1) := by decide +kernel
theorem dX4_changeLimit_0 : decode cX4_changeLimit 0 = .ok (.aload_n 0, 1) := by decide +kernel
theorem dX4_changeLimit_1 : decode cX4_changeLimit 1 = .ok (.getfield 46, 3) := by decide +kernel
theorem dX4_changeLimit_4 : decode cX4_changeLimit 4 = .ok (.istore_n 2, 1) := by decide +kernel
theorem dX4_changeLimit_5 : decode cX4_changeLimit 5 = .ok (.aload_n 0, 1) := by decide +kernel
theorem dX4_changeLimit_6 : decode cX4_changeLimit 6 = .ok (.iload_n 1, 1) := by decide +kernel
theorem dX4_changeLimit_7 : decode cX4_changeLimit 7 = .ok (.putfield 46, 3) := by decide +kernel
theorem dX4_changeLimit_10 : decode cX4_changeLimit 10 = .ok (.iload_n 2, 1) := by decide +kernel
theorem dX4_changeLimit_11 : decode cX4_changeLimit 11 = .ok (.ireturn, 1) := by decide +kernel
theorem dX4_letPass_0 : decode cX4_letPass 0 = .ok (.aload_n 0, 1) := by decide +kernel
theorem dX4_letPass_1 : decode cX4_letPass 1 = .ok (.dup, 1) := by decide +kernel
theorem dX4_letPass_2 : decode cX4_letPass 2 = .ok (.getfield 49, 3) := by decide +kernel
theorem dX4_letPass_5 : decode cX4_letPass 5 = .ok (.iload_n 1, 1) := by decide +kernel
theorem dX4_letPass_6 : decode cX4_letPass 6 = .ok (.iadd, 1) := by decide +kernel
theorem dX4_letPass_7 : decode cX4_letPass 7 = .ok (.putfield 49, 3) := by decide +kernel
theorem dX4_letPass_10 : decode cX4_letPass 10 = .ok (.aload_n 0, 1) := by decide +kernel
theorem dX4_letPass_11 : decode cX4_letPass 11 = .ok (.getfield 49, 3) := by decide +kernel
theorem dX4_letPass_14 : decode cX4_letPass 14 = .ok (.ireturn, 1) := by decide +kernel
theorem dX4_routeRefusal_0 : decode cX4_routeRefusal 0 = .ok (.aload_n 0, 1) := by decide +kernel
theorem dX4_routeRefusal_1 : decode cX4_routeRefusal 1 = .ok (.iload_n 1, 1) := by decide +kernel
theorem dX4_routeRefusal_2 : decode cX4_routeRefusal 2 = .ok (.invokevirtual 68, 3) := by decide +kernel
theorem dX4_routeRefusal_5 : decode cX4_routeRefusal 5 = .ok (.ifCond .eq 44, 3) := by decide +kernel
theorem dX4_routeRefusal_8 : decode cX4_routeRefusal 8 = .ok (.iload_n 2, 1) := by decide +kernel
theorem dX4_routeRefusal_9 : decode cX4_routeRefusal 9 = .ok (.iconst 0, 1) := by decide +kernel
theorem dX4_routeRefusal_10 : decode cX4_routeRefusal 10 = .ok (.ldc 72, 2) := by decide +kernel
theorem dX4_routeRefusal_12 : decode cX4_routeRefusal 12 = .ok (.invokestatic 73, 3) := by decide +kernel
theorem dX4_routeRefusal_15 : decode cX4_routeRefusal 15 = .ok (.ifCond .eq 34, 3) := by decide +kernel
theorem dX4_routeRefusal_18 : decode cX4_routeRefusal 18 = .ok (.aload_n 0, 1) := by decide +kernel
theorem dX4_routeRefusal_19 : decode cX4_routeRefusal 19 = .ok (.iload_n 3, 1) := by decide +kernel
theorem dX4_routeRefusal_20 : decode cX4_routeRefusal 20 = .ok (.invokevirtual 68, 3) := by decide +kernel
theorem dX4_routeRefusal_23 : decode cX4_routeRefusal 23 = .ok (.ifCond .eq 26, 3) := by decide +kernel
theorem dX4_routeRefusal_26 : decode cX4_routeRefusal 26 = .ok (.iload 4, 2) := by decide +kernel
theorem dX4_routeRefusal_28 : decode cX4_routeRefusal 28 = .ok (.iconst 0, 1) := by decide +kernel
theorem dX4_routeRefusal_29 : decode cX4_routeRefusal 29 = .ok (.sipush 1000, 3) := by decide +kernel
theorem dX4_routeRefusal_32 : decode cX4_routeRefusal 32 = .ok (.invokestatic 73, 3) := by decide +kernel
theorem dX4_routeRefusal_35 : decode cX4_routeRefusal 35 = .ok (.ifCond .eq 14, 3) := by decide +kernel
theorem dX4_routeRefusal_38 : decode cX4_routeRefusal 38 = .ok (.iload 5, 2) := by decide +kernel
theorem dX4_routeRefusal_40 : decode cX4_routeRefusal 40 = .ok (.iconst 1, 1) := by decide +kernel
theorem dX4_routeRefusal_41 : decode cX4_routeRefusal 41 = .ok (.bipush 20, 2) := by decide +kernel
theorem dX4_routeRefusal_43 : decode cX4_routeRefusal 43 = .ok (.invokestatic 73, 3) := by decide +kernel
theorem dX4_routeRefusal_46 : decode cX4_routeRefusal 46 = .ok (.ifCond .ne 5, 3) := by decide +kernel
theorem dX4_routeRefusal_49 : decode cX4_routeRefusal 49 = .ok (.iconst (-1), 1) := by decide +kernel
theorem dX4_routeRefusal_50 : decode cX4_routeRefusal 50 = .ok (.ireturn, 1) := by decide +kernel
theorem dX4_routeRefusal_51 : decode cX4_routeRefusal 51 = .ok (.aload_n 0, 1) := by decide +kernel
theorem dX4_routeRefusal_52 : decode cX4_routeRefusal 52 = .ok (.getfield 21, 3) := by decide +kernel
theorem dX4_routeRefusal_55 : decode cX4_routeRefusal 55 = .ok (.invokevirtual 77, 3) := by decide +kernel
theorem dX4_routeRefusal_58 : decode cX4_routeRefusal 58 = .ok (.bipush 40, 2) := by decide +kernel
theorem dX4_routeRefusal_60 : decode cX4_routeRefusal 60 = .ok (.if_icmp .lt 8, 3) := by decide +kernel
theorem dX4_routeRefusal_63 : decode cX4_routeRefusal 63 = .ok (.bipush (-3), 2) := by decide +kernel
theorem dX4_routeRefusal_65 : decode cX4_routeRefusal 65 = .ok (.goto 4, 3) := by decide +kernel
theorem dX4_routeRefusal_68 : decode cX4_routeRefusal 68 = .ok (.iconst 0, 1) := by decide +kernel
theorem dX4_routeRefusal_69 : decode cX4_routeRefusal 69 = .ok (.ireturn, 1) := by decide +kernel
theorem dX4_portRefusal_0 : decode cX4_portRefusal 0 = .ok (.aload_n 0, 1) := by decide +kernel
theorem dX4_portRefusal_1 : decode cX4_portRefusal 1 = .ok (.iload_n 2, 1) := by decide +kernel
theorem dX4_portRefusal_2 : decode cX4_portRefusal 2 = .ok (.invokevirtual 68, 3) := by decide +kernel
theorem dX4_portRefusal_5 : decode cX4_portRefusal 5 = .ok (.ifCond .eq 10, 3) := by decide +kernel
theorem dX4_portRefusal_8 : decode cX4_portRefusal 8 = .ok (.iload_n 1, 1) := by decide +kernel
theorem dX4_portRefusal_9 : decode cX4_portRefusal 9 = .ok (.invokestatic 81, 3) := by decide +kernel
