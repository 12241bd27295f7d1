theorem dX0_init_0 : decode cX0_init 0 = .ok (.aload_n 0, 1) := by decide +kernel
theorem dX0_init_1 : decode cX0_init 1 = .ok (.invokespecial 3, 3) := by decide +kernel
theorem dX0_init_4 : decode cX0_init 4 = .ok (.aload_n 0, 1) := by decide +kernel
theorem dX0_init_5 : decode cX0_init 5 = .ok (.iconst 4, 1) := by decide +kernel
theorem dX0_init_6 : decode cX0_init 6 = .ok (.newarray .int, 2) := by decide +kernel
theorem dX0_init_8 : decode cX0_init 8 = .ok (.putfield 9, 3) := by decide +kernel
theorem dX0_init_11 : decode cX0_init 11 = .ok (.aload_n 0, 1) := by decide +kernel
theorem dX0_init_12 : decode cX0_init 12 = .ok (.bipush (-9), 2) := by decide +kernel
theorem dX0_init_14 : decode cX0_init 14 = .ok (.putfield 15, 3) := by decide +kernel
theorem dX0_init_17 : decode cX0_init 17 = .ok (.return_, 1) := by decide +kernel
theorem dX0_startAnew_0 : decode cX0_startAnew 0 = .ok (.aload_n 0, 1) := by decide +kernel
theorem dX0_startAnew_1 : decode cX0_startAnew 1 = .ok (.iload_n 1, 1) := by decide +kernel
theorem dX0_startAnew_2 : decode cX0_startAnew 2 = .ok (.putfield 19, 3) := by decide +kernel
theorem dX0_startAnew_5 : decode cX0_startAnew 5 = .ok (.aload_n 0, 1) := by decide +kernel
theorem dX0_startAnew_6 : decode cX0_startAnew 6 = .ok (.iload_n 2, 1) := by decide +kernel
theorem dX0_startAnew_7 : decode cX0_startAnew 7 = .ok (.putfield 22, 3) := by decide +kernel
theorem dX0_startAnew_10 : decode cX0_startAnew 10 = .ok (.aload_n 0, 1) := by decide +kernel
theorem dX0_startAnew_11 : decode cX0_startAnew 11 = .ok (.bipush (-9), 2) := by decide +kernel
theorem dX0_startAnew_13 : decode cX0_startAnew 13 = .ok (.putfield 15, 3) := by decide +kernel
theorem dX0_startAnew_16 : decode cX0_startAnew 16 = .ok (.aload_n 0, 1) := by decide +kernel
theorem dX0_startAnew_17 : decode cX0_startAnew 17 = .ok (.iconst 0, 1) := by decide +kernel
theorem dX0_startAnew_18 : decode cX0_startAnew 18 = .ok (.putfield 25, 3) := by decide +kernel
theorem dX0_startAnew_21 : decode cX0_startAnew 21 = .ok (.aload_n 0, 1) := by decide +kernel
theorem dX0_startAnew_22 : decode cX0_startAnew 22 = .ok (.iconst 0, 1) := by decide +kernel
theorem dX0_startAnew_23 : decode cX0_startAnew 23 = .ok (.putfield 28, 3) := by decide +kernel
theorem dX0_startAnew_26 : decode cX0_startAnew 26 = .ok (.aload_n 0, 1) := by decide +kernel
theorem dX0_startAnew_27 : decode cX0_startAnew 27 = .ok (.iconst 0, 1) := by decide +kernel
theorem dX0_startAnew_28 : decode cX0_startAnew 28 = .ok (.putfield 32, 3) := by decide +kernel
theorem dX0_startAnew_31 : decode cX0_startAnew 31 = .ok (.return_, 1) := by decide +kernel
theorem dX0_copyFrom_0 : decode cX0_copyFrom 0 = .ok (.iconst 0, 1) := by decide +kernel
theorem dX0_copyFrom_1 : decode cX0_copyFrom 1 = .ok (.istore_n 2, 1) := by decide +kernel
theorem dX0_copyFrom_2 : decode cX0_copyFrom 2 = .ok (.iload_n 2, 1) := by decide +kernel
theorem dX0_copyFrom_3 : decode cX0_copyFrom 3 = .ok (.aload_n 0, 1) := by decide +kernel
theorem dX0_copyFrom_4 : decode cX0_copyFrom 4 = .ok (.getfield 9, 3) := by decide +kernel
theorem dX0_copyFrom_7 : decode cX0_copyFrom 7 = .ok (.arraylength, 1) := by decide +kernel
theorem dX0_copyFrom_8 : decode cX0_copyFrom 8 = .ok (.if_icmp .ge 20, 3) := by decide +kernel
theorem dX0_copyFrom_11 : decode cX0_copyFrom 11 = .ok (.aload_n 0, 1) := by decide +kernel
theorem dX0_copyFrom_12 : decode cX0_copyFrom 12 = .ok (.getfield 9, 3) := by decide +kernel
theorem dX0_copyFrom_15 : decode cX0_copyFrom 15 = .ok (.iload_n 2, 1) := by decide +kernel
theorem dX0_copyFrom_16 : decode cX0_copyFrom 16 = .ok (.aload_n 1, 1) := by decide +kernel
theorem dX0_copyFrom_17 : decode cX0_copyFrom 17 = .ok (.iload_n 2, 1) := by decide +kernel
theorem dX0_copyFrom_18 : decode cX0_copyFrom 18 = .ok (.invokevirtual 35, 3) := by decide +kernel
theorem dX0_copyFrom_21 : decode cX0_copyFrom 21 = .ok (.iastore, 1) := by decide +kernel
theorem dX0_copyFrom_22 : decode cX0_copyFrom 22 = .ok (.iinc 2 1, 3) := by decide +kernel
theorem dX0_copyFrom_25 : decode cX0_copyFrom 25 = .ok (.goto (-23), 3) := by decide +kernel
theorem dX0_copyFrom_28 : decode cX0_copyFrom 28 = .ok (.aload_n 0, 1) := by decide +kernel
theorem dX0_copyFrom_29 : decode cX0_copyFrom 29 = .ok (.aload_n 1, 1) := by decide +kernel
theorem dX0_copyFrom_30 : decode cX0_copyFrom 30 = .ok (.getfield 19, 3) := by decide +kernel
theorem dX0_copyFrom_33 : decode cX0_copyFrom 33 = .ok (.putfield 19, 3) := by decide +kernel
theorem dX0_copyFrom_36 : decode cX0_copyFrom 36 = .ok (.aload_n 0, 1) := by decide +kernel
theorem dX0_copyFrom_37 : decode cX0_copyFrom 37 = .ok (.aload_n 1, 1) := by decide +kernel
theorem dX0_copyFrom_38 : decode cX0_copyFrom 38 = .ok (.getfield 22, 3) := by decide +kernel
theorem dX0_copyFrom_41 : decode cX0_copyFrom 41 = .ok (.putfield 22, 3) := by decide +kernel
theorem dX0_copyFrom_44 : decode cX0_copyFrom 44 = .ok (.aload_n 0, 1) := by decide +kernel
theorem dX0_copyFrom_45 : decode cX0_copyFrom 45 = .ok (.aload_n 1, 1) := by decide +kernel
theorem dX0_copyFrom_46 : decode cX0_copyFrom 46 = .ok (.getfield 15, 3) := by decide +kernel
theorem dX0_copyFrom_49 : decode cX0_copyFrom 49 = .ok (.putfield 15, 3) := by decide +kernel
theorem dX0_copyFrom_52 : decode cX0_copyFrom 52 = .ok (.aload_n 0, 1) := by decide +kernel
theorem dX0_copyFrom_53 : decode cX0_copyFrom 53 = .ok (.aload_n 1, 1) := by decide +kernel
theorem dX0_copyFrom_54 : decode cX0_copyFrom 54 = .ok (.getfield 25, 3) := by decide +kernel
theorem dX0_copyFrom_57 : decode cX0_copyFrom 57 = .ok (.putfield 25, 3) := by decide +kernel
theorem dX0_copyFrom_60 : decode cX0_copyFrom 60 = .ok (.aload_n 0, 1) := by decide +kernel
theorem dX0_copyFrom_61 : decode cX0_copyFrom 61 = .ok (.aload_n 1, 1) := by decide +kernel
theorem dX0_copyFrom_62 : decode cX0_copyFrom 62 = .ok (.getfield 28, 3) := by decide +kernel
theorem dX0_copyFrom_65 : decode cX0_copyFrom 65 = .ok (.putfield 28, 3) := by decide +kernel
theorem dX0_copyFrom_68 : decode cX0_copyFrom 68 = .ok (.aload_n 0, 1) := by decide +kernel
theorem dX0_copyFrom_69 : decode cX0_copyFrom 69 = .ok (.aload_n 1, 1) := by decide +kernel
theorem dX0_copyFrom_70 : decode cX0_copyFrom 70 = .ok (.getfield 32, 3) := by decide +kernel
theorem dX0_copyFrom_73 : decode cX0_copyFrom 73 = .ok (.putfield 32, 3) := by decide +kernel
theorem dX0_copyFrom_76 : decode cX0_copyFrom 76 = .ok (.return_, 1) := by decide +kernel
theorem dX0_strengthOf_0 : decode cX0_strengthOf 0 = .ok (.iload_n 1, 1) := by decide +kernel
theorem dX0_strengthOf_1 : decode cX0_strengthOf 1 = .ok (.ifCond .lt 21, 3) := by decide +kernel
theorem dX0_strengthOf_4 : decode cX0_strengthOf 4 = .ok (.iload_n 1, 1) := by decide +kernel
theorem dX0_strengthOf_5 : decode cX0_strengthOf 5 = .ok (.aload_n 0, 1) := by decide +kernel
theorem dX0_strengthOf_6 : decode cX0_strengthOf 6 = .ok (.getfield 9, 3) := by decide +kernel
theorem dX0_strengthOf_9 : decode cX0_strengthOf 9 = .ok (.arraylength, 1) := by decide +kernel
theorem dX0_strengthOf_10 : decode cX0_strengthOf 10 = .ok (.if_icmp .ge 12, 3) := by decide +kernel
theorem dX0_strengthOf_13 : decode cX0_strengthOf 13 = .ok (.aload_n 0, 1) := by decide +kernel
theorem dX0_strengthOf_14 : decode cX0_strengthOf 14 = .ok (.getfield 9, 3) := by decide +kernel
theorem dX0_strengthOf_17 : decode cX0_strengthOf 17 = .ok (.iload_n 1, 1) := by decide +kernel
theorem dX0_strengthOf_18 : decode cX0_strengthOf 18 = .ok (.iaload, 1) := by decide +kernel
theorem dX0_strengthOf_19 : decode cX0_strengthOf 19 = .ok (.goto 4, 3) := by decide +kernel
theorem dX0_strengthOf_22 : decode cX0_strengthOf 22 = .ok (.iconst 0, 1) := by decide +kernel
theorem dX0_strengthOf_23 : decode cX0_strengthOf 23 = .ok (.ireturn, 1) := by decide +kernel
theorem dX0_setStrength_0 : decode cX0_setStrength 0 = .ok (.iload_n 1, 1) := by decide +kernel
theorem dX0_setStrength_1 : decode cX0_setStrength 1 = .ok (.ifCond .lt 19, 3) := by decide +kernel
theorem dX0_setStrength_4 : decode cX0_setStrength 4 = .ok (.iload_n 1, 1) := by decide +kernel
theorem dX0_setStrength_5 : decode cX0_setStrength 5 = .ok (.aload_n 0, 1) := by decide +kernel
theorem dX0_setStrength_6 : decode cX0_setStrength 6 = .ok (.getfield 9, 3) := by decide +kernel
theorem dX0_setStrength_9 : decode cX0_setStrength 9 = .ok (.arraylength, 1) := by decide +kernel
theorem dX0_setStrength_10 : decode cX0_setStrength 10 = .ok (.if_icmp .ge 10, 3) := by decide +kernel
theorem dX0_setStrength_13 : decode cX0_setStrength 13 = .ok (.aload_n 0, 1) := by decide +kernel
theorem dX0_setStrength_14 : decode cX0_setStrength 14 = .ok (.getfield 9, 3) := by decide +kernel
theorem dX0_setStrength_17 : decode cX0_setStrength 17 = .ok (.iload_n 1, 1) := by decide +kernel
theorem dX0_setStrength_18 : decode cX0_setStrength 18 = .ok (.iload_n 2, 1) := by decide +kernel
theorem dX0_setStrength_19 : decode cX0_setStrength 19 = .ok (.iastore, 1) := by decide +kernel
theorem dX0_setStrength_20 : decode cX0_setStrength 20 = .ok (.return_, 1) := by decide +kernel
theorem dX0_addStrength_0 : decode cX0_addStrength 0 = .ok (.aload_n 0, 1) := by decide +kernel
theorem dX0_addStrength_1 : decode cX0_addStrength 1 = .ok (.iload_n 1, 1) := by decide +kernel
theorem dX0_addStrength_2 : decode cX0_addStrength 2 = .ok (.iconst 0, 1) := by decide +kernel
theorem dX0_addStrength_3 : decode cX0_addStrength 3 = .ok (.bipush 9, 2) := by decide +kernel
theorem dX0_addStrength_5 : decode cX0_addStrength 5 = .ok (.aload_n 0, 1) := by decide +kernel
theorem dX0_addStrength_6 : decode cX0_addStrength 6 = .ok (.iload_n 1, 1) := by decide +kernel
theorem dX0_addStrength_7 : decode cX0_addStrength 7 = .ok (.invokevirtual 35, 3) := by decide +kernel
theorem dX0_addStrength_10 : decode cX0_addStrength 10 = .ok (.iload_n 2, 1) := by decide +kernel
theorem dX0_addStrength_11 : decode cX0_addStrength 11 = .ok (.iadd, 1) := by decide +kernel
theorem dX0_addStrength_12 : decode cX0_addStrength 12 = .ok (.invokestatic 39, 3) := by decide +kernel
theorem dX0_addStrength_15 : decode cX0_addStrength 15 = .ok (.invokestatic 45, 3) := by decide +kernel
theorem dX0_addStrength_18 : decode cX0_addStrength 18 = .ok (.invokevirtual 48, 3) := by decide +kernel
theorem dX0_addStrength_21 : decode cX0_addStrength 21 = .ok (.return_, 1) := by decide +kernel
theorem dX0_runOff_0 : decode cX0_runOff 0 = .ok (.aload_n 0, 1) := by decide +kernel
theorem dX0_runOff_1 : decode cX0_runOff 1 = .ok (.bipush 9, 2) := by decide +kernel
theorem dX0_runOff_3 : decode cX0_runOff 3 = .ok (.aload_n 0, 1) := by decide +kernel
theorem dX0_runOff_4 : decode cX0_runOff 4 = .ok (.getfield 22, 3) := by decide +kernel
theorem dX0_runOff_7 : decode cX0_runOff 7 = .ok (.iload_n 1, 1) := by decide +kernel
theorem dX0_runOff_8 : decode cX0_runOff 8 = .ok (.iadd, 1) := by decide +kernel
theorem dX0_runOff_9 : decode cX0_runOff 9 = .ok (.invokestatic 39, 3) := by decide +kernel
theorem dX0_runOff_12 : decode cX0_runOff 12 = .ok (.putfield 22, 3) := by decide +kernel
theorem dX0_runOff_15 : decode cX0_runOff 15 = .ok (.aload_n 0, 1) := by decide +kernel
theorem dX0_runOff_16 : decode cX0_runOff 16 = .ok (.bipush (-9), 2) := by decide +kernel
theorem dX0_runOff_18 : decode cX0_runOff 18 = .ok (.putfield 15, 3) := by decide +kernel
theorem dX0_runOff_21 : decode cX0_runOff 21 = .ok (.return_, 1) := by decide +kernel
theorem dX0_canBePaid_0 : decode cX0_canBePaid 0 = .ok (.aload_n 0, 1) := by decide +kernel
theorem dX0_canBePaid_1 : decode cX0_canBePaid 1 = .ok (.getfield 15, 3) := by decide +kernel
theorem dX0_canBePaid_4 : decode cX0_canBePaid 4 = .ok (.bipush (-9), 2) := by decide +kernel
theorem dX0_canBePaid_6 : decode cX0_canBePaid 6 = .ok (.if_icmp .eq 14, 3) := by decide +kernel
theorem dX0_canBePaid_9 : decode cX0_canBePaid 9 = .ok (.aload_n 0, 1) := by decide +kernel
theorem dX0_canBePaid_10 : decode cX0_canBePaid 10 = .ok (.getfield 19, 3) := by decide +kernel
theorem dX0_canBePaid_13 : decode cX0_canBePaid 13 = .ok (.ifCond .le 7, 3) := by decide +kernel
theorem dX0_canBePaid_16 : decode cX0_canBePaid 16 = .ok (.iconst 1, 1) := by decide +kernel
theorem dX0_canBePaid_17 : decode cX0_canBePaid 17 = .ok (.goto 4, 3) := by decide +kernel
theorem dX0_canBePaid_20 : decode cX0_canBePaid 20 = .ok (.iconst 0, 1) := by decide +kernel
theorem dX0_canBePaid_21 : decode cX0_canBePaid 21 = .ok (.ireturn, 1) := by decide +kernel
theorem dX0_bePaid_0 : decode cX0_bePaid 0 = .ok (.aload_n 0, 1) := by decide +kernel
theorem dX0_bePaid_1 : decode cX0_bePaid 1 = .ok (.dup, 1) := by decide +kernel
theorem dX0_bePaid_2 : decode cX0_bePaid 2 = .ok (.getfield 19, 3) := by decide +kernel
theorem dX0_bePaid_5 : decode cX0_bePaid 5 = .ok (.iconst 1, 1) := by decide +kernel
theorem dX0_bePaid_6 : decode cX0_bePaid 6 = .ok (.isub, 1) := by decide +kernel
theorem dX0_bePaid_7 : decode cX0_bePaid 7 = .ok (.putfield 19, 3) := by decide +kernel
theorem dX0_bePaid_10 : decode cX0_bePaid 10 = .ok (.aload_n 0, 1) := by decide +kernel
theorem dX0_bePaid_11 : decode cX0_bePaid 11 = .ok (.aload_n 0, 1) := by decide +kernel
theorem dX0_bePaid_12 : decode cX0_bePaid 12 = .ok (.getfield 15, 3) := by decide +kernel
theorem dX0_bePaid_15 : decode cX0_bePaid 15 = .ok (.iconst 1, 1) := by decide +kernel
theorem dX0_bePaid_16 : decode cX0_bePaid 16 = .ok (.invokevirtual 52, 3) := by decide +kernel
theorem dX0_bePaid_19 : decode cX0_bePaid 19 = .ok (.aload_n 0, 1) := by decide +kernel
theorem dX0_bePaid_20 : decode cX0_bePaid 20 = .ok (.bipush (-9), 2) := by decide +kernel
theorem dX0_bePaid_22 : decode cX0_bePaid 22 = .ok (.putfield 15, 3) := by decide +kernel
theorem dX0_bePaid_25 : decode cX0_bePaid 25 = .ok (.return_, 1) := by decide +kernel
theorem dX0_canBeLed_0 : decode cX0_canBeLed 0 = .ok (.aload_n 0, 1) := by decide +kernel
theorem dX0_canBeLed_1 : decode cX0_canBeLed 1 = .ok (.getfield 32, 3) := by decide +kernel
theorem dX0_canBeLed_4 : decode cX0_canBeLed 4 = .ok (.ifCond .ne 10, 3) := by decide +kernel
theorem dX0_canBeLed_7 : decode cX0_canBeLed 7 = .ok (.aload_n 0, 1) := by decide +kernel
theorem dX0_canBeLed_8 : decode cX0_canBeLed 8 = .ok (.getfield 22, 3) := by decide +kernel
theorem dX0_canBeLed_11 : decode cX0_canBeLed 11 = .ok (.ifCond .ne 7, 3) := by decide +kernel
theorem dX0_canBeLed_14 : decode cX0_canBeLed 14 = .ok (.iconst 1, 1) := by decide +kernel
theorem dX0_canBeLed_15 : decode cX0_canBeLed 15 = .ok (.goto 4, 3) := by decide +kernel
theorem dX0_canBeLed_18 : decode cX0_canBeLed 18 = .ok (.iconst 0, 1) := by decide +kernel
theorem dX0_canBeLed_19 : decode cX0_canBeLed 19 = .ok (.ireturn, 1) := by decide +kernel
theorem dX1_init_0 : decode cX1_init 0 = .ok (.aload_n 0, 1) := by decide +kernel
theorem dX1_init_1 : decode cX1_init 1 = .ok (.invokespecial 3, 3) := by decide +kernel
theorem dX1_init_4 : decode cX1_init 4 = .ok (.aload_n 0, 1) := by decide +kernel
theorem dX1_init_5 : decode cX1_init 5 = .ok (.iconst 4, 1) := by decide +kernel
theorem dX1_init_6 : decode cX1_init 6 = .ok (.newarray .int, 2) := by decide +kernel
theorem dX1_init_8 : decode cX1_init 8 = .ok (.putfield 9, 3) := by decide +kernel
theorem dX1_init_11 : decode cX1_init 11 = .ok (.aload_n 0, 1) := by decide +kernel
theorem dX1_init_12 : decode cX1_init 12 = .ok (.iconst 4, 1) := by decide +kernel
theorem dX1_init_13 : decode cX1_init 13 = .ok (.newarray .int, 2) := by decide +kernel
theorem dX1_init_15 : decode cX1_init 15 = .ok (.putfield 15, 3) := by decide +kernel
theorem dX1_init_18 : decode cX1_init 18 = .ok (.aload_n 0, 1) := by decide +kernel
theorem dX1_init_19 : decode cX1_init 19 = .ok (.iconst 4, 1) := by decide +kernel
theorem dX1_init_20 : decode cX1_init 20 = .ok (.newarray .int, 2) := by decide +kernel
theorem dX1_init_22 : decode cX1_init 22 = .ok (.putfield 18, 3) := by decide +kernel
theorem dX1_init_25 : decode cX1_init 25 = .ok (.return_, 1) := by decide +kernel
theorem dX1_clear_0 : decode cX1_clear 0 = .ok (.aload_n 0, 1) := by decide +kernel
theorem dX1_clear_1 : decode cX1_clear 1 = .ok (.iconst 0, 1) := by decide +kernel
theorem dX1_clear_2 : decode cX1_clear 2 = .ok (.putfield 21, 3) := by decide +kernel
theorem dX1_clear_5 : decode cX1_clear 5 = .ok (.aload_n 0, 1) := by decide +kernel
theorem dX1_clear_6 : decode cX1_clear 6 = .ok (.iconst 0, 1) := by decide +kernel
theorem dX1_clear_7 : decode cX1_clear 7 = .ok (.putfield 25, 3) := by decide +kernel
theorem dX1_clear_10 : decode cX1_clear 10 = .ok (.return_, 1) := by decide +kernel
theorem dX1_addWord_0 : decode cX1_addWord 0 = .ok (.aload_n 0, 1) := by decide +kernel
theorem dX1_addWord_1 : decode cX1_addWord 1 = .ok (.getfield 21, 3) := by decide +kernel
theorem dX1_addWord_4 : decode cX1_addWord 4 = .ok (.ifCond .lt 15, 3) := by decide +kernel
theorem dX1_addWord_7 : decode cX1_addWord 7 = .ok (.aload_n 0, 1) := by decide +kernel
theorem dX1_addWord_8 : decode cX1_addWord 8 = .ok (.getfield 21, 3) := by decide +kernel
theorem dX1_addWord_11 : decode cX1_addWord 11 = .ok (.aload_n 0, 1) := by decide +kernel
theorem dX1_addWord_12 : decode cX1_addWord 12 = .ok (.getfield 9, 3) := by decide +kernel
theorem dX1_addWord_15 : decode cX1_addWord 15 = .ok (.arraylength, 1) := by decide +kernel
theorem dX1_addWord_16 : decode cX1_addWord 16 = .ok (.if_icmp .lt 4, 3) := by decide +kernel
theorem dX1_addWord_19 : decode cX1_addWord 19 = .ok (.return_, 1) := by decide +kernel
theorem dX1_addWord_20 : decode cX1_addWord 20 = .ok (.aload_n 0, 1) := by decide +kernel
theorem dX1_addWord_21 : decode cX1_addWord 21 = .ok (.getfield 9, 3) := by decide +kernel
theorem dX1_addWord_24 : decode cX1_addWord 24 = .ok (.aload_n 0, 1) := by decide +kernel
theorem dX1_addWord_25 : decode cX1_addWord 25 = .ok (.getfield 21, 3) := by decide +kernel
theorem dX1_addWord_28 : decode cX1_addWord 28 = .ok (.iload_n 1, 1) := by decide +kernel
theorem dX1_addWord_29 : decode cX1_addWord 29 = .ok (.iastore, 1) := by decide +kernel
theorem dX1_addWord_30 : decode cX1_addWord 30 = .ok (.aload_n 0, 1) := by decide +kernel
theorem dX1_addWord_31 : decode cX1_addWord 31 = .ok (.dup, 1) := by decide +kernel
theorem dX1_addWord_32 : decode cX1_addWord 32 = .ok (.getfield 21, 3) := by decide +kernel
theorem dX1_addWord_35 : decode cX1_addWord 35 = .ok (.iconst 1, 1) := by decide +kernel
theorem dX1_addWord_36 : decode cX1_addWord 36 = .ok (.iadd, 1) := by decide +kernel
theorem dX1_addWord_37 : decode cX1_addWord 37 = .ok (.putfield 21, 3) := by decide +kernel
theorem dX1_addWord_40 : decode cX1_addWord 40 = .ok (.return_, 1) := by decide +kernel
theorem dX1_addThing_0 : decode cX1_addThing 0 = .ok (.aload_n 0, 1) := by decide +kernel
theorem dX1_addThing_1 : decode cX1_addThing 1 = .ok (.getfield 25, 3) := by decide +kernel
theorem dX1_addThing_4 : decode cX1_addThing 4 = .ok (.ifCond .lt 27, 3) := by decide +kernel
theorem dX1_addThing_7 : decode cX1_addThing 7 = .ok (.aload_n 0, 1) := by decide +kernel
theorem dX1_addThing_8 : decode cX1_addThing 8 = .ok (.getfield 25, 3) := by decide +kernel
theorem dX1_addThing_11 : decode cX1_addThing 11 = .ok (.aload_n 0, 1) := by decide +kernel
theorem dX1_addThing_12 : decode cX1_addThing 12 = .ok (.getfield 15, 3) := by decide +kernel
theorem dX1_addThing_15 : decode cX1_addThing 15 = .ok (.arraylength, 1) := by decide +kernel
theorem dX1_addThing_16 : decode cX1_addThing 16 = .ok (.if_icmp .ge 15, 3) := by decide +kernel
theorem dX1_addThing_19 : decode cX1_addThing 19 = .ok (.aload_n 0, 1) := by decide +kernel
theorem dX1_addThing_20 : decode cX1_addThing 20 = .ok (.getfield 25, 3) := by decide +kernel
theorem dX1_addThing_23 : decode cX1_addThing 23 = .ok (.aload_n 0, 1) := by decide +kernel
theorem dX1_addThing_24 : decode cX1_addThing 24 = .ok (.getfield 18, 3) := by decide +kernel
theorem dX1_addThing_27 : decode cX1_addThing 27 = .ok (.arraylength, 1) := by decide +kernel
theorem dX1_addThing_28 : decode cX1_addThing 28 = .ok (.if_icmp .lt 4, 3) := by decide +kernel
theorem dX1_addThing_31 : decode cX1_addThing 31 = .ok (.return_, 1) := by decide +kernel
theorem dX1_addThing_32 : decode cX1_addThing 32 = .ok (.aload_n 0, 1) := by decide +kernel
theorem dX1_addThing_33 : decode cX1_addThing 33 = .ok (.getfield 15, 3) := by decide +kernel
theorem dX1_addThing_36 : decode cX1_addThing 36 = .ok (.aload_n 0, 1) := by decide +kernel
theorem dX1_addThing_37 : decode cX1_addThing 37 = .ok (.getfield 25, 3) := by decide +kernel
theorem dX1_addThing_40 : decode cX1_addThing 40 = .ok (.iload_n 1, 1) := by decide +kernel
theorem dX1_addThing_41 : decode cX1_addThing 41 = .ok (.iastore, 1) := by decide +kernel
theorem dX1_addThing_42 : decode cX1_addThing 42 = .ok (.aload_n 0, 1) := by decide +kernel
theorem dX1_addThing_43 : decode cX1_addThing 43 = .ok (.getfield 18, 3) := by decide +kernel
theorem dX1_addThing_46 : decode cX1_addThing 46 = .ok (.aload_n 0, 1) := by decide +kernel
theorem dX1_addThing_47 : decode cX1_addThing 47 = .ok (.getfield 25, 3) := by decide +kernel
theorem dX1_addThing_50 : decode cX1_addThing 50 = .ok (.iload_n 2, 1) := by decide +kernel
theorem dX1_addThing_51 : decode cX1_addThing 51 = .ok (.iastore, 1) := by decide +kernel
theorem dX1_addThing_52 : decode cX1_addThing 52 = .ok (.aload_n 0, 1) := by decide +kernel
theorem dX1_addThing_53 : decode cX1_addThing 53 = .ok (.dup, 1) := by decide +kernel
theorem dX1_addThing_54 : decode cX1_addThing 54 = .ok (.getfield 25, 3) := by decide +kernel
theorem dX1_addThing_57 : decode cX1_addThing 57 = .ok (.iconst 1, 1) := by decide +kernel
theorem dX1_addThing_58 : decode cX1_addThing 58 = .ok (.iadd, 1) := by decide +kernel
theorem dX1_addThing_59 : decode cX1_addThing 59 = .ok (.putfield 25, 3) := by decide +kernel
theorem dX1_addThing_62 : decode cX1_addThing 62 = .ok (.return_, 1) := by decide +kernel
theorem dX1_hasWord_0 : decode cX1_hasWord 0 = .ok (.iload_n 1, 1) := by decide +kernel
theorem dX1_hasWord_1 : decode cX1_hasWord 1 = .ok (.ifCond .lt 15, 3) := by decide +kernel
theorem dX1_hasWord_4 : decode cX1_hasWord 4 = .ok (.iload_n 1, 1) := by decide +kernel
theorem dX1_hasWord_5 : decode cX1_hasWord 5 = .ok (.aload_n 0, 1) := by decide +kernel
theorem dX1_hasWord_6 : decode cX1_hasWord 6 = .ok (.getfield 21, 3) := by decide +kernel
theorem dX1_hasWord_9 : decode cX1_hasWord 9 = .ok (.if_icmp .ge 7, 3) := by decide +kernel
theorem dX1_hasWord_12 : decode cX1_hasWord 12 = .ok (.iconst 1, 1) := by decide +kernel
theorem dX1_hasWord_13 : decode cX1_hasWord 13 = .ok (.goto 4, 3) := by decide +kernel
theorem dX1_hasWord_16 : decode cX1_hasWord 16 = .ok (.iconst 0, 1) := by decide +kernel
theorem dX1_hasWord_17 : decode cX1_hasWord 17 = .ok (.ireturn, 1) := by decide +kernel
theorem dX1_hasThing_0 : decode cX1_hasThing 0 = .ok (.iload_n 1, 1) := by decide +kernel
theorem dX1_hasThing_1 : decode cX1_hasThing 1 = .ok (.ifCond .lt 15, 3) := by decide +kernel
theorem dX1_hasThing_4 : decode cX1_hasThing 4 = .ok (.iload_n 1, 1) := by decide +kernel
theorem dX1_hasThing_5 : decode cX1_hasThing 5 = .ok (.aload_n 0, 1) := by decide +kernel
theorem dX1_hasThing_6 : decode cX1_hasThing 6 = .ok (.getfield 25, 3) := by decide +kernel
theorem dX1_hasThing_9 : decode cX1_hasThing 9 = .ok (.if_icmp .ge 7, 3) := by decide +kernel
theorem dX1_hasThing_12 : decode cX1_hasThing 12 = .ok (.iconst 1, 1) := by decide +kernel
theorem dX1_hasThing_13 : decode cX1_hasThing 13 = .ok (.goto 4, 3) := by decide +kernel
theorem dX1_hasThing_16 : decode cX1_hasThing 16 = .ok (.iconst 0, 1) := by decide +kernel
theorem dX1_hasThing_17 : decode cX1_hasThing 17 = .ok (.ireturn, 1) := by decide +kernel
theorem dX1_kindOf_0 : decode cX1_kindOf 0 = .ok (.iload_n 1, 1) := by decide +kernel
theorem dX1_kindOf_1 : decode cX1_kindOf 1 = .ok (.ifCond .lt 21, 3) := by decide +kernel
theorem dX1_kindOf_4 : decode cX1_kindOf 4 = .ok (.iload_n 1, 1) := by decide +kernel
theorem dX1_kindOf_5 : decode cX1_kindOf 5 = .ok (.aload_n 0, 1) := by decide +kernel
theorem dX1_kindOf_6 : decode cX1_kindOf 6 = .ok (.getfield 9, 3) := by decide +kernel
theorem dX1_kindOf_9 : decode cX1_kindOf 9 = .ok (.arraylength, 1) := by decide +kernel
theorem dX1_kindOf_10 : decode cX1_kindOf 10 = .ok (.if_icmp .ge 12, 3) := by decide +kernel
theorem dX1_kindOf_13 : decode cX1_kindOf 13 = .ok (.aload_n 0, 1) := by decide +kernel
theorem dX1_kindOf_14 : decode cX1_kindOf 14 = .ok (.getfield 9, 3) := by decide +kernel
theorem dX1_kindOf_17 : decode cX1_kindOf 17 = .ok (.iload_n 1, 1) := by decide +kernel
theorem dX1_kindOf_18 : decode cX1_kindOf 18 = .ok (.iaload, 1) := by decide +kernel
theorem dX1_kindOf_19 : decode cX1_kindOf 19 = .ok (.goto 4, 3) := by decide +kernel
theorem dX1_kindOf_22 : decode cX1_kindOf 22 = .ok (.iconst 0, 1) := by decide +kernel
theorem dX1_kindOf_23 : decode cX1_kindOf 23 = .ok (.ireturn, 1) := by decide +kernel
theorem dX1_spotOf_0 : decode cX1_spotOf 0 = .ok (.iload_n 1, 1) := by decide +kernel
theorem dX1_spotOf_1 : decode cX1_spotOf 1 = .ok (.ifCond .lt 21, 3) := by decide +kernel
theorem dX1_spotOf_4 : decode cX1_spotOf 4 = .ok (.iload_n 1, 1) := by decide +kernel
theorem dX1_spotOf_5 : decode cX1_spotOf 5 = .ok (.aload_n 0, 1) := by decide +kernel
theorem dX1_spotOf_6 : decode cX1_spotOf 6 = .ok (.getfield 15, 3) := by decide +kernel
theorem dX1_spotOf_9 : decode cX1_spotOf 9 = .ok (.arraylength, 1) := by decide +kernel
theorem dX1_spotOf_10 : decode cX1_spotOf 10 = .ok (.if_icmp .ge 12, 3) := by decide +kernel
theorem dX1_spotOf_13 : decode cX1_spotOf 13 = .ok (.aload_n 0, 1) := by decide +kernel
theorem dX1_spotOf_14 : decode cX1_spotOf 14 = .ok (.getfield 15, 3) := by decide +kernel
theorem dX1_spotOf_17 : decode cX1_spotOf 17 = .ok (.iload_n 1, 1) := by decide +kernel
theorem dX1_spotOf_18 : decode cX1_spotOf 18 = .ok (.iaload, 1) := by decide +kernel
theorem dX1_spotOf_19 : decode cX1_spotOf 19 = .ok (.goto 4, 3) := by decide +kernel
theorem dX1_spotOf_22 : decode cX1_spotOf 22 = .ok (.iconst 0, 1) := by decide +kernel
theorem dX1_spotOf_23 : decode cX1_spotOf 23 = .ok (.ireturn, 1) := by decide +kernel
theorem dX1_tugOf_0 : decode cX1_tugOf 0 = .ok (.iload_n 1, 1) := by decide +kernel
theorem dX1_tugOf_1 : decode cX1_tugOf 1 = .ok (.ifCond .lt 21, 3) := by decide +kernel
theorem dX1_tugOf_4 : decode cX1_tugOf 4 = .ok (.iload_n 1, 1) := by decide +kernel
theorem dX1_tugOf_5 : decode cX1_tugOf 5 = .ok (.aload_n 0, 1) := by decide +kernel
theorem dX1_tugOf_6 : decode cX1_tugOf 6 = .ok (.getfield 18, 3) := by decide +kernel
theorem dX1_tugOf_9 : decode cX1_tugOf 9 = .ok (.arraylength, 1) := by decide +kernel
theorem dX1_tugOf_10 : decode cX1_tugOf 10 = .ok (.if_icmp .ge 12, 3) := by decide +kernel
theorem dX1_tugOf_13 : decode cX1_tugOf 13 = .ok (.aload_n 0, 1) := by decide +kernel
theorem dX1_tugOf_14 : decode cX1_tugOf 14 = .ok (.getfield 18, 3) := by decide +kernel
theorem dX1_tugOf_17 : decode cX1_tugOf 17 = .ok (.iload_n 1, 1) := by decide +kernel
theorem dX1_tugOf_18 : decode cX1_tugOf 18 = .ok (.iaload, 1) := by decide +kernel
theorem dX1_tugOf_19 : decode cX1_tugOf 19 = .ok (.goto 4, 3) := by decide +kernel
theorem dX1_tugOf_22 : decode cX1_tugOf 22 = .ok (.iconst 0, 1) := by decide +kernel
theorem dX1_tugOf_23 : decode cX1_tugOf 23 = .ok (.ireturn, 1) := by decide +kernel
theorem dX1_pullAt_0 : decode cX1_pullAt 0 = .ok (.iconst 0, 1) := by decide +kernel
theorem dX1_pullAt_1 : decode cX1_pullAt 1 = .ok (.istore_n 3, 1) := by decide +kernel
theorem dX1_pullAt_2 : decode cX1_pullAt 2 = .ok (.iconst 0, 1) := by decide +kernel
theorem dX1_pullAt_3 : decode cX1_pullAt 3 = .ok (.istore 4, 2) := by decide +kernel
theorem dX1_pullAt_5 : decode cX1_pullAt 5 = .ok (.iload 4, 2) := by decide +kernel
theorem dX1_pullAt_7 : decode cX1_pullAt 7 = .ok (.aload_n 0, 1) := by decide +kernel
theorem dX1_pullAt_8 : decode cX1_pullAt 8 = .ok (.getfield 25, 3) := by decide +kernel
theorem dX1_pullAt_11 : decode cX1_pullAt 11 = .ok (.if_icmp .ge 44, 3) := by decide +kernel
theorem dX1_pullAt_14 : decode cX1_pullAt 14 = .ok (.iload_n 2, 1) := by decide +kernel
theorem dX1_pullAt_15 : decode cX1_pullAt 15 = .ok (.iload 4, 2) := by decide +kernel
theorem dX1_pullAt_17 : decode cX1_pullAt 17 = .ok (.ishr, 1) := by decide +kernel
theorem dX1_pullAt_18 : decode cX1_pullAt 18 = .ok (.iconst 1, 1) := by decide +kernel
theorem dX1_pullAt_19 : decode cX1_pullAt 19 = .ok (.iand, 1) := by decide +kernel
theorem dX1_pullAt_20 : decode cX1_pullAt 20 = .ok (.ifCond .ne 6, 3) := by decide +kernel
theorem dX1_pullAt_23 : decode cX1_pullAt 23 = .ok (.goto 26, 3) := by decide +kernel
theorem dX1_pullAt_26 : decode cX1_pullAt 26 = .ok (.iload_n 3, 1) := by decide +kernel
theorem dX1_pullAt_27 : decode cX1_pullAt 27 = .ok (.aload_n 0, 1) := by decide +kernel
theorem dX1_pullAt_28 : decode cX1_pullAt 28 = .ok (.iload 4, 2) := by decide +kernel
theorem dX1_pullAt_30 : decode cX1_pullAt 30 = .ok (.invokevirtual 28, 3) := by decide +kernel
theorem dX1_pullAt_33 : decode cX1_pullAt 33 = .ok (.aload_n 0, 1) := by decide +kernel
theorem dX1_pullAt_34 : decode cX1_pullAt 34 = .ok (.iload 4, 2) := by decide +kernel
theorem dX1_pullAt_36 : decode cX1_pullAt 36 = .ok (.invokevirtual 32, 3) := by decide +kernel
theorem dX1_pullAt_39 : decode cX1_pullAt 39 = .ok (.iload_n 1, 1) := by decide +kernel
theorem dX1_pullAt_40 : decode cX1_pullAt 40 = .ok (.isub, 1) := by decide +kernel
theorem dX1_pullAt_41 : decode cX1_pullAt 41 = .ok (.invokestatic 35, 3) := by decide +kernel
theorem dX1_pullAt_44 : decode cX1_pullAt 44 = .ok (.isub, 1) := by decide +kernel
theorem dX1_pullAt_45 : decode cX1_pullAt 45 = .ok (.invokestatic 40, 3) := by decide +kernel
theorem dX1_pullAt_48 : decode cX1_pullAt 48 = .ok (.istore_n 3, 1) := by decide +kernel
theorem dX1_pullAt_49 : decode cX1_pullAt 49 = .ok (.iinc 4 1, 3) := by decide +kernel
theorem dX1_pullAt_52 : decode cX1_pullAt 52 = .ok (.goto (-47), 3) := by decide +kernel
theorem dX1_pullAt_55 : decode cX1_pullAt 55 = .ok (.iload_n 3, 1) := by decide +kernel
theorem dX1_pullAt_56 : decode cX1_pullAt 56 = .ok (.ireturn, 1) := by decide +kernel
theorem dX1_powerWith_0 : decode cX1_powerWith 0 = .ok (.aload_n 0, 1) := by decide +kernel
theorem dX1_powerWith_1 : decode cX1_powerWith 1 = .ok (.iload_n 2, 1) := by decide +kernel
theorem dX1_powerWith_2 : decode cX1_powerWith 2 = .ok (.invokevirtual 44, 3) := by decide +kernel
theorem dX1_powerWith_5 : decode cX1_powerWith 5 = .ok (.iconst 1, 1) := by decide +kernel
theorem dX1_powerWith_6 : decode cX1_powerWith 6 = .ok (.if_icmp .ne 10, 3) := by decide +kernel
theorem dX1_powerWith_9 : decode cX1_powerWith 9 = .ok (.iload 4, 2) := by decide +kernel
theorem dX1_powerWith_11 : decode cX1_powerWith 11 = .ok (.iconst 4, 1) := by decide +kernel
theorem dX1_powerWith_12 : decode cX1_powerWith 12 = .ok (.idiv, 1) := by decide +kernel
theorem dX1_powerWith_13 : decode cX1_powerWith 13 = .ok (.goto 7, 3) := by decide +kernel
theorem dX1_powerWith_16 : decode cX1_powerWith 16 = .ok (.iload 4, 2) := by decide +kernel
theorem dX1_powerWith_18 : decode cX1_powerWith 18 = .ok (.iconst 2, 1) := by decide +kernel
theorem dX1_powerWith_19 : decode cX1_powerWith 19 = .ok (.idiv, 1) := by decide +kernel
theorem dX1_powerWith_20 : decode cX1_powerWith 20 = .ok (.istore 5, 2) := by decide +kernel
theorem dX1_powerWith_22 : decode cX1_powerWith 22 = .ok (.iload_n 1, 1) := by decide +kernel
theorem dX1_powerWith_23 : decode cX1_powerWith 23 = .ok (.iload_n 3, 1) := by decide +kernel
theorem dX1_powerWith_24 : decode cX1_powerWith 24 = .ok (.ifCond .eq 7, 3) := by decide +kernel
theorem dX1_powerWith_27 : decode cX1_powerWith 27 = .ok (.iconst 1, 1) := by decide +kernel
theorem dX1_powerWith_28 : decode cX1_powerWith 28 = .ok (.goto 4, 3) := by decide +kernel
theorem dX1_powerWith_31 : decode cX1_powerWith 31 = .ok (.iconst 0, 1) := by decide +kernel
theorem dX1_powerWith_32 : decode cX1_powerWith 32 = .ok (.iadd, 1) := by decide +kernel
theorem dX1_powerWith_33 : decode cX1_powerWith 33 = .ok (.iload 5, 2) := by decide +kernel
theorem dX1_powerWith_35 : decode cX1_powerWith 35 = .ok (.isub, 1) := by decide +kernel
theorem dX1_powerWith_36 : decode cX1_powerWith 36 = .ok (.ireturn, 1) := by decide +kernel
theorem dX1_powerOf_0 : decode cX1_powerOf 0 = .ok (.aload_n 0, 1) := by decide +kernel
theorem dX1_powerOf_1 : decode cX1_powerOf 1 = .ok (.aload_n 1, 1) := by decide +kernel
theorem dX1_powerOf_2 : decode cX1_powerOf 2 = .ok (.iload_n 2, 1) := by decide +kernel
theorem dX1_powerOf_3 : decode cX1_powerOf 3 = .ok (.invokevirtual 47, 3) := by decide +kernel
theorem dX1_powerOf_6 : decode cX1_powerOf 6 = .ok (.iload_n 2, 1) := by decide +kernel
theorem dX1_powerOf_7 : decode cX1_powerOf 7 = .ok (.aload_n 1, 1) := by decide +kernel
theorem dX1_powerOf_8 : decode cX1_powerOf 8 = .ok (.getfield 52, 3) := by decide +kernel
theorem dX1_powerOf_11 : decode cX1_powerOf 11 = .ok (.iload_n 3, 1) := by decide +kernel
theorem dX1_powerOf_12 : decode cX1_powerOf 12 = .ok (.invokevirtual 56, 3) := by decide +kernel
theorem dX1_powerOf_15 : decode cX1_powerOf 15 = .ok (.ireturn, 1) := by decide +kernel
theorem dX1_isEnough_0 : decode cX1_isEnough 0 = .ok (.iload_n 1, 1) := by decide +kernel
theorem dX1_isEnough_1 : decode cX1_isEnough 1 = .ok (.iconst 1, 1) := by decide +kernel
theorem dX1_isEnough_2 : decode cX1_isEnough 2 = .ok (.if_icmp .lt 17, 3) := by decide +kernel
theorem dX1_isEnough_5 : decode cX1_isEnough 5 = .ok (.iload_n 1, 1) := by decide +kernel
theorem dX1_isEnough_6 : decode cX1_isEnough 6 = .ok (.aload_n 0, 1) := by decide +kernel
theorem dX1_isEnough_7 : decode cX1_isEnough 7 = .ok (.iload_n 2, 1) := by decide +kernel
theorem dX1_isEnough_8 : decode cX1_isEnough 8 = .ok (.iload_n 3, 1) := by decide +kernel
theorem dX1_isEnough_9 : decode cX1_isEnough 9 = .ok (.invokevirtual 60, 3) := by decide +kernel
theorem dX1_isEnough_12 : decode cX1_isEnough 12 = .ok (.if_icmp .lt 7, 3) := by decide +kernel
theorem dX1_isEnough_15 : decode cX1_isEnough 15 = .ok (.iconst 1, 1) := by decide +kernel
theorem dX1_isEnough_16 : decode cX1_isEnough 16 = .ok (.goto 4, 3) := by decide +kernel
theorem dX1_isEnough_19 : decode cX1_isEnough 19 = .ok (.iconst 0, 1) := by decide +kernel
theorem dX1_isEnough_20 : decode cX1_isEnough 20 = .ok (.ireturn, 1) := by decide +kernel
theorem dX1_brings_0 : decode cX1_brings 0 = .ok (.aload_n 0, 1) := by decide +kernel
theorem dX1_brings_1 : decode cX1_brings 1 = .ok (.aload_n 0, 1) := by decide +kernel
theorem dX1_brings_2 : decode cX1_brings 2 = .ok (.aload_n 1, 1) := by decide +kernel
theorem dX1_brings_3 : decode cX1_brings 3 = .ok (.iload_n 2, 1) := by decide +kernel
theorem dX1_brings_4 : decode cX1_brings 4 = .ok (.iload_n 3, 1) := by decide +kernel
theorem dX1_brings_5 : decode cX1_brings 5 = .ok (.invokevirtual 63, 3) := by decide +kernel
theorem dX1_brings_8 : decode cX1_brings 8 = .ok (.iload_n 3, 1) := by decide +kernel
theorem dX1_brings_9 : decode cX1_brings 9 = .ok (.bipush 15, 2) := by decide +kernel
theorem dX1_brings_11 : decode cX1_brings 11 = .ok (.invokevirtual 67, 3) := by decide +kernel
theorem dX1_brings_14 : decode cX1_brings 14 = .ok (.ireturn, 1) := by decide +kernel
theorem dX1_callHim_0 : decode cX1_callHim 0 = .ok (.aload_n 0, 1) := by decide +kernel
theorem dX1_callHim_1 : decode cX1_callHim 1 = .ok (.aload_n 1, 1) := by decide +kernel
theorem dX1_callHim_2 : decode cX1_callHim 2 = .ok (.iload_n 2, 1) := by decide +kernel
theorem dX1_callHim_3 : decode cX1_callHim 3 = .ok (.aload_n 1, 1) := by decide +kernel
theorem dX1_callHim_4 : decode cX1_callHim 4 = .ok (.getfield 71, 3) := by decide +kernel
theorem dX1_callHim_7 : decode cX1_callHim 7 = .ok (.invokevirtual 74, 3) := by decide +kernel
theorem dX1_callHim_10 : decode cX1_callHim 10 = .ok (.istore_n 3, 1) := by decide +kernel
theorem dX1_callHim_11 : decode cX1_callHim 11 = .ok (.aload_n 1, 1) := by decide +kernel
theorem dX1_callHim_12 : decode cX1_callHim 12 = .ok (.dup, 1) := by decide +kernel
theorem dX1_callHim_13 : decode cX1_callHim 13 = .ok (.getfield 78, 3) := by decide +kernel
theorem dX1_callHim_16 : decode cX1_callHim 16 = .ok (.iconst 1, 1) := by decide +kernel
theorem dX1_callHim_17 : decode cX1_callHim 17 = .ok (.iadd, 1) := by decide +kernel
theorem dX1_callHim_18 : decode cX1_callHim 18 = .ok (.putfield 78, 3) := by decide +kernel
theorem dX1_callHim_21 : decode cX1_callHim 21 = .ok (.iload_n 3, 1) := by decide +kernel
theorem dX1_callHim_22 : decode cX1_callHim 22 = .ok (.ifCond .eq 16, 3) := by decide +kernel
theorem dX1_callHim_25 : decode cX1_callHim 25 = .ok (.aload_n 1, 1) := by decide +kernel
theorem dX1_callHim_26 : decode cX1_callHim 26 = .ok (.iconst 0, 1) := by decide +kernel
theorem dX1_callHim_27 : decode cX1_callHim 27 = .ok (.putfield 71, 3) := by decide +kernel
theorem dX1_callHim_30 : decode cX1_callHim 30 = .ok (.aload_n 1, 1) := by decide +kernel
theorem dX1_callHim_31 : decode cX1_callHim 31 = .ok (.iload_n 2, 1) := by decide +kernel
theorem dX1_callHim_32 : decode cX1_callHim 32 = .ok (.putfield 81, 3) := by decide +kernel
theorem dX1_callHim_35 : decode cX1_callHim 35 = .ok (.goto 28, 3) := by decide +kernel
theorem dX1_callHim_38 : decode cX1_callHim 38 = .ok (.aload_n 1, 1) := by decide +kernel
theorem dX1_callHim_39 : decode cX1_callHim 39 = .ok (.iload_n 2, 1) := by decide +kernel
theorem dX1_callHim_40 : decode cX1_callHim 40 = .ok (.aload_n 0, 1) := by decide +kernel
theorem dX1_callHim_41 : decode cX1_callHim 41 = .ok (.iload_n 2, 1) := by decide +kernel
theorem dX1_callHim_42 : decode cX1_callHim 42 = .ok (.invokevirtual 44, 3) := by decide +kernel
theorem dX1_callHim_45 : decode cX1_callHim 45 = .ok (.iconst 2, 1) := by decide +kernel
theorem dX1_callHim_46 : decode cX1_callHim 46 = .ok (.if_icmp .ne 8, 3) := by decide +kernel
theorem dX1_callHim_49 : decode cX1_callHim 49 = .ok (.bipush (-2), 2) := by decide +kernel
theorem dX1_callHim_51 : decode cX1_callHim 51 = .ok (.goto 4, 3) := by decide +kernel
theorem dX1_callHim_54 : decode cX1_callHim 54 = .ok (.iconst (-1), 1) := by decide +kernel
theorem dX1_callHim_55 : decode cX1_callHim 55 = .ok (.invokevirtual 84, 3) := by decide +kernel
theorem dX1_callHim_58 : decode cX1_callHim 58 = .ok (.aload_n 1, 1) := by decide +kernel
theorem dX1_callHim_59 : decode cX1_callHim 59 = .ok (.iconst 1, 1) := by decide +kernel
theorem dX1_callHim_60 : decode cX1_callHim 60 = .ok (.invokevirtual 88, 3) := by decide +kernel
theorem dX1_callHim_63 : decode cX1_callHim 63 = .ok (.iload_n 3, 1) := by decide +kernel
theorem dX1_callHim_64 : decode cX1_callHim 64 = .ok (.ireturn, 1) := by decide +kernel
theorem dX1_leash_0 : decode cX1_leash 0 = .ok (.aload_n 1, 1) := by decide +kernel
theorem dX1_leash_1 : decode cX1_leash 1 = .ok (.getfield 92, 3) := by decide +kernel
theorem dX1_leash_4 : decode cX1_leash 4 = .ok (.ifCond .ne 44, 3) := by decide +kernel
theorem dX1_leash_7 : decode cX1_leash 7 = .ok (.aload_n 1, 1) := by decide +kernel
theorem dX1_leash_8 : decode cX1_leash 8 = .ok (.getfield 81, 3) := by decide +kernel
theorem dX1_leash_11 : decode cX1_leash 11 = .ok (.bipush (-9), 2) := by decide +kernel
theorem dX1_leash_13 : decode cX1_leash 13 = .ok (.if_icmp .eq 35, 3) := by decide +kernel
theorem dX1_leash_16 : decode cX1_leash 16 = .ok (.aload_n 1, 1) := by decide +kernel
theorem dX1_leash_17 : decode cX1_leash 17 = .ok (.aload_n 1, 1) := by decide +kernel
theorem dX1_leash_18 : decode cX1_leash 18 = .ok (.getfield 81, 3) := by decide +kernel
theorem dX1_leash_21 : decode cX1_leash 21 = .ok (.aload_n 0, 1) := by decide +kernel
theorem dX1_leash_22 : decode cX1_leash 22 = .ok (.aload_n 1, 1) := by decide +kernel
theorem dX1_leash_23 : decode cX1_leash 23 = .ok (.getfield 81, 3) := by decide +kernel
theorem dX1_leash_26 : decode cX1_leash 26 = .ok (.invokevirtual 44, 3) := by decide +kernel
theorem dX1_leash_29 : decode cX1_leash 29 = .ok (.iconst 3, 1) := by decide +kernel
theorem dX1_leash_30 : decode cX1_leash 30 = .ok (.if_icmp .ne 7, 3) := by decide +kernel
theorem dX1_leash_33 : decode cX1_leash 33 = .ok (.iconst (-1), 1) := by decide +kernel
theorem dX1_leash_34 : decode cX1_leash 34 = .ok (.goto 5, 3) := by decide +kernel
theorem dX1_leash_37 : decode cX1_leash 37 = .ok (.bipush (-2), 2) := by decide +kernel
theorem dX1_leash_39 : decode cX1_leash 39 = .ok (.invokevirtual 84, 3) := by decide +kernel
theorem dX1_leash_42 : decode cX1_leash 42 = .ok (.aload_n 1, 1) := by decide +kernel
theorem dX1_leash_43 : decode cX1_leash 43 = .ok (.bipush (-9), 2) := by decide +kernel
theorem dX1_leash_45 : decode cX1_leash 45 = .ok (.putfield 81, 3) := by decide +kernel
theorem dX1_leash_48 : decode cX1_leash 48 = .ok (.aload_n 1, 1) := by decide +kernel
theorem dX1_leash_49 : decode cX1_leash 49 = .ok (.aload_n 1, 1) := by decide +kernel
theorem dX1_leash_50 : decode cX1_leash 50 = .ok (.getfield 92, 3) := by decide +kernel
theorem dX1_leash_53 : decode cX1_leash 53 = .ok (.ifCond .ne 7, 3) := by decide +kernel
theorem dX1_leash_56 : decode cX1_leash 56 = .ok (.iconst 1, 1) := by decide +kernel
theorem dX1_leash_57 : decode cX1_leash 57 = .ok (.goto 4, 3) := by decide +kernel
theorem dX1_leash_60 : decode cX1_leash 60 = .ok (.iconst 0, 1) := by decide +kernel
theorem dX1_leash_61 : decode cX1_leash 61 = .ok (.putfield 92, 3) := by decide +kernel
theorem dX1_leash_64 : decode cX1_leash 64 = .ok (.return_, 1) := by decide +kernel
theorem dX2_init_0 : decode cX2_init 0 = .ok (.aload_n 0, 1) := by decide +kernel
theorem dX2_init_1 : decode cX2_init 1 = .ok (.invokespecial 3, 3) := by decide +kernel
theorem dX2_init_4 : decode cX2_init 4 = .ok (.aload_n 0, 1) := by decide +kernel
theorem dX2_init_5 : decode cX2_init 5 = .ok (.iload_n 1, 1) := by decide +kernel
theorem dX2_init_6 : decode cX2_init 6 = .ok (.ifCond .le 10, 3) := by decide +kernel
theorem dX2_init_9 : decode cX2_init 9 = .ok (.iload_n 1, 1) := by decide +kernel
theorem dX2_init_10 : decode cX2_init 10 = .ok (.bipush 10, 2) := by decide +kernel
theorem dX2_init_12 : decode cX2_init 12 = .ok (.imul, 1) := by decide +kernel
theorem dX2_init_13 : decode cX2_init 13 = .ok (.goto 4, 3) := by decide +kernel
theorem dX2_init_16 : decode cX2_init 16 = .ok (.iconst 0, 1) := by decide +kernel
theorem dX2_init_17 : decode cX2_init 17 = .ok (.newarray .int, 2) := by decide +kernel
theorem dX2_init_19 : decode cX2_init 19 = .ok (.putfield 11, 3) := by decide +kernel
theorem dX2_init_22 : decode cX2_init 22 = .ok (.return_, 1) := by decide +kernel
theorem dX2_numberAt_0 : decode cX2_numberAt 0 = .ok (.iload_n 1, 1) := by decide +kernel
theorem dX2_numberAt_1 : decode cX2_numberAt 1 = .ok (.ifCond .lt 21, 3) := by decide +kernel
theorem dX2_numberAt_4 : decode cX2_numberAt 4 = .ok (.iload_n 1, 1) := by decide +kernel
theorem dX2_numberAt_5 : decode cX2_numberAt 5 = .ok (.aload_n 0, 1) := by decide +kernel
theorem dX2_numberAt_6 : decode cX2_numberAt 6 = .ok (.getfield 11, 3) := by decide +kernel
theorem dX2_numberAt_9 : decode cX2_numberAt 9 = .ok (.arraylength, 1) := by decide +kernel
theorem dX2_numberAt_10 : decode cX2_numberAt 10 = .ok (.if_icmp .ge 12, 3) := by decide +kernel
theorem dX2_numberAt_13 : decode cX2_numberAt 13 = .ok (.aload_n 0, 1) := by decide +kernel
theorem dX2_numberAt_14 : decode cX2_numberAt 14 = .ok (.getfield 11, 3) := by decide +kernel
theorem dX2_numberAt_17 : decode cX2_numberAt 17 = .ok (.iload_n 1, 1) := by decide +kernel
theorem dX2_numberAt_18 : decode cX2_numberAt 18 = .ok (.iaload, 1) := by decide +kernel
theorem dX2_numberAt_19 : decode cX2_numberAt 19 = .ok (.goto 4, 3) := by decide +kernel
theorem dX2_numberAt_22 : decode cX2_numberAt 22 = .ok (.iconst 0, 1) := by decide +kernel
theorem dX2_numberAt_23 : decode cX2_numberAt 23 = .ok (.ireturn, 1) := by decide +kernel
theorem dX2_setNumber_0 : decode cX2_setNumber 0 = .ok (.iload_n 1, 1) := by decide +kernel
theorem dX2_setNumber_1 : decode cX2_setNumber 1 = .ok (.ifCond .lt 19, 3) := by decide +kernel
theorem dX2_setNumber_4 : decode cX2_setNumber 4 = .ok (.iload_n 1, 1) := by decide +kernel
theorem dX2_setNumber_5 : decode cX2_setNumber 5 = .ok (.aload_n 0, 1) := by decide +kernel
theorem dX2_setNumber_6 : decode cX2_setNumber 6 = .ok (.getfield 11, 3) := by decide +kernel
theorem dX2_setNumber_9 : decode cX2_setNumber 9 = .ok (.arraylength, 1) := by decide +kernel
theorem dX2_setNumber_10 : decode cX2_setNumber 10 = .ok (.if_icmp .ge 10, 3) := by decide +kernel
theorem dX2_setNumber_13 : decode cX2_setNumber 13 = .ok (.aload_n 0, 1) := by decide +kernel
theorem dX2_setNumber_14 : decode cX2_setNumber 14 = .ok (.getfield 11, 3) := by decide +kernel
theorem dX2_setNumber_17 : decode cX2_setNumber 17 = .ok (.iload_n 1, 1) := by decide +kernel
theorem dX2_setNumber_18 : decode cX2_setNumber 18 = .ok (.iload_n 2, 1) := by decide +kernel
theorem dX2_setNumber_19 : decode cX2_setNumber 19 = .ok (.iastore, 1) := by decide +kernel
theorem dX2_setNumber_20 : decode cX2_setNumber 20 = .ok (.return_, 1) := by decide +kernel
theorem dX2_put_0 : decode cX2_put 0 = .ok (.iload_n 1, 1) := by decide +kernel
theorem dX2_put_1 : decode cX2_put 1 = .ok (.bipush 10, 2) := by decide +kernel
theorem dX2_put_3 : decode cX2_put 3 = .ok (.imul, 1) := by decide +kernel
theorem dX2_put_4 : decode cX2_put 4 = .ok (.istore_n 3, 1) := by decide +kernel
theorem dX2_put_5 : decode cX2_put 5 = .ok (.iconst 0, 1) := by decide +kernel
theorem dX2_put_6 : decode cX2_put 6 = .ok (.istore 4, 2) := by decide +kernel
theorem dX2_put_8 : decode cX2_put 8 = .ok (.iload 4, 2) := by decide +kernel
theorem dX2_put_10 : decode cX2_put 10 = .ok (.iconst 4, 1) := by decide +kernel
theorem dX2_put_11 : decode cX2_put 11 = .ok (.if_icmp .ge 23, 3) := by decide +kernel
theorem dX2_put_14 : decode cX2_put 14 = .ok (.aload_n 0, 1) := by decide +kernel
theorem dX2_put_15 : decode cX2_put 15 = .ok (.iload_n 3, 1) := by decide +kernel
theorem dX2_put_16 : decode cX2_put 16 = .ok (.iload 4, 2) := by decide +kernel
theorem dX2_put_18 : decode cX2_put 18 = .ok (.iadd, 1) := by decide +kernel
theorem dX2_put_19 : decode cX2_put 19 = .ok (.aload_n 2, 1) := by decide +kernel
theorem dX2_put_20 : decode cX2_put 20 = .ok (.iload 4, 2) := by decide +kernel
theorem dX2_put_22 : decode cX2_put 22 = .ok (.invokevirtual 17, 3) := by decide +kernel
theorem dX2_put_25 : decode cX2_put 25 = .ok (.invokevirtual 21, 3) := by decide +kernel
theorem dX2_put_28 : decode cX2_put 28 = .ok (.iinc 4 1, 3) := by decide +kernel
theorem dX2_put_31 : decode cX2_put 31 = .ok (.goto (-23), 3) := by decide +kernel
theorem dX2_put_34 : decode cX2_put 34 = .ok (.iload_n 3, 1) := by decide +kernel
theorem dX2_put_35 : decode cX2_put 35 = .ok (.iconst 4, 1) := by decide +kernel
theorem dX2_put_36 : decode cX2_put 36 = .ok (.iadd, 1) := by decide +kernel
theorem dX2_put_37 : decode cX2_put 37 = .ok (.istore 4, 2) := by decide +kernel
theorem dX2_put_39 : decode cX2_put 39 = .ok (.aload_n 0, 1) := by decide +kernel
theorem dX2_put_40 : decode cX2_put 40 = .ok (.iload 4, 2) := by decide +kernel
theorem dX2_put_42 : decode cX2_put 42 = .ok (.aload_n 2, 1) := by decide +kernel
theorem dX2_put_43 : decode cX2_put 43 = .ok (.getfield 25, 3) := by decide +kernel
theorem dX2_put_46 : decode cX2_put 46 = .ok (.invokevirtual 21, 3) := by decide +kernel
theorem dX2_put_49 : decode cX2_put 49 = .ok (.aload_n 0, 1) := by decide +kernel
theorem dX2_put_50 : decode cX2_put 50 = .ok (.iload 4, 2) := by decide +kernel
theorem dX2_put_52 : decode cX2_put 52 = .ok (.iconst 1, 1) := by decide +kernel
theorem dX2_put_53 : decode cX2_put 53 = .ok (.iadd, 1) := by decide +kernel
theorem dX2_put_54 : decode cX2_put 54 = .ok (.aload_n 2, 1) := by decide +kernel
theorem dX2_put_55 : decode cX2_put 55 = .ok (.getfield 29, 3) := by decide +kernel
theorem dX2_put_58 : decode cX2_put 58 = .ok (.invokevirtual 21, 3) := by decide +kernel
theorem dX2_put_61 : decode cX2_put 61 = .ok (.aload_n 0, 1) := by decide +kernel
theorem dX2_put_62 : decode cX2_put 62 = .ok (.iload 4, 2) := by decide +kernel
theorem dX2_put_64 : decode cX2_put 64 = .ok (.iconst 2, 1) := by decide +kernel
theorem dX2_put_65 : decode cX2_put 65 = .ok (.iadd, 1) := by decide +kernel
theorem dX2_put_66 : decode cX2_put 66 = .ok (.aload_n 2, 1) := by decide +kernel
theorem dX2_put_67 : decode cX2_put 67 = .ok (.getfield 32, 3) := by decide +kernel
theorem dX2_put_70 : decode cX2_put 70 = .ok (.invokevirtual 21, 3) := by decide +kernel
theorem dX2_put_73 : decode cX2_put 73 = .ok (.aload_n 0, 1) := by decide +kernel
theorem dX2_put_74 : decode cX2_put 74 = .ok (.iload 4, 2) := by decide +kernel
theorem dX2_put_76 : decode cX2_put 76 = .ok (.iconst 3, 1) := by decide +kernel
theorem dX2_put_77 : decode cX2_put 77 = .ok (.iadd, 1) := by decide +kernel
theorem dX2_put_78 : decode cX2_put 78 = .ok (.aload_n 2, 1) := by decide +kernel
theorem dX2_put_79 : decode cX2_put 79 = .ok (.getfield 35, 3) := by decide +kernel
theorem dX2_put_82 : decode cX2_put 82 = .ok (.invokevirtual 21, 3) := by decide +kernel
theorem dX2_put_85 : decode cX2_put 85 = .ok (.aload_n 0, 1) := by decide +kernel
theorem dX2_put_86 : decode cX2_put 86 = .ok (.iload 4, 2) := by decide +kernel
theorem dX2_put_88 : decode cX2_put 88 = .ok (.iconst 4, 1) := by decide +kernel
theorem dX2_put_89 : decode cX2_put 89 = .ok (.iadd, 1) := by decide +kernel
theorem dX2_put_90 : decode cX2_put 90 = .ok (.aload_n 2, 1) := by decide +kernel
theorem dX2_put_91 : decode cX2_put 91 = .ok (.getfield 38, 3) := by decide +kernel
theorem dX2_put_94 : decode cX2_put 94 = .ok (.invokestatic 42, 3) := by decide +kernel
theorem dX2_put_97 : decode cX2_put 97 = .ok (.invokevirtual 21, 3) := by decide +kernel
theorem dX2_put_100 : decode cX2_put 100 = .ok (.aload_n 0, 1) := by decide +kernel
theorem dX2_put_101 : decode cX2_put 101 = .ok (.iload 4, 2) := by decide +kernel
theorem dX2_put_103 : decode cX2_put 103 = .ok (.iconst 5, 1) := by decide +kernel
theorem dX2_put_104 : decode cX2_put 104 = .ok (.iadd, 1) := by decide +kernel
theorem dX2_put_105 : decode cX2_put 105 = .ok (.aload_n 2, 1) := by decide +kernel
theorem dX2_put_106 : decode cX2_put 106 = .ok (.getfield 46, 3) := by decide +kernel
theorem dX2_put_109 : decode cX2_put 109 = .ok (.invokestatic 42, 3) := by decide +kernel
theorem dX2_put_112 : decode cX2_put 112 = .ok (.invokevirtual 21, 3) := by decide +kernel
theorem dX2_put_115 : decode cX2_put 115 = .ok (.return_, 1) := by decide +kernel
theorem dX2_take_0 : decode cX2_take 0 = .ok (.iload_n 1, 1) := by decide +kernel
theorem dX2_take_1 : decode cX2_take 1 = .ok (.bipush 10, 2) := by decide +kernel
theorem dX2_take_3 : decode cX2_take 3 = .ok (.imul, 1) := by decide +kernel
theorem dX2_take_4 : decode cX2_take 4 = .ok (.istore_n 3, 1) := by decide +kernel
theorem dX2_take_5 : decode cX2_take 5 = .ok (.iconst 0, 1) := by decide +kernel
theorem dX2_take_6 : decode cX2_take 6 = .ok (.istore 4, 2) := by decide +kernel
theorem dX2_take_8 : decode cX2_take 8 = .ok (.iload 4, 2) := by decide +kernel
theorem dX2_take_10 : decode cX2_take 10 = .ok (.iconst 4, 1) := by decide +kernel
theorem dX2_take_11 : decode cX2_take 11 = .ok (.if_icmp .ge 23, 3) := by decide +kernel
theorem dX2_take_14 : decode cX2_take 14 = .ok (.aload_n 2, 1) := by decide +kernel
theorem dX2_take_15 : decode cX2_take 15 = .ok (.iload 4, 2) := by decide +kernel
theorem dX2_take_17 : decode cX2_take 17 = .ok (.aload_n 0, 1) := by decide +kernel
theorem dX2_take_18 : decode cX2_take 18 = .ok (.iload_n 3, 1) := by decide +kernel
theorem dX2_take_19 : decode cX2_take 19 = .ok (.iload 4, 2) := by decide +kernel
theorem dX2_take_21 : decode cX2_take 21 = .ok (.iadd, 1) := by decide +kernel
theorem dX2_take_22 : decode cX2_take 22 = .ok (.invokevirtual 49, 3) := by decide +kernel
theorem dX2_take_25 : decode cX2_take 25 = .ok (.invokevirtual 52, 3) := by decide +kernel
theorem dX2_take_28 : decode cX2_take 28 = .ok (.iinc 4 1, 3) := by decide +kernel
theorem dX2_take_31 : decode cX2_take 31 = .ok (.goto (-23), 3) := by decide +kernel
theorem dX2_take_34 : decode cX2_take 34 = .ok (.iload_n 3, 1) := by decide +kernel
theorem dX2_take_35 : decode cX2_take 35 = .ok (.iconst 4, 1) := by decide +kernel
theorem dX2_take_36 : decode cX2_take 36 = .ok (.iadd, 1) := by decide +kernel
theorem dX2_take_37 : decode cX2_take 37 = .ok (.istore 4, 2) := by decide +kernel
theorem dX2_take_39 : decode cX2_take 39 = .ok (.aload_n 2, 1) := by decide +kernel
theorem dX2_take_40 : decode cX2_take 40 = .ok (.aload_n 0, 1) := by decide +kernel
theorem dX2_take_41 : decode cX2_take 41 = .ok (.iload 4, 2) := by decide +kernel
theorem dX2_take_43 : decode cX2_take 43 = .ok (.invokevirtual 49, 3) := by decide +kernel
theorem dX2_take_46 : decode cX2_take 46 = .ok (.putfield 25, 3) := by decide +kernel
theorem dX2_take_49 : decode cX2_take 49 = .ok (.aload_n 2, 1) := by decide +kernel
theorem dX2_take_50 : decode cX2_take 50 = .ok (.aload_n 0, 1) := by decide +kernel
theorem dX2_take_51 : decode cX2_take 51 = .ok (.iload 4, 2) := by decide +kernel
theorem dX2_take_53 : decode cX2_take 53 = .ok (.iconst 1, 1) := by decide +kernel
theorem dX2_take_54 : decode cX2_take 54 = .ok (.iadd, 1) := by decide +kernel
theorem dX2_take_55 : decode cX2_take 55 = .ok (.invokevirtual 49, 3) := by decide +kernel
theorem dX2_take_58 : decode cX2_take 58 = .ok (.putfield 29, 3) := by decide +kernel
theorem dX2_take_61 : decode cX2_take 61 = .ok (.aload_n 2, 1) := by decide +kernel
theorem dX2_take_62 : decode cX2_take 62 = .ok (.aload_n 0, 1) := by decide +kernel
theorem dX2_take_63 : decode cX2_take 63 = .ok (.iload 4, 2) := by decide +kernel
theorem dX2_take_65 : decode cX2_take 65 = .ok (.iconst 2, 1) := by decide +kernel
theorem dX2_take_66 : decode cX2_take 66 = .ok (.iadd, 1) := by decide +kernel
theorem dX2_take_67 : decode cX2_take 67 = .ok (.invokevirtual 49, 3) := by decide +kernel
theorem dX2_take_70 : decode cX2_take 70 = .ok (.putfield 32, 3) := by decide +kernel
theorem dX2_take_73 : decode cX2_take 73 = .ok (.aload_n 2, 1) := by decide +kernel
theorem dX2_take_74 : decode cX2_take 74 = .ok (.aload_n 0, 1) := by decide +kernel
theorem dX2_take_75 : decode cX2_take 75 = .ok (.iload 4, 2) := by decide +kernel
theorem dX2_take_77 : decode cX2_take 77 = .ok (.iconst 3, 1) := by decide +kernel
theorem dX2_take_78 : decode cX2_take 78 = .ok (.iadd, 1) := by decide +kernel
theorem dX2_take_79 : decode cX2_take 79 = .ok (.invokevirtual 49, 3) := by decide +kernel
theorem dX2_take_82 : decode cX2_take 82 = .ok (.putfield 35, 3) := by decide +kernel
theorem dX2_take_85 : decode cX2_take 85 = .ok (.aload_n 2, 1) := by decide +kernel
theorem dX2_take_86 : decode cX2_take 86 = .ok (.aload_n 0, 1) := by decide +kernel
theorem dX2_take_87 : decode cX2_take 87 = .ok (.iload 4, 2) := by decide +kernel
theorem dX2_take_89 : decode cX2_take 89 = .ok (.iconst 4, 1) := by decide +kernel
theorem dX2_take_90 : decode cX2_take 90 = .ok (.iadd, 1) := by decide +kernel
theorem dX2_take_91 : decode cX2_take 91 = .ok (.invokevirtual 49, 3) := by decide +kernel
theorem dX2_take_94 : decode cX2_take 94 = .ok (.iconst 1, 1) := by decide +kernel
theorem dX2_take_95 : decode cX2_take 95 = .ok (.if_icmp .ne 7, 3) := by decide +kernel
theorem dX2_take_98 : decode cX2_take 98 = .ok (.iconst 1, 1) := by decide +kernel
theorem dX2_take_99 : decode cX2_take 99 = .ok (.goto 4, 3) := by decide +kernel
theorem dX2_take_102 : decode cX2_take 102 = .ok (.iconst 0, 1) := by decide +kernel
theorem dX2_take_103 : decode cX2_take 103 = .ok (.putfield 38, 3) := by decide +kernel
theorem dX2_take_106 : decode cX2_take 106 = .ok (.aload_n 2, 1) := by decide +kernel
theorem dX2_take_107 : decode cX2_take 107 = .ok (.aload_n 0, 1) := by decide +kernel
theorem dX2_take_108 : decode cX2_take 108 = .ok (.iload 4, 2) := by decide +kernel
theorem dX2_take_110 : decode cX2_take 110 = .ok (.iconst 5, 1) := by decide +kernel
theorem dX2_take_111 : decode cX2_take 111 = .ok (.iadd, 1) := by decide +kernel
theorem dX2_take_112 : decode cX2_take 112 = .ok (.invokevirtual 49, 3) := by decide +kernel
theorem dX2_take_115 : decode cX2_take 115 = .ok (.iconst 1, 1) := by decide +kernel
theorem dX2_take_116 : decode cX2_take 116 = .ok (.if_icmp .ne 7, 3) := by decide +kernel
theorem dX2_take_119 : decode cX2_take 119 = .ok (.iconst 1, 1) := by decide +kernel
theorem dX2_take_120 : decode cX2_take 120 = .ok (.goto 4, 3) := by decide +kernel
theorem dX2_take_123 : decode cX2_take 123 = .ok (.iconst 0, 1) := by decide +kernel
theorem dX2_take_124 : decode cX2_take 124 = .ok (.putfield 46, 3) := by decide +kernel
theorem dX2_take_127 : decode cX2_take 127 = .ok (.return_, 1) := by decide +kernel
theorem dX2_dropFirst_0 : decode cX2_dropFirst 0 = .ok (.bipush 10, 2) := by decide +kernel
theorem dX2_dropFirst_2 : decode cX2_dropFirst 2 = .ok (.istore_n 1, 1) := by decide +kernel
theorem dX2_dropFirst_3 : decode cX2_dropFirst 3 = .ok (.iload_n 1, 1) := by decide +kernel
theorem dX2_dropFirst_4 : decode cX2_dropFirst 4 = .ok (.aload_n 0, 1) := by decide +kernel
theorem dX2_dropFirst_5 : decode cX2_dropFirst 5 = .ok (.getfield 11, 3) := by decide +kernel
theorem dX2_dropFirst_8 : decode cX2_dropFirst 8 = .ok (.arraylength, 1) := by decide +kernel
theorem dX2_dropFirst_9 : decode cX2_dropFirst 9 = .ok (.if_icmp .ge 23, 3) := by decide +kernel
theorem dX2_dropFirst_12 : decode cX2_dropFirst 12 = .ok (.aload_n 0, 1) := by decide +kernel
theorem dX2_dropFirst_13 : decode cX2_dropFirst 13 = .ok (.iload_n 1, 1) := by decide +kernel
theorem dX2_dropFirst_14 : decode cX2_dropFirst 14 = .ok (.bipush 10, 2) := by decide +kernel
theorem dX2_dropFirst_16 : decode cX2_dropFirst 16 = .ok (.isub, 1) := by decide +kernel
theorem dX2_dropFirst_17 : decode cX2_dropFirst 17 = .ok (.aload_n 0, 1) := by decide +kernel
theorem dX2_dropFirst_18 : decode cX2_dropFirst 18 = .ok (.getfield 11, 3) := by decide +kernel
theorem dX2_dropFirst_21 : decode cX2_dropFirst 21 = .ok (.iload_n 1, 1) := by decide +kernel
theorem dX2_dropFirst_22 : decode cX2_dropFirst 22 = .ok (.iaload, 1) := by decide +kernel
theorem dX2_dropFirst_23 : decode cX2_dropFirst 23 = .ok (.invokevirtual 21, 3) := by decide +kernel
theorem dX2_dropFirst_26 : decode cX2_dropFirst 26 = .ok (.iinc 1 1, 3) := by decide +kernel
theorem dX2_dropFirst_29 : decode cX2_dropFirst 29 = .ok (.goto (-26), 3) := by decide +kernel
theorem dX2_dropFirst_32 : decode cX2_dropFirst 32 = .ok (.return_, 1) := by decide +kernel
theorem dX3_init_0 : decode cX3_init 0 = .ok (.aload_n 0, 1) := by decide +kernel
theorem dX3_init_1 : decode cX3_init 1 = .ok (.invokespecial 3, 3) := by decide +kernel
theorem dX3_init_4 : decode cX3_init 4 = .ok (.aload_n 0, 1) := by decide +kernel
theorem dX3_init_5 : decode cX3_init 5 = .ok (.bipush 6, 2) := by decide +kernel
theorem dX3_init_7 : decode cX3_init 7 = .ok (.newarray .int, 2) := by decide +kernel
theorem dX3_init_9 : decode cX3_init 9 = .ok (.putfield 9, 3) := by decide +kernel
theorem dX3_init_12 : decode cX3_init 12 = .ok (.aload_n 0, 1) := by decide +kernel
theorem dX3_init_13 : decode cX3_init 13 = .ok (.bipush 6, 2) := by decide +kernel
theorem dX3_init_15 : decode cX3_init 15 = .ok (.newarray .int, 2) := by decide +kernel
theorem dX3_init_17 : decode cX3_init 17 = .ok (.putfield 15, 3) := by decide +kernel
theorem dX3_init_20 : decode cX3_init 20 = .ok (.aload_n 0, 1) := by decide +kernel
theorem dX3_init_21 : decode cX3_init 21 = .ok (.bipush 6, 2) := by decide +kernel
theorem dX3_init_23 : decode cX3_init 23 = .ok (.newarray .boolean, 2) := by decide +kernel
theorem dX3_init_25 : decode cX3_init 25 = .ok (.putfield 18, 3) := by decide +kernel
theorem dX3_init_28 : decode cX3_init 28 = .ok (.return_, 1) := by decide +kernel
theorem dX3_isFull_0 : decode cX3_isFull 0 = .ok (.aload_n 0, 1) := by decide +kernel
theorem dX3_isFull_1 : decode cX3_isFull 1 = .ok (.getfield 22, 3) := by decide +kernel
theorem dX3_isFull_4 : decode cX3_isFull 4 = .ok (.aload_n 0, 1) := by decide +kernel
theorem dX3_isFull_5 : decode cX3_isFull 5 = .ok (.getfield 9, 3) := by decide +kernel
theorem dX3_isFull_8 : decode cX3_isFull 8 = .ok (.arraylength, 1) := by decide +kernel
theorem dX3_isFull_9 : decode cX3_isFull 9 = .ok (.if_icmp .lt 7, 3) := by decide +kernel
theorem dX3_isFull_12 : decode cX3_isFull 12 = .ok (.iconst 1, 1) := by decide +kernel
theorem dX3_isFull_13 : decode cX3_isFull 13 = .ok (.goto 4, 3) := by decide +kernel
theorem dX3_isFull_16 : decode cX3_isFull 16 = .ok (.iconst 0, 1) := by decide +kernel
theorem dX3_isFull_17 : decode cX3_isFull 17 = .ok (.ireturn, 1) := by decide +kernel
theorem dX3_add_0 : decode cX3_add 0 = .ok (.aload_n 0, 1) := by decide +kernel
theorem dX3_add_1 : decode cX3_add 1 = .ok (.aload_n 0, 1) := by decide +kernel
theorem dX3_add_2 : decode cX3_add 2 = .ok (.getfield 22, 3) := by decide +kernel
theorem dX3_add_5 : decode cX3_add 5 = .ok (.invokevirtual 26, 3) := by decide +kernel
theorem dX3_add_8 : decode cX3_add 8 = .ok (.ifCond .ne 4, 3) := by decide +kernel
theorem dX3_add_11 : decode cX3_add 11 = .ok (.return_, 1) := by decide +kernel
theorem dX3_add_12 : decode cX3_add 12 = .ok (.aload_n 0, 1) := by decide +kernel
theorem dX3_add_13 : decode cX3_add 13 = .ok (.getfield 9, 3) := by decide +kernel
theorem dX3_add_16 : decode cX3_add 16 = .ok (.aload_n 0, 1) := by decide +kernel
theorem dX3_add_17 : decode cX3_add 17 = .ok (.getfield 22, 3) := by decide +kernel
theorem dX3_add_20 : decode cX3_add 20 = .ok (.iload_n 1, 1) := by decide +kernel
theorem dX3_add_21 : decode cX3_add 21 = .ok (.iastore, 1) := by decide +kernel
theorem dX3_add_22 : decode cX3_add 22 = .ok (.aload_n 0, 1) := by decide +kernel
theorem dX3_add_23 : decode cX3_add 23 = .ok (.getfield 15, 3) := by decide +kernel
theorem dX3_add_26 : decode cX3_add 26 = .ok (.aload_n 0, 1) := by decide +kernel
theorem dX3_add_27 : decode cX3_add 27 = .ok (.getfield 22, 3) := by decide +kernel
theorem dX3_add_30 : decode cX3_add 30 = .ok (.iload_n 2, 1) := by decide +kernel
theorem dX3_add_31 : decode cX3_add 31 = .ok (.iastore, 1) := by decide +kernel
theorem dX3_add_32 : decode cX3_add 32 = .ok (.aload_n 0, 1) := by decide +kernel
theorem dX3_add_33 : decode cX3_add 33 = .ok (.getfield 18, 3) := by decide +kernel
theorem dX3_add_36 : decode cX3_add 36 = .ok (.aload_n 0, 1) := by decide +kernel
theorem dX3_add_37 : decode cX3_add 37 = .ok (.getfield 22, 3) := by decide +kernel
theorem dX3_add_40 : decode cX3_add 40 = .ok (.iload_n 3, 1) := by decide +kernel
theorem dX3_add_41 : decode cX3_add 41 = .ok (.bastore, 1) := by decide +kernel
theorem dX3_add_42 : decode cX3_add 42 = .ok (.aload_n 0, 1) := by decide +kernel
theorem dX3_add_43 : decode cX3_add 43 = .ok (.dup, 1) := by decide +kernel
theorem dX3_add_44 : decode cX3_add 44 = .ok (.getfield 22, 3) := by decide +kernel
theorem dX3_add_47 : decode cX3_add 47 = .ok (.iconst 1, 1) := by decide +kernel
theorem dX3_add_48 : decode cX3_add 48 = .ok (.iadd, 1) := by decide +kernel
theorem dX3_add_49 : decode cX3_add 49 = .ok (.putfield 22, 3) := by decide +kernel
theorem dX3_add_52 : decode cX3_add 52 = .ok (.return_, 1) := by decide +kernel
theorem dX3_holds_0 : decode cX3_holds 0 = .ok (.iload_n 1, 1) := by decide +kernel
theorem dX3_holds_1 : decode cX3_holds 1 = .ok (.ifCond .lt 34, 3) := by decide +kernel
theorem dX3_holds_4 : decode cX3_holds 4 = .ok (.iload_n 1, 1) := by decide +kernel
theorem dX3_holds_5 : decode cX3_holds 5 = .ok (.aload_n 0, 1) := by decide +kernel
theorem dX3_holds_6 : decode cX3_holds 6 = .ok (.getfield 9, 3) := by decide +kernel
theorem dX3_holds_9 : decode cX3_holds 9 = .ok (.arraylength, 1) := by decide +kernel
theorem dX3_holds_10 : decode cX3_holds 10 = .ok (.if_icmp .ge 25, 3) := by decide +kernel
theorem dX3_holds_13 : decode cX3_holds 13 = .ok (.iload_n 1, 1) := by decide +kernel
theorem dX3_holds_14 : decode cX3_holds 14 = .ok (.aload_n 0, 1) := by decide +kernel
theorem dX3_holds_15 : decode cX3_holds 15 = .ok (.getfield 15, 3) := by decide +kernel
theorem dX3_holds_18 : decode cX3_holds 18 = .ok (.arraylength, 1) := by decide +kernel
theorem dX3_holds_19 : decode cX3_holds 19 = .ok (.if_icmp .ge 16, 3) := by decide +kernel
theorem dX3_holds_22 : decode cX3_holds 22 = .ok (.iload_n 1, 1) := by decide +kernel
theorem dX3_holds_23 : decode cX3_holds 23 = .ok (.aload_n 0, 1) := by decide +kernel
theorem dX3_holds_24 : decode cX3_holds 24 = .ok (.getfield 18, 3) := by decide +kernel
theorem dX3_holds_27 : decode cX3_holds 27 = .ok (.arraylength, 1) := by decide +kernel
theorem dX3_holds_28 : decode cX3_holds 28 = .ok (.if_icmp .ge 7, 3) := by decide +kernel
theorem dX3_holds_31 : decode cX3_holds 31 = .ok (.iconst 1, 1) := by decide +kernel
theorem dX3_holds_32 : decode cX3_holds 32 = .ok (.goto 4, 3) := by decide +kernel
theorem dX3_holds_35 : decode cX3_holds 35 = .ok (.iconst 0, 1) := by decide +kernel
theorem dX3_holds_36 : decode cX3_holds 36 = .ok (.ireturn, 1) := by decide +kernel
theorem dX3_agree_0 : decode cX3_agree 0 = .ok (.iconst 0, 1) := by decide +kernel
theorem dX3_agree_1 : decode cX3_agree 1 = .ok (.istore 5, 2) := by decide +kernel
theorem dX3_agree_3 : decode cX3_agree 3 = .ok (.iload 5, 2) := by decide +kernel
theorem dX3_agree_5 : decode cX3_agree 5 = .ok (.aload_n 0, 1) := by decide +kernel
theorem dX3_agree_6 : decode cX3_agree 6 = .ok (.getfield 22, 3) := by decide +kernel
theorem dX3_agree_9 : decode cX3_agree 9 = .ok (.if_icmp .ge 76, 3) := by decide +kernel
theorem dX3_agree_12 : decode cX3_agree 12 = .ok (.aload_n 0, 1) := by decide +kernel
theorem dX3_agree_13 : decode cX3_agree 13 = .ok (.iload 5, 2) := by decide +kernel
theorem dX3_agree_15 : decode cX3_agree 15 = .ok (.invokevirtual 26, 3) := by decide +kernel
theorem dX3_agree_18 : decode cX3_agree 18 = .ok (.ifCond .eq 67, 3) := by decide +kernel
theorem dX3_agree_21 : decode cX3_agree 21 = .ok (.aload_n 0, 1) := by decide +kernel
theorem dX3_agree_22 : decode cX3_agree 22 = .ok (.getfield 9, 3) := by decide +kernel
theorem dX3_agree_25 : decode cX3_agree 25 = .ok (.iload 5, 2) := by decide +kernel
theorem dX3_agree_27 : decode cX3_agree 27 = .ok (.iaload, 1) := by decide +kernel
theorem dX3_agree_28 : decode cX3_agree 28 = .ok (.iload_n 2, 1) := by decide +kernel
theorem dX3_agree_29 : decode cX3_agree 29 = .ok (.if_icmp .eq 6, 3) := by decide +kernel
theorem dX3_agree_32 : decode cX3_agree 32 = .ok (.goto 47, 3) := by decide +kernel
theorem dX3_agree_35 : decode cX3_agree 35 = .ok (.aload_n 1, 1) := by decide +kernel
theorem dX3_agree_36 : decode cX3_agree 36 = .ok (.iload_n 3, 1) := by decide +kernel
theorem dX3_agree_37 : decode cX3_agree 37 = .ok (.iload_n 2, 1) := by decide +kernel
theorem dX3_agree_38 : decode cX3_agree 38 = .ok (.iload 4, 2) := by decide +kernel
theorem dX3_agree_40 : decode cX3_agree 40 = .ok (.aload_n 0, 1) := by decide +kernel
theorem dX3_agree_41 : decode cX3_agree 41 = .ok (.getfield 15, 3) := by decide +kernel
theorem dX3_agree_44 : decode cX3_agree 44 = .ok (.iload 5, 2) := by decide +kernel
theorem dX3_agree_46 : decode cX3_agree 46 = .ok (.iaload, 1) := by decide +kernel
theorem dX3_agree_47 : decode cX3_agree 47 = .ok (.invokevirtual 30, 3) := by decide +kernel
theorem dX3_agree_50 : decode cX3_agree 50 = .ok (.istore 6, 2) := by decide +kernel
theorem dX3_agree_52 : decode cX3_agree 52 = .ok (.aload_n 1, 1) := by decide +kernel
theorem dX3_agree_53 : decode cX3_agree 53 = .ok (.iload 6, 2) := by decide +kernel
theorem dX3_agree_55 : decode cX3_agree 55 = .ok (.aload_n 0, 1) := by decide +kernel
theorem dX3_agree_56 : decode cX3_agree 56 = .ok (.getfield 15, 3) := by decide +kernel
theorem dX3_agree_59 : decode cX3_agree 59 = .ok (.iload 5, 2) := by decide +kernel
theorem dX3_agree_61 : decode cX3_agree 61 = .ok (.iaload, 1) := by decide +kernel
theorem dX3_agree_62 : decode cX3_agree 62 = .ok (.bipush 15, 2) := by decide +kernel
theorem dX3_agree_64 : decode cX3_agree 64 = .ok (.invokevirtual 36, 3) := by decide +kernel
theorem dX3_agree_67 : decode cX3_agree 67 = .ok (.aload_n 0, 1) := by decide +kernel
theorem dX3_agree_68 : decode cX3_agree 68 = .ok (.getfield 18, 3) := by decide +kernel
theorem dX3_agree_71 : decode cX3_agree 71 = .ok (.iload 5, 2) := by decide +kernel
theorem dX3_agree_73 : decode cX3_agree 73 = .ok (.baload, 1) := by decide +kernel
theorem dX3_agree_74 : decode cX3_agree 74 = .ok (.if_icmp .eq 5, 3) := by decide +kernel
theorem dX3_agree_77 : decode cX3_agree 77 = .ok (.iconst 0, 1) := by decide +kernel
theorem dX3_agree_78 : decode cX3_agree 78 = .ok (.ireturn, 1) := by decide +kernel
theorem dX3_agree_79 : decode cX3_agree 79 = .ok (.iinc 5 1, 3) := by decide +kernel
theorem dX3_agree_82 : decode cX3_agree 82 = .ok (.goto (-79), 3) := by decide +kernel
theorem dX3_agree_85 : decode cX3_agree 85 = .ok (.iconst 1, 1) := by decide +kernel
theorem dX3_agree_86 : decode cX3_agree 86 = .ok (.ireturn, 1) := by decide +kernel
theorem dX4_init_0 : decode cX4_init 0 = .ok (.aload_n 0, 1) := by decide +kernel
theorem dX4_init_1 : decode cX4_init 1 = .ok (.invokespecial 3, 3) := by decide +kernel
theorem dX4_init_4 : decode cX4_init 4 = .ok (.aload_n 0, 1) := by decide +kernel
theorem dX4_init_5 : decode cX4_init 5 = .ok (.bipush 36, 2) := by decide +kernel
theorem dX4_init_7 : decode cX4_init 7 = .ok (.newarray .int, 2) := by decide +kernel
theorem dX4_init_9 : decode cX4_init 9 = .ok (.putfield 9, 3) := by decide +kernel
theorem dX4_init_12 : decode cX4_init 12 = .ok (.return_, 1) := by decide +kernel
theorem dX4_isFull_0 : decode cX4_isFull 0 = .ok (.aload_n 0, 1) := by decide +kernel
theorem dX4_isFull_1 : decode cX4_isFull 1 = .ok (.getfield 15, 3) := by decide +kernel
theorem dX4_isFull_4 : decode cX4_isFull 4 = .ok (.aload_n 0, 1) := by decide +kernel
theorem dX4_isFull_5 : decode cX4_isFull 5 = .ok (.getfield 9, 3) := by decide +kernel
theorem dX4_isFull_8 : decode cX4_isFull 8 = .ok (.arraylength, 1) := by decide +kernel
theorem dX4_isFull_9 : decode cX4_isFull 9 = .ok (.if_icmp .lt 7, 3) := by decide +kernel
theorem dX4_isFull_12 : decode cX4_isFull 12 = .ok (.iconst 1, 1) := by decide +kernel
theorem dX4_isFull_13 : decode cX4_isFull 13 = .ok (.goto 4, 3) := by decide +kernel
theorem dX4_isFull_16 : decode cX4_isFull 16 = .ok (.iconst 0, 1) := by decide +kernel
theorem dX4_isFull_17 : decode cX4_isFull 17 = .ok (.ireturn, 1) := by decide +kernel
theorem dX4_append_0 : decode cX4_append 0 = .ok (.aload_n 0, 1) := by decide +kernel
theorem dX4_append_1 : decode cX4_append 1 = .ok (.getfield 15, 3) := by decide +kernel
theorem dX4_append_4 : decode cX4_append 4 = .ok (.ifCond .lt 15, 3) := by decide +kernel
theorem dX4_append_7 : decode cX4_append 7 = .ok (.aload_n 0, 1) := by decide +kernel
theorem dX4_append_8 : decode cX4_append 8 = .ok (.getfield 15, 3) := by decide +kernel
theorem dX4_append_11 : decode cX4_append 11 = .ok (.aload_n 0, 1) := by decide +kernel
theorem dX4_append_12 : decode cX4_append 12 = .ok (.getfield 9, 3) := by decide +kernel
theorem dX4_append_15 : decode cX4_append 15 = .ok (.arraylength, 1) := by decide +kernel
theorem dX4_append_16 : decode cX4_append 16 = .ok (.if_icmp .lt 4, 3) := by decide +kernel
theorem dX4_append_19 : decode cX4_append 19 = .ok (.return_, 1) := by decide +kernel
theorem dX4_append_20 : decode cX4_append 20 = .ok (.aload_n 0, 1) := by decide +kernel
theorem dX4_append_21 : decode cX4_append 21 = .ok (.getfield 9, 3) := by decide +kernel
theorem dX4_append_24 : decode cX4_append 24 = .ok (.aload_n 0, 1) := by decide +kernel
theorem dX4_append_25 : decode cX4_append 25 = .ok (.getfield 15, 3) := by decide +kernel
theorem dX4_append_28 : decode cX4_append 28 = .ok (.iload_n 1, 1) := by decide +kernel
theorem dX4_append_29 : decode cX4_append 29 = .ok (.iastore, 1) := by decide +kernel
theorem dX4_append_30 : decode cX4_append 30 = .ok (.aload_n 0, 1) := by decide +kernel
theorem dX4_append_31 : decode cX4_append 31 = .ok (.dup, 1) := by decide +kernel
theorem dX4_append_32 : decode cX4_append 32 = .ok (.getfield 15, 3) := by decide +kernel
theorem dX4_append_35 : decode cX4_append 35 = .ok (.iconst 1, 1) := by decide +kernel
theorem dX4_append_36 : decode cX4_append 36 = .ok (.iadd, 1) := by decide +kernel
theorem dX4_append_37 : decode cX4_append 37 = .ok (.putfield 15, 3) := by decide +kernel
theorem dX4_append_40 : decode cX4_append 40 = .ok (.return_, 1) := by decide +kernel
theorem dX4_letterAt_0 : decode cX4_letterAt 0 = .ok (.iload_n 1, 1) := by decide +kernel
theorem dX4_letterAt_1 : decode cX4_letterAt 1 = .ok (.ifCond .lt 21, 3) := by decide +kernel
theorem dX4_letterAt_4 : decode cX4_letterAt 4 = .ok (.iload_n 1, 1) := by decide +kernel
theorem dX4_letterAt_5 : decode cX4_letterAt 5 = .ok (.aload_n 0, 1) := by decide +kernel
theorem dX4_letterAt_6 : decode cX4_letterAt 6 = .ok (.getfield 9, 3) := by decide +kernel
theorem dX4_letterAt_9 : decode cX4_letterAt 9 = .ok (.arraylength, 1) := by decide +kernel
theorem dX4_letterAt_10 : decode cX4_letterAt 10 = .ok (.if_icmp .ge 12, 3) := by decide +kernel
theorem dX4_letterAt_13 : decode cX4_letterAt 13 = .ok (.aload_n 0, 1) := by decide +kernel
theorem dX4_letterAt_14 : decode cX4_letterAt 14 = .ok (.getfield 9, 3) := by decide +kernel
theorem dX4_letterAt_17 : decode cX4_letterAt 17 = .ok (.iload_n 1, 1) := by decide +kernel
theorem dX4_letterAt_18 : decode cX4_letterAt 18 = .ok (.iaload, 1) := by decide +kernel
theorem dX4_letterAt_19 : decode cX4_letterAt 19 = .ok (.goto 4, 3) := by decide +kernel
theorem dX4_letterAt_22 : decode cX4_letterAt 22 = .ok (.iconst 0, 1) := by decide +kernel
theorem dX4_letterAt_23 : decode cX4_letterAt 23 = .ok (.ireturn, 1) := by decide +kernel
theorem dX4_figureAt_0 : decode cX4_figureAt 0 = .ok (.aload_n 0, 1) := by decide +kernel
theorem dX4_figureAt_1 : decode cX4_figureAt 1 = .ok (.iload_n 1, 1) := by decide +kernel
theorem dX4_figureAt_2 : decode cX4_figureAt 2 = .ok (.invokevirtual 19, 3) := by decide +kernel
theorem dX4_figureAt_5 : decode cX4_figureAt 5 = .ok (.bipush 48, 2) := by decide +kernel
theorem dX4_figureAt_7 : decode cX4_figureAt 7 = .ok (.isub, 1) := by decide +kernel
theorem dX4_figureAt_8 : decode cX4_figureAt 8 = .ok (.ireturn, 1) := by decide +kernel
theorem dX4_firstFault_0 : decode cX4_firstFault 0 = .ok (.iconst 0, 1) := by decide +kernel
theorem dX4_firstFault_1 : decode cX4_firstFault 1 = .ok (.istore_n 1, 1) := by decide +kernel
theorem dX4_firstFault_2 : decode cX4_firstFault 2 = .ok (.iconst 0, 1) := by decide +kernel
theorem dX4_firstFault_3 : decode cX4_firstFault 3 = .ok (.istore_n 2, 1) := by decide +kernel
theorem dX4_firstFault_4 : decode cX4_firstFault 4 = .ok (.iconst 0, 1) := by decide +kernel
theorem dX4_firstFault_5 : decode cX4_firstFault 5 = .ok (.istore_n 3, 1) := by decide +kernel
theorem dX4_firstFault_6 : decode cX4_firstFault 6 = .ok (.iload_n 3, 1) := by decide +kernel
theorem dX4_firstFault_7 : decode cX4_firstFault 7 = .ok (.aload_n 0, 1) := by decide +kernel
theorem dX4_firstFault_8 : decode cX4_firstFault 8 = .ok (.getfield 15, 3) := by decide +kernel
theorem dX4_firstFault_11 : decode cX4_firstFault 11 = .ok (.if_icmp .ge 47, 3) := by decide +kernel
theorem dX4_firstFault_14 : decode cX4_firstFault 14 = .ok (.aload_n 0, 1) := by decide +kernel
theorem dX4_firstFault_15 : decode cX4_firstFault 15 = .ok (.iload_n 3, 1) := by decide +kernel
theorem dX4_firstFault_16 : decode cX4_firstFault 16 = .ok (.iload_n 1, 1) := by decide +kernel
theorem dX4_firstFault_17 : decode cX4_firstFault 17 = .ok (.iload_n 2, 1) := by decide +kernel
theorem dX4_firstFault_18 : decode cX4_firstFault 18 = .ok (.invokevirtual 23, 3) := by decide +kernel
theorem dX4_firstFault_21 : decode cX4_firstFault 21 = .ok (.ifCond .ne 5, 3) := by decide +kernel
theorem dX4_firstFault_24 : decode cX4_firstFault 24 = .ok (.iload_n 3, 1) := by decide +kernel
theorem dX4_firstFault_25 : decode cX4_firstFault 25 = .ok (.ireturn, 1) := by decide +kernel
theorem dX4_firstFault_26 : decode cX4_firstFault 26 = .ok (.aload_n 0, 1) := by decide +kernel
theorem dX4_firstFault_27 : decode cX4_firstFault 27 = .ok (.iload_n 3, 1) := by decide +kernel
theorem dX4_firstFault_28 : decode cX4_firstFault 28 = .ok (.invokevirtual 19, 3) := by decide +kernel
theorem dX4_firstFault_31 : decode cX4_firstFault 31 = .ok (.bipush 87, 2) := by decide +kernel
theorem dX4_firstFault_33 : decode cX4_firstFault 33 = .ok (.if_icmp .ne 6, 3) := by decide +kernel
theorem dX4_firstFault_36 : decode cX4_firstFault 36 = .ok (.iinc 1 1, 3) := by decide +kernel
theorem dX4_firstFault_39 : decode cX4_firstFault 39 = .ok (.aload_n 0, 1) := by decide +kernel
theorem dX4_firstFault_40 : decode cX4_firstFault 40 = .ok (.iload_n 3, 1) := by decide +kernel
theorem dX4_firstFault_41 : decode cX4_firstFault 41 = .ok (.invokevirtual 19, 3) := by decide +kernel
theorem dX4_firstFault_44 : decode cX4_firstFault 44 = .ok (.bipush 84, 2) := by decide +kernel
theorem dX4_firstFault_46 : decode cX4_firstFault 46 = .ok (.if_icmp .ne 6, 3) := by decide +kernel
theorem dX4_firstFault_49 : decode cX4_firstFault 49 = .ok (.iinc 2 1, 3) := by decide +kernel
theorem dX4_firstFault_52 : decode cX4_firstFault 52 = .ok (.iinc 3 1, 3) := by decide +kernel
theorem dX4_firstFault_55 : decode cX4_firstFault 55 = .ok (.goto (-49), 3) := by decide +kernel
theorem dX4_firstFault_58 : decode cX4_firstFault 58 = .ok (.aload_n 0, 1) := by decide +kernel
theorem dX4_firstFault_59 : decode cX4_firstFault 59 = .ok (.getfield 15, 3) := by decide +kernel
theorem dX4_firstFault_62 : decode cX4_firstFault 62 = .ok (.ifCond .eq 12, 3) := by decide +kernel
theorem dX4_firstFault_65 : decode cX4_firstFault 65 = .ok (.aload_n 0, 1) := by decide +kernel
theorem dX4_firstFault_66 : decode cX4_firstFault 66 = .ok (.getfield 15, 3) := by decide +kernel
theorem dX4_firstFault_69 : decode cX4_firstFault 69 = .ok (.iconst 3, 1) := by decide +kernel
theorem dX4_firstFault_70 : decode cX4_firstFault 70 = .ok (.irem, 1) := by decide +kernel
theorem dX4_firstFault_71 : decode cX4_firstFault 71 = .ok (.ifCond .eq 10, 3) := by decide +kernel
theorem dX4_firstFault_74 : decode cX4_firstFault 74 = .ok (.aload_n 0, 1) := by decide +kernel
theorem dX4_firstFault_75 : decode cX4_firstFault 75 = .ok (.getfield 15, 3) := by decide +kernel
theorem dX4_firstFault_78 : decode cX4_firstFault 78 = .ok (.goto 5, 3) := by decide +kernel
theorem dX4_firstFault_81 : decode cX4_firstFault 81 = .ok (.bipush (-9), 2) := by decide +kernel
theorem dX4_firstFault_83 : decode cX4_firstFault 83 = .ok (.ireturn, 1) := by decide +kernel
theorem dX4_fits_0 : decode cX4_fits 0 = .ok (.aload_n 0, 1) := by decide +kernel
theorem dX4_fits_1 : decode cX4_fits 1 = .ok (.iload_n 1, 1) := by decide +kernel
theorem dX4_fits_2 : decode cX4_fits 2 = .ok (.invokevirtual 19, 3) := by decide +kernel
theorem dX4_fits_5 : decode cX4_fits 5 = .ok (.istore 4, 2) := by decide +kernel
theorem dX4_fits_7 : decode cX4_fits 7 = .ok (.iload_n 1, 1) := by decide +kernel
theorem dX4_fits_8 : decode cX4_fits 8 = .ok (.ifCond .ne 16, 3) := by decide +kernel
theorem dX4_fits_11 : decode cX4_fits 11 = .ok (.iload 4, 2) := by decide +kernel
theorem dX4_fits_13 : decode cX4_fits 13 = .ok (.bipush 68, 2) := by decide +kernel
theorem dX4_fits_15 : decode cX4_fits 15 = .ok (.if_icmp .ne 7, 3) := by decide +kernel
theorem dX4_fits_18 : decode cX4_fits 18 = .ok (.iconst 1, 1) := by decide +kernel
theorem dX4_fits_19 : decode cX4_fits 19 = .ok (.goto 4, 3) := by decide +kernel
theorem dX4_fits_22 : decode cX4_fits 22 = .ok (.iconst 0, 1) := by decide +kernel
theorem dX4_fits_23 : decode cX4_fits 23 = .ok (.ireturn, 1) := by decide +kernel
theorem dX4_fits_24 : decode cX4_fits 24 = .ok (.iload_n 1, 1) := by decide +kernel
theorem dX4_fits_25 : decode cX4_fits 25 = .ok (.iconst 3, 1) := by decide +kernel
theorem dX4_fits_26 : decode cX4_fits 26 = .ok (.irem, 1) := by decide +kernel
theorem dX4_fits_27 : decode cX4_fits 27 = .ok (.lookupswitch 75 #[(0, 25), (1, 55)], 25) := by decide +kernel
theorem dX4_fits_52 : decode cX4_fits 52 = .ok (.iload 4, 2) := by decide +kernel
theorem dX4_fits_54 : decode cX4_fits 54 = .ok (.bipush 87, 2) := by decide +kernel
theorem dX4_fits_56 : decode cX4_fits 56 = .ok (.if_icmp .ne 8, 3) := by decide +kernel
theorem dX4_fits_59 : decode cX4_fits 59 = .ok (.iload_n 2, 1) := by decide +kernel
theorem dX4_fits_60 : decode cX4_fits 60 = .ok (.iconst 4, 1) := by decide +kernel
theorem dX4_fits_61 : decode cX4_fits 61 = .ok (.if_icmp .lt 15, 3) := by decide +kernel
theorem dX4_fits_64 : decode cX4_fits 64 = .ok (.iload 4, 2) := by decide +kernel
theorem dX4_fits_66 : decode cX4_fits 66 = .ok (.bipush 84, 2) := by decide +kernel
theorem dX4_fits_68 : decode cX4_fits 68 = .ok (.if_icmp .ne 12, 3) := by decide +kernel
theorem dX4_fits_71 : decode cX4_fits 71 = .ok (.iload_n 3, 1) := by decide +kernel
theorem dX4_fits_72 : decode cX4_fits 72 = .ok (.iconst 4, 1) := by decide +kernel
theorem dX4_fits_73 : decode cX4_fits 73 = .ok (.if_icmp .ge 7, 3) := by decide +kernel
theorem dX4_fits_76 : decode cX4_fits 76 = .ok (.iconst 1, 1) := by decide +kernel
theorem dX4_fits_77 : decode cX4_fits 77 = .ok (.goto 4, 3) := by decide +kernel
theorem dX4_fits_80 : decode cX4_fits 80 = .ok (.iconst 0, 1) := by decide +kernel
theorem dX4_fits_81 : decode cX4_fits 81 = .ok (.ireturn, 1) := by decide +kernel
theorem dX4_fits_82 : decode cX4_fits 82 = .ok (.iload 4, 2) := by decide +kernel
theorem dX4_fits_84 : decode cX4_fits 84 = .ok (.bipush 48, 2) := by decide +kernel
theorem dX4_fits_86 : decode cX4_fits 86 = .ok (.if_icmp .lt 14, 3) := by decide +kernel
theorem dX4_fits_89 : decode cX4_fits 89 = .ok (.iload 4, 2) := by decide +kernel
theorem dX4_fits_91 : decode cX4_fits 91 = .ok (.bipush 57, 2) := by decide +kernel
theorem dX4_fits_93 : decode cX4_fits 93 = .ok (.if_icmp .gt 7, 3) := by decide +kernel
theorem dX4_fits_96 : decode cX4_fits 96 = .ok (.iconst 1, 1) := by decide +kernel
theorem dX4_fits_97 : decode cX4_fits 97 = .ok (.goto 4, 3) := by decide +kernel
theorem dX4_fits_100 : decode cX4_fits 100 = .ok (.iconst 0, 1) := by decide +kernel
theorem dX4_fits_101 : decode cX4_fits 101 = .ok (.ireturn, 1) := by decide +kernel
theorem dX4_fits_102 : decode cX4_fits 102 = .ok (.aload_n 0, 1) := by decide +kernel
theorem dX4_fits_103 : decode cX4_fits 103 = .ok (.aload_n 0, 1) := by decide +kernel
theorem dX4_fits_104 : decode cX4_fits 104 = .ok (.iload_n 1, 1) := by decide +kernel
theorem dX4_fits_105 : decode cX4_fits 105 = .ok (.iconst 2, 1) := by decide +kernel
theorem dX4_fits_106 : decode cX4_fits 106 = .ok (.isub, 1) := by decide +kernel
theorem dX4_fits_107 : decode cX4_fits 107 = .ok (.invokevirtual 19, 3) := by decide +kernel
theorem dX4_fits_110 : decode cX4_fits 110 = .ok (.iload 4, 2) := by decide +kernel
theorem dX4_fits_112 : decode cX4_fits 112 = .ok (.invokevirtual 27, 3) := by decide +kernel
theorem dX4_fits_115 : decode cX4_fits 115 = .ok (.ireturn, 1) := by decide +kernel
theorem dX4_endsPart_0 : decode cX4_endsPart 0 = .ok (.iload_n 1, 1) := by decide +kernel
theorem dX4_endsPart_1 : decode cX4_endsPart 1 = .ok (.bipush 87, 2) := by decide +kernel
theorem dX4_endsPart_3 : decode cX4_endsPart 3 = .ok (.if_icmp .ne 21, 3) := by decide +kernel
theorem dX4_endsPart_6 : decode cX4_endsPart 6 = .ok (.iload_n 2, 1) := by decide +kernel
theorem dX4_endsPart_7 : decode cX4_endsPart 7 = .ok (.bipush 48, 2) := by decide +kernel
theorem dX4_endsPart_9 : decode cX4_endsPart 9 = .ok (.if_icmp .lt 13, 3) := by decide +kernel
theorem dX4_endsPart_12 : decode cX4_endsPart 12 = .ok (.iload_n 2, 1) := by decide +kernel
theorem dX4_endsPart_13 : decode cX4_endsPart 13 = .ok (.bipush 51, 2) := by decide +kernel
theorem dX4_endsPart_15 : decode cX4_endsPart 15 = .ok (.if_icmp .gt 7, 3) := by decide +kernel
theorem dX4_endsPart_18 : decode cX4_endsPart 18 = .ok (.iconst 1, 1) := by decide +kernel
theorem dX4_endsPart_19 : decode cX4_endsPart 19 = .ok (.goto 4, 3) := by decide +kernel
theorem dX4_endsPart_22 : decode cX4_endsPart 22 = .ok (.iconst 0, 1) := by decide +kernel
theorem dX4_endsPart_23 : decode cX4_endsPart 23 = .ok (.ireturn, 1) := by decide +kernel
theorem dX4_endsPart_24 : decode cX4_endsPart 24 = .ok (.iload_n 1, 1) := by decide +kernel
theorem dX4_endsPart_25 : decode cX4_endsPart 25 = .ok (.bipush 84, 2) := by decide +kernel
theorem dX4_endsPart_27 : decode cX4_endsPart 27 = .ok (.if_icmp .ne 21, 3) := by decide +kernel
theorem dX4_endsPart_30 : decode cX4_endsPart 30 = .ok (.iload_n 2, 1) := by decide +kernel
theorem dX4_endsPart_31 : decode cX4_endsPart 31 = .ok (.bipush 49, 2) := by decide +kernel
theorem dX4_endsPart_33 : decode cX4_endsPart 33 = .ok (.if_icmp .lt 13, 3) := by decide +kernel
theorem dX4_endsPart_36 : decode cX4_endsPart 36 = .ok (.iload_n 2, 1) := by decide +kernel
theorem dX4_endsPart_37 : decode cX4_endsPart 37 = .ok (.bipush 57, 2) := by decide +kernel
theorem dX4_endsPart_39 : decode cX4_endsPart 39 = .ok (.if_icmp .gt 7, 3) := by decide +kernel
theorem dX4_endsPart_42 : decode cX4_endsPart 42 = .ok (.iconst 1, 1) := by decide +kernel
theorem dX4_endsPart_43 : decode cX4_endsPart 43 = .ok (.goto 4, 3) := by decide +kernel
theorem dX4_endsPart_46 : decode cX4_endsPart 46 = .ok (.iconst 0, 1) := by decide +kernel
theorem dX4_endsPart_47 : decode cX4_endsPart 47 = .ok (.ireturn, 1) := by decide +kernel
theorem dX4_endsPart_48 : decode cX4_endsPart 48 = .ok (.iload_n 2, 1) := by decide +kernel
theorem dX4_endsPart_49 : decode cX4_endsPart 49 = .ok (.bipush 48, 2) := by decide +kernel
theorem dX4_endsPart_51 : decode cX4_endsPart 51 = .ok (.if_icmp .lt 13, 3) := by decide +kernel
theorem dX4_endsPart_54 : decode cX4_endsPart 54 = .ok (.iload_n 2, 1) := by decide +kernel
theorem dX4_endsPart_55 : decode cX4_endsPart 55 = .ok (.bipush 57, 2) := by decide +kernel
theorem dX4_endsPart_57 : decode cX4_endsPart 57 = .ok (.if_icmp .gt 7, 3) := by decide +kernel
theorem dX4_endsPart_60 : decode cX4_endsPart 60 = .ok (.iconst 1, 1) := by decide +kernel
theorem dX4_endsPart_61 : decode cX4_endsPart 61 = .ok (.goto 4, 3) := by decide +kernel
theorem dX4_endsPart_64 : decode cX4_endsPart 64 = .ok (.iconst 0, 1) := by decide +kernel
theorem dX4_endsPart_65 : decode cX4_endsPart 65 = .ok (.ireturn, 1) := by decide +kernel
theorem dX5_init_0 : decode cX5_init 0 = .ok (.aload_n 0, 1) := by decide +kernel
theorem dX5_init_1 : decode cX5_init 1 = .ok (.invokespecial 3, 3) := by decide +kernel
theorem dX5_init_4 : decode cX5_init 4 = .ok (.aload_n 0, 1) := by decide +kernel
theorem dX5_init_5 : decode cX5_init 5 = .ok (.new 9, 3) := by decide +kernel
theorem dX5_init_8 : decode cX5_init 8 = .ok (.dup, 1) := by decide +kernel
theorem dX5_init_9 : decode cX5_init 9 = .ok (.invokespecial 11, 3) := by decide +kernel
theorem dX5_init_12 : decode cX5_init 12 = .ok (.putfield 12, 3) := by decide +kernel
theorem dX5_init_15 : decode cX5_init 15 = .ok (.aload_n 0, 1) := by decide +kernel
theorem dX5_init_16 : decode cX5_init 16 = .ok (.new 16, 3) := by decide +kernel
theorem dX5_init_19 : decode cX5_init 19 = .ok (.dup, 1) := by decide +kernel
theorem dX5_init_20 : decode cX5_init 20 = .ok (.invokespecial 18, 3) := by decide +kernel
theorem dX5_init_23 : decode cX5_init 23 = .ok (.putfield 19, 3) := by decide +kernel
theorem dX5_init_26 : decode cX5_init 26 = .ok (.aload_n 0, 1) := by decide +kernel
theorem dX5_init_27 : decode cX5_init 27 = .ok (.new 23, 3) := by decide +kernel
theorem dX5_init_30 : decode cX5_init 30 = .ok (.dup, 1) := by decide +kernel
theorem dX5_init_31 : decode cX5_init 31 = .ok (.invokespecial 25, 3) := by decide +kernel
theorem dX5_init_34 : decode cX5_init 34 = .ok (.putfield 26, 3) := by decide +kernel
theorem dX5_init_37 : decode cX5_init 37 = .ok (.aload_n 0, 1) := by decide +kernel
theorem dX5_init_38 : decode cX5_init 38 = .ok (.new 23, 3) := by decide +kernel
theorem dX5_init_41 : decode cX5_init 41 = .ok (.dup, 1) := by decide +kernel
theorem dX5_init_42 : decode cX5_init 42 = .ok (.invokespecial 25, 3) := by decide +kernel
theorem dX5_init_45 : decode cX5_init 45 = .ok (.putfield 30, 3) := by decide +kernel
theorem dX5_init_48 : decode cX5_init 48 = .ok (.aload_n 0, 1) := by decide +kernel
theorem dX5_init_49 : decode cX5_init 49 = .ok (.new 33, 3) := by decide +kernel
theorem dX5_init_52 : decode cX5_init 52 = .ok (.dup, 1) := by decide +kernel
theorem dX5_init_53 : decode cX5_init 53 = .ok (.bipush 14, 2) := by decide +kernel
theorem dX5_init_55 : decode cX5_init 55 = .ok (.invokespecial 35, 3) := by decide +kernel
theorem dX5_init_58 : decode cX5_init 58 = .ok (.putfield 38, 3) := by decide +kernel
theorem dX5_init_61 : decode cX5_init 61 = .ok (.aload_n 0, 1) := by decide +kernel
theorem dX5_init_62 : decode cX5_init 62 = .ok (.new 33, 3) := by decide +kernel
theorem dX5_init_65 : decode cX5_init 65 = .ok (.dup, 1) := by decide +kernel
theorem dX5_init_66 : decode cX5_init 66 = .ok (.iconst 2, 1) := by decide +kernel
theorem dX5_init_67 : decode cX5_init 67 = .ok (.invokespecial 35, 3) := by decide +kernel
theorem dX5_init_70 : decode cX5_init 70 = .ok (.putfield 42, 3) := by decide +kernel
theorem dX5_init_73 : decode cX5_init 73 = .ok (.aload_n 0, 1) := by decide +kernel
theorem dX5_init_74 : decode cX5_init 74 = .ok (.iconst 2, 1) := by decide +kernel
theorem dX5_init_75 : decode cX5_init 75 = .ok (.newarray .boolean, 2) := by decide +kernel
theorem dX5_init_77 : decode cX5_init 77 = .ok (.putfield 45, 3) := by decide +kernel
theorem dX5_init_80 : decode cX5_init 80 = .ok (.aload_n 0, 1) := by decide +kernel
theorem dX5_init_81 : decode cX5_init 81 = .ok (.new 49, 3) := by decide +kernel
theorem dX5_init_84 : decode cX5_init 84 = .ok (.dup, 1) := by decide +kernel
theorem dX5_init_85 : decode cX5_init 85 = .ok (.invokespecial 51, 3) := by decide +kernel
theorem dX5_init_88 : decode cX5_init 88 = .ok (.putfield 52, 3) := by decide +kernel
theorem dX5_init_91 : decode cX5_init 91 = .ok (.return_, 1) := by decide +kernel
theorem dX5_write_0 : decode cX5_write 0 = .ok (.iload_n 1, 1) := by decide +kernel
theorem dX5_write_1 : decode cX5_write 1 = .ok (.ifCond .lt 10, 3) := by decide +kernel
theorem dX5_write_4 : decode cX5_write 4 = .ok (.iload_n 1, 1) := by decide +kernel
theorem dX5_write_5 : decode cX5_write 5 = .ok (.sipush 255, 3) := by decide +kernel
theorem dX5_write_8 : decode cX5_write 8 = .ok (.if_icmp .le 6, 3) := by decide +kernel
theorem dX5_write_11 : decode cX5_write 11 = .ok (.bipush (-2), 2) := by decide +kernel
theorem dX5_write_13 : decode cX5_write 13 = .ok (.ireturn, 1) := by decide +kernel
theorem dX5_write_14 : decode cX5_write 14 = .ok (.aload_n 0, 1) := by decide +kernel
theorem dX5_write_15 : decode cX5_write 15 = .ok (.getfield 12, 3) := by decide +kernel
theorem dX5_write_18 : decode cX5_write 18 = .ok (.invokevirtual 56, 3) := by decide +kernel
theorem dX5_write_21 : decode cX5_write 21 = .ok (.ifCond .eq 6, 3) := by decide +kernel
theorem dX5_write_24 : decode cX5_write 24 = .ok (.bipush (-4), 2) := by decide +kernel
theorem dX5_write_26 : decode cX5_write 26 = .ok (.ireturn, 1) := by decide +kernel
theorem dX5_write_27 : decode cX5_write 27 = .ok (.aload_n 0, 1) := by decide +kernel
theorem dX5_write_28 : decode cX5_write 28 = .ok (.getfield 12, 3) := by decide +kernel
theorem dX5_write_31 : decode cX5_write 31 = .ok (.iload_n 1, 1) := by decide +kernel
theorem dX5_write_32 : decode cX5_write 32 = .ok (.invokevirtual 60, 3) := by decide +kernel
theorem dX5_write_35 : decode cX5_write 35 = .ok (.aload_n 0, 1) := by decide +kernel
theorem dX5_write_36 : decode cX5_write 36 = .ok (.getfield 12, 3) := by decide +kernel
theorem dX5_write_39 : decode cX5_write 39 = .ok (.getfield 63, 3) := by decide +kernel
theorem dX5_write_42 : decode cX5_write 42 = .ok (.ireturn, 1) := by decide +kernel
theorem dX5_wipe_0 : decode cX5_wipe 0 = .ok (.aload_n 0, 1) := by decide +kernel
theorem dX5_wipe_1 : decode cX5_wipe 1 = .ok (.getfield 12, 3) := by decide +kernel
theorem dX5_wipe_4 : decode cX5_wipe 4 = .ok (.getfield 63, 3) := by decide +kernel
theorem dX5_wipe_7 : decode cX5_wipe 7 = .ok (.istore_n 1, 1) := by decide +kernel
theorem dX5_wipe_8 : decode cX5_wipe 8 = .ok (.aload_n 0, 1) := by decide +kernel
theorem dX5_wipe_9 : decode cX5_wipe 9 = .ok (.getfield 12, 3) := by decide +kernel
theorem dX5_wipe_12 : decode cX5_wipe 12 = .ok (.iconst 0, 1) := by decide +kernel
theorem dX5_wipe_13 : decode cX5_wipe 13 = .ok (.putfield 63, 3) := by decide +kernel
theorem dX5_wipe_16 : decode cX5_wipe 16 = .ok (.iload_n 1, 1) := by decide +kernel
theorem dX5_wipe_17 : decode cX5_wipe 17 = .ok (.ireturn, 1) := by decide +kernel
theorem dX5_fault_0 : decode cX5_fault 0 = .ok (.aload_n 0, 1) := by decide +kernel
theorem dX5_fault_1 : decode cX5_fault 1 = .ok (.getfield 12, 3) := by decide +kernel
theorem dX5_fault_4 : decode cX5_fault 4 = .ok (.invokevirtual 67, 3) := by decide +kernel
theorem dX5_fault_7 : decode cX5_fault 7 = .ok (.ireturn, 1) := by decide +kernel
theorem dX5_walk_0 : decode cX5_walk 0 = .ok (.aload_n 0, 1) := by decide +kernel
theorem dX5_walk_1 : decode cX5_walk 1 = .ok (.getfield 12, 3) := by decide +kernel
theorem dX5_walk_4 : decode cX5_walk 4 = .ok (.invokevirtual 67, 3) := by decide +kernel
theorem dX5_walk_7 : decode cX5_walk 7 = .ok (.bipush (-9), 2) := by decide +kernel
theorem dX5_walk_9 : decode cX5_walk 9 = .ok (.if_icmp .eq 6, 3) := by decide +kernel
theorem dX5_walk_12 : decode cX5_walk 12 = .ok (.bipush (-3), 2) := by decide +kernel
theorem dX5_walk_14 : decode cX5_walk 14 = .ok (.ireturn, 1) := by decide +kernel
theorem dX5_walk_15 : decode cX5_walk 15 = .ok (.aload_n 0, 1) := by decide +kernel
theorem dX5_walk_16 : decode cX5_walk 16 = .ok (.getfield 26, 3) := by decide +kernel
theorem dX5_walk_19 : decode cX5_walk 19 = .ok (.aload_n 0, 1) := by decide +kernel
theorem dX5_walk_20 : decode cX5_walk 20 = .ok (.getfield 12, 3) := by decide +kernel
theorem dX5_walk_23 : decode cX5_walk 23 = .ok (.iconst 1, 1) := by decide +kernel
theorem dX5_walk_24 : decode cX5_walk 24 = .ok (.invokevirtual 71, 3) := by decide +kernel
theorem dX5_walk_27 : decode cX5_walk 27 = .ok (.aload_n 0, 1) := by decide +kernel
theorem dX5_walk_28 : decode cX5_walk 28 = .ok (.getfield 12, 3) := by decide +kernel
theorem dX5_walk_31 : decode cX5_walk 31 = .ok (.iconst 2, 1) := by decide +kernel
theorem dX5_walk_32 : decode cX5_walk 32 = .ok (.invokevirtual 71, 3) := by decide +kernel
theorem dX5_walk_35 : decode cX5_walk 35 = .ok (.invokevirtual 75, 3) := by decide +kernel
theorem dX5_walk_38 : decode cX5_walk 38 = .ok (.aload_n 0, 1) := by decide +kernel
theorem dX5_walk_39 : decode cX5_walk 39 = .ok (.getfield 19, 3) := by decide +kernel
theorem dX5_walk_42 : decode cX5_walk 42 = .ok (.invokevirtual 79, 3) := by decide +kernel
theorem dX5_walk_45 : decode cX5_walk 45 = .ok (.iconst 3, 1) := by decide +kernel
theorem dX5_walk_46 : decode cX5_walk 46 = .ok (.istore_n 1, 1) := by decide +kernel
theorem dX5_walk_47 : decode cX5_walk 47 = .ok (.iload_n 1, 1) := by decide +kernel
theorem dX5_walk_48 : decode cX5_walk 48 = .ok (.aload_n 0, 1) := by decide +kernel
theorem dX5_walk_49 : decode cX5_walk 49 = .ok (.getfield 12, 3) := by decide +kernel
theorem dX5_walk_52 : decode cX5_walk 52 = .ok (.getfield 63, 3) := by decide +kernel
theorem dX5_walk_55 : decode cX5_walk 55 = .ok (.if_icmp .ge 41, 3) := by decide +kernel
theorem dX5_walk_58 : decode cX5_walk 58 = .ok (.aload_n 0, 1) := by decide +kernel
theorem dX5_walk_59 : decode cX5_walk 59 = .ok (.aload_n 0, 1) := by decide +kernel
theorem dX5_walk_60 : decode cX5_walk 60 = .ok (.getfield 12, 3) := by decide +kernel
theorem dX5_walk_63 : decode cX5_walk 63 = .ok (.iload_n 1, 1) := by decide +kernel
theorem dX5_walk_64 : decode cX5_walk 64 = .ok (.invokevirtual 82, 3) := by decide +kernel
theorem dX5_walk_67 : decode cX5_walk 67 = .ok (.aload_n 0, 1) := by decide +kernel
theorem dX5_walk_68 : decode cX5_walk 68 = .ok (.getfield 12, 3) := by decide +kernel
theorem dX5_walk_71 : decode cX5_walk 71 = .ok (.iload_n 1, 1) := by decide +kernel
theorem dX5_walk_72 : decode cX5_walk 72 = .ok (.iconst 1, 1) := by decide +kernel
theorem dX5_walk_73 : decode cX5_walk 73 = .ok (.iadd, 1) := by decide +kernel
theorem dX5_walk_74 : decode cX5_walk 74 = .ok (.invokevirtual 71, 3) := by decide +kernel
theorem dX5_walk_77 : decode cX5_walk 77 = .ok (.aload_n 0, 1) := by decide +kernel
theorem dX5_walk_78 : decode cX5_walk 78 = .ok (.getfield 12, 3) := by decide +kernel
theorem dX5_walk_81 : decode cX5_walk 81 = .ok (.iload_n 1, 1) := by decide +kernel
theorem dX5_walk_82 : decode cX5_walk 82 = .ok (.iconst 2, 1) := by decide +kernel
theorem dX5_walk_83 : decode cX5_walk 83 = .ok (.iadd, 1) := by decide +kernel
theorem dX5_walk_84 : decode cX5_walk 84 = .ok (.invokevirtual 71, 3) := by decide +kernel
theorem dX5_walk_87 : decode cX5_walk 87 = .ok (.invokevirtual 85, 3) := by decide +kernel
theorem dX5_walk_90 : decode cX5_walk 90 = .ok (.iinc 1 3, 3) := by decide +kernel
theorem dX5_walk_93 : decode cX5_walk 93 = .ok (.goto (-46), 3) := by decide +kernel
theorem dX5_walk_96 : decode cX5_walk 96 = .ok (.aload_n 0, 1) := by decide +kernel
theorem dX5_walk_97 : decode cX5_walk 97 = .ok (.iconst 0, 1) := by decide +kernel
theorem dX5_walk_98 : decode cX5_walk 98 = .ok (.putfield 89, 3) := by decide +kernel
theorem dX5_walk_101 : decode cX5_walk 101 = .ok (.iconst 0, 1) := by decide +kernel
theorem dX5_walk_102 : decode cX5_walk 102 = .ok (.istore_n 1, 1) := by decide +kernel
theorem dX5_walk_103 : decode cX5_walk 103 = .ok (.iload_n 1, 1) := by decide +kernel
theorem dX5_walk_104 : decode cX5_walk 104 = .ok (.aload_n 0, 1) := by decide +kernel
theorem dX5_walk_105 : decode cX5_walk 105 = .ok (.getfield 45, 3) := by decide +kernel
theorem dX5_walk_108 : decode cX5_walk 108 = .ok (.arraylength, 1) := by decide +kernel
theorem dX5_walk_109 : decode cX5_walk 109 = .ok (.if_icmp .ge 16, 3) := by decide +kernel
theorem dX5_walk_112 : decode cX5_walk 112 = .ok (.aload_n 0, 1) := by decide +kernel
theorem dX5_walk_113 : decode cX5_walk 113 = .ok (.getfield 45, 3) := by decide +kernel
theorem dX5_walk_116 : decode cX5_walk 116 = .ok (.iload_n 1, 1) := by decide +kernel
theorem dX5_walk_117 : decode cX5_walk 117 = .ok (.iconst 0, 1) := by decide +kernel
theorem dX5_walk_118 : decode cX5_walk 118 = .ok (.bastore, 1) := by decide +kernel
theorem dX5_walk_119 : decode cX5_walk 119 = .ok (.iinc 1 1, 3) := by decide +kernel
theorem dX5_walk_122 : decode cX5_walk 122 = .ok (.goto (-19), 3) := by decide +kernel
theorem dX5_walk_125 : decode cX5_walk 125 = .ok (.bipush 10, 2) := by decide +kernel
theorem dX5_walk_127 : decode cX5_walk 127 = .ok (.aload_n 0, 1) := by decide +kernel
theorem dX5_walk_128 : decode cX5_walk 128 = .ok (.getfield 19, 3) := by decide +kernel
theorem dX5_walk_131 : decode cX5_walk 131 = .ok (.getfield 92, 3) := by decide +kernel
theorem dX5_walk_134 : decode cX5_walk 134 = .ok (.imul, 1) := by decide +kernel
theorem dX5_walk_135 : decode cX5_walk 135 = .ok (.aload_n 0, 1) := by decide +kernel
theorem dX5_walk_136 : decode cX5_walk 136 = .ok (.getfield 19, 3) := by decide +kernel
theorem dX5_walk_139 : decode cX5_walk 139 = .ok (.getfield 95, 3) := by decide +kernel
theorem dX5_walk_142 : decode cX5_walk 142 = .ok (.iadd, 1) := by decide +kernel
theorem dX5_walk_143 : decode cX5_walk 143 = .ok (.ireturn, 1) := by decide +kernel
theorem dX5_tellPart_0 : decode cX5_tellPart 0 = .ok (.iload_n 1, 1) := by decide +kernel
theorem dX5_tellPart_1 : decode cX5_tellPart 1 = .ok (.bipush 87, 2) := by decide +kernel
theorem dX5_tellPart_3 : decode cX5_tellPart 3 = .ok (.if_icmp .ne 29, 3) := by decide +kernel
theorem dX5_tellPart_6 : decode cX5_tellPart 6 = .ok (.aload_n 0, 1) := by decide +kernel
theorem dX5_tellPart_7 : decode cX5_tellPart 7 = .ok (.getfield 26, 3) := by decide +kernel
theorem dX5_tellPart_10 : decode cX5_tellPart 10 = .ok (.aload_n 0, 1) := by decide +kernel
theorem dX5_tellPart_11 : decode cX5_tellPart 11 = .ok (.getfield 19, 3) := by decide +kernel
theorem dX5_tellPart_14 : decode cX5_tellPart 14 = .ok (.getfield 92, 3) := by decide +kernel
theorem dX5_tellPart_17 : decode cX5_tellPart 17 = .ok (.iload_n 2, 1) := by decide +kernel
theorem dX5_tellPart_18 : decode cX5_tellPart 18 = .ok (.invokevirtual 98, 3) := by decide +kernel
theorem dX5_tellPart_21 : decode cX5_tellPart 21 = .ok (.aload_n 0, 1) := by decide +kernel
theorem dX5_tellPart_22 : decode cX5_tellPart 22 = .ok (.getfield 19, 3) := by decide +kernel
theorem dX5_tellPart_25 : decode cX5_tellPart 25 = .ok (.iload_n 3, 1) := by decide +kernel
theorem dX5_tellPart_26 : decode cX5_tellPart 26 = .ok (.invokevirtual 101, 3) := by decide +kernel
theorem dX5_tellPart_29 : decode cX5_tellPart 29 = .ok (.goto 12, 3) := by decide +kernel
theorem dX5_tellPart_32 : decode cX5_tellPart 32 = .ok (.aload_n 0, 1) := by decide +kernel
theorem dX5_tellPart_33 : decode cX5_tellPart 33 = .ok (.getfield 19, 3) := by decide +kernel
theorem dX5_tellPart_36 : decode cX5_tellPart 36 = .ok (.iload_n 2, 1) := by decide +kernel
theorem dX5_tellPart_37 : decode cX5_tellPart 37 = .ok (.iload_n 3, 1) := by decide +kernel
theorem dX5_tellPart_38 : decode cX5_tellPart 38 = .ok (.invokevirtual 104, 3) := by decide +kernel
theorem dX5_tellPart_41 : decode cX5_tellPart 41 = .ok (.return_, 1) := by decide +kernel
theorem dX5_word_0 : decode cX5_word 0 = .ok (.aload_n 0, 1) := by decide +kernel
theorem dX5_word_1 : decode cX5_word 1 = .ok (.getfield 19, 3) := by decide +kernel
theorem dX5_word_4 : decode cX5_word 4 = .ok (.iload_n 1, 1) := by decide +kernel
theorem dX5_word_5 : decode cX5_word 5 = .ok (.invokevirtual 107, 3) := by decide +kernel
theorem dX5_word_8 : decode cX5_word 8 = .ok (.ifCond .ne 5, 3) := by decide +kernel
theorem dX5_word_11 : decode cX5_word 11 = .ok (.iconst (-1), 1) := by decide +kernel
theorem dX5_word_12 : decode cX5_word 12 = .ok (.ireturn, 1) := by decide +kernel
theorem dX5_word_13 : decode cX5_word 13 = .ok (.iload_n 2, 1) := by decide +kernel
theorem dX5_word_14 : decode cX5_word 14 = .ok (.tableswitch 111 0 5 #[38, 47, 56, 76, 99, 105], 38) := by decide +kernel
theorem dX5_word_52 : decode cX5_word 52 = .ok (.aload_n 0, 1) := by decide +kernel
theorem dX5_word_53 : decode cX5_word 53 = .ok (.getfield 26, 3) := by decide +kernel
theorem dX5_word_56 : decode cX5_word 56 = .ok (.iload_n 1, 1) := by decide +kernel
theorem dX5_word_57 : decode cX5_word 57 = .ok (.invokevirtual 111, 3) := by decide +kernel
theorem dX5_word_60 : decode cX5_word 60 = .ok (.ireturn, 1) := by decide +kernel
theorem dX5_word_61 : decode cX5_word 61 = .ok (.aload_n 0, 1) := by decide +kernel
theorem dX5_word_62 : decode cX5_word 62 = .ok (.getfield 19, 3) := by decide +kernel
theorem dX5_word_65 : decode cX5_word 65 = .ok (.iload_n 1, 1) := by decide +kernel
theorem dX5_word_66 : decode cX5_word 66 = .ok (.invokevirtual 114, 3) := by decide +kernel
theorem dX5_word_69 : decode cX5_word 69 = .ok (.ireturn, 1) := by decide +kernel
theorem dX5_word_70 : decode cX5_word 70 = .ok (.aload_n 0, 1) := by decide +kernel
theorem dX5_word_71 : decode cX5_word 71 = .ok (.getfield 19, 3) := by decide +kernel
theorem dX5_word_74 : decode cX5_word 74 = .ok (.aload_n 0, 1) := by decide +kernel
theorem dX5_word_75 : decode cX5_word 75 = .ok (.getfield 26, 3) := by decide +kernel
theorem dX5_word_78 : decode cX5_word 78 = .ok (.iload_n 1, 1) := by decide +kernel
theorem dX5_word_79 : decode cX5_word 79 = .ok (.aload_n 0, 1) := by decide +kernel
theorem dX5_word_80 : decode cX5_word 80 = .ok (.getfield 26, 3) := by decide +kernel
theorem dX5_word_83 : decode cX5_word 83 = .ok (.getfield 117, 3) := by decide +kernel
theorem dX5_word_86 : decode cX5_word 86 = .ok (.invokevirtual 120, 3) := by decide +kernel
theorem dX5_word_89 : decode cX5_word 89 = .ok (.ireturn, 1) := by decide +kernel
theorem dX5_word_90 : decode cX5_word 90 = .ok (.aload_n 0, 1) := by decide +kernel
theorem dX5_word_91 : decode cX5_word 91 = .ok (.getfield 19, 3) := by decide +kernel
theorem dX5_word_94 : decode cX5_word 94 = .ok (.aload_n 0, 1) := by decide +kernel
theorem dX5_word_95 : decode cX5_word 95 = .ok (.getfield 26, 3) := by decide +kernel
theorem dX5_word_98 : decode cX5_word 98 = .ok (.iload_n 1, 1) := by decide +kernel
theorem dX5_word_99 : decode cX5_word 99 = .ok (.aload_n 0, 1) := by decide +kernel
theorem dX5_word_100 : decode cX5_word 100 = .ok (.getfield 26, 3) := by decide +kernel
theorem dX5_word_103 : decode cX5_word 103 = .ok (.getfield 117, 3) := by decide +kernel
theorem dX5_word_106 : decode cX5_word 106 = .ok (.invokevirtual 124, 3) := by decide +kernel
theorem dX5_word_109 : decode cX5_word 109 = .ok (.invokestatic 128, 3) := by decide +kernel
theorem dX5_word_112 : decode cX5_word 112 = .ok (.ireturn, 1) := by decide +kernel
theorem dX5_word_113 : decode cX5_word 113 = .ok (.aload_n 0, 1) := by decide +kernel
theorem dX5_word_114 : decode cX5_word 114 = .ok (.iload_n 1, 1) := by decide +kernel
theorem dX5_word_115 : decode cX5_word 115 = .ok (.invokevirtual 132, 3) := by decide +kernel
theorem dX5_word_118 : decode cX5_word 118 = .ok (.ireturn, 1) := by decide +kernel
theorem dX5_word_119 : decode cX5_word 119 = .ok (.aload_n 0, 1) := by decide +kernel
theorem dX5_word_120 : decode cX5_word 120 = .ok (.iload_n 1, 1) := by decide +kernel
theorem dX5_word_121 : decode cX5_word 121 = .ok (.invokevirtual 135, 3) := by decide +kernel
theorem dX5_word_124 : decode cX5_word 124 = .ok (.ireturn, 1) := by decide +kernel
theorem dX5_word_125 : decode cX5_word 125 = .ok (.bipush (-2), 2) := by decide +kernel
theorem dX5_word_127 : decode cX5_word 127 = .ok (.ireturn, 1) := by decide +kernel
theorem dX5_farOf_0 : decode cX5_farOf 0 = .ok (.bipush 9, 2) := by decide +kernel
theorem dX5_farOf_2 : decode cX5_farOf 2 = .ok (.istore_n 2, 1) := by decide +kernel
theorem dX5_farOf_3 : decode cX5_farOf 3 = .ok (.iload_n 2, 1) := by decide +kernel
theorem dX5_farOf_4 : decode cX5_farOf 4 = .ok (.ifCond .lt 27, 3) := by decide +kernel
theorem dX5_farOf_7 : decode cX5_farOf 7 = .ok (.aload_n 0, 1) := by decide +kernel
theorem dX5_farOf_8 : decode cX5_farOf 8 = .ok (.getfield 19, 3) := by decide +kernel
theorem dX5_farOf_11 : decode cX5_farOf 11 = .ok (.aload_n 0, 1) := by decide +kernel
theorem dX5_farOf_12 : decode cX5_farOf 12 = .ok (.getfield 26, 3) := by decide +kernel
theorem dX5_farOf_15 : decode cX5_farOf 15 = .ok (.iload_n 1, 1) := by decide +kernel
theorem dX5_farOf_16 : decode cX5_farOf 16 = .ok (.iload_n 2, 1) := by decide +kernel
theorem dX5_farOf_17 : decode cX5_farOf 17 = .ok (.invokevirtual 124, 3) := by decide +kernel
theorem dX5_farOf_20 : decode cX5_farOf 20 = .ok (.ifCond .eq 5, 3) := by decide +kernel
theorem dX5_farOf_23 : decode cX5_farOf 23 = .ok (.iload_n 2, 1) := by decide +kernel
theorem dX5_farOf_24 : decode cX5_farOf 24 = .ok (.ireturn, 1) := by decide +kernel
theorem dX5_farOf_25 : decode cX5_farOf 25 = .ok (.iinc 2 (-1), 3) := by decide +kernel
theorem dX5_farOf_28 : decode cX5_farOf 28 = .ok (.goto (-25), 3) := by decide +kernel
theorem dX5_farOf_31 : decode cX5_farOf 31 = .ok (.bipush (-9), 2) := by decide +kernel
theorem dX5_farOf_33 : decode cX5_farOf 33 = .ok (.ireturn, 1) := by decide +kernel
theorem dX5_spentOf_0 : decode cX5_spentOf 0 = .ok (.aload_n 0, 1) := by decide +kernel
theorem dX5_spentOf_1 : decode cX5_spentOf 1 = .ok (.getfield 26, 3) := by decide +kernel
theorem dX5_spentOf_4 : decode cX5_spentOf 4 = .ok (.iload_n 1, 1) := by decide +kernel
theorem dX5_spentOf_5 : decode cX5_spentOf 5 = .ok (.invokevirtual 111, 3) := by decide +kernel
theorem dX5_spentOf_8 : decode cX5_spentOf 8 = .ok (.istore_n 2, 1) := by decide +kernel
theorem dX5_spentOf_9 : decode cX5_spentOf 9 = .ok (.aload_n 0, 1) := by decide +kernel
theorem dX5_spentOf_10 : decode cX5_spentOf 10 = .ok (.getfield 19, 3) := by decide +kernel
theorem dX5_spentOf_13 : decode cX5_spentOf 13 = .ok (.iload_n 1, 1) := by decide +kernel
theorem dX5_spentOf_14 : decode cX5_spentOf 14 = .ok (.invokevirtual 114, 3) := by decide +kernel
theorem dX5_spentOf_17 : decode cX5_spentOf 17 = .ok (.iconst 2, 1) := by decide +kernel
theorem dX5_spentOf_18 : decode cX5_spentOf 18 = .ok (.if_icmp .ne 11, 3) := by decide +kernel
theorem dX5_spentOf_21 : decode cX5_spentOf 21 = .ok (.iload_n 2, 1) := by decide +kernel
theorem dX5_spentOf_22 : decode cX5_spentOf 22 = .ok (.iconst 1, 1) := by decide +kernel
theorem dX5_spentOf_23 : decode cX5_spentOf 23 = .ok (.iadd, 1) := by decide +kernel
theorem dX5_spentOf_24 : decode cX5_spentOf 24 = .ok (.iconst 2, 1) := by decide +kernel
theorem dX5_spentOf_25 : decode cX5_spentOf 25 = .ok (.idiv, 1) := by decide +kernel
theorem dX5_spentOf_26 : decode cX5_spentOf 26 = .ok (.goto 4, 3) := by decide +kernel
theorem dX5_spentOf_29 : decode cX5_spentOf 29 = .ok (.iload_n 2, 1) := by decide +kernel
theorem dX5_spentOf_30 : decode cX5_spentOf 30 = .ok (.ireturn, 1) := by decide +kernel
theorem dX5_thing_0 : decode cX5_thing 0 = .ok (.aload_n 0, 1) := by decide +kernel
theorem dX5_thing_1 : decode cX5_thing 1 = .ok (.getfield 19, 3) := by decide +kernel
theorem dX5_thing_4 : decode cX5_thing 4 = .ok (.iload_n 1, 1) := by decide +kernel
theorem dX5_thing_5 : decode cX5_thing 5 = .ok (.invokevirtual 138, 3) := by decide +kernel
theorem dX5_thing_8 : decode cX5_thing 8 = .ok (.ifCond .ne 5, 3) := by decide +kernel
theorem dX5_thing_11 : decode cX5_thing 11 = .ok (.iconst (-1), 1) := by decide +kernel
theorem dX5_thing_12 : decode cX5_thing 12 = .ok (.ireturn, 1) := by decide +kernel
theorem dX5_thing_13 : decode cX5_thing 13 = .ok (.iload_n 2, 1) := by decide +kernel
theorem dX5_thing_14 : decode cX5_thing 14 = .ok (.lookupswitch 44 #[(0, 26), (1, 35)], 26) := by decide +kernel
theorem dX5_thing_40 : decode cX5_thing 40 = .ok (.aload_n 0, 1) := by decide +kernel
theorem dX5_thing_41 : decode cX5_thing 41 = .ok (.getfield 19, 3) := by decide +kernel
theorem dX5_thing_44 : decode cX5_thing 44 = .ok (.iload_n 1, 1) := by decide +kernel
theorem dX5_thing_45 : decode cX5_thing 45 = .ok (.invokevirtual 141, 3) := by decide +kernel
theorem dX5_thing_48 : decode cX5_thing 48 = .ok (.ireturn, 1) := by decide +kernel
theorem dX5_thing_49 : decode cX5_thing 49 = .ok (.aload_n 0, 1) := by decide +kernel
theorem dX5_thing_50 : decode cX5_thing 50 = .ok (.getfield 19, 3) := by decide +kernel
theorem dX5_thing_53 : decode cX5_thing 53 = .ok (.iload_n 1, 1) := by decide +kernel
theorem dX5_thing_54 : decode cX5_thing 54 = .ok (.invokevirtual 144, 3) := by decide +kernel
theorem dX5_thing_57 : decode cX5_thing 57 = .ok (.ireturn, 1) := by decide +kernel
theorem dX5_thing_58 : decode cX5_thing 58 = .ok (.bipush (-2), 2) := by decide +kernel
theorem dX5_thing_60 : decode cX5_thing 60 = .ok (.ireturn, 1) := by decide +kernel
theorem dX5_pull_0 : decode cX5_pull 0 = .ok (.iload_n 1, 1) := by decide +kernel
theorem dX5_pull_1 : decode cX5_pull 1 = .ok (.invokestatic 147, 3) := by decide +kernel
theorem dX5_pull_4 : decode cX5_pull 4 = .ok (.ifCond .eq 6, 3) := by decide +kernel
theorem dX5_pull_7 : decode cX5_pull 7 = .ok (.bipush (-2), 2) := by decide +kernel
theorem dX5_pull_9 : decode cX5_pull 9 = .ok (.ireturn, 1) := by decide +kernel
theorem dX5_pull_10 : decode cX5_pull 10 = .ok (.aload_n 0, 1) := by decide +kernel
theorem dX5_pull_11 : decode cX5_pull 11 = .ok (.getfield 19, 3) := by decide +kernel
theorem dX5_pull_14 : decode cX5_pull 14 = .ok (.iload_n 1, 1) := by decide +kernel
theorem dX5_pull_15 : decode cX5_pull 15 = .ok (.bipush 15, 2) := by decide +kernel
theorem dX5_pull_17 : decode cX5_pull 17 = .ok (.invokevirtual 150, 3) := by decide +kernel
theorem dX5_pull_20 : decode cX5_pull 20 = .ok (.ireturn, 1) := by decide +kernel
theorem dX5_call_0 : decode cX5_call 0 = .ok (.aload_n 0, 1) := by decide +kernel
theorem dX5_call_1 : decode cX5_call 1 = .ok (.getfield 19, 3) := by decide +kernel
theorem dX5_call_4 : decode cX5_call 4 = .ok (.iload_n 1, 1) := by decide +kernel
theorem dX5_call_5 : decode cX5_call 5 = .ok (.invokevirtual 107, 3) := by decide +kernel
theorem dX5_call_8 : decode cX5_call 8 = .ok (.ifCond .ne 5, 3) := by decide +kernel
theorem dX5_call_11 : decode cX5_call 11 = .ok (.iconst (-1), 1) := by decide +kernel
theorem dX5_call_12 : decode cX5_call 12 = .ok (.ireturn, 1) := by decide +kernel
theorem dX5_call_13 : decode cX5_call 13 = .ok (.aload_n 0, 1) := by decide +kernel
theorem dX5_call_14 : decode cX5_call 14 = .ok (.getfield 26, 3) := by decide +kernel
theorem dX5_call_17 : decode cX5_call 17 = .ok (.getfield 154, 3) := by decide +kernel
theorem dX5_call_20 : decode cX5_call 20 = .ok (.ifCond .eq 6, 3) := by decide +kernel
theorem dX5_call_23 : decode cX5_call 23 = .ok (.bipush (-3), 2) := by decide +kernel
theorem dX5_call_25 : decode cX5_call 25 = .ok (.ireturn, 1) := by decide +kernel
theorem dX5_call_26 : decode cX5_call 26 = .ok (.aload_n 0, 1) := by decide +kernel
theorem dX5_call_27 : decode cX5_call 27 = .ok (.invokevirtual 158, 3) := by decide +kernel
theorem dX5_call_30 : decode cX5_call 30 = .ok (.aload_n 0, 1) := by decide +kernel
theorem dX5_call_31 : decode cX5_call 31 = .ok (.getfield 19, 3) := by decide +kernel
theorem dX5_call_34 : decode cX5_call 34 = .ok (.aload_n 0, 1) := by decide +kernel
theorem dX5_call_35 : decode cX5_call 35 = .ok (.getfield 26, 3) := by decide +kernel
theorem dX5_call_38 : decode cX5_call 38 = .ok (.iload_n 1, 1) := by decide +kernel
theorem dX5_call_39 : decode cX5_call 39 = .ok (.invokevirtual 161, 3) := by decide +kernel
theorem dX5_call_42 : decode cX5_call 42 = .ok (.invokestatic 128, 3) := by decide +kernel
theorem dX5_call_45 : decode cX5_call 45 = .ok (.ireturn, 1) := by decide +kernel
theorem dX5_pay_0 : decode cX5_pay 0 = .ok (.aload_n 0, 1) := by decide +kernel
theorem dX5_pay_1 : decode cX5_pay 1 = .ok (.getfield 26, 3) := by decide +kernel
theorem dX5_pay_4 : decode cX5_pay 4 = .ok (.invokevirtual 165, 3) := by decide +kernel
theorem dX5_pay_7 : decode cX5_pay 7 = .ok (.ifCond .ne 6, 3) := by decide +kernel
theorem dX5_pay_10 : decode cX5_pay 10 = .ok (.bipush (-3), 2) := by decide +kernel
theorem dX5_pay_12 : decode cX5_pay 12 = .ok (.ireturn, 1) := by decide +kernel
theorem dX5_pay_13 : decode cX5_pay 13 = .ok (.aload_n 0, 1) := by decide +kernel
theorem dX5_pay_14 : decode cX5_pay 14 = .ok (.invokevirtual 158, 3) := by decide +kernel
theorem dX5_pay_17 : decode cX5_pay 17 = .ok (.aload_n 0, 1) := by decide +kernel
theorem dX5_pay_18 : decode cX5_pay 18 = .ok (.getfield 26, 3) := by decide +kernel
theorem dX5_pay_21 : decode cX5_pay 21 = .ok (.getfield 168, 3) := by decide +kernel
theorem dX5_pay_24 : decode cX5_pay 24 = .ok (.istore_n 1, 1) := by decide +kernel
theorem dX5_pay_25 : decode cX5_pay 25 = .ok (.aload_n 0, 1) := by decide +kernel
theorem dX5_pay_26 : decode cX5_pay 26 = .ok (.getfield 26, 3) := by decide +kernel
theorem dX5_pay_29 : decode cX5_pay 29 = .ok (.invokevirtual 171, 3) := by decide +kernel
theorem dX5_pay_32 : decode cX5_pay 32 = .ok (.aload_n 0, 1) := by decide +kernel
theorem dX5_pay_33 : decode cX5_pay 33 = .ok (.getfield 26, 3) := by decide +kernel
theorem dX5_pay_36 : decode cX5_pay 36 = .ok (.iload_n 1, 1) := by decide +kernel
theorem dX5_pay_37 : decode cX5_pay 37 = .ok (.invokevirtual 111, 3) := by decide +kernel
theorem dX5_pay_40 : decode cX5_pay 40 = .ok (.ireturn, 1) := by decide +kernel
theorem dX5_run_0 : decode cX5_run 0 = .ok (.iload_n 1, 1) := by decide +kernel
theorem dX5_run_1 : decode cX5_run 1 = .ok (.iconst 1, 1) := by decide +kernel
theorem dX5_run_2 : decode cX5_run 2 = .ok (.if_icmp .lt 9, 3) := by decide +kernel
theorem dX5_run_5 : decode cX5_run 5 = .ok (.iload_n 1, 1) := by decide +kernel
theorem dX5_run_6 : decode cX5_run 6 = .ok (.bipush 9, 2) := by decide +kernel
theorem dX5_run_8 : decode cX5_run 8 = .ok (.if_icmp .le 6, 3) := by decide +kernel
theorem dX5_run_11 : decode cX5_run 11 = .ok (.bipush (-2), 2) := by decide +kernel
theorem dX5_run_13 : decode cX5_run 13 = .ok (.ireturn, 1) := by decide +kernel
theorem dX5_run_14 : decode cX5_run 14 = .ok (.aload_n 0, 1) := by decide +kernel
theorem dX5_run_15 : decode cX5_run 15 = .ok (.getfield 26, 3) := by decide +kernel
theorem dX5_run_18 : decode cX5_run 18 = .ok (.getfield 154, 3) := by decide +kernel
theorem dX5_run_21 : decode cX5_run 21 = .ok (.ifCond .eq 6, 3) := by decide +kernel
theorem dX5_run_24 : decode cX5_run 24 = .ok (.bipush (-3), 2) := by decide +kernel
theorem dX5_run_26 : decode cX5_run 26 = .ok (.ireturn, 1) := by decide +kernel
theorem dX5_run_27 : decode cX5_run 27 = .ok (.aload_n 0, 1) := by decide +kernel
theorem dX5_run_28 : decode cX5_run 28 = .ok (.invokevirtual 158, 3) := by decide +kernel
theorem dX5_run_31 : decode cX5_run 31 = .ok (.aload_n 0, 1) := by decide +kernel
theorem dX5_run_32 : decode cX5_run 32 = .ok (.getfield 26, 3) := by decide +kernel
theorem dX5_run_35 : decode cX5_run 35 = .ok (.iload_n 1, 1) := by decide +kernel
theorem dX5_run_36 : decode cX5_run 36 = .ok (.invokevirtual 174, 3) := by decide +kernel
theorem dX5_run_39 : decode cX5_run 39 = .ok (.aload_n 0, 1) := by decide +kernel
theorem dX5_run_40 : decode cX5_run 40 = .ok (.getfield 26, 3) := by decide +kernel
theorem dX5_run_43 : decode cX5_run 43 = .ok (.getfield 117, 3) := by decide +kernel
theorem dX5_run_46 : decode cX5_run 46 = .ok (.ireturn, 1) := by decide +kernel
theorem dX5_lead_0 : decode cX5_lead 0 = .ok (.aload_n 0, 1) := by decide +kernel
theorem dX5_lead_1 : decode cX5_lead 1 = .ok (.getfield 26, 3) := by decide +kernel
theorem dX5_lead_4 : decode cX5_lead 4 = .ok (.invokevirtual 177, 3) := by decide +kernel
theorem dX5_lead_7 : decode cX5_lead 7 = .ok (.ifCond .ne 6, 3) := by decide +kernel
theorem dX5_lead_10 : decode cX5_lead 10 = .ok (.bipush (-3), 2) := by decide +kernel
theorem dX5_lead_12 : decode cX5_lead 12 = .ok (.ireturn, 1) := by decide +kernel
theorem dX5_lead_13 : decode cX5_lead 13 = .ok (.aload_n 0, 1) := by decide +kernel
theorem dX5_lead_14 : decode cX5_lead 14 = .ok (.invokevirtual 158, 3) := by decide +kernel
theorem dX5_lead_17 : decode cX5_lead 17 = .ok (.aload_n 0, 1) := by decide +kernel
theorem dX5_lead_18 : decode cX5_lead 18 = .ok (.getfield 19, 3) := by decide +kernel
theorem dX5_lead_21 : decode cX5_lead 21 = .ok (.aload_n 0, 1) := by decide +kernel
theorem dX5_lead_22 : decode cX5_lead 22 = .ok (.getfield 26, 3) := by decide +kernel
theorem dX5_lead_25 : decode cX5_lead 25 = .ok (.invokevirtual 180, 3) := by decide +kernel
theorem dX5_lead_28 : decode cX5_lead 28 = .ok (.aload_n 0, 1) := by decide +kernel
theorem dX5_lead_29 : decode cX5_lead 29 = .ok (.getfield 26, 3) := by decide +kernel
theorem dX5_lead_32 : decode cX5_lead 32 = .ok (.getfield 154, 3) := by decide +kernel
theorem dX5_lead_35 : decode cX5_lead 35 = .ok (.invokestatic 128, 3) := by decide +kernel
theorem dX5_lead_38 : decode cX5_lead 38 = .ok (.ireturn, 1) := by decide +kernel
theorem dX5_hunger_0 : decode cX5_hunger 0 = .ok (.aload_n 0, 1) := by decide +kernel
theorem dX5_hunger_1 : decode cX5_hunger 1 = .ok (.invokevirtual 158, 3) := by decide +kernel
theorem dX5_hunger_4 : decode cX5_hunger 4 = .ok (.aload_n 0, 1) := by decide +kernel
theorem dX5_hunger_5 : decode cX5_hunger 5 = .ok (.getfield 26, 3) := by decide +kernel
theorem dX5_hunger_8 : decode cX5_hunger 8 = .ok (.aload_n 0, 1) := by decide +kernel
theorem dX5_hunger_9 : decode cX5_hunger 9 = .ok (.getfield 26, 3) := by decide +kernel
theorem dX5_hunger_12 : decode cX5_hunger 12 = .ok (.getfield 184, 3) := by decide +kernel
theorem dX5_hunger_15 : decode cX5_hunger 15 = .ok (.ifCond .ne 7, 3) := by decide +kernel
theorem dX5_hunger_18 : decode cX5_hunger 18 = .ok (.iconst 1, 1) := by decide +kernel
theorem dX5_hunger_19 : decode cX5_hunger 19 = .ok (.goto 4, 3) := by decide +kernel
theorem dX5_hunger_22 : decode cX5_hunger 22 = .ok (.iconst 0, 1) := by decide +kernel
theorem dX5_hunger_23 : decode cX5_hunger 23 = .ok (.putfield 184, 3) := by decide +kernel
theorem dX5_hunger_26 : decode cX5_hunger 26 = .ok (.aload_n 0, 1) := by decide +kernel
theorem dX5_hunger_27 : decode cX5_hunger 27 = .ok (.getfield 26, 3) := by decide +kernel
theorem dX5_hunger_30 : decode cX5_hunger 30 = .ok (.getfield 184, 3) := by decide +kernel
theorem dX5_hunger_33 : decode cX5_hunger 33 = .ok (.invokestatic 128, 3) := by decide +kernel
theorem dX5_hunger_36 : decode cX5_hunger 36 = .ok (.ireturn, 1) := by decide +kernel
theorem dX5_undo_0 : decode cX5_undo 0 = .ok (.aload_n 0, 1) := by decide +kernel
theorem dX5_undo_1 : decode cX5_undo 1 = .ok (.getfield 89, 3) := by decide +kernel
theorem dX5_undo_4 : decode cX5_undo 4 = .ok (.iconst 1, 1) := by decide +kernel
theorem dX5_undo_5 : decode cX5_undo 5 = .ok (.if_icmp .ge 6, 3) := by decide +kernel
theorem dX5_undo_8 : decode cX5_undo 8 = .ok (.bipush (-3), 2) := by decide +kernel
theorem dX5_undo_10 : decode cX5_undo 10 = .ok (.ireturn, 1) := by decide +kernel
theorem dX5_undo_11 : decode cX5_undo 11 = .ok (.aload_n 0, 1) := by decide +kernel
theorem dX5_undo_12 : decode cX5_undo 12 = .ok (.dup, 1) := by decide +kernel
theorem dX5_undo_13 : decode cX5_undo 13 = .ok (.getfield 89, 3) := by decide +kernel
theorem dX5_undo_16 : decode cX5_undo 16 = .ok (.iconst 1, 1) := by decide +kernel
theorem dX5_undo_17 : decode cX5_undo 17 = .ok (.isub, 1) := by decide +kernel
theorem dX5_undo_18 : decode cX5_undo 18 = .ok (.putfield 89, 3) := by decide +kernel
theorem dX5_undo_21 : decode cX5_undo 21 = .ok (.aload_n 0, 1) := by decide +kernel
theorem dX5_undo_22 : decode cX5_undo 22 = .ok (.getfield 38, 3) := by decide +kernel
theorem dX5_undo_25 : decode cX5_undo 25 = .ok (.aload_n 0, 1) := by decide +kernel
theorem dX5_undo_26 : decode cX5_undo 26 = .ok (.getfield 89, 3) := by decide +kernel
theorem dX5_undo_29 : decode cX5_undo 29 = .ok (.aload_n 0, 1) := by decide +kernel
theorem dX5_undo_30 : decode cX5_undo 30 = .ok (.getfield 26, 3) := by decide +kernel
theorem dX5_undo_33 : decode cX5_undo 33 = .ok (.invokevirtual 187, 3) := by decide +kernel
theorem dX5_undo_36 : decode cX5_undo 36 = .ok (.aload_n 0, 1) := by decide +kernel
theorem dX5_undo_37 : decode cX5_undo 37 = .ok (.getfield 89, 3) := by decide +kernel
theorem dX5_undo_40 : decode cX5_undo 40 = .ok (.ireturn, 1) := by decide +kernel
theorem dX5_remember_0 : decode cX5_remember 0 = .ok (.aload_n 0, 1) := by decide +kernel
theorem dX5_remember_1 : decode cX5_remember 1 = .ok (.getfield 89, 3) := by decide +kernel
theorem dX5_remember_4 : decode cX5_remember 4 = .ok (.bipush 14, 2) := by decide +kernel
theorem dX5_remember_6 : decode cX5_remember 6 = .ok (.if_icmp .lt 16, 3) := by decide +kernel
theorem dX5_remember_9 : decode cX5_remember 9 = .ok (.aload_n 0, 1) := by decide +kernel
theorem dX5_remember_10 : decode cX5_remember 10 = .ok (.getfield 38, 3) := by decide +kernel
theorem dX5_remember_13 : decode cX5_remember 13 = .ok (.invokevirtual 191, 3) := by decide +kernel
theorem dX5_remember_16 : decode cX5_remember 16 = .ok (.aload_n 0, 1) := by decide +kernel
theorem dX5_remember_17 : decode cX5_remember 17 = .ok (.bipush 13, 2) := by decide +kernel
theorem dX5_remember_19 : decode cX5_remember 19 = .ok (.putfield 89, 3) := by decide +kernel
theorem dX5_remember_22 : decode cX5_remember 22 = .ok (.aload_n 0, 1) := by decide +kernel
theorem dX5_remember_23 : decode cX5_remember 23 = .ok (.getfield 38, 3) := by decide +kernel
theorem dX5_remember_26 : decode cX5_remember 26 = .ok (.aload_n 0, 1) := by decide +kernel
theorem dX5_remember_27 : decode cX5_remember 27 = .ok (.getfield 89, 3) := by decide +kernel
theorem dX5_remember_30 : decode cX5_remember 30 = .ok (.aload_n 0, 1) := by decide +kernel
theorem dX5_remember_31 : decode cX5_remember 31 = .ok (.getfield 26, 3) := by decide +kernel
theorem dX5_remember_34 : decode cX5_remember 34 = .ok (.invokevirtual 194, 3) := by decide +kernel
theorem dX5_remember_37 : decode cX5_remember 37 = .ok (.aload_n 0, 1) := by decide +kernel
theorem dX5_remember_38 : decode cX5_remember 38 = .ok (.dup, 1) := by decide +kernel
theorem dX5_remember_39 : decode cX5_remember 39 = .ok (.getfield 89, 3) := by decide +kernel
theorem dX5_remember_42 : decode cX5_remember 42 = .ok (.iconst 1, 1) := by decide +kernel
theorem dX5_remember_43 : decode cX5_remember 43 = .ok (.iadd, 1) := by decide +kernel
theorem dX5_remember_44 : decode cX5_remember 44 = .ok (.putfield 89, 3) := by decide +kernel
theorem dX5_remember_47 : decode cX5_remember 47 = .ok (.return_, 1) := by decide +kernel
theorem dX5_comes_0 : decode cX5_comes 0 = .ok (.aload_n 0, 1) := by decide +kernel
theorem dX5_comes_1 : decode cX5_comes 1 = .ok (.getfield 19, 3) := by decide +kernel
theorem dX5_comes_4 : decode cX5_comes 4 = .ok (.iload_n 1, 1) := by decide +kernel
theorem dX5_comes_5 : decode cX5_comes 5 = .ok (.invokevirtual 107, 3) := by decide +kernel
theorem dX5_comes_8 : decode cX5_comes 8 = .ok (.ifCond .ne 5, 3) := by decide +kernel
theorem dX5_comes_11 : decode cX5_comes 11 = .ok (.iconst (-1), 1) := by decide +kernel
theorem dX5_comes_12 : decode cX5_comes 12 = .ok (.ireturn, 1) := by decide +kernel
theorem dX5_comes_13 : decode cX5_comes 13 = .ok (.iload_n 2, 1) := by decide +kernel
theorem dX5_comes_14 : decode cX5_comes 14 = .ok (.invokestatic 147, 3) := by decide +kernel
theorem dX5_comes_17 : decode cX5_comes 17 = .ok (.ifCond .eq 6, 3) := by decide +kernel
theorem dX5_comes_20 : decode cX5_comes 20 = .ok (.bipush (-2), 2) := by decide +kernel
theorem dX5_comes_22 : decode cX5_comes 22 = .ok (.ireturn, 1) := by decide +kernel
theorem dX5_comes_23 : decode cX5_comes 23 = .ok (.aload_n 0, 1) := by decide +kernel
theorem dX5_comes_24 : decode cX5_comes 24 = .ok (.getfield 19, 3) := by decide +kernel
theorem dX5_comes_27 : decode cX5_comes 27 = .ok (.aload_n 0, 1) := by decide +kernel
theorem dX5_comes_28 : decode cX5_comes 28 = .ok (.getfield 26, 3) := by decide +kernel
theorem dX5_comes_31 : decode cX5_comes 31 = .ok (.iload_n 1, 1) := by decide +kernel
theorem dX5_comes_32 : decode cX5_comes 32 = .ok (.iload_n 2, 1) := by decide +kernel
theorem dX5_comes_33 : decode cX5_comes 33 = .ok (.invokevirtual 124, 3) := by decide +kernel
theorem dX5_comes_36 : decode cX5_comes 36 = .ok (.invokestatic 128, 3) := by decide +kernel
theorem dX5_comes_39 : decode cX5_comes 39 = .ok (.ireturn, 1) := by decide +kernel
theorem dX5_best_0 : decode cX5_best 0 = .ok (.iload_n 1, 1) := by decide +kernel
theorem dX5_best_1 : decode cX5_best 1 = .ok (.invokestatic 147, 3) := by decide +kernel
theorem dX5_best_4 : decode cX5_best 4 = .ok (.ifCond .eq 6, 3) := by decide +kernel
theorem dX5_best_7 : decode cX5_best 7 = .ok (.bipush (-2), 2) := by decide +kernel
theorem dX5_best_9 : decode cX5_best 9 = .ok (.ireturn, 1) := by decide +kernel
theorem dX5_best_10 : decode cX5_best 10 = .ok (.bipush (-9), 2) := by decide +kernel
theorem dX5_best_12 : decode cX5_best 12 = .ok (.istore_n 2, 1) := by decide +kernel
theorem dX5_best_13 : decode cX5_best 13 = .ok (.iconst 0, 1) := by decide +kernel
theorem dX5_best_14 : decode cX5_best 14 = .ok (.istore_n 3, 1) := by decide +kernel
theorem dX5_best_15 : decode cX5_best 15 = .ok (.iconst 0, 1) := by decide +kernel
theorem dX5_best_16 : decode cX5_best 16 = .ok (.istore 4, 2) := by decide +kernel
theorem dX5_best_18 : decode cX5_best 18 = .ok (.iload 4, 2) := by decide +kernel
theorem dX5_best_20 : decode cX5_best 20 = .ok (.aload_n 0, 1) := by decide +kernel
theorem dX5_best_21 : decode cX5_best 21 = .ok (.getfield 19, 3) := by decide +kernel
theorem dX5_best_24 : decode cX5_best 24 = .ok (.getfield 92, 3) := by decide +kernel
theorem dX5_best_27 : decode cX5_best 27 = .ok (.if_icmp .ge 54, 3) := by decide +kernel
theorem dX5_best_30 : decode cX5_best 30 = .ok (.aload_n 0, 1) := by decide +kernel
theorem dX5_best_31 : decode cX5_best 31 = .ok (.getfield 19, 3) := by decide +kernel
theorem dX5_best_34 : decode cX5_best 34 = .ok (.aload_n 0, 1) := by decide +kernel
theorem dX5_best_35 : decode cX5_best 35 = .ok (.getfield 26, 3) := by decide +kernel
theorem dX5_best_38 : decode cX5_best 38 = .ok (.iload 4, 2) := by decide +kernel
theorem dX5_best_40 : decode cX5_best 40 = .ok (.iload_n 1, 1) := by decide +kernel
theorem dX5_best_41 : decode cX5_best 41 = .ok (.invokevirtual 120, 3) := by decide +kernel
theorem dX5_best_44 : decode cX5_best 44 = .ok (.istore 5, 2) := by decide +kernel
theorem dX5_best_46 : decode cX5_best 46 = .ok (.aload_n 0, 1) := by decide +kernel
theorem dX5_best_47 : decode cX5_best 47 = .ok (.getfield 19, 3) := by decide +kernel
theorem dX5_best_50 : decode cX5_best 50 = .ok (.aload_n 0, 1) := by decide +kernel
theorem dX5_best_51 : decode cX5_best 51 = .ok (.getfield 26, 3) := by decide +kernel
theorem dX5_best_54 : decode cX5_best 54 = .ok (.iload 4, 2) := by decide +kernel
theorem dX5_best_56 : decode cX5_best 56 = .ok (.iload_n 1, 1) := by decide +kernel
theorem dX5_best_57 : decode cX5_best 57 = .ok (.invokevirtual 124, 3) := by decide +kernel
theorem dX5_best_60 : decode cX5_best 60 = .ok (.ifCond .eq 15, 3) := by decide +kernel
theorem dX5_best_63 : decode cX5_best 63 = .ok (.iload 5, 2) := by decide +kernel
theorem dX5_best_65 : decode cX5_best 65 = .ok (.iload_n 3, 1) := by decide +kernel
theorem dX5_best_66 : decode cX5_best 66 = .ok (.if_icmp .le 9, 3) := by decide +kernel
theorem dX5_best_69 : decode cX5_best 69 = .ok (.iload 4, 2) := by decide +kernel
theorem dX5_best_71 : decode cX5_best 71 = .ok (.istore_n 2, 1) := by decide +kernel
theorem dX5_best_72 : decode cX5_best 72 = .ok (.iload 5, 2) := by decide +kernel
theorem dX5_best_74 : decode cX5_best 74 = .ok (.istore_n 3, 1) := by decide +kernel
theorem dX5_best_75 : decode cX5_best 75 = .ok (.iinc 4 1, 3) := by decide +kernel
theorem dX5_best_78 : decode cX5_best 78 = .ok (.goto (-60), 3) := by decide +kernel
theorem dX5_best_81 : decode cX5_best 81 = .ok (.iload_n 2, 1) := by decide +kernel
theorem dX5_best_82 : decode cX5_best 82 = .ok (.ireturn, 1) := by decide +kernel
theorem dX5_fewest_0 : decode cX5_fewest 0 = .ok (.aload_n 0, 1) := by decide +kernel
theorem dX5_fewest_1 : decode cX5_fewest 1 = .ok (.getfield 26, 3) := by decide +kernel
theorem dX5_fewest_4 : decode cX5_fewest 4 = .ok (.getfield 154, 3) := by decide +kernel
theorem dX5_fewest_7 : decode cX5_fewest 7 = .ok (.ifCond .eq 6, 3) := by decide +kernel
theorem dX5_fewest_10 : decode cX5_fewest 10 = .ok (.bipush (-9), 2) := by decide +kernel
theorem dX5_fewest_12 : decode cX5_fewest 12 = .ok (.ireturn, 1) := by decide +kernel
theorem dX5_fewest_13 : decode cX5_fewest 13 = .ok (.iconst 1, 1) := by decide +kernel
theorem dX5_fewest_14 : decode cX5_fewest 14 = .ok (.istore_n 2, 1) := by decide +kernel
theorem dX5_fewest_15 : decode cX5_fewest 15 = .ok (.iconst 1, 1) := by decide +kernel
theorem dX5_fewest_16 : decode cX5_fewest 16 = .ok (.istore_n 3, 1) := by decide +kernel
theorem dX5_fewest_17 : decode cX5_fewest 17 = .ok (.iload_n 3, 1) := by decide +kernel
theorem dX5_fewest_18 : decode cX5_fewest 18 = .ok (.iconst 4, 1) := by decide +kernel
theorem dX5_fewest_19 : decode cX5_fewest 19 = .ok (.if_icmp .gt 64, 3) := by decide +kernel
theorem dX5_fewest_22 : decode cX5_fewest 22 = .ok (.iload_n 2, 1) := by decide +kernel
theorem dX5_fewest_23 : decode cX5_fewest 23 = .ok (.aload_n 0, 1) := by decide +kernel
theorem dX5_fewest_24 : decode cX5_fewest 24 = .ok (.getfield 19, 3) := by decide +kernel
theorem dX5_fewest_27 : decode cX5_fewest 27 = .ok (.getfield 92, 3) := by decide +kernel
theorem dX5_fewest_30 : decode cX5_fewest 30 = .ok (.imul, 1) := by decide +kernel
theorem dX5_fewest_31 : decode cX5_fewest 31 = .ok (.istore_n 2, 1) := by decide +kernel
theorem dX5_fewest_32 : decode cX5_fewest 32 = .ok (.iconst 0, 1) := by decide +kernel
theorem dX5_fewest_33 : decode cX5_fewest 33 = .ok (.istore 4, 2) := by decide +kernel
theorem dX5_fewest_35 : decode cX5_fewest 35 = .ok (.iload 4, 2) := by decide +kernel
theorem dX5_fewest_37 : decode cX5_fewest 37 = .ok (.iload_n 2, 1) := by decide +kernel
theorem dX5_fewest_38 : decode cX5_fewest 38 = .ok (.if_icmp .ge 39, 3) := by decide +kernel
theorem dX5_fewest_41 : decode cX5_fewest 41 = .ok (.aload_n 0, 1) := by decide +kernel
theorem dX5_fewest_42 : decode cX5_fewest 42 = .ok (.iload 4, 2) := by decide +kernel
theorem dX5_fewest_44 : decode cX5_fewest 44 = .ok (.iload_n 3, 1) := by decide +kernel
theorem dX5_fewest_45 : decode cX5_fewest 45 = .ok (.invokevirtual 197, 3) := by decide +kernel
theorem dX5_fewest_48 : decode cX5_fewest 48 = .ok (.istore 5, 2) := by decide +kernel
theorem dX5_fewest_50 : decode cX5_fewest 50 = .ok (.aload_n 0, 1) := by decide +kernel
theorem dX5_fewest_51 : decode cX5_fewest 51 = .ok (.iload_n 3, 1) := by decide +kernel
theorem dX5_fewest_52 : decode cX5_fewest 52 = .ok (.iload 5, 2) := by decide +kernel
theorem dX5_fewest_54 : decode cX5_fewest 54 = .ok (.invokevirtual 200, 3) := by decide +kernel
theorem dX5_fewest_57 : decode cX5_fewest 57 = .ok (.ifCond .eq 14, 3) := by decide +kernel
theorem dX5_fewest_60 : decode cX5_fewest 60 = .ok (.iload_n 1, 1) := by decide +kernel
theorem dX5_fewest_61 : decode cX5_fewest 61 = .ok (.ifCond .eq 8, 3) := by decide +kernel
theorem dX5_fewest_64 : decode cX5_fewest 64 = .ok (.iload 5, 2) := by decide +kernel
theorem dX5_fewest_66 : decode cX5_fewest 66 = .ok (.goto 4, 3) := by decide +kernel
theorem dX5_fewest_69 : decode cX5_fewest 69 = .ok (.iload_n 3, 1) := by decide +kernel
theorem dX5_fewest_70 : decode cX5_fewest 70 = .ok (.ireturn, 1) := by decide +kernel
theorem dX5_fewest_71 : decode cX5_fewest 71 = .ok (.iinc 4 1, 3) := by decide +kernel
theorem dX5_fewest_74 : decode cX5_fewest 74 = .ok (.goto (-39), 3) := by decide +kernel
theorem dX5_fewest_77 : decode cX5_fewest 77 = .ok (.iinc 3 1, 3) := by decide +kernel
theorem dX5_fewest_80 : decode cX5_fewest 80 = .ok (.goto (-63), 3) := by decide +kernel
theorem dX5_fewest_83 : decode cX5_fewest 83 = .ok (.bipush (-9), 2) := by decide +kernel
theorem dX5_fewest_85 : decode cX5_fewest 85 = .ok (.ireturn, 1) := by decide +kernel
theorem dX5_nthRow_0 : decode cX5_nthRow 0 = .ok (.aload_n 0, 1) := by decide +kernel
theorem dX5_nthRow_1 : decode cX5_nthRow 1 = .ok (.getfield 19, 3) := by decide +kernel
theorem dX5_nthRow_4 : decode cX5_nthRow 4 = .ok (.getfield 92, 3) := by decide +kernel
theorem dX5_nthRow_7 : decode cX5_nthRow 7 = .ok (.istore_n 3, 1) := by decide +kernel
theorem dX5_nthRow_8 : decode cX5_nthRow 8 = .ok (.iload_n 3, 1) := by decide +kernel
theorem dX5_nthRow_9 : decode cX5_nthRow 9 = .ok (.iconst 1, 1) := by decide +kernel
theorem dX5_nthRow_10 : decode cX5_nthRow 10 = .ok (.if_icmp .ge 5, 3) := by decide +kernel
theorem dX5_nthRow_13 : decode cX5_nthRow 13 = .ok (.iconst 0, 1) := by decide +kernel
theorem dX5_nthRow_14 : decode cX5_nthRow 14 = .ok (.ireturn, 1) := by decide +kernel
theorem dX5_nthRow_15 : decode cX5_nthRow 15 = .ok (.iconst 0, 1) := by decide +kernel
theorem dX5_nthRow_16 : decode cX5_nthRow 16 = .ok (.istore 4, 2) := by decide +kernel
theorem dX5_nthRow_18 : decode cX5_nthRow 18 = .ok (.iconst 1, 1) := by decide +kernel
theorem dX5_nthRow_19 : decode cX5_nthRow 19 = .ok (.istore 5, 2) := by decide +kernel
theorem dX5_nthRow_21 : decode cX5_nthRow 21 = .ok (.iload_n 1, 1) := by decide +kernel
theorem dX5_nthRow_22 : decode cX5_nthRow 22 = .ok (.istore 6, 2) := by decide +kernel
theorem dX5_nthRow_24 : decode cX5_nthRow 24 = .ok (.iconst 0, 1) := by decide +kernel
theorem dX5_nthRow_25 : decode cX5_nthRow 25 = .ok (.istore 7, 2) := by decide +kernel
theorem dX5_nthRow_27 : decode cX5_nthRow 27 = .ok (.iload 7, 2) := by decide +kernel
theorem dX5_nthRow_29 : decode cX5_nthRow 29 = .ok (.iload_n 2, 1) := by decide +kernel
theorem dX5_nthRow_30 : decode cX5_nthRow 30 = .ok (.if_icmp .ge 36, 3) := by decide +kernel
theorem dX5_nthRow_33 : decode cX5_nthRow 33 = .ok (.iload 4, 2) := by decide +kernel
theorem dX5_nthRow_35 : decode cX5_nthRow 35 = .ok (.iload 6, 2) := by decide +kernel
theorem dX5_nthRow_37 : decode cX5_nthRow 37 = .ok (.iload_n 3, 1) := by decide +kernel
theorem dX5_nthRow_38 : decode cX5_nthRow 38 = .ok (.irem, 1) := by decide +kernel
theorem dX5_nthRow_39 : decode cX5_nthRow 39 = .ok (.iconst 1, 1) := by decide +kernel
theorem dX5_nthRow_40 : decode cX5_nthRow 40 = .ok (.iadd, 1) := by decide +kernel
theorem dX5_nthRow_41 : decode cX5_nthRow 41 = .ok (.iload 5, 2) := by decide +kernel
theorem dX5_nthRow_43 : decode cX5_nthRow 43 = .ok (.imul, 1) := by decide +kernel
theorem dX5_nthRow_44 : decode cX5_nthRow 44 = .ok (.iadd, 1) := by decide +kernel
theorem dX5_nthRow_45 : decode cX5_nthRow 45 = .ok (.istore 4, 2) := by decide +kernel
theorem dX5_nthRow_47 : decode cX5_nthRow 47 = .ok (.iload 6, 2) := by decide +kernel
theorem dX5_nthRow_49 : decode cX5_nthRow 49 = .ok (.iload_n 3, 1) := by decide +kernel
theorem dX5_nthRow_50 : decode cX5_nthRow 50 = .ok (.idiv, 1) := by decide +kernel
theorem dX5_nthRow_51 : decode cX5_nthRow 51 = .ok (.istore 6, 2) := by decide +kernel
theorem dX5_nthRow_53 : decode cX5_nthRow 53 = .ok (.iload 5, 2) := by decide +kernel
theorem dX5_nthRow_55 : decode cX5_nthRow 55 = .ok (.bipush 10, 2) := by decide +kernel
theorem dX5_nthRow_57 : decode cX5_nthRow 57 = .ok (.imul, 1) := by decide +kernel
theorem dX5_nthRow_58 : decode cX5_nthRow 58 = .ok (.istore 5, 2) := by decide +kernel
theorem dX5_nthRow_60 : decode cX5_nthRow 60 = .ok (.iinc 7 1, 3) := by decide +kernel
theorem dX5_nthRow_63 : decode cX5_nthRow 63 = .ok (.goto (-36), 3) := by decide +kernel
theorem dX5_nthRow_66 : decode cX5_nthRow 66 = .ok (.iload 4, 2) := by decide +kernel
theorem dX5_nthRow_68 : decode cX5_nthRow 68 = .ok (.ireturn, 1) := by decide +kernel
theorem dX5_onlyLastBrings_0 : decode cX5_onlyLastBrings 0 = .ok (.aload_n 0, 1) := by decide +kernel
theorem dX5_onlyLastBrings_1 : decode cX5_onlyLastBrings 1 = .ok (.getfield 30, 3) := by decide +kernel
theorem dX5_onlyLastBrings_4 : decode cX5_onlyLastBrings 4 = .ok (.aload_n 0, 1) := by decide +kernel
theorem dX5_onlyLastBrings_5 : decode cX5_onlyLastBrings 5 = .ok (.getfield 26, 3) := by decide +kernel
theorem dX5_onlyLastBrings_8 : decode cX5_onlyLastBrings 8 = .ok (.invokevirtual 204, 3) := by decide +kernel
theorem dX5_onlyLastBrings_11 : decode cX5_onlyLastBrings 11 = .ok (.iconst 0, 1) := by decide +kernel
theorem dX5_onlyLastBrings_12 : decode cX5_onlyLastBrings 12 = .ok (.istore_n 3, 1) := by decide +kernel
theorem dX5_onlyLastBrings_13 : decode cX5_onlyLastBrings 13 = .ok (.iload_n 3, 1) := by decide +kernel
theorem dX5_onlyLastBrings_14 : decode cX5_onlyLastBrings 14 = .ok (.iload_n 1, 1) := by decide +kernel
theorem dX5_onlyLastBrings_15 : decode cX5_onlyLastBrings 15 = .ok (.if_icmp .ge 49, 3) := by decide +kernel
theorem dX5_onlyLastBrings_18 : decode cX5_onlyLastBrings 18 = .ok (.aload_n 0, 1) := by decide +kernel
theorem dX5_onlyLastBrings_19 : decode cX5_onlyLastBrings 19 = .ok (.getfield 19, 3) := by decide +kernel
theorem dX5_onlyLastBrings_22 : decode cX5_onlyLastBrings 22 = .ok (.aload_n 0, 1) := by decide +kernel
theorem dX5_onlyLastBrings_23 : decode cX5_onlyLastBrings 23 = .ok (.getfield 30, 3) := by decide +kernel
theorem dX5_onlyLastBrings_26 : decode cX5_onlyLastBrings 26 = .ok (.iload_n 2, 1) := by decide +kernel
theorem dX5_onlyLastBrings_27 : decode cX5_onlyLastBrings 27 = .ok (.iload_n 1, 1) := by decide +kernel
theorem dX5_onlyLastBrings_28 : decode cX5_onlyLastBrings 28 = .ok (.iload_n 3, 1) := by decide +kernel
theorem dX5_onlyLastBrings_29 : decode cX5_onlyLastBrings 29 = .ok (.invokestatic 207, 3) := by decide +kernel
theorem dX5_onlyLastBrings_32 : decode cX5_onlyLastBrings 32 = .ok (.iconst 1, 1) := by decide +kernel
theorem dX5_onlyLastBrings_33 : decode cX5_onlyLastBrings 33 = .ok (.isub, 1) := by decide +kernel
theorem dX5_onlyLastBrings_34 : decode cX5_onlyLastBrings 34 = .ok (.invokevirtual 161, 3) := by decide +kernel
theorem dX5_onlyLastBrings_37 : decode cX5_onlyLastBrings 37 = .ok (.istore 4, 2) := by decide +kernel
theorem dX5_onlyLastBrings_39 : decode cX5_onlyLastBrings 39 = .ok (.iload 4, 2) := by decide +kernel
theorem dX5_onlyLastBrings_41 : decode cX5_onlyLastBrings 41 = .ok (.iload_n 3, 1) := by decide +kernel
theorem dX5_onlyLastBrings_42 : decode cX5_onlyLastBrings 42 = .ok (.iload_n 1, 1) := by decide +kernel
theorem dX5_onlyLastBrings_43 : decode cX5_onlyLastBrings 43 = .ok (.iconst 1, 1) := by decide +kernel
theorem dX5_onlyLastBrings_44 : decode cX5_onlyLastBrings 44 = .ok (.isub, 1) := by decide +kernel
theorem dX5_onlyLastBrings_45 : decode cX5_onlyLastBrings 45 = .ok (.if_icmp .ne 7, 3) := by decide +kernel
theorem dX5_onlyLastBrings_48 : decode cX5_onlyLastBrings 48 = .ok (.iconst 1, 1) := by decide +kernel
theorem dX5_onlyLastBrings_49 : decode cX5_onlyLastBrings 49 = .ok (.goto 4, 3) := by decide +kernel
theorem dX5_onlyLastBrings_52 : decode cX5_onlyLastBrings 52 = .ok (.iconst 0, 1) := by decide +kernel
theorem dX5_onlyLastBrings_53 : decode cX5_onlyLastBrings 53 = .ok (.if_icmp .eq 5, 3) := by decide +kernel
theorem dX5_onlyLastBrings_56 : decode cX5_onlyLastBrings 56 = .ok (.iconst 0, 1) := by decide +kernel
theorem dX5_onlyLastBrings_57 : decode cX5_onlyLastBrings 57 = .ok (.ireturn, 1) := by decide +kernel
theorem dX5_onlyLastBrings_58 : decode cX5_onlyLastBrings 58 = .ok (.iinc 3 1, 3) := by decide +kernel
theorem dX5_onlyLastBrings_61 : decode cX5_onlyLastBrings 61 = .ok (.goto (-48), 3) := by decide +kernel
theorem dX5_onlyLastBrings_64 : decode cX5_onlyLastBrings 64 = .ok (.iconst 1, 1) := by decide +kernel
theorem dX5_onlyLastBrings_65 : decode cX5_onlyLastBrings 65 = .ok (.ireturn, 1) := by decide +kernel
theorem dX5_good_0 : decode cX5_good 0 = .ok (.aload_n 0, 1) := by decide +kernel
theorem dX5_good_1 : decode cX5_good 1 = .ok (.getfield 19, 3) := by decide +kernel
theorem dX5_good_4 : decode cX5_good 4 = .ok (.iload_n 1, 1) := by decide +kernel
theorem dX5_good_5 : decode cX5_good 5 = .ok (.invokevirtual 107, 3) := by decide +kernel
theorem dX5_good_8 : decode cX5_good 8 = .ok (.ifCond .ne 5, 3) := by decide +kernel
theorem dX5_good_11 : decode cX5_good 11 = .ok (.iconst (-1), 1) := by decide +kernel
theorem dX5_good_12 : decode cX5_good 12 = .ok (.ireturn, 1) := by decide +kernel
theorem dX5_good_13 : decode cX5_good 13 = .ok (.iload_n 2, 1) := by decide +kernel
theorem dX5_good_14 : decode cX5_good 14 = .ok (.invokestatic 147, 3) := by decide +kernel
theorem dX5_good_17 : decode cX5_good 17 = .ok (.ifCond .eq 6, 3) := by decide +kernel
theorem dX5_good_20 : decode cX5_good 20 = .ok (.bipush (-2), 2) := by decide +kernel
theorem dX5_good_22 : decode cX5_good 22 = .ok (.ireturn, 1) := by decide +kernel
theorem dX5_good_23 : decode cX5_good 23 = .ok (.aload_n 0, 1) := by decide +kernel
theorem dX5_good_24 : decode cX5_good 24 = .ok (.getfield 26, 3) := by decide +kernel
theorem dX5_good_27 : decode cX5_good 27 = .ok (.iload_n 1, 1) := by decide +kernel
theorem dX5_good_28 : decode cX5_good 28 = .ok (.invokevirtual 111, 3) := by decide +kernel
theorem dX5_good_31 : decode cX5_good 31 = .ok (.istore_n 3, 1) := by decide +kernel
theorem dX5_good_32 : decode cX5_good 32 = .ok (.iconst 0, 1) := by decide +kernel
theorem dX5_good_33 : decode cX5_good 33 = .ok (.istore 4, 2) := by decide +kernel
theorem dX5_good_35 : decode cX5_good 35 = .ok (.iload_n 3, 1) := by decide +kernel
theorem dX5_good_36 : decode cX5_good 36 = .ok (.iload 4, 2) := by decide +kernel
theorem dX5_good_38 : decode cX5_good 38 = .ok (.iadd, 1) := by decide +kernel
theorem dX5_good_39 : decode cX5_good 39 = .ok (.bipush 9, 2) := by decide +kernel
theorem dX5_good_41 : decode cX5_good 41 = .ok (.if_icmp .gt 49, 3) := by decide +kernel
theorem dX5_good_44 : decode cX5_good 44 = .ok (.aload_n 0, 1) := by decide +kernel
theorem dX5_good_45 : decode cX5_good 45 = .ok (.getfield 19, 3) := by decide +kernel
theorem dX5_good_48 : decode cX5_good 48 = .ok (.iload_n 3, 1) := by decide +kernel
theorem dX5_good_49 : decode cX5_good 49 = .ok (.iload 4, 2) := by decide +kernel
theorem dX5_good_51 : decode cX5_good 51 = .ok (.iadd, 1) := by decide +kernel
theorem dX5_good_52 : decode cX5_good 52 = .ok (.iload_n 1, 1) := by decide +kernel
theorem dX5_good_53 : decode cX5_good 53 = .ok (.aload_n 0, 1) := by decide +kernel
theorem dX5_good_54 : decode cX5_good 54 = .ok (.getfield 26, 3) := by decide +kernel
theorem dX5_good_57 : decode cX5_good 57 = .ok (.getfield 184, 3) := by decide +kernel
theorem dX5_good_60 : decode cX5_good 60 = .ok (.iload_n 2, 1) := by decide +kernel
theorem dX5_good_61 : decode cX5_good 61 = .ok (.invokevirtual 211, 3) := by decide +kernel
theorem dX5_good_64 : decode cX5_good 64 = .ok (.istore 5, 2) := by decide +kernel
theorem dX5_good_66 : decode cX5_good 66 = .ok (.aload_n 0, 1) := by decide +kernel
theorem dX5_good_67 : decode cX5_good 67 = .ok (.getfield 19, 3) := by decide +kernel
theorem dX5_good_70 : decode cX5_good 70 = .ok (.iload 5, 2) := by decide +kernel
theorem dX5_good_72 : decode cX5_good 72 = .ok (.iload_n 2, 1) := by decide +kernel
theorem dX5_good_73 : decode cX5_good 73 = .ok (.bipush 15, 2) := by decide +kernel
theorem dX5_good_75 : decode cX5_good 75 = .ok (.invokevirtual 215, 3) := by decide +kernel
theorem dX5_good_78 : decode cX5_good 78 = .ok (.ifCond .eq 6, 3) := by decide +kernel
theorem dX5_good_81 : decode cX5_good 81 = .ok (.iload 4, 2) := by decide +kernel
theorem dX5_good_83 : decode cX5_good 83 = .ok (.ireturn, 1) := by decide +kernel
theorem dX5_good_84 : decode cX5_good 84 = .ok (.iinc 4 1, 3) := by decide +kernel
theorem dX5_good_87 : decode cX5_good 87 = .ok (.goto (-52), 3) := by decide +kernel
theorem dX5_good_90 : decode cX5_good 90 = .ok (.bipush (-9), 2) := by decide +kernel
theorem dX5_good_92 : decode cX5_good 92 = .ok (.ireturn, 1) := by decide +kernel
theorem dX5_judge_0 : decode cX5_judge 0 = .ok (.iload_n 1, 1) := by decide +kernel
theorem dX5_judge_1 : decode cX5_judge 1 = .ok (.iconst 1, 1) := by decide +kernel
theorem dX5_judge_2 : decode cX5_judge 2 = .ok (.if_icmp .lt 9, 3) := by decide +kernel
theorem dX5_judge_5 : decode cX5_judge 5 = .ok (.iload_n 1, 1) := by decide +kernel
theorem dX5_judge_6 : decode cX5_judge 6 = .ok (.bipush 6, 2) := by decide +kernel
theorem dX5_judge_8 : decode cX5_judge 8 = .ok (.if_icmp .le 6, 3) := by decide +kernel
theorem dX5_judge_11 : decode cX5_judge 11 = .ok (.bipush (-2), 2) := by decide +kernel
theorem dX5_judge_13 : decode cX5_judge 13 = .ok (.ireturn, 1) := by decide +kernel
theorem dX5_judge_14 : decode cX5_judge 14 = .ok (.iload_n 2, 1) := by decide +kernel
theorem dX5_judge_15 : decode cX5_judge 15 = .ok (.ifCond .lt 11, 3) := by decide +kernel
theorem dX5_judge_18 : decode cX5_judge 18 = .ok (.iload_n 2, 1) := by decide +kernel
theorem dX5_judge_19 : decode cX5_judge 19 = .ok (.iload_n 1, 1) := by decide +kernel
theorem dX5_judge_20 : decode cX5_judge 20 = .ok (.invokestatic 219, 3) := by decide +kernel
theorem dX5_judge_23 : decode cX5_judge 23 = .ok (.if_icmp .lt 6, 3) := by decide +kernel
theorem dX5_judge_26 : decode cX5_judge 26 = .ok (.bipush (-2), 2) := by decide +kernel
theorem dX5_judge_28 : decode cX5_judge 28 = .ok (.ireturn, 1) := by decide +kernel
theorem dX5_judge_29 : decode cX5_judge 29 = .ok (.aload_n 0, 1) := by decide +kernel
theorem dX5_judge_30 : decode cX5_judge 30 = .ok (.getfield 30, 3) := by decide +kernel
theorem dX5_judge_33 : decode cX5_judge 33 = .ok (.aload_n 0, 1) := by decide +kernel
theorem dX5_judge_34 : decode cX5_judge 34 = .ok (.getfield 26, 3) := by decide +kernel
theorem dX5_judge_37 : decode cX5_judge 37 = .ok (.invokevirtual 204, 3) := by decide +kernel
theorem dX5_judge_40 : decode cX5_judge 40 = .ok (.iconst 0, 1) := by decide +kernel
theorem dX5_judge_41 : decode cX5_judge 41 = .ok (.istore_n 3, 1) := by decide +kernel
theorem dX5_judge_42 : decode cX5_judge 42 = .ok (.iload_n 3, 1) := by decide +kernel
theorem dX5_judge_43 : decode cX5_judge 43 = .ok (.iload_n 1, 1) := by decide +kernel
theorem dX5_judge_44 : decode cX5_judge 44 = .ok (.if_icmp .ge 28, 3) := by decide +kernel
theorem dX5_judge_47 : decode cX5_judge 47 = .ok (.aload_n 0, 1) := by decide +kernel
theorem dX5_judge_48 : decode cX5_judge 48 = .ok (.aload_n 0, 1) := by decide +kernel
theorem dX5_judge_49 : decode cX5_judge 49 = .ok (.getfield 30, 3) := by decide +kernel
theorem dX5_judge_52 : decode cX5_judge 52 = .ok (.iload_n 2, 1) := by decide +kernel
theorem dX5_judge_53 : decode cX5_judge 53 = .ok (.iload_n 1, 1) := by decide +kernel
theorem dX5_judge_54 : decode cX5_judge 54 = .ok (.iload_n 3, 1) := by decide +kernel
theorem dX5_judge_55 : decode cX5_judge 55 = .ok (.invokestatic 207, 3) := by decide +kernel
theorem dX5_judge_58 : decode cX5_judge 58 = .ok (.invokevirtual 222, 3) := by decide +kernel
theorem dX5_judge_61 : decode cX5_judge 61 = .ok (.ifCond .ne 5, 3) := by decide +kernel
theorem dX5_judge_64 : decode cX5_judge 64 = .ok (.iload_n 3, 1) := by decide +kernel
theorem dX5_judge_65 : decode cX5_judge 65 = .ok (.ireturn, 1) := by decide +kernel
theorem dX5_judge_66 : decode cX5_judge 66 = .ok (.iinc 3 1, 3) := by decide +kernel
theorem dX5_judge_69 : decode cX5_judge 69 = .ok (.goto (-27), 3) := by decide +kernel
theorem dX5_judge_72 : decode cX5_judge 72 = .ok (.bipush (-9), 2) := by decide +kernel
theorem dX5_judge_74 : decode cX5_judge 74 = .ok (.ireturn, 1) := by decide +kernel
theorem dX5_doesWell_0 : decode cX5_doesWell 0 = .ok (.iload_n 2, 1) := by decide +kernel
theorem dX5_doesWell_1 : decode cX5_doesWell 1 = .ok (.tableswitch 127 0 9 #[55, 127, 127, 127, 127, 57, 72, 88, 107, 125], 55) := by decide +kernel
theorem dX5_doesWell_56 : decode cX5_doesWell 56 = .ok (.iconst 1, 1) := by decide +kernel
theorem dX5_doesWell_57 : decode cX5_doesWell 57 = .ok (.ireturn, 1) := by decide +kernel
theorem dX5_doesWell_58 : decode cX5_doesWell 58 = .ok (.aload_n 1, 1) := by decide +kernel
theorem dX5_doesWell_59 : decode cX5_doesWell 59 = .ok (.invokevirtual 165, 3) := by decide +kernel
theorem dX5_doesWell_62 : decode cX5_doesWell 62 = .ok (.ifCond .ne 5, 3) := by decide +kernel
theorem dX5_doesWell_65 : decode cX5_doesWell 65 = .ok (.iconst 0, 1) := by decide +kernel
theorem dX5_doesWell_66 : decode cX5_doesWell 66 = .ok (.ireturn, 1) := by decide +kernel
theorem dX5_doesWell_67 : decode cX5_doesWell 67 = .ok (.aload_n 1, 1) := by decide +kernel
theorem dX5_doesWell_68 : decode cX5_doesWell 68 = .ok (.invokevirtual 171, 3) := by decide +kernel
theorem dX5_doesWell_71 : decode cX5_doesWell 71 = .ok (.iconst 1, 1) := by decide +kernel
theorem dX5_doesWell_72 : decode cX5_doesWell 72 = .ok (.ireturn, 1) := by decide +kernel
theorem dX5_doesWell_73 : decode cX5_doesWell 73 = .ok (.aload_n 1, 1) := by decide +kernel
theorem dX5_doesWell_74 : decode cX5_doesWell 74 = .ok (.getfield 154, 3) := by decide +kernel
theorem dX5_doesWell_77 : decode cX5_doesWell 77 = .ok (.ifCond .eq 5, 3) := by decide +kernel
theorem dX5_doesWell_80 : decode cX5_doesWell 80 = .ok (.iconst 0, 1) := by decide +kernel
theorem dX5_doesWell_81 : decode cX5_doesWell 81 = .ok (.ireturn, 1) := by decide +kernel
theorem dX5_doesWell_82 : decode cX5_doesWell 82 = .ok (.aload_n 1, 1) := by decide +kernel
theorem dX5_doesWell_83 : decode cX5_doesWell 83 = .ok (.iconst 1, 1) := by decide +kernel
theorem dX5_doesWell_84 : decode cX5_doesWell 84 = .ok (.invokevirtual 174, 3) := by decide +kernel
theorem dX5_doesWell_87 : decode cX5_doesWell 87 = .ok (.iconst 1, 1) := by decide +kernel
theorem dX5_doesWell_88 : decode cX5_doesWell 88 = .ok (.ireturn, 1) := by decide +kernel
theorem dX5_doesWell_89 : decode cX5_doesWell 89 = .ok (.aload_n 1, 1) := by decide +kernel
theorem dX5_doesWell_90 : decode cX5_doesWell 90 = .ok (.invokevirtual 177, 3) := by decide +kernel
theorem dX5_doesWell_93 : decode cX5_doesWell 93 = .ok (.ifCond .ne 5, 3) := by decide +kernel
theorem dX5_doesWell_96 : decode cX5_doesWell 96 = .ok (.iconst 0, 1) := by decide +kernel
theorem dX5_doesWell_97 : decode cX5_doesWell 97 = .ok (.ireturn, 1) := by decide +kernel
theorem dX5_doesWell_98 : decode cX5_doesWell 98 = .ok (.aload_n 0, 1) := by decide +kernel
theorem dX5_doesWell_99 : decode cX5_doesWell 99 = .ok (.getfield 19, 3) := by decide +kernel
theorem dX5_doesWell_102 : decode cX5_doesWell 102 = .ok (.aload_n 1, 1) := by decide +kernel
theorem dX5_doesWell_103 : decode cX5_doesWell 103 = .ok (.invokevirtual 180, 3) := by decide +kernel
theorem dX5_doesWell_106 : decode cX5_doesWell 106 = .ok (.iconst 1, 1) := by decide +kernel
theorem dX5_doesWell_107 : decode cX5_doesWell 107 = .ok (.ireturn, 1) := by decide +kernel
theorem dX5_doesWell_108 : decode cX5_doesWell 108 = .ok (.aload_n 1, 1) := by decide +kernel
theorem dX5_doesWell_109 : decode cX5_doesWell 109 = .ok (.aload_n 1, 1) := by decide +kernel
theorem dX5_doesWell_110 : decode cX5_doesWell 110 = .ok (.getfield 184, 3) := by decide +kernel
theorem dX5_doesWell_113 : decode cX5_doesWell 113 = .ok (.ifCond .ne 7, 3) := by decide +kernel
theorem dX5_doesWell_116 : decode cX5_doesWell 116 = .ok (.iconst 1, 1) := by decide +kernel
theorem dX5_doesWell_117 : decode cX5_doesWell 117 = .ok (.goto 4, 3) := by decide +kernel
theorem dX5_doesWell_120 : decode cX5_doesWell 120 = .ok (.iconst 0, 1) := by decide +kernel
theorem dX5_doesWell_121 : decode cX5_doesWell 121 = .ok (.putfield 184, 3) := by decide +kernel
theorem dX5_doesWell_124 : decode cX5_doesWell 124 = .ok (.iconst 1, 1) := by decide +kernel
theorem dX5_doesWell_125 : decode cX5_doesWell 125 = .ok (.ireturn, 1) := by decide +kernel
theorem dX5_doesWell_126 : decode cX5_doesWell 126 = .ok (.iconst 0, 1) := by decide +kernel
theorem dX5_doesWell_127 : decode cX5_doesWell 127 = .ok (.ireturn, 1) := by decide +kernel
theorem dX5_doesWell_128 : decode cX5_doesWell 128 = .ok (.aload_n 1, 1) := by decide +kernel
theorem dX5_doesWell_129 : decode cX5_doesWell 129 = .ok (.getfield 154, 3) := by decide +kernel
theorem dX5_doesWell_132 : decode cX5_doesWell 132 = .ok (.ifCond .ne 34, 3) := by decide +kernel
theorem dX5_doesWell_135 : decode cX5_doesWell 135 = .ok (.aload_n 0, 1) := by decide +kernel
theorem dX5_doesWell_136 : decode cX5_doesWell 136 = .ok (.getfield 19, 3) := by decide +kernel
theorem dX5_doesWell_139 : decode cX5_doesWell 139 = .ok (.iload_n 2, 1) := by decide +kernel
theorem dX5_doesWell_140 : decode cX5_doesWell 140 = .ok (.iconst 1, 1) := by decide +kernel
theorem dX5_doesWell_141 : decode cX5_doesWell 141 = .ok (.isub, 1) := by decide +kernel
theorem dX5_doesWell_142 : decode cX5_doesWell 142 = .ok (.invokevirtual 107, 3) := by decide +kernel
theorem dX5_doesWell_145 : decode cX5_doesWell 145 = .ok (.ifCond .eq 21, 3) := by decide +kernel
theorem dX5_doesWell_148 : decode cX5_doesWell 148 = .ok (.aload_n 0, 1) := by decide +kernel
theorem dX5_doesWell_149 : decode cX5_doesWell 149 = .ok (.getfield 19, 3) := by decide +kernel
theorem dX5_doesWell_152 : decode cX5_doesWell 152 = .ok (.aload_n 1, 1) := by decide +kernel
theorem dX5_doesWell_153 : decode cX5_doesWell 153 = .ok (.iload_n 2, 1) := by decide +kernel
theorem dX5_doesWell_154 : decode cX5_doesWell 154 = .ok (.iconst 1, 1) := by decide +kernel
theorem dX5_doesWell_155 : decode cX5_doesWell 155 = .ok (.isub, 1) := by decide +kernel
theorem dX5_doesWell_156 : decode cX5_doesWell 156 = .ok (.invokevirtual 161, 3) := by decide +kernel
theorem dX5_doesWell_159 : decode cX5_doesWell 159 = .ok (.ifCond .eq 7, 3) := by decide +kernel
theorem dX5_doesWell_162 : decode cX5_doesWell 162 = .ok (.iconst 1, 1) := by decide +kernel
theorem dX5_doesWell_163 : decode cX5_doesWell 163 = .ok (.goto 4, 3) := by decide +kernel
theorem dX5_doesWell_166 : decode cX5_doesWell 166 = .ok (.iconst 0, 1) := by decide +kernel
theorem dX5_doesWell_167 : decode cX5_doesWell 167 = .ok (.ireturn, 1) := by decide +kernel
theorem dX5_see_0 : decode cX5_see 0 = .ok (.aload_n 0, 1) := by decide +kernel
theorem dX5_see_1 : decode cX5_see 1 = .ok (.getfield 19, 3) := by decide +kernel
theorem dX5_see_4 : decode cX5_see 4 = .ok (.iload_n 1, 1) := by decide +kernel
theorem dX5_see_5 : decode cX5_see 5 = .ok (.invokevirtual 107, 3) := by decide +kernel
theorem dX5_see_8 : decode cX5_see 8 = .ok (.ifCond .ne 5, 3) := by decide +kernel
theorem dX5_see_11 : decode cX5_see 11 = .ok (.iconst (-1), 1) := by decide +kernel
theorem dX5_see_12 : decode cX5_see 12 = .ok (.ireturn, 1) := by decide +kernel
theorem dX5_see_13 : decode cX5_see 13 = .ok (.iload_n 2, 1) := by decide +kernel
theorem dX5_see_14 : decode cX5_see 14 = .ok (.invokestatic 147, 3) := by decide +kernel
theorem dX5_see_17 : decode cX5_see 17 = .ok (.ifCond .ne 12, 3) := by decide +kernel
theorem dX5_see_20 : decode cX5_see 20 = .ok (.iload_n 3, 1) := by decide +kernel
theorem dX5_see_21 : decode cX5_see 21 = .ok (.ifCond .lt 8, 3) := by decide +kernel
theorem dX5_see_24 : decode cX5_see 24 = .ok (.iload_n 3, 1) := by decide +kernel
theorem dX5_see_25 : decode cX5_see 25 = .ok (.iconst 1, 1) := by decide +kernel
theorem dX5_see_26 : decode cX5_see 26 = .ok (.if_icmp .le 6, 3) := by decide +kernel
theorem dX5_see_29 : decode cX5_see 29 = .ok (.bipush (-2), 2) := by decide +kernel
theorem dX5_see_31 : decode cX5_see 31 = .ok (.ireturn, 1) := by decide +kernel
theorem dX5_see_32 : decode cX5_see 32 = .ok (.aload_n 0, 1) := by decide +kernel
theorem dX5_see_33 : decode cX5_see 33 = .ok (.getfield 52, 3) := by decide +kernel
theorem dX5_see_36 : decode cX5_see 36 = .ok (.invokevirtual 225, 3) := by decide +kernel
theorem dX5_see_39 : decode cX5_see 39 = .ok (.ifCond .eq 6, 3) := by decide +kernel
theorem dX5_see_42 : decode cX5_see 42 = .ok (.bipush (-4), 2) := by decide +kernel
theorem dX5_see_44 : decode cX5_see 44 = .ok (.ireturn, 1) := by decide +kernel
theorem dX5_see_45 : decode cX5_see 45 = .ok (.aload_n 0, 1) := by decide +kernel
theorem dX5_see_46 : decode cX5_see 46 = .ok (.getfield 52, 3) := by decide +kernel
theorem dX5_see_49 : decode cX5_see 49 = .ok (.iload_n 1, 1) := by decide +kernel
theorem dX5_see_50 : decode cX5_see 50 = .ok (.iload_n 2, 1) := by decide +kernel
theorem dX5_see_51 : decode cX5_see 51 = .ok (.iload_n 3, 1) := by decide +kernel
theorem dX5_see_52 : decode cX5_see 52 = .ok (.iconst 1, 1) := by decide +kernel
theorem dX5_see_53 : decode cX5_see 53 = .ok (.if_icmp .ne 7, 3) := by decide +kernel
theorem dX5_see_56 : decode cX5_see 56 = .ok (.iconst 1, 1) := by decide +kernel
theorem dX5_see_57 : decode cX5_see 57 = .ok (.goto 4, 3) := by decide +kernel
theorem dX5_see_60 : decode cX5_see 60 = .ok (.iconst 0, 1) := by decide +kernel
theorem dX5_see_61 : decode cX5_see 61 = .ok (.invokevirtual 226, 3) := by decide +kernel
theorem dX5_see_64 : decode cX5_see 64 = .ok (.aload_n 0, 1) := by decide +kernel
theorem dX5_see_65 : decode cX5_see 65 = .ok (.getfield 52, 3) := by decide +kernel
theorem dX5_see_68 : decode cX5_see 68 = .ok (.getfield 230, 3) := by decide +kernel
theorem dX5_see_71 : decode cX5_see 71 = .ok (.ireturn, 1) := by decide +kernel
theorem dX5_unsee_0 : decode cX5_unsee 0 = .ok (.aload_n 0, 1) := by decide +kernel
theorem dX5_unsee_1 : decode cX5_unsee 1 = .ok (.getfield 52, 3) := by decide +kernel
theorem dX5_unsee_4 : decode cX5_unsee 4 = .ok (.getfield 230, 3) := by decide +kernel
theorem dX5_unsee_7 : decode cX5_unsee 7 = .ok (.istore_n 1, 1) := by decide +kernel
theorem dX5_unsee_8 : decode cX5_unsee 8 = .ok (.aload_n 0, 1) := by decide +kernel
theorem dX5_unsee_9 : decode cX5_unsee 9 = .ok (.getfield 52, 3) := by decide +kernel
theorem dX5_unsee_12 : decode cX5_unsee 12 = .ok (.iconst 0, 1) := by decide +kernel
theorem dX5_unsee_13 : decode cX5_unsee 13 = .ok (.putfield 230, 3) := by decide +kernel
theorem dX5_unsee_16 : decode cX5_unsee 16 = .ok (.iload_n 1, 1) := by decide +kernel
theorem dX5_unsee_17 : decode cX5_unsee 17 = .ok (.ireturn, 1) := by decide +kernel
theorem dX5_may_0 : decode cX5_may 0 = .ok (.aload_n 0, 1) := by decide +kernel
theorem dX5_may_1 : decode cX5_may 1 = .ok (.getfield 19, 3) := by decide +kernel
theorem dX5_may_4 : decode cX5_may 4 = .ok (.iload_n 1, 1) := by decide +kernel
theorem dX5_may_5 : decode cX5_may 5 = .ok (.invokevirtual 107, 3) := by decide +kernel
theorem dX5_may_8 : decode cX5_may 8 = .ok (.ifCond .ne 5, 3) := by decide +kernel
theorem dX5_may_11 : decode cX5_may 11 = .ok (.iconst (-1), 1) := by decide +kernel
theorem dX5_may_12 : decode cX5_may 12 = .ok (.ireturn, 1) := by decide +kernel
theorem dX5_may_13 : decode cX5_may 13 = .ok (.iconst 0, 1) := by decide +kernel
theorem dX5_may_14 : decode cX5_may 14 = .ok (.istore_n 2, 1) := by decide +kernel
theorem dX5_may_15 : decode cX5_may 15 = .ok (.iconst 0, 1) := by decide +kernel
theorem dX5_may_16 : decode cX5_may 16 = .ok (.istore_n 3, 1) := by decide +kernel
theorem dX5_may_17 : decode cX5_may 17 = .ok (.iload_n 3, 1) := by decide +kernel
theorem dX5_may_18 : decode cX5_may 18 = .ok (.bipush 9, 2) := by decide +kernel
theorem dX5_may_20 : decode cX5_may 20 = .ok (.if_icmp .gt 38, 3) := by decide +kernel
theorem dX5_may_23 : decode cX5_may 23 = .ok (.aload_n 0, 1) := by decide +kernel
theorem dX5_may_24 : decode cX5_may 24 = .ok (.getfield 52, 3) := by decide +kernel
theorem dX5_may_27 : decode cX5_may 27 = .ok (.aload_n 0, 1) := by decide +kernel
theorem dX5_may_28 : decode cX5_may 28 = .ok (.getfield 19, 3) := by decide +kernel
theorem dX5_may_31 : decode cX5_may 31 = .ok (.iload_n 1, 1) := by decide +kernel
theorem dX5_may_32 : decode cX5_may 32 = .ok (.iload_n 3, 1) := by decide +kernel
theorem dX5_may_33 : decode cX5_may 33 = .ok (.aload_n 0, 1) := by decide +kernel
theorem dX5_may_34 : decode cX5_may 34 = .ok (.getfield 26, 3) := by decide +kernel
theorem dX5_may_37 : decode cX5_may 37 = .ok (.getfield 184, 3) := by decide +kernel
theorem dX5_may_40 : decode cX5_may 40 = .ok (.invokevirtual 231, 3) := by decide +kernel
theorem dX5_may_43 : decode cX5_may 43 = .ok (.ifCond .eq 9, 3) := by decide +kernel
theorem dX5_may_46 : decode cX5_may 46 = .ok (.iload_n 2, 1) := by decide +kernel
theorem dX5_may_47 : decode cX5_may 47 = .ok (.iconst 1, 1) := by decide +kernel
theorem dX5_may_48 : decode cX5_may 48 = .ok (.iload_n 3, 1) := by decide +kernel
theorem dX5_may_49 : decode cX5_may 49 = .ok (.ishl, 1) := by decide +kernel
theorem dX5_may_50 : decode cX5_may 50 = .ok (.ior, 1) := by decide +kernel
theorem dX5_may_51 : decode cX5_may 51 = .ok (.istore_n 2, 1) := by decide +kernel
theorem dX5_may_52 : decode cX5_may 52 = .ok (.iinc 3 1, 3) := by decide +kernel
theorem dX5_may_55 : decode cX5_may 55 = .ok (.goto (-38), 3) := by decide +kernel
theorem dX5_may_58 : decode cX5_may 58 = .ok (.iload_n 2, 1) := by decide +kernel
theorem dX5_may_59 : decode cX5_may 59 = .ok (.ireturn, 1) := by decide +kernel
theorem dX5_share_0 : decode cX5_share 0 = .ok (.aload_n 0, 1) := by decide +kernel
theorem dX5_share_1 : decode cX5_share 1 = .ok (.getfield 19, 3) := by decide +kernel
theorem dX5_share_4 : decode cX5_share 4 = .ok (.iload_n 1, 1) := by decide +kernel
theorem dX5_share_5 : decode cX5_share 5 = .ok (.invokevirtual 107, 3) := by decide +kernel
theorem dX5_share_8 : decode cX5_share 8 = .ok (.ifCond .ne 5, 3) := by decide +kernel
theorem dX5_share_11 : decode cX5_share 11 = .ok (.iconst (-1), 1) := by decide +kernel
theorem dX5_share_12 : decode cX5_share 12 = .ok (.ireturn, 1) := by decide +kernel
theorem dX5_share_13 : decode cX5_share 13 = .ok (.iconst 0, 1) := by decide +kernel
theorem dX5_share_14 : decode cX5_share 14 = .ok (.istore_n 3, 1) := by decide +kernel
theorem dX5_share_15 : decode cX5_share 15 = .ok (.iconst 0, 1) := by decide +kernel
theorem dX5_share_16 : decode cX5_share 16 = .ok (.istore 4, 2) := by decide +kernel
theorem dX5_share_18 : decode cX5_share 18 = .ok (.iload 4, 2) := by decide +kernel
theorem dX5_share_20 : decode cX5_share 20 = .ok (.bipush 9, 2) := by decide +kernel
theorem dX5_share_22 : decode cX5_share 22 = .ok (.if_icmp .gt 47, 3) := by decide +kernel
theorem dX5_share_25 : decode cX5_share 25 = .ok (.aload_n 0, 1) := by decide +kernel
theorem dX5_share_26 : decode cX5_share 26 = .ok (.iload 4, 2) := by decide +kernel
theorem dX5_share_28 : decode cX5_share 28 = .ok (.invokevirtual 235, 3) := by decide +kernel
theorem dX5_share_31 : decode cX5_share 31 = .ok (.istore 5, 2) := by decide +kernel
theorem dX5_share_33 : decode cX5_share 33 = .ok (.iload 5, 2) := by decide +kernel
theorem dX5_share_35 : decode cX5_share 35 = .ok (.ifCond .le 28, 3) := by decide +kernel
theorem dX5_share_38 : decode cX5_share 38 = .ok (.aload_n 0, 1) := by decide +kernel
theorem dX5_share_39 : decode cX5_share 39 = .ok (.getfield 19, 3) := by decide +kernel
theorem dX5_share_42 : decode cX5_share 42 = .ok (.aload_n 0, 1) := by decide +kernel
theorem dX5_share_43 : decode cX5_share 43 = .ok (.getfield 26, 3) := by decide +kernel
theorem dX5_share_46 : decode cX5_share 46 = .ok (.iload_n 1, 1) := by decide +kernel
theorem dX5_share_47 : decode cX5_share 47 = .ok (.iload 4, 2) := by decide +kernel
theorem dX5_share_49 : decode cX5_share 49 = .ok (.invokevirtual 124, 3) := by decide +kernel
theorem dX5_share_52 : decode cX5_share 52 = .ok (.ifCond .eq 11, 3) := by decide +kernel
theorem dX5_share_55 : decode cX5_share 55 = .ok (.iload_n 3, 1) := by decide +kernel
theorem dX5_share_56 : decode cX5_share 56 = .ok (.bipush 12, 2) := by decide +kernel
theorem dX5_share_58 : decode cX5_share 58 = .ok (.iload 5, 2) := by decide +kernel
theorem dX5_share_60 : decode cX5_share 60 = .ok (.idiv, 1) := by decide +kernel
theorem dX5_share_61 : decode cX5_share 61 = .ok (.iadd, 1) := by decide +kernel
theorem dX5_share_62 : decode cX5_share 62 = .ok (.istore_n 3, 1) := by decide +kernel
theorem dX5_share_63 : decode cX5_share 63 = .ok (.iinc 4 1, 3) := by decide +kernel
theorem dX5_share_66 : decode cX5_share 66 = .ok (.goto (-48), 3) := by decide +kernel
theorem dX5_share_69 : decode cX5_share 69 = .ok (.iload_n 3, 1) := by decide +kernel
theorem dX5_share_70 : decode cX5_share 70 = .ok (.bipush 12, 2) := by decide +kernel
theorem dX5_share_72 : decode cX5_share 72 = .ok (.iload_n 2, 1) := by decide +kernel
theorem dX5_share_73 : decode cX5_share 73 = .ok (.invokestatic 238, 3) := by decide +kernel
theorem dX5_share_76 : decode cX5_share 76 = .ok (.ireturn, 1) := by decide +kernel
theorem dX5_wordsThatBring_0 : decode cX5_wordsThatBring 0 = .ok (.iconst 0, 1) := by decide +kernel
theorem dX5_wordsThatBring_1 : decode cX5_wordsThatBring 1 = .ok (.istore_n 2, 1) := by decide +kernel
theorem dX5_wordsThatBring_2 : decode cX5_wordsThatBring 2 = .ok (.iconst 0, 1) := by decide +kernel
theorem dX5_wordsThatBring_3 : decode cX5_wordsThatBring 3 = .ok (.istore_n 3, 1) := by decide +kernel
theorem dX5_wordsThatBring_4 : decode cX5_wordsThatBring 4 = .ok (.iload_n 3, 1) := by decide +kernel
theorem dX5_wordsThatBring_5 : decode cX5_wordsThatBring 5 = .ok (.aload_n 0, 1) := by decide +kernel
theorem dX5_wordsThatBring_6 : decode cX5_wordsThatBring 6 = .ok (.getfield 19, 3) := by decide +kernel
theorem dX5_wordsThatBring_9 : decode cX5_wordsThatBring 9 = .ok (.getfield 92, 3) := by decide +kernel
theorem dX5_wordsThatBring_12 : decode cX5_wordsThatBring 12 = .ok (.if_icmp .ge 28, 3) := by decide +kernel
theorem dX5_wordsThatBring_15 : decode cX5_wordsThatBring 15 = .ok (.aload_n 0, 1) := by decide +kernel
theorem dX5_wordsThatBring_16 : decode cX5_wordsThatBring 16 = .ok (.getfield 19, 3) := by decide +kernel
theorem dX5_wordsThatBring_19 : decode cX5_wordsThatBring 19 = .ok (.aload_n 0, 1) := by decide +kernel
theorem dX5_wordsThatBring_20 : decode cX5_wordsThatBring 20 = .ok (.getfield 26, 3) := by decide +kernel
theorem dX5_wordsThatBring_23 : decode cX5_wordsThatBring 23 = .ok (.iload_n 3, 1) := by decide +kernel
theorem dX5_wordsThatBring_24 : decode cX5_wordsThatBring 24 = .ok (.iload_n 1, 1) := by decide +kernel
theorem dX5_wordsThatBring_25 : decode cX5_wordsThatBring 25 = .ok (.invokevirtual 124, 3) := by decide +kernel
theorem dX5_wordsThatBring_28 : decode cX5_wordsThatBring 28 = .ok (.ifCond .eq 6, 3) := by decide +kernel
theorem dX5_wordsThatBring_31 : decode cX5_wordsThatBring 31 = .ok (.iinc 2 1, 3) := by decide +kernel
theorem dX5_wordsThatBring_34 : decode cX5_wordsThatBring 34 = .ok (.iinc 3 1, 3) := by decide +kernel
theorem dX5_wordsThatBring_37 : decode cX5_wordsThatBring 37 = .ok (.goto (-33), 3) := by decide +kernel
theorem dX5_wordsThatBring_40 : decode cX5_wordsThatBring 40 = .ok (.iload_n 2, 1) := by decide +kernel
theorem dX5_wordsThatBring_41 : decode cX5_wordsThatBring 41 = .ok (.ireturn, 1) := by decide +kernel
theorem dX5_rests_0 : decode cX5_rests 0 = .ok (.aload_n 0, 1) := by decide +kernel
theorem dX5_rests_1 : decode cX5_rests 1 = .ok (.getfield 19, 3) := by decide +kernel
theorem dX5_rests_4 : decode cX5_rests 4 = .ok (.iload_n 1, 1) := by decide +kernel
theorem dX5_rests_5 : decode cX5_rests 5 = .ok (.invokevirtual 107, 3) := by decide +kernel
theorem dX5_rests_8 : decode cX5_rests 8 = .ok (.ifCond .eq 14, 3) := by decide +kernel
theorem dX5_rests_11 : decode cX5_rests 11 = .ok (.aload_n 0, 1) := by decide +kernel
theorem dX5_rests_12 : decode cX5_rests 12 = .ok (.getfield 19, 3) := by decide +kernel
theorem dX5_rests_15 : decode cX5_rests 15 = .ok (.iload_n 2, 1) := by decide +kernel
theorem dX5_rests_16 : decode cX5_rests 16 = .ok (.invokevirtual 107, 3) := by decide +kernel
theorem dX5_rests_19 : decode cX5_rests 19 = .ok (.ifCond .ne 5, 3) := by decide +kernel
theorem dX5_rests_22 : decode cX5_rests 22 = .ok (.iconst (-1), 1) := by decide +kernel
theorem dX5_rests_23 : decode cX5_rests 23 = .ok (.ireturn, 1) := by decide +kernel
theorem dX5_rests_24 : decode cX5_rests 24 = .ok (.iload_n 3, 1) := by decide +kernel
theorem dX5_rests_25 : decode cX5_rests 25 = .ok (.ifCond .lt 8, 3) := by decide +kernel
theorem dX5_rests_28 : decode cX5_rests 28 = .ok (.iload_n 3, 1) := by decide +kernel
theorem dX5_rests_29 : decode cX5_rests 29 = .ok (.iconst 1, 1) := by decide +kernel
theorem dX5_rests_30 : decode cX5_rests 30 = .ok (.if_icmp .le 6, 3) := by decide +kernel
theorem dX5_rests_33 : decode cX5_rests 33 = .ok (.bipush (-2), 2) := by decide +kernel
theorem dX5_rests_35 : decode cX5_rests 35 = .ok (.ireturn, 1) := by decide +kernel
theorem dX5_rests_36 : decode cX5_rests 36 = .ok (.iconst 0, 1) := by decide +kernel
theorem dX5_rests_37 : decode cX5_rests 37 = .ok (.istore 4, 2) := by decide +kernel
theorem dX5_rests_39 : decode cX5_rests 39 = .ok (.bipush (-9), 2) := by decide +kernel
theorem dX5_rests_41 : decode cX5_rests 41 = .ok (.istore 5, 2) := by decide +kernel
theorem dX5_rests_43 : decode cX5_rests 43 = .ok (.iconst 0, 1) := by decide +kernel
theorem dX5_rests_44 : decode cX5_rests 44 = .ok (.istore 6, 2) := by decide +kernel
theorem dX5_rests_46 : decode cX5_rests 46 = .ok (.iload 6, 2) := by decide +kernel
theorem dX5_rests_48 : decode cX5_rests 48 = .ok (.iconst 1, 1) := by decide +kernel
theorem dX5_rests_49 : decode cX5_rests 49 = .ok (.if_icmp .gt 69, 3) := by decide +kernel
theorem dX5_rests_52 : decode cX5_rests 52 = .ok (.iconst 0, 1) := by decide +kernel
theorem dX5_rests_53 : decode cX5_rests 53 = .ok (.istore 7, 2) := by decide +kernel
theorem dX5_rests_55 : decode cX5_rests 55 = .ok (.iload 7, 2) := by decide +kernel
theorem dX5_rests_57 : decode cX5_rests 57 = .ok (.iconst 1, 1) := by decide +kernel
theorem dX5_rests_58 : decode cX5_rests 58 = .ok (.if_icmp .gt 54, 3) := by decide +kernel
theorem dX5_rests_61 : decode cX5_rests 61 = .ok (.aload_n 0, 1) := by decide +kernel
theorem dX5_rests_62 : decode cX5_rests 62 = .ok (.iload_n 1, 1) := by decide +kernel
theorem dX5_rests_63 : decode cX5_rests 63 = .ok (.iload 6, 2) := by decide +kernel
theorem dX5_rests_65 : decode cX5_rests 65 = .ok (.iload 7, 2) := by decide +kernel
theorem dX5_rests_67 : decode cX5_rests 67 = .ok (.invokevirtual 242, 3) := by decide +kernel
theorem dX5_rests_70 : decode cX5_rests 70 = .ok (.ifCond .eq 36, 3) := by decide +kernel
theorem dX5_rests_73 : decode cX5_rests 73 = .ok (.aload_n 0, 1) := by decide +kernel
theorem dX5_rests_74 : decode cX5_rests 74 = .ok (.iload_n 2, 1) := by decide +kernel
theorem dX5_rests_75 : decode cX5_rests 75 = .ok (.iload 7, 2) := by decide +kernel
theorem dX5_rests_77 : decode cX5_rests 77 = .ok (.iload 6, 2) := by decide +kernel
theorem dX5_rests_79 : decode cX5_rests 79 = .ok (.invokevirtual 242, 3) := by decide +kernel
theorem dX5_rests_82 : decode cX5_rests 82 = .ok (.ifCond .ne 6, 3) := by decide +kernel
theorem dX5_rests_85 : decode cX5_rests 85 = .ok (.goto 21, 3) := by decide +kernel
theorem dX5_rests_88 : decode cX5_rests 88 = .ok (.iload 4, 2) := by decide +kernel
theorem dX5_rests_90 : decode cX5_rests 90 = .ok (.ifCond .ne 13, 3) := by decide +kernel
theorem dX5_rests_93 : decode cX5_rests 93 = .ok (.bipush 10, 2) := by decide +kernel
theorem dX5_rests_95 : decode cX5_rests 95 = .ok (.iload 6, 2) := by decide +kernel
theorem dX5_rests_97 : decode cX5_rests 97 = .ok (.imul, 1) := by decide +kernel
theorem dX5_rests_98 : decode cX5_rests 98 = .ok (.iload 7, 2) := by decide +kernel
theorem dX5_rests_100 : decode cX5_rests 100 = .ok (.iadd, 1) := by decide +kernel
theorem dX5_rests_101 : decode cX5_rests 101 = .ok (.istore 5, 2) := by decide +kernel
theorem dX5_rests_103 : decode cX5_rests 103 = .ok (.iinc 4 1, 3) := by decide +kernel
theorem dX5_rests_106 : decode cX5_rests 106 = .ok (.iinc 7 1, 3) := by decide +kernel
theorem dX5_rests_109 : decode cX5_rests 109 = .ok (.goto (-54), 3) := by decide +kernel
theorem dX5_rests_112 : decode cX5_rests 112 = .ok (.iinc 6 1, 3) := by decide +kernel
theorem dX5_rests_115 : decode cX5_rests 115 = .ok (.goto (-69), 3) := by decide +kernel
theorem dX5_rests_118 : decode cX5_rests 118 = .ok (.iload_n 3, 1) := by decide +kernel
theorem dX5_rests_119 : decode cX5_rests 119 = .ok (.ifCond .ne 8, 3) := by decide +kernel
theorem dX5_rests_122 : decode cX5_rests 122 = .ok (.iload 4, 2) := by decide +kernel
theorem dX5_rests_124 : decode cX5_rests 124 = .ok (.goto 5, 3) := by decide +kernel
theorem dX5_rests_127 : decode cX5_rests 127 = .ok (.iload 5, 2) := by decide +kernel
theorem dX5_rests_129 : decode cX5_rests 129 = .ok (.ireturn, 1) := by decide +kernel
theorem dX5_isContent_0 : decode cX5_isContent 0 = .ok (.aload_n 0, 1) := by decide +kernel
theorem dX5_isContent_1 : decode cX5_isContent 1 = .ok (.iload_n 1, 1) := by decide +kernel
theorem dX5_isContent_2 : decode cX5_isContent 2 = .ok (.iload_n 2, 1) := by decide +kernel
theorem dX5_isContent_3 : decode cX5_isContent 3 = .ok (.iload_n 3, 1) := by decide +kernel
theorem dX5_isContent_4 : decode cX5_isContent 4 = .ok (.invokevirtual 245, 3) := by decide +kernel
theorem dX5_isContent_7 : decode cX5_isContent 7 = .ok (.aload_n 0, 1) := by decide +kernel
theorem dX5_isContent_8 : decode cX5_isContent 8 = .ok (.iload_n 1, 1) := by decide +kernel
theorem dX5_isContent_9 : decode cX5_isContent 9 = .ok (.iconst 1, 1) := by decide +kernel
theorem dX5_isContent_10 : decode cX5_isContent 10 = .ok (.iload_n 2, 1) := by decide +kernel
theorem dX5_isContent_11 : decode cX5_isContent 11 = .ok (.isub, 1) := by decide +kernel
theorem dX5_isContent_12 : decode cX5_isContent 12 = .ok (.iload_n 3, 1) := by decide +kernel
theorem dX5_isContent_13 : decode cX5_isContent 13 = .ok (.invokevirtual 245, 3) := by decide +kernel
theorem dX5_isContent_16 : decode cX5_isContent 16 = .ok (.if_icmp .lt 7, 3) := by decide +kernel
theorem dX5_isContent_19 : decode cX5_isContent 19 = .ok (.iconst 1, 1) := by decide +kernel
theorem dX5_isContent_20 : decode cX5_isContent 20 = .ok (.goto 4, 3) := by decide +kernel
theorem dX5_isContent_23 : decode cX5_isContent 23 = .ok (.iconst 0, 1) := by decide +kernel
theorem dX5_isContent_24 : decode cX5_isContent 24 = .ok (.ireturn, 1) := by decide +kernel
theorem dX5_gainOf_0 : decode cX5_gainOf 0 = .ok (.iload_n 2, 1) := by decide +kernel
theorem dX5_gainOf_1 : decode cX5_gainOf 1 = .ok (.ifCond .ne 5, 3) := by decide +kernel
theorem dX5_gainOf_4 : decode cX5_gainOf 4 = .ok (.iconst 0, 1) := by decide +kernel
theorem dX5_gainOf_5 : decode cX5_gainOf 5 = .ok (.ireturn, 1) := by decide +kernel
theorem dX5_gainOf_6 : decode cX5_gainOf 6 = .ok (.aload_n 0, 1) := by decide +kernel
theorem dX5_gainOf_7 : decode cX5_gainOf 7 = .ok (.getfield 19, 3) := by decide +kernel
theorem dX5_gainOf_10 : decode cX5_gainOf 10 = .ok (.aload_n 0, 1) := by decide +kernel
theorem dX5_gainOf_11 : decode cX5_gainOf 11 = .ok (.getfield 26, 3) := by decide +kernel
theorem dX5_gainOf_14 : decode cX5_gainOf 14 = .ok (.iload_n 1, 1) := by decide +kernel
theorem dX5_gainOf_15 : decode cX5_gainOf 15 = .ok (.aload_n 0, 1) := by decide +kernel
theorem dX5_gainOf_16 : decode cX5_gainOf 16 = .ok (.getfield 26, 3) := by decide +kernel
theorem dX5_gainOf_19 : decode cX5_gainOf 19 = .ok (.getfield 117, 3) := by decide +kernel
theorem dX5_gainOf_22 : decode cX5_gainOf 22 = .ok (.invokevirtual 120, 3) := by decide +kernel
theorem dX5_gainOf_25 : decode cX5_gainOf 25 = .ok (.iconst 2, 1) := by decide +kernel
theorem dX5_gainOf_26 : decode cX5_gainOf 26 = .ok (.iload_n 3, 1) := by decide +kernel
theorem dX5_gainOf_27 : decode cX5_gainOf 27 = .ok (.imul, 1) := by decide +kernel
theorem dX5_gainOf_28 : decode cX5_gainOf 28 = .ok (.isub, 1) := by decide +kernel
theorem dX5_gainOf_29 : decode cX5_gainOf 29 = .ok (.istore 4, 2) := by decide +kernel
theorem dX5_gainOf_31 : decode cX5_gainOf 31 = .ok (.aload_n 0, 1) := by decide +kernel
theorem dX5_gainOf_32 : decode cX5_gainOf 32 = .ok (.getfield 19, 3) := by decide +kernel
theorem dX5_gainOf_35 : decode cX5_gainOf 35 = .ok (.iload 4, 2) := by decide +kernel
theorem dX5_gainOf_37 : decode cX5_gainOf 37 = .ok (.aload_n 0, 1) := by decide +kernel
theorem dX5_gainOf_38 : decode cX5_gainOf 38 = .ok (.getfield 26, 3) := by decide +kernel
theorem dX5_gainOf_41 : decode cX5_gainOf 41 = .ok (.getfield 117, 3) := by decide +kernel
theorem dX5_gainOf_44 : decode cX5_gainOf 44 = .ok (.bipush 15, 2) := by decide +kernel
theorem dX5_gainOf_46 : decode cX5_gainOf 46 = .ok (.invokevirtual 215, 3) := by decide +kernel
theorem dX5_gainOf_49 : decode cX5_gainOf 49 = .ok (.ifCond .eq 9, 3) := by decide +kernel
theorem dX5_gainOf_52 : decode cX5_gainOf 52 = .ok (.iconst 3, 1) := by decide +kernel
theorem dX5_gainOf_53 : decode cX5_gainOf 53 = .ok (.iload_n 3, 1) := by decide +kernel
theorem dX5_gainOf_54 : decode cX5_gainOf 54 = .ok (.isub, 1) := by decide +kernel
theorem dX5_gainOf_55 : decode cX5_gainOf 55 = .ok (.goto 4, 3) := by decide +kernel
theorem dX5_gainOf_58 : decode cX5_gainOf 58 = .ok (.iconst (-1), 1) := by decide +kernel
theorem dX5_gainOf_59 : decode cX5_gainOf 59 = .ok (.ireturn, 1) := by decide +kernel
theorem dX5_there_0 : decode cX5_there 0 = .ok (.aload_n 0, 1) := by decide +kernel
theorem dX5_there_1 : decode cX5_there 1 = .ok (.getfield 19, 3) := by decide +kernel
theorem dX5_there_4 : decode cX5_there 4 = .ok (.iload_n 1, 1) := by decide +kernel
theorem dX5_there_5 : decode cX5_there 5 = .ok (.invokevirtual 107, 3) := by decide +kernel
theorem dX5_there_8 : decode cX5_there 8 = .ok (.ifCond .ne 5, 3) := by decide +kernel
theorem dX5_there_11 : decode cX5_there 11 = .ok (.iconst (-1), 1) := by decide +kernel
theorem dX5_there_12 : decode cX5_there 12 = .ok (.ireturn, 1) := by decide +kernel
theorem dX5_there_13 : decode cX5_there 13 = .ok (.iload_n 2, 1) := by decide +kernel
theorem dX5_there_14 : decode cX5_there 14 = .ok (.ifCond .lt 9, 3) := by decide +kernel
theorem dX5_there_17 : decode cX5_there 17 = .ok (.iload_n 2, 1) := by decide +kernel
theorem dX5_there_18 : decode cX5_there 18 = .ok (.bipush 10, 2) := by decide +kernel
theorem dX5_there_20 : decode cX5_there 20 = .ok (.if_icmp .le 6, 3) := by decide +kernel
theorem dX5_there_23 : decode cX5_there 23 = .ok (.bipush (-2), 2) := by decide +kernel
theorem dX5_there_25 : decode cX5_there 25 = .ok (.ireturn, 1) := by decide +kernel
theorem dX5_there_26 : decode cX5_there 26 = .ok (.aload_n 0, 1) := by decide +kernel
theorem dX5_there_27 : decode cX5_there 27 = .ok (.getfield 19, 3) := by decide +kernel
theorem dX5_there_30 : decode cX5_there 30 = .ok (.aload_n 0, 1) := by decide +kernel
theorem dX5_there_31 : decode cX5_there 31 = .ok (.getfield 26, 3) := by decide +kernel
theorem dX5_there_34 : decode cX5_there 34 = .ok (.iload_n 1, 1) := by decide +kernel
theorem dX5_there_35 : decode cX5_there 35 = .ok (.aload_n 0, 1) := by decide +kernel
theorem dX5_there_36 : decode cX5_there 36 = .ok (.getfield 26, 3) := by decide +kernel
theorem dX5_there_39 : decode cX5_there 39 = .ok (.getfield 117, 3) := by decide +kernel
theorem dX5_there_42 : decode cX5_there 42 = .ok (.invokevirtual 120, 3) := by decide +kernel
theorem dX5_there_45 : decode cX5_there 45 = .ok (.istore 4, 2) := by decide +kernel
theorem dX5_there_47 : decode cX5_there 47 = .ok (.iconst 0, 1) := by decide +kernel
theorem dX5_there_48 : decode cX5_there 48 = .ok (.istore 5, 2) := by decide +kernel
theorem dX5_there_50 : decode cX5_there 50 = .ok (.iconst 0, 1) := by decide +kernel
theorem dX5_there_51 : decode cX5_there 51 = .ok (.istore 6, 2) := by decide +kernel
theorem dX5_there_53 : decode cX5_there 53 = .ok (.iload 6, 2) := by decide +kernel
theorem dX5_there_55 : decode cX5_there 55 = .ok (.iconst 1, 1) := by decide +kernel
theorem dX5_there_56 : decode cX5_there 56 = .ok (.aload_n 0, 1) := by decide +kernel
theorem dX5_there_57 : decode cX5_there 57 = .ok (.getfield 19, 3) := by decide +kernel
theorem dX5_there_60 : decode cX5_there 60 = .ok (.getfield 95, 3) := by decide +kernel
theorem dX5_there_63 : decode cX5_there 63 = .ok (.ishl, 1) := by decide +kernel
theorem dX5_there_64 : decode cX5_there 64 = .ok (.if_icmp .ge 42, 3) := by decide +kernel
theorem dX5_there_67 : decode cX5_there 67 = .ok (.aload_n 0, 1) := by decide +kernel
theorem dX5_there_68 : decode cX5_there 68 = .ok (.getfield 19, 3) := by decide +kernel
theorem dX5_there_71 : decode cX5_there 71 = .ok (.iload 4, 2) := by decide +kernel
theorem dX5_there_73 : decode cX5_there 73 = .ok (.aload_n 0, 1) := by decide +kernel
theorem dX5_there_74 : decode cX5_there 74 = .ok (.getfield 26, 3) := by decide +kernel
theorem dX5_there_77 : decode cX5_there 77 = .ok (.getfield 117, 3) := by decide +kernel
theorem dX5_there_80 : decode cX5_there 80 = .ok (.iload 6, 2) := by decide +kernel
theorem dX5_there_82 : decode cX5_there 82 = .ok (.invokevirtual 215, 3) := by decide +kernel
theorem dX5_there_85 : decode cX5_there 85 = .ok (.ifCond .eq 15, 3) := by decide +kernel
theorem dX5_there_88 : decode cX5_there 88 = .ok (.iload 5, 2) := by decide +kernel
theorem dX5_there_90 : decode cX5_there 90 = .ok (.aload_n 0, 1) := by decide +kernel
theorem dX5_there_91 : decode cX5_there 91 = .ok (.iload 6, 2) := by decide +kernel
theorem dX5_there_93 : decode cX5_there 93 = .ok (.iload_n 2, 1) := by decide +kernel
theorem dX5_there_94 : decode cX5_there 94 = .ok (.invokevirtual 248, 3) := by decide +kernel
theorem dX5_there_97 : decode cX5_there 97 = .ok (.iadd, 1) := by decide +kernel
theorem dX5_there_98 : decode cX5_there 98 = .ok (.istore 5, 2) := by decide +kernel
theorem dX5_there_100 : decode cX5_there 100 = .ok (.iinc 6 1, 3) := by decide +kernel
theorem dX5_there_103 : decode cX5_there 103 = .ok (.goto (-50), 3) := by decide +kernel
theorem dX5_there_106 : decode cX5_there 106 = .ok (.iload 5, 2) := by decide +kernel
theorem dX5_there_108 : decode cX5_there 108 = .ok (.aload_n 0, 1) := by decide +kernel
theorem dX5_there_109 : decode cX5_there 109 = .ok (.getfield 19, 3) := by decide +kernel
theorem dX5_there_112 : decode cX5_there 112 = .ok (.getfield 95, 3) := by decide +kernel
theorem dX5_there_115 : decode cX5_there 115 = .ok (.invokestatic 219, 3) := by decide +kernel
theorem dX5_there_118 : decode cX5_there 118 = .ok (.iload_n 3, 1) := by decide +kernel
theorem dX5_there_119 : decode cX5_there 119 = .ok (.invokestatic 238, 3) := by decide +kernel
theorem dX5_there_122 : decode cX5_there 122 = .ok (.ireturn, 1) := by decide +kernel
theorem dX5_weightOf_0 : decode cX5_weightOf 0 = .ok (.iconst 1, 1) := by decide +kernel
theorem dX5_weightOf_1 : decode cX5_weightOf 1 = .ok (.istore_n 3, 1) := by decide +kernel
theorem dX5_weightOf_2 : decode cX5_weightOf 2 = .ok (.iconst 0, 1) := by decide +kernel
theorem dX5_weightOf_3 : decode cX5_weightOf 3 = .ok (.istore 4, 2) := by decide +kernel
theorem dX5_weightOf_5 : decode cX5_weightOf 5 = .ok (.iload 4, 2) := by decide +kernel
theorem dX5_weightOf_7 : decode cX5_weightOf 7 = .ok (.aload_n 0, 1) := by decide +kernel
theorem dX5_weightOf_8 : decode cX5_weightOf 8 = .ok (.getfield 19, 3) := by decide +kernel
theorem dX5_weightOf_11 : decode cX5_weightOf 11 = .ok (.getfield 95, 3) := by decide +kernel
theorem dX5_weightOf_14 : decode cX5_weightOf 14 = .ok (.if_icmp .ge 30, 3) := by decide +kernel
theorem dX5_weightOf_17 : decode cX5_weightOf 17 = .ok (.iload_n 3, 1) := by decide +kernel
theorem dX5_weightOf_18 : decode cX5_weightOf 18 = .ok (.iload_n 1, 1) := by decide +kernel
theorem dX5_weightOf_19 : decode cX5_weightOf 19 = .ok (.iload 4, 2) := by decide +kernel
theorem dX5_weightOf_21 : decode cX5_weightOf 21 = .ok (.ishr, 1) := by decide +kernel
theorem dX5_weightOf_22 : decode cX5_weightOf 22 = .ok (.iconst 1, 1) := by decide +kernel
theorem dX5_weightOf_23 : decode cX5_weightOf 23 = .ok (.iand, 1) := by decide +kernel
theorem dX5_weightOf_24 : decode cX5_weightOf 24 = .ok (.iconst 1, 1) := by decide +kernel
theorem dX5_weightOf_25 : decode cX5_weightOf 25 = .ok (.if_icmp .ne 7, 3) := by decide +kernel
theorem dX5_weightOf_28 : decode cX5_weightOf 28 = .ok (.iload_n 2, 1) := by decide +kernel
theorem dX5_weightOf_29 : decode cX5_weightOf 29 = .ok (.goto 7, 3) := by decide +kernel
theorem dX5_weightOf_32 : decode cX5_weightOf 32 = .ok (.bipush 10, 2) := by decide +kernel
theorem dX5_weightOf_34 : decode cX5_weightOf 34 = .ok (.iload_n 2, 1) := by decide +kernel
theorem dX5_weightOf_35 : decode cX5_weightOf 35 = .ok (.isub, 1) := by decide +kernel
theorem dX5_weightOf_36 : decode cX5_weightOf 36 = .ok (.imul, 1) := by decide +kernel
theorem dX5_weightOf_37 : decode cX5_weightOf 37 = .ok (.istore_n 3, 1) := by decide +kernel
theorem dX5_weightOf_38 : decode cX5_weightOf 38 = .ok (.iinc 4 1, 3) := by decide +kernel
theorem dX5_weightOf_41 : decode cX5_weightOf 41 = .ok (.goto (-36), 3) := by decide +kernel
theorem dX5_weightOf_44 : decode cX5_weightOf 44 = .ok (.iload_n 3, 1) := by decide +kernel
theorem dX5_weightOf_45 : decode cX5_weightOf 45 = .ok (.ireturn, 1) := by decide +kernel
theorem dX5_seed_0 : decode cX5_seed 0 = .ok (.aload_n 0, 1) := by decide +kernel
theorem dX5_seed_1 : decode cX5_seed 1 = .ok (.getfield 251, 3) := by decide +kernel
theorem dX5_seed_4 : decode cX5_seed 4 = .ok (.lstore_n 3, 1) := by decide +kernel
theorem dX5_seed_5 : decode cX5_seed 5 = .ok (.aload_n 0, 1) := by decide +kernel
theorem dX5_seed_6 : decode cX5_seed 6 = .ok (.lload_n 1, 1) := by decide +kernel
theorem dX5_seed_7 : decode cX5_seed 7 = .ok (.putfield 251, 3) := by decide +kernel
theorem dX5_seed_10 : decode cX5_seed 10 = .ok (.lload_n 3, 1) := by decide +kernel
theorem dX5_seed_11 : decode cX5_seed 11 = .ok (.lreturn, 1) := by decide +kernel
theorem dX5_walks_0 : decode cX5_walks 0 = .ok (.iload_n 1, 1) := by decide +kernel
theorem dX5_walks_1 : decode cX5_walks 1 = .ok (.iconst 1, 1) := by decide +kernel
theorem dX5_walks_2 : decode cX5_walks 2 = .ok (.if_icmp .lt 9, 3) := by decide +kernel
theorem dX5_walks_5 : decode cX5_walks 5 = .ok (.iload_n 1, 1) := by decide +kernel
theorem dX5_walks_6 : decode cX5_walks 6 = .ok (.bipush 30, 2) := by decide +kernel
theorem dX5_walks_8 : decode cX5_walks 8 = .ok (.if_icmp .le 6, 3) := by decide +kernel
theorem dX5_walks_11 : decode cX5_walks 11 = .ok (.bipush (-2), 2) := by decide +kernel
theorem dX5_walks_13 : decode cX5_walks 13 = .ok (.ireturn, 1) := by decide +kernel
theorem dX5_walks_14 : decode cX5_walks 14 = .ok (.aload_n 0, 1) := by decide +kernel
theorem dX5_walks_15 : decode cX5_walks 15 = .ok (.getfield 30, 3) := by decide +kernel
theorem dX5_walks_18 : decode cX5_walks 18 = .ok (.aload_n 0, 1) := by decide +kernel
theorem dX5_walks_19 : decode cX5_walks 19 = .ok (.getfield 26, 3) := by decide +kernel
theorem dX5_walks_22 : decode cX5_walks 22 = .ok (.invokevirtual 204, 3) := by decide +kernel
theorem dX5_walks_25 : decode cX5_walks 25 = .ok (.iconst 0, 1) := by decide +kernel
theorem dX5_walks_26 : decode cX5_walks 26 = .ok (.istore_n 2, 1) := by decide +kernel
theorem dX5_walks_27 : decode cX5_walks 27 = .ok (.iconst 0, 1) := by decide +kernel
theorem dX5_walks_28 : decode cX5_walks 28 = .ok (.istore_n 3, 1) := by decide +kernel
theorem dX5_walks_29 : decode cX5_walks 29 = .ok (.iload_n 3, 1) := by decide +kernel
theorem dX5_walks_30 : decode cX5_walks 30 = .ok (.iload_n 1, 1) := by decide +kernel
theorem dX5_walks_31 : decode cX5_walks 31 = .ok (.if_icmp .ge 65, 3) := by decide +kernel
theorem dX5_walks_34 : decode cX5_walks 34 = .ok (.aload_n 0, 1) := by decide +kernel
theorem dX5_walks_35 : decode cX5_walks 35 = .ok (.aload_n 0, 1) := by decide +kernel
theorem dX5_walks_36 : decode cX5_walks 36 = .ok (.getfield 251, 3) := by decide +kernel
theorem dX5_walks_39 : decode cX5_walks 39 = .ok (.ldc2_w 255, 3) := by decide +kernel
theorem dX5_walks_42 : decode cX5_walks 42 = .ok (.lmul, 1) := by decide +kernel
theorem dX5_walks_43 : decode cX5_walks 43 = .ok (.ldc2_w 257, 3) := by decide +kernel
theorem dX5_walks_46 : decode cX5_walks 46 = .ok (.ladd, 1) := by decide +kernel
theorem dX5_walks_47 : decode cX5_walks 47 = .ok (.putfield 251, 3) := by decide +kernel
theorem dX5_walks_50 : decode cX5_walks 50 = .ok (.aload_n 0, 1) := by decide +kernel
theorem dX5_walks_51 : decode cX5_walks 51 = .ok (.getfield 251, 3) := by decide +kernel
theorem dX5_walks_54 : decode cX5_walks 54 = .ok (.bipush 33, 2) := by decide +kernel
theorem dX5_walks_56 : decode cX5_walks 56 = .ok (.lushr, 1) := by decide +kernel
theorem dX5_walks_57 : decode cX5_walks 57 = .ok (.ldc2_w 259, 3) := by decide +kernel
theorem dX5_walks_60 : decode cX5_walks 60 = .ok (.lrem, 1) := by decide +kernel
theorem dX5_walks_61 : decode cX5_walks 61 = .ok (.l2i, 1) := by decide +kernel
theorem dX5_walks_62 : decode cX5_walks 62 = .ok (.istore 4, 2) := by decide +kernel
theorem dX5_walks_64 : decode cX5_walks 64 = .ok (.aload_n 0, 1) := by decide +kernel
theorem dX5_walks_65 : decode cX5_walks 65 = .ok (.getfield 30, 3) := by decide +kernel
theorem dX5_walks_68 : decode cX5_walks 68 = .ok (.getfield 154, 3) := by decide +kernel
theorem dX5_walks_71 : decode cX5_walks 71 = .ok (.ifCond .ne 19, 3) := by decide +kernel
theorem dX5_walks_74 : decode cX5_walks 74 = .ok (.aload_n 0, 1) := by decide +kernel
theorem dX5_walks_75 : decode cX5_walks 75 = .ok (.aload_n 0, 1) := by decide +kernel
theorem dX5_walks_76 : decode cX5_walks 76 = .ok (.getfield 30, 3) := by decide +kernel
theorem dX5_walks_79 : decode cX5_walks 79 = .ok (.iload 4, 2) := by decide +kernel
theorem dX5_walks_81 : decode cX5_walks 81 = .ok (.invokevirtual 261, 3) := by decide +kernel
theorem dX5_walks_84 : decode cX5_walks 84 = .ok (.ifCond .eq 6, 3) := by decide +kernel
theorem dX5_walks_87 : decode cX5_walks 87 = .ok (.iinc 2 1, 3) := by decide +kernel
theorem dX5_walks_90 : decode cX5_walks 90 = .ok (.iinc 3 1, 3) := by decide +kernel
theorem dX5_walks_93 : decode cX5_walks 93 = .ok (.goto (-64), 3) := by decide +kernel
theorem dX5_walks_96 : decode cX5_walks 96 = .ok (.iload_n 2, 1) := by decide +kernel
theorem dX5_walks_97 : decode cX5_walks 97 = .ok (.ireturn, 1) := by decide +kernel
theorem dX5_returnsFrom_0 : decode cX5_returnsFrom 0 = .ok (.aload_n 1, 1) := by decide +kernel
theorem dX5_returnsFrom_1 : decode cX5_returnsFrom 1 = .ok (.iload_n 2, 1) := by decide +kernel
theorem dX5_returnsFrom_2 : decode cX5_returnsFrom 2 = .ok (.iconst 5, 1) := by decide +kernel
theorem dX5_returnsFrom_3 : decode cX5_returnsFrom 3 = .ok (.irem, 1) := by decide +kernel
theorem dX5_returnsFrom_4 : decode cX5_returnsFrom 4 = .ok (.invokevirtual 174, 3) := by decide +kernel
theorem dX5_returnsFrom_7 : decode cX5_returnsFrom 7 = .ok (.iload_n 2, 1) := by decide +kernel
theorem dX5_returnsFrom_8 : decode cX5_returnsFrom 8 = .ok (.iconst 5, 1) := by decide +kernel
theorem dX5_returnsFrom_9 : decode cX5_returnsFrom 9 = .ok (.idiv, 1) := by decide +kernel
theorem dX5_returnsFrom_10 : decode cX5_returnsFrom 10 = .ok (.istore_n 3, 1) := by decide +kernel
theorem dX5_returnsFrom_11 : decode cX5_returnsFrom 11 = .ok (.aload_n 0, 1) := by decide +kernel
theorem dX5_returnsFrom_12 : decode cX5_returnsFrom 12 = .ok (.getfield 19, 3) := by decide +kernel
theorem dX5_returnsFrom_15 : decode cX5_returnsFrom 15 = .ok (.iload_n 3, 1) := by decide +kernel
theorem dX5_returnsFrom_16 : decode cX5_returnsFrom 16 = .ok (.invokevirtual 107, 3) := by decide +kernel
theorem dX5_returnsFrom_19 : decode cX5_returnsFrom 19 = .ok (.ifCond .eq 15, 3) := by decide +kernel
theorem dX5_returnsFrom_22 : decode cX5_returnsFrom 22 = .ok (.aload_n 0, 1) := by decide +kernel
theorem dX5_returnsFrom_23 : decode cX5_returnsFrom 23 = .ok (.getfield 19, 3) := by decide +kernel
theorem dX5_returnsFrom_26 : decode cX5_returnsFrom 26 = .ok (.aload_n 1, 1) := by decide +kernel
theorem dX5_returnsFrom_27 : decode cX5_returnsFrom 27 = .ok (.iload_n 3, 1) := by decide +kernel
theorem dX5_returnsFrom_28 : decode cX5_returnsFrom 28 = .ok (.invokevirtual 161, 3) := by decide +kernel
theorem dX5_returnsFrom_31 : decode cX5_returnsFrom 31 = .ok (.ifCond .ne 5, 3) := by decide +kernel
theorem dX5_returnsFrom_34 : decode cX5_returnsFrom 34 = .ok (.iconst 0, 1) := by decide +kernel
theorem dX5_returnsFrom_35 : decode cX5_returnsFrom 35 = .ok (.ireturn, 1) := by decide +kernel
theorem dX5_returnsFrom_36 : decode cX5_returnsFrom 36 = .ok (.aload_n 1, 1) := by decide +kernel
theorem dX5_returnsFrom_37 : decode cX5_returnsFrom 37 = .ok (.invokevirtual 165, 3) := by decide +kernel
theorem dX5_returnsFrom_40 : decode cX5_returnsFrom 40 = .ok (.ifCond .eq 7, 3) := by decide +kernel
theorem dX5_returnsFrom_43 : decode cX5_returnsFrom 43 = .ok (.aload_n 1, 1) := by decide +kernel
theorem dX5_returnsFrom_44 : decode cX5_returnsFrom 44 = .ok (.invokevirtual 171, 3) := by decide +kernel
theorem dX5_returnsFrom_47 : decode cX5_returnsFrom 47 = .ok (.iconst 1, 1) := by decide +kernel
theorem dX5_returnsFrom_48 : decode cX5_returnsFrom 48 = .ok (.ireturn, 1) := by decide +kernel
theorem dX5_keep_0 : decode cX5_keep 0 = .ok (.aload_n 0, 1) := by decide +kernel
theorem dX5_keep_1 : decode cX5_keep 1 = .ok (.iload_n 1, 1) := by decide +kernel
theorem dX5_keep_2 : decode cX5_keep 2 = .ok (.invokevirtual 264, 3) := by decide +kernel
theorem dX5_keep_5 : decode cX5_keep 5 = .ok (.ifCond .eq 5, 3) := by decide +kernel
theorem dX5_keep_8 : decode cX5_keep 8 = .ok (.iconst (-1), 1) := by decide +kernel
theorem dX5_keep_9 : decode cX5_keep 9 = .ok (.ireturn, 1) := by decide +kernel
theorem dX5_keep_10 : decode cX5_keep 10 = .ok (.aload_n 0, 1) := by decide +kernel
theorem dX5_keep_11 : decode cX5_keep 11 = .ok (.getfield 42, 3) := by decide +kernel
theorem dX5_keep_14 : decode cX5_keep 14 = .ok (.iload_n 1, 1) := by decide +kernel
theorem dX5_keep_15 : decode cX5_keep 15 = .ok (.aload_n 0, 1) := by decide +kernel
theorem dX5_keep_16 : decode cX5_keep 16 = .ok (.getfield 26, 3) := by decide +kernel
theorem dX5_keep_19 : decode cX5_keep 19 = .ok (.invokevirtual 194, 3) := by decide +kernel
theorem dX5_keep_22 : decode cX5_keep 22 = .ok (.aload_n 0, 1) := by decide +kernel
theorem dX5_keep_23 : decode cX5_keep 23 = .ok (.getfield 45, 3) := by decide +kernel
theorem dX5_keep_26 : decode cX5_keep 26 = .ok (.iload_n 1, 1) := by decide +kernel
theorem dX5_keep_27 : decode cX5_keep 27 = .ok (.iconst 1, 1) := by decide +kernel
theorem dX5_keep_28 : decode cX5_keep 28 = .ok (.bastore, 1) := by decide +kernel
theorem dX5_keep_29 : decode cX5_keep 29 = .ok (.aload_n 0, 1) := by decide +kernel
theorem dX5_keep_30 : decode cX5_keep 30 = .ok (.getfield 26, 3) := by decide +kernel
theorem dX5_keep_33 : decode cX5_keep 33 = .ok (.getfield 267, 3) := by decide +kernel
theorem dX5_keep_36 : decode cX5_keep 36 = .ok (.ireturn, 1) := by decide +kernel
theorem dX5_again_0 : decode cX5_again 0 = .ok (.aload_n 0, 1) := by decide +kernel
theorem dX5_again_1 : decode cX5_again 1 = .ok (.iload_n 1, 1) := by decide +kernel
theorem dX5_again_2 : decode cX5_again 2 = .ok (.invokevirtual 264, 3) := by decide +kernel
theorem dX5_again_5 : decode cX5_again 5 = .ok (.ifCond .eq 5, 3) := by decide +kernel
theorem dX5_again_8 : decode cX5_again 8 = .ok (.iconst (-1), 1) := by decide +kernel
theorem dX5_again_9 : decode cX5_again 9 = .ok (.ireturn, 1) := by decide +kernel
theorem dX5_again_10 : decode cX5_again 10 = .ok (.aload_n 0, 1) := by decide +kernel
theorem dX5_again_11 : decode cX5_again 11 = .ok (.getfield 45, 3) := by decide +kernel
theorem dX5_again_14 : decode cX5_again 14 = .ok (.iload_n 1, 1) := by decide +kernel
theorem dX5_again_15 : decode cX5_again 15 = .ok (.baload, 1) := by decide +kernel
theorem dX5_again_16 : decode cX5_again 16 = .ok (.ifCond .ne 6, 3) := by decide +kernel
theorem dX5_again_19 : decode cX5_again 19 = .ok (.bipush (-3), 2) := by decide +kernel
theorem dX5_again_21 : decode cX5_again 21 = .ok (.ireturn, 1) := by decide +kernel
theorem dX5_again_22 : decode cX5_again 22 = .ok (.aload_n 0, 1) := by decide +kernel
theorem dX5_again_23 : decode cX5_again 23 = .ok (.getfield 42, 3) := by decide +kernel
theorem dX5_again_26 : decode cX5_again 26 = .ok (.iload_n 1, 1) := by decide +kernel
theorem dX5_again_27 : decode cX5_again 27 = .ok (.aload_n 0, 1) := by decide +kernel
theorem dX5_again_28 : decode cX5_again 28 = .ok (.getfield 26, 3) := by decide +kernel
theorem dX5_again_31 : decode cX5_again 31 = .ok (.invokevirtual 187, 3) := by decide +kernel
theorem dX5_again_34 : decode cX5_again 34 = .ok (.aload_n 0, 1) := by decide +kernel
theorem dX5_again_35 : decode cX5_again 35 = .ok (.iconst 0, 1) := by decide +kernel
theorem dX5_again_36 : decode cX5_again 36 = .ok (.putfield 89, 3) := by decide +kernel
theorem dX5_again_39 : decode cX5_again 39 = .ok (.aload_n 0, 1) := by decide +kernel
theorem dX5_again_40 : decode cX5_again 40 = .ok (.getfield 26, 3) := by decide +kernel
theorem dX5_again_43 : decode cX5_again 43 = .ok (.getfield 267, 3) := by decide +kernel
theorem dX5_again_46 : decode cX5_again 46 = .ok (.ireturn, 1) := by decide +kernel
theorem dX5_isNoSlot_0 : decode cX5_isNoSlot 0 = .ok (.iload_n 1, 1) := by decide +kernel
theorem dX5_isNoSlot_1 : decode cX5_isNoSlot 1 = .ok (.ifCond .lt 12, 3) := by decide +kernel
theorem dX5_isNoSlot_4 : decode cX5_isNoSlot 4 = .ok (.iload_n 1, 1) := by decide +kernel
theorem dX5_isNoSlot_5 : decode cX5_isNoSlot 5 = .ok (.aload_n 0, 1) := by decide +kernel
theorem dX5_isNoSlot_6 : decode cX5_isNoSlot 6 = .ok (.getfield 45, 3) := by decide +kernel
theorem dX5_isNoSlot_9 : decode cX5_isNoSlot 9 = .ok (.arraylength, 1) := by decide +kernel
theorem dX5_isNoSlot_10 : decode cX5_isNoSlot 10 = .ok (.if_icmp .lt 7, 3) := by decide +kernel
theorem dX5_isNoSlot_13 : decode cX5_isNoSlot 13 = .ok (.iconst 1, 1) := by decide +kernel
theorem dX5_isNoSlot_14 : decode cX5_isNoSlot 14 = .ok (.goto 4, 3) := by decide +kernel
theorem dX5_isNoSlot_17 : decode cX5_isNoSlot 17 = .ok (.iconst 0, 1) := by decide +kernel
theorem dX5_isNoSlot_18 : decode cX5_isNoSlot 18 = .ok (.ireturn, 1) := by decide +kernel
theorem dX5_count_0 : decode cX5_count 0 = .ok (.iload_n 1, 1) := by decide +kernel
theorem dX5_count_1 : decode cX5_count 1 = .ok (.tableswitch 150 0 10 #[59, 67, 75, 83, 91, 99, 107, 118, 129, 137, 142], 59) := by decide +kernel
theorem dX5_count_60 : decode cX5_count 60 = .ok (.aload_n 0, 1) := by decide +kernel
theorem dX5_count_61 : decode cX5_count 61 = .ok (.getfield 12, 3) := by decide +kernel
theorem dX5_count_64 : decode cX5_count 64 = .ok (.getfield 63, 3) := by decide +kernel
theorem dX5_count_67 : decode cX5_count 67 = .ok (.ireturn, 1) := by decide +kernel
theorem dX5_count_68 : decode cX5_count 68 = .ok (.aload_n 0, 1) := by decide +kernel
theorem dX5_count_69 : decode cX5_count 69 = .ok (.getfield 19, 3) := by decide +kernel
theorem dX5_count_72 : decode cX5_count 72 = .ok (.getfield 92, 3) := by decide +kernel
theorem dX5_count_75 : decode cX5_count 75 = .ok (.ireturn, 1) := by decide +kernel
theorem dX5_count_76 : decode cX5_count 76 = .ok (.aload_n 0, 1) := by decide +kernel
theorem dX5_count_77 : decode cX5_count 77 = .ok (.getfield 19, 3) := by decide +kernel
theorem dX5_count_80 : decode cX5_count 80 = .ok (.getfield 95, 3) := by decide +kernel
theorem dX5_count_83 : decode cX5_count 83 = .ok (.ireturn, 1) := by decide +kernel
theorem dX5_count_84 : decode cX5_count 84 = .ok (.aload_n 0, 1) := by decide +kernel
theorem dX5_count_85 : decode cX5_count 85 = .ok (.getfield 26, 3) := by decide +kernel
theorem dX5_count_88 : decode cX5_count 88 = .ok (.getfield 270, 3) := by decide +kernel
theorem dX5_count_91 : decode cX5_count 91 = .ok (.ireturn, 1) := by decide +kernel
theorem dX5_count_92 : decode cX5_count 92 = .ok (.aload_n 0, 1) := by decide +kernel
theorem dX5_count_93 : decode cX5_count 93 = .ok (.getfield 26, 3) := by decide +kernel
theorem dX5_count_96 : decode cX5_count 96 = .ok (.getfield 117, 3) := by decide +kernel
theorem dX5_count_99 : decode cX5_count 99 = .ok (.ireturn, 1) := by decide +kernel
theorem dX5_count_100 : decode cX5_count 100 = .ok (.aload_n 0, 1) := by decide +kernel
theorem dX5_count_101 : decode cX5_count 101 = .ok (.getfield 26, 3) := by decide +kernel
theorem dX5_count_104 : decode cX5_count 104 = .ok (.getfield 168, 3) := by decide +kernel
theorem dX5_count_107 : decode cX5_count 107 = .ok (.ireturn, 1) := by decide +kernel
theorem dX5_count_108 : decode cX5_count 108 = .ok (.aload_n 0, 1) := by decide +kernel
theorem dX5_count_109 : decode cX5_count 109 = .ok (.getfield 26, 3) := by decide +kernel
theorem dX5_count_112 : decode cX5_count 112 = .ok (.getfield 184, 3) := by decide +kernel
theorem dX5_count_115 : decode cX5_count 115 = .ok (.invokestatic 128, 3) := by decide +kernel
theorem dX5_count_118 : decode cX5_count 118 = .ok (.ireturn, 1) := by decide +kernel
theorem dX5_count_119 : decode cX5_count 119 = .ok (.aload_n 0, 1) := by decide +kernel
theorem dX5_count_120 : decode cX5_count 120 = .ok (.getfield 26, 3) := by decide +kernel
theorem dX5_count_123 : decode cX5_count 123 = .ok (.getfield 154, 3) := by decide +kernel
theorem dX5_count_126 : decode cX5_count 126 = .ok (.invokestatic 128, 3) := by decide +kernel
theorem dX5_count_129 : decode cX5_count 129 = .ok (.ireturn, 1) := by decide +kernel
theorem dX5_count_130 : decode cX5_count 130 = .ok (.aload_n 0, 1) := by decide +kernel
theorem dX5_count_131 : decode cX5_count 131 = .ok (.getfield 26, 3) := by decide +kernel
theorem dX5_count_134 : decode cX5_count 134 = .ok (.getfield 267, 3) := by decide +kernel
theorem dX5_count_137 : decode cX5_count 137 = .ok (.ireturn, 1) := by decide +kernel
theorem dX5_count_138 : decode cX5_count 138 = .ok (.aload_n 0, 1) := by decide +kernel
theorem dX5_count_139 : decode cX5_count 139 = .ok (.getfield 89, 3) := by decide +kernel
theorem dX5_count_142 : decode cX5_count 142 = .ok (.ireturn, 1) := by decide +kernel
theorem dX5_count_143 : decode cX5_count 143 = .ok (.aload_n 0, 1) := by decide +kernel
theorem dX5_count_144 : decode cX5_count 144 = .ok (.getfield 52, 3) := by decide +kernel
theorem dX5_count_147 : decode cX5_count 147 = .ok (.getfield 230, 3) := by decide +kernel
theorem dX5_count_150 : decode cX5_count 150 = .ok (.ireturn, 1) := by decide +kernel
theorem dX5_count_151 : decode cX5_count 151 = .ok (.bipush (-2), 2) := by decide +kernel
theorem dX5_count_153 : decode cX5_count 153 = .ok (.ireturn, 1) := by decide +kernel
theorem dX5_asNumber_0 : decode cX5_asNumber 0 = .ok (.iload_n 0, 1) := by decide +kernel
theorem dX5_asNumber_1 : decode cX5_asNumber 1 = .ok (.ifCond .eq 7, 3) := by decide +kernel
theorem dX5_asNumber_4 : decode cX5_asNumber 4 = .ok (.iconst 1, 1) := by decide +kernel
theorem dX5_asNumber_5 : decode cX5_asNumber 5 = .ok (.goto 4, 3) := by decide +kernel
theorem dX5_asNumber_8 : decode cX5_asNumber 8 = .ok (.iconst 0, 1) := by decide +kernel
theorem dX5_asNumber_9 : decode cX5_asNumber 9 = .ok (.ireturn, 1) := by decide +kernel
theorem dX5_isNoYard_0 : decode cX5_isNoYard 0 = .ok (.iload_n 0, 1) := by decide +kernel
theorem dX5_isNoYard_1 : decode cX5_isNoYard 1 = .ok (.ifCond .lt 9, 3) := by decide +kernel
theorem dX5_isNoYard_4 : decode cX5_isNoYard 4 = .ok (.iload_n 0, 1) := by decide +kernel
theorem dX5_isNoYard_5 : decode cX5_isNoYard 5 = .ok (.bipush 9, 2) := by decide +kernel
theorem dX5_isNoYard_7 : decode cX5_isNoYard 7 = .ok (.if_icmp .le 7, 3) := by decide +kernel
theorem dX5_isNoYard_10 : decode cX5_isNoYard 10 = .ok (.iconst 1, 1) := by decide +kernel
theorem dX5_isNoYard_11 : decode cX5_isNoYard 11 = .ok (.goto 4, 3) := by decide +kernel
theorem dX5_isNoYard_14 : decode cX5_isNoYard 14 = .ok (.iconst 0, 1) := by decide +kernel
theorem dX5_isNoYard_15 : decode cX5_isNoYard 15 = .ok (.ireturn, 1) := by decide +kernel
theorem dX5_tenTo_0 : decode cX5_tenTo 0 = .ok (.iconst 1, 1) := by decide +kernel
theorem dX5_tenTo_1 : decode cX5_tenTo 1 = .ok (.istore_n 1, 1) := by decide +kernel
theorem dX5_tenTo_2 : decode cX5_tenTo 2 = .ok (.iconst 0, 1) := by decide +kernel
theorem dX5_tenTo_3 : decode cX5_tenTo 3 = .ok (.istore_n 2, 1) := by decide +kernel
theorem dX5_tenTo_4 : decode cX5_tenTo 4 = .ok (.iload_n 2, 1) := by decide +kernel
theorem dX5_tenTo_5 : decode cX5_tenTo 5 = .ok (.iload_n 0, 1) := by decide +kernel
theorem dX5_tenTo_6 : decode cX5_tenTo 6 = .ok (.if_icmp .ge 14, 3) := by decide +kernel
theorem dX5_tenTo_9 : decode cX5_tenTo 9 = .ok (.iload_n 1, 1) := by decide +kernel
theorem dX5_tenTo_10 : decode cX5_tenTo 10 = .ok (.bipush 10, 2) := by decide +kernel
theorem dX5_tenTo_12 : decode cX5_tenTo 12 = .ok (.imul, 1) := by decide +kernel
theorem dX5_tenTo_13 : decode cX5_tenTo 13 = .ok (.istore_n 1, 1) := by decide +kernel
theorem dX5_tenTo_14 : decode cX5_tenTo 14 = .ok (.iinc 2 1, 3) := by decide +kernel
theorem dX5_tenTo_17 : decode cX5_tenTo 17 = .ok (.goto (-13), 3) := by decide +kernel
theorem dX5_tenTo_20 : decode cX5_tenTo 20 = .ok (.iload_n 1, 1) := by decide +kernel
theorem dX5_tenTo_21 : decode cX5_tenTo 21 = .ok (.ireturn, 1) := by decide +kernel
theorem dX5_figureOf_0 : decode cX5_figureOf 0 = .ok (.iload_n 0, 1) := by decide +kernel
theorem dX5_figureOf_1 : decode cX5_figureOf 1 = .ok (.istore_n 3, 1) := by decide +kernel
theorem dX5_figureOf_2 : decode cX5_figureOf 2 = .ok (.iload_n 2, 1) := by decide +kernel
theorem dX5_figureOf_3 : decode cX5_figureOf 3 = .ok (.iconst 1, 1) := by decide +kernel
theorem dX5_figureOf_4 : decode cX5_figureOf 4 = .ok (.iadd, 1) := by decide +kernel
theorem dX5_figureOf_5 : decode cX5_figureOf 5 = .ok (.istore 4, 2) := by decide +kernel
theorem dX5_figureOf_7 : decode cX5_figureOf 7 = .ok (.iload 4, 2) := by decide +kernel
theorem dX5_figureOf_9 : decode cX5_figureOf 9 = .ok (.iload_n 1, 1) := by decide +kernel
theorem dX5_figureOf_10 : decode cX5_figureOf 10 = .ok (.if_icmp .ge 14, 3) := by decide +kernel
theorem dX5_figureOf_13 : decode cX5_figureOf 13 = .ok (.iload_n 3, 1) := by decide +kernel
theorem dX5_figureOf_14 : decode cX5_figureOf 14 = .ok (.bipush 10, 2) := by decide +kernel
theorem dX5_figureOf_16 : decode cX5_figureOf 16 = .ok (.idiv, 1) := by decide +kernel
theorem dX5_figureOf_17 : decode cX5_figureOf 17 = .ok (.istore_n 3, 1) := by decide +kernel
theorem dX5_figureOf_18 : decode cX5_figureOf 18 = .ok (.iinc 4 1, 3) := by decide +kernel
theorem dX5_figureOf_21 : decode cX5_figureOf 21 = .ok (.goto (-14), 3) := by decide +kernel
theorem dX5_figureOf_24 : decode cX5_figureOf 24 = .ok (.iload_n 3, 1) := by decide +kernel
theorem dX5_figureOf_25 : decode cX5_figureOf 25 = .ok (.bipush 10, 2) := by decide +kernel
theorem dX5_figureOf_27 : decode cX5_figureOf 27 = .ok (.irem, 1) := by decide +kernel
theorem dX5_figureOf_28 : decode cX5_figureOf 28 = .ok (.ireturn, 1) := by decide +kernel
theorem dX5_fraction_0 : decode cX5_fraction 0 = .ok (.iload_n 0, 1) := by decide +kernel
theorem dX5_fraction_1 : decode cX5_fraction 1 = .ok (.iload_n 1, 1) := by decide +kernel
theorem dX5_fraction_2 : decode cX5_fraction 2 = .ok (.invokestatic 273, 3) := by decide +kernel
theorem dX5_fraction_5 : decode cX5_fraction 5 = .ok (.istore_n 3, 1) := by decide +kernel
theorem dX5_fraction_6 : decode cX5_fraction 6 = .ok (.iload_n 3, 1) := by decide +kernel
theorem dX5_fraction_7 : decode cX5_fraction 7 = .ok (.iconst 1, 1) := by decide +kernel
theorem dX5_fraction_8 : decode cX5_fraction 8 = .ok (.if_icmp .ge 13, 3) := by decide +kernel
theorem dX5_fraction_11 : decode cX5_fraction 11 = .ok (.iload_n 2, 1) := by decide +kernel
theorem dX5_fraction_12 : decode cX5_fraction 12 = .ok (.ifCond .eq 7, 3) := by decide +kernel
theorem dX5_fraction_15 : decode cX5_fraction 15 = .ok (.iload_n 0, 1) := by decide +kernel
theorem dX5_fraction_16 : decode cX5_fraction 16 = .ok (.goto 4, 3) := by decide +kernel
theorem dX5_fraction_19 : decode cX5_fraction 19 = .ok (.iload_n 1, 1) := by decide +kernel
theorem dX5_fraction_20 : decode cX5_fraction 20 = .ok (.ireturn, 1) := by decide +kernel
theorem dX5_fraction_21 : decode cX5_fraction 21 = .ok (.iload_n 2, 1) := by decide +kernel
theorem dX5_fraction_22 : decode cX5_fraction 22 = .ok (.ifCond .eq 9, 3) := by decide +kernel
theorem dX5_fraction_25 : decode cX5_fraction 25 = .ok (.iload_n 0, 1) := by decide +kernel
theorem dX5_fraction_26 : decode cX5_fraction 26 = .ok (.iload_n 3, 1) := by decide +kernel
theorem dX5_fraction_27 : decode cX5_fraction 27 = .ok (.idiv, 1) := by decide +kernel
theorem dX5_fraction_28 : decode cX5_fraction 28 = .ok (.goto 6, 3) := by decide +kernel
theorem dX5_fraction_31 : decode cX5_fraction 31 = .ok (.iload_n 1, 1) := by decide +kernel
theorem dX5_fraction_32 : decode cX5_fraction 32 = .ok (.iload_n 3, 1) := by decide +kernel
theorem dX5_fraction_33 : decode cX5_fraction 33 = .ok (.idiv, 1) := by decide +kernel
theorem dX5_fraction_34 : decode cX5_fraction 34 = .ok (.ireturn, 1) := by decide +kernel
theorem dX5_greatestDivisor_0 : decode cX5_greatestDivisor 0 = .ok (.iload_n 0, 1) := by decide +kernel
theorem dX5_greatestDivisor_1 : decode cX5_greatestDivisor 1 = .ok (.istore_n 2, 1) := by decide +kernel
theorem dX5_greatestDivisor_2 : decode cX5_greatestDivisor 2 = .ok (.iload_n 1, 1) := by decide +kernel
theorem dX5_greatestDivisor_3 : decode cX5_greatestDivisor 3 = .ok (.istore_n 3, 1) := by decide +kernel
theorem dX5_greatestDivisor_4 : decode cX5_greatestDivisor 4 = .ok (.iconst 0, 1) := by decide +kernel
theorem dX5_greatestDivisor_5 : decode cX5_greatestDivisor 5 = .ok (.istore 4, 2) := by decide +kernel
theorem dX5_greatestDivisor_7 : decode cX5_greatestDivisor 7 = .ok (.iload 4, 2) := by decide +kernel
theorem dX5_greatestDivisor_9 : decode cX5_greatestDivisor 9 = .ok (.bipush 64, 2) := by decide +kernel
theorem dX5_greatestDivisor_11 : decode cX5_greatestDivisor 11 = .ok (.if_icmp .ge 23, 3) := by decide +kernel
theorem dX5_greatestDivisor_14 : decode cX5_greatestDivisor 14 = .ok (.iload_n 3, 1) := by decide +kernel
theorem dX5_greatestDivisor_15 : decode cX5_greatestDivisor 15 = .ok (.ifCond .eq 19, 3) := by decide +kernel
theorem dX5_greatestDivisor_18 : decode cX5_greatestDivisor 18 = .ok (.iload_n 2, 1) := by decide +kernel
theorem dX5_greatestDivisor_19 : decode cX5_greatestDivisor 19 = .ok (.iload_n 3, 1) := by decide +kernel
theorem dX5_greatestDivisor_20 : decode cX5_greatestDivisor 20 = .ok (.irem, 1) := by decide +kernel
theorem dX5_greatestDivisor_21 : decode cX5_greatestDivisor 21 = .ok (.istore 5, 2) := by decide +kernel
theorem dX5_greatestDivisor_23 : decode cX5_greatestDivisor 23 = .ok (.iload_n 3, 1) := by decide +kernel
theorem dX5_greatestDivisor_24 : decode cX5_greatestDivisor 24 = .ok (.istore_n 2, 1) := by decide +kernel
theorem dX5_greatestDivisor_25 : decode cX5_greatestDivisor 25 = .ok (.iload 5, 2) := by decide +kernel
theorem dX5_greatestDivisor_27 : decode cX5_greatestDivisor 27 = .ok (.istore_n 3, 1) := by decide +kernel
theorem dX5_greatestDivisor_28 : decode cX5_greatestDivisor 28 = .ok (.iinc 4 1, 3) := by decide +kernel
theorem dX5_greatestDivisor_31 : decode cX5_greatestDivisor 31 = .ok (.goto (-24), 3) := by decide +kernel
theorem dX5_greatestDivisor_34 : decode cX5_greatestDivisor 34 = .ok (.iload_n 2, 1) := by decide +kernel
theorem dX5_greatestDivisor_35 : decode cX5_greatestDivisor 35 = .ok (.ireturn, 1) := by decide +kernel
