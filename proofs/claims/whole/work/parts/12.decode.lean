theorem dX0_init_0 : decode cX0_init 0 = .ok (.aload_n 0, 1) := by decide +kernel
theorem dX0_init_1 : decode cX0_init 1 = .ok (.invokespecial 3, 3) := by decide +kernel
theorem dX0_init_4 : decode cX0_init 4 = .ok (.aload_n 0, 1) := by decide +kernel
theorem dX0_init_5 : decode cX0_init 5 = .ok (.iconst 5, 1) := by decide +kernel
theorem dX0_init_6 : decode cX0_init 6 = .ok (.newarray .int, 2) := by decide +kernel
theorem dX0_init_8 : decode cX0_init 8 = .ok (.putfield 9, 3) := by decide +kernel
theorem dX0_init_11 : decode cX0_init 11 = .ok (.aload_n 0, 1) := by decide +kernel
theorem dX0_init_12 : decode cX0_init 12 = .ok (.iconst 5, 1) := by decide +kernel
theorem dX0_init_13 : decode cX0_init 13 = .ok (.newarray .int, 2) := by decide +kernel
theorem dX0_init_15 : decode cX0_init 15 = .ok (.putfield 15, 3) := by decide +kernel
theorem dX0_init_18 : decode cX0_init 18 = .ok (.aload_n 0, 1) := by decide +kernel
theorem dX0_init_19 : decode cX0_init 19 = .ok (.iconst 5, 1) := by decide +kernel
theorem dX0_init_20 : decode cX0_init 20 = .ok (.newarray .int, 2) := by decide +kernel
theorem dX0_init_22 : decode cX0_init 22 = .ok (.putfield 18, 3) := by decide +kernel
theorem dX0_init_25 : decode cX0_init 25 = .ok (.aload_n 0, 1) := by decide +kernel
theorem dX0_init_26 : decode cX0_init 26 = .ok (.iconst 5, 1) := by decide +kernel
theorem dX0_init_27 : decode cX0_init 27 = .ok (.newarray .int, 2) := by decide +kernel
theorem dX0_init_29 : decode cX0_init 29 = .ok (.putfield 21, 3) := by decide +kernel
theorem dX0_init_32 : decode cX0_init 32 = .ok (.aload_n 0, 1) := by decide +kernel
theorem dX0_init_33 : decode cX0_init 33 = .ok (.iconst 5, 1) := by decide +kernel
theorem dX0_init_34 : decode cX0_init 34 = .ok (.newarray .int, 2) := by decide +kernel
theorem dX0_init_36 : decode cX0_init 36 = .ok (.putfield 24, 3) := by decide +kernel
theorem dX0_init_39 : decode cX0_init 39 = .ok (.aload_n 0, 1) := by decide +kernel
theorem dX0_init_40 : decode cX0_init 40 = .ok (.iconst 5, 1) := by decide +kernel
theorem dX0_init_41 : decode cX0_init 41 = .ok (.newarray .int, 2) := by decide +kernel
theorem dX0_init_43 : decode cX0_init 43 = .ok (.putfield 27, 3) := by decide +kernel
theorem dX0_init_46 : decode cX0_init 46 = .ok (.aload_n 0, 1) := by decide +kernel
theorem dX0_init_47 : decode cX0_init 47 = .ok (.bipush 32, 2) := by decide +kernel
theorem dX0_init_49 : decode cX0_init 49 = .ok (.newarray .int, 2) := by decide +kernel
theorem dX0_init_51 : decode cX0_init 51 = .ok (.putfield 30, 3) := by decide +kernel
theorem dX0_init_54 : decode cX0_init 54 = .ok (.return_, 1) := by decide +kernel
theorem dX0_clear_0 : decode cX0_clear 0 = .ok (.aload_n 0, 1) := by decide +kernel
theorem dX0_clear_1 : decode cX0_clear 1 = .ok (.iconst 0, 1) := by decide +kernel
theorem dX0_clear_2 : decode cX0_clear 2 = .ok (.putfield 33, 3) := by decide +kernel
theorem dX0_clear_5 : decode cX0_clear 5 = .ok (.aload_n 0, 1) := by decide +kernel
theorem dX0_clear_6 : decode cX0_clear 6 = .ok (.iconst 0, 1) := by decide +kernel
theorem dX0_clear_7 : decode cX0_clear 7 = .ok (.putfield 37, 3) := by decide +kernel
theorem dX0_clear_10 : decode cX0_clear 10 = .ok (.aload_n 0, 1) := by decide +kernel
theorem dX0_clear_11 : decode cX0_clear 11 = .ok (.getfield 27, 3) := by decide +kernel
theorem dX0_clear_14 : decode cX0_clear 14 = .ok (.iconst 0, 1) := by decide +kernel
theorem dX0_clear_15 : decode cX0_clear 15 = .ok (.invokestatic 40, 3) := by decide +kernel
theorem dX0_clear_18 : decode cX0_clear 18 = .ok (.aload_n 0, 1) := by decide +kernel
theorem dX0_clear_19 : decode cX0_clear 19 = .ok (.invokevirtual 46, 3) := by decide +kernel
theorem dX0_clear_22 : decode cX0_clear 22 = .ok (.return_, 1) := by decide +kernel
theorem dX0_forgetServed_0 : decode cX0_forgetServed 0 = .ok (.aload_n 0, 1) := by decide +kernel
theorem dX0_forgetServed_1 : decode cX0_forgetServed 1 = .ok (.getfield 30, 3) := by decide +kernel
theorem dX0_forgetServed_4 : decode cX0_forgetServed 4 = .ok (.iconst (-1), 1) := by decide +kernel
theorem dX0_forgetServed_5 : decode cX0_forgetServed 5 = .ok (.invokestatic 40, 3) := by decide +kernel
theorem dX0_forgetServed_8 : decode cX0_forgetServed 8 = .ok (.return_, 1) := by decide +kernel
theorem dX0_kindOfLetter_0 : decode cX0_kindOfLetter 0 = .ok (.iconst 0, 1) := by decide +kernel
theorem dX0_kindOfLetter_1 : decode cX0_kindOfLetter 1 = .ok (.istore_n 1, 1) := by decide +kernel
theorem dX0_kindOfLetter_2 : decode cX0_kindOfLetter 2 = .ok (.iload_n 1, 1) := by decide +kernel
theorem dX0_kindOfLetter_3 : decode cX0_kindOfLetter 3 = .ok (.getstatic 49, 3) := by decide +kernel
theorem dX0_kindOfLetter_6 : decode cX0_kindOfLetter 6 = .ok (.arraylength, 1) := by decide +kernel
theorem dX0_kindOfLetter_7 : decode cX0_kindOfLetter 7 = .ok (.if_icmp .ge 20, 3) := by decide +kernel
theorem dX0_kindOfLetter_10 : decode cX0_kindOfLetter 10 = .ok (.getstatic 49, 3) := by decide +kernel
theorem dX0_kindOfLetter_13 : decode cX0_kindOfLetter 13 = .ok (.iload_n 1, 1) := by decide +kernel
theorem dX0_kindOfLetter_14 : decode cX0_kindOfLetter 14 = .ok (.iaload, 1) := by decide +kernel
theorem dX0_kindOfLetter_15 : decode cX0_kindOfLetter 15 = .ok (.iload_n 0, 1) := by decide +kernel
theorem dX0_kindOfLetter_16 : decode cX0_kindOfLetter 16 = .ok (.if_icmp .ne 5, 3) := by decide +kernel
theorem dX0_kindOfLetter_19 : decode cX0_kindOfLetter 19 = .ok (.iload_n 1, 1) := by decide +kernel
theorem dX0_kindOfLetter_20 : decode cX0_kindOfLetter 20 = .ok (.ireturn, 1) := by decide +kernel
theorem dX0_kindOfLetter_21 : decode cX0_kindOfLetter 21 = .ok (.iinc 1 1, 3) := by decide +kernel
theorem dX0_kindOfLetter_24 : decode cX0_kindOfLetter 24 = .ok (.goto (-22), 3) := by decide +kernel
theorem dX0_kindOfLetter_27 : decode cX0_kindOfLetter 27 = .ok (.bipush (-9), 2) := by decide +kernel
theorem dX0_kindOfLetter_29 : decode cX0_kindOfLetter 29 = .ok (.ireturn, 1) := by decide +kernel
theorem dX0_hasArm_0 : decode cX0_hasArm 0 = .ok (.iload_n 1, 1) := by decide +kernel
theorem dX0_hasArm_1 : decode cX0_hasArm 1 = .ok (.ifCond .lt 15, 3) := by decide +kernel
theorem dX0_hasArm_4 : decode cX0_hasArm 4 = .ok (.iload_n 1, 1) := by decide +kernel
theorem dX0_hasArm_5 : decode cX0_hasArm 5 = .ok (.aload_n 0, 1) := by decide +kernel
theorem dX0_hasArm_6 : decode cX0_hasArm 6 = .ok (.getfield 33, 3) := by decide +kernel
theorem dX0_hasArm_9 : decode cX0_hasArm 9 = .ok (.if_icmp .ge 7, 3) := by decide +kernel
theorem dX0_hasArm_12 : decode cX0_hasArm 12 = .ok (.iconst 1, 1) := by decide +kernel
theorem dX0_hasArm_13 : decode cX0_hasArm 13 = .ok (.goto 4, 3) := by decide +kernel
theorem dX0_hasArm_16 : decode cX0_hasArm 16 = .ok (.iconst 0, 1) := by decide +kernel
theorem dX0_hasArm_17 : decode cX0_hasArm 17 = .ok (.ireturn, 1) := by decide +kernel
theorem dX0_sets_0 : decode cX0_sets 0 = .ok (.iconst 1, 1) := by decide +kernel
theorem dX0_sets_1 : decode cX0_sets 1 = .ok (.aload_n 0, 1) := by decide +kernel
theorem dX0_sets_2 : decode cX0_sets 2 = .ok (.getfield 33, 3) := by decide +kernel
theorem dX0_sets_5 : decode cX0_sets 5 = .ok (.ishl, 1) := by decide +kernel
theorem dX0_sets_6 : decode cX0_sets 6 = .ok (.ireturn, 1) := by decide +kernel
theorem dX0_isOf_0 : decode cX0_isOf 0 = .ok (.aload_n 0, 1) := by decide +kernel
theorem dX0_isOf_1 : decode cX0_isOf 1 = .ok (.getfield 9, 3) := by decide +kernel
theorem dX0_isOf_4 : decode cX0_isOf 4 = .ok (.iload_n 1, 1) := by decide +kernel
theorem dX0_isOf_5 : decode cX0_isOf 5 = .ok (.iaload, 1) := by decide +kernel
theorem dX0_isOf_6 : decode cX0_isOf 6 = .ok (.iload_n 2, 1) := by decide +kernel
theorem dX0_isOf_7 : decode cX0_isOf 7 = .ok (.if_icmp .eq 17, 3) := by decide +kernel
theorem dX0_isOf_10 : decode cX0_isOf 10 = .ok (.getstatic 52, 3) := by decide +kernel
theorem dX0_isOf_13 : decode cX0_isOf 13 = .ok (.aload_n 0, 1) := by decide +kernel
theorem dX0_isOf_14 : decode cX0_isOf 14 = .ok (.getfield 9, 3) := by decide +kernel
theorem dX0_isOf_17 : decode cX0_isOf 17 = .ok (.iload_n 1, 1) := by decide +kernel
theorem dX0_isOf_18 : decode cX0_isOf 18 = .ok (.iaload, 1) := by decide +kernel
theorem dX0_isOf_19 : decode cX0_isOf 19 = .ok (.iaload, 1) := by decide +kernel
theorem dX0_isOf_20 : decode cX0_isOf 20 = .ok (.iload_n 2, 1) := by decide +kernel
theorem dX0_isOf_21 : decode cX0_isOf 21 = .ok (.if_icmp .ne 7, 3) := by decide +kernel
theorem dX0_isOf_24 : decode cX0_isOf 24 = .ok (.iconst 1, 1) := by decide +kernel
theorem dX0_isOf_25 : decode cX0_isOf 25 = .ok (.goto 4, 3) := by decide +kernel
theorem dX0_isOf_28 : decode cX0_isOf 28 = .ok (.iconst 0, 1) := by decide +kernel
theorem dX0_isOf_29 : decode cX0_isOf 29 = .ok (.ireturn, 1) := by decide +kernel
theorem dX0_countOf_0 : decode cX0_countOf 0 = .ok (.iconst 0, 1) := by decide +kernel
theorem dX0_countOf_1 : decode cX0_countOf 1 = .ok (.istore_n 2, 1) := by decide +kernel
theorem dX0_countOf_2 : decode cX0_countOf 2 = .ok (.iconst 0, 1) := by decide +kernel
theorem dX0_countOf_3 : decode cX0_countOf 3 = .ok (.istore_n 3, 1) := by decide +kernel
theorem dX0_countOf_4 : decode cX0_countOf 4 = .ok (.iload_n 3, 1) := by decide +kernel
theorem dX0_countOf_5 : decode cX0_countOf 5 = .ok (.aload_n 0, 1) := by decide +kernel
theorem dX0_countOf_6 : decode cX0_countOf 6 = .ok (.getfield 33, 3) := by decide +kernel
theorem dX0_countOf_9 : decode cX0_countOf 9 = .ok (.if_icmp .ge 26, 3) := by decide +kernel
theorem dX0_countOf_12 : decode cX0_countOf 12 = .ok (.iload_n 2, 1) := by decide +kernel
theorem dX0_countOf_13 : decode cX0_countOf 13 = .ok (.aload_n 0, 1) := by decide +kernel
theorem dX0_countOf_14 : decode cX0_countOf 14 = .ok (.iload_n 3, 1) := by decide +kernel
theorem dX0_countOf_15 : decode cX0_countOf 15 = .ok (.iload_n 1, 1) := by decide +kernel
theorem dX0_countOf_16 : decode cX0_countOf 16 = .ok (.invokevirtual 55, 3) := by decide +kernel
theorem dX0_countOf_19 : decode cX0_countOf 19 = .ok (.ifCond .eq 7, 3) := by decide +kernel
theorem dX0_countOf_22 : decode cX0_countOf 22 = .ok (.iconst 1, 1) := by decide +kernel
theorem dX0_countOf_23 : decode cX0_countOf 23 = .ok (.goto 4, 3) := by decide +kernel
theorem dX0_countOf_26 : decode cX0_countOf 26 = .ok (.iconst 0, 1) := by decide +kernel
theorem dX0_countOf_27 : decode cX0_countOf 27 = .ok (.iadd, 1) := by decide +kernel
theorem dX0_countOf_28 : decode cX0_countOf 28 = .ok (.istore_n 2, 1) := by decide +kernel
theorem dX0_countOf_29 : decode cX0_countOf 29 = .ok (.iinc 3 1, 3) := by decide +kernel
theorem dX0_countOf_32 : decode cX0_countOf 32 = .ok (.goto (-28), 3) := by decide +kernel
theorem dX0_countOf_35 : decode cX0_countOf 35 = .ok (.iload_n 2, 1) := by decide +kernel
theorem dX0_countOf_36 : decode cX0_countOf 36 = .ok (.ireturn, 1) := by decide +kernel
theorem dX0_countWaits_0 : decode cX0_countWaits 0 = .ok (.iconst 0, 1) := by decide +kernel
theorem dX0_countWaits_1 : decode cX0_countWaits 1 = .ok (.istore_n 1, 1) := by decide +kernel
theorem dX0_countWaits_2 : decode cX0_countWaits 2 = .ok (.iconst 0, 1) := by decide +kernel
theorem dX0_countWaits_3 : decode cX0_countWaits 3 = .ok (.istore_n 2, 1) := by decide +kernel
theorem dX0_countWaits_4 : decode cX0_countWaits 4 = .ok (.iload_n 2, 1) := by decide +kernel
theorem dX0_countWaits_5 : decode cX0_countWaits 5 = .ok (.aload_n 0, 1) := by decide +kernel
theorem dX0_countWaits_6 : decode cX0_countWaits 6 = .ok (.getfield 33, 3) := by decide +kernel
theorem dX0_countWaits_9 : decode cX0_countWaits 9 = .ok (.if_icmp .ge 21, 3) := by decide +kernel
theorem dX0_countWaits_12 : decode cX0_countWaits 12 = .ok (.iload_n 1, 1) := by decide +kernel
theorem dX0_countWaits_13 : decode cX0_countWaits 13 = .ok (.aload_n 0, 1) := by decide +kernel
theorem dX0_countWaits_14 : decode cX0_countWaits 14 = .ok (.getfield 27, 3) := by decide +kernel
theorem dX0_countWaits_17 : decode cX0_countWaits 17 = .ok (.iload_n 2, 1) := by decide +kernel
theorem dX0_countWaits_18 : decode cX0_countWaits 18 = .ok (.iaload, 1) := by decide +kernel
theorem dX0_countWaits_19 : decode cX0_countWaits 19 = .ok (.invokestatic 59, 3) := by decide +kernel
theorem dX0_countWaits_22 : decode cX0_countWaits 22 = .ok (.iadd, 1) := by decide +kernel
theorem dX0_countWaits_23 : decode cX0_countWaits 23 = .ok (.istore_n 1, 1) := by decide +kernel
theorem dX0_countWaits_24 : decode cX0_countWaits 24 = .ok (.iinc 2 1, 3) := by decide +kernel
theorem dX0_countWaits_27 : decode cX0_countWaits 27 = .ok (.goto (-23), 3) := by decide +kernel
theorem dX0_countWaits_30 : decode cX0_countWaits 30 = .ok (.iload_n 1, 1) := by decide +kernel
theorem dX0_countWaits_31 : decode cX0_countWaits 31 = .ok (.ireturn, 1) := by decide +kernel
theorem dX0_waterOf_0 : decode cX0_waterOf 0 = .ok (.iload_n 2, 1) := by decide +kernel
theorem dX0_waterOf_1 : decode cX0_waterOf 1 = .ok (.iload_n 1, 1) := by decide +kernel
theorem dX0_waterOf_2 : decode cX0_waterOf 2 = .ok (.invokestatic 65, 3) := by decide +kernel
theorem dX0_waterOf_5 : decode cX0_waterOf 5 = .ok (.ifCond .ne 19, 3) := by decide +kernel
theorem dX0_waterOf_8 : decode cX0_waterOf 8 = .ok (.aload_n 0, 1) := by decide +kernel
theorem dX0_waterOf_9 : decode cX0_waterOf 9 = .ok (.getfield 9, 3) := by decide +kernel
theorem dX0_waterOf_12 : decode cX0_waterOf 12 = .ok (.iload_n 1, 1) := by decide +kernel
theorem dX0_waterOf_13 : decode cX0_waterOf 13 = .ok (.iaload, 1) := by decide +kernel
theorem dX0_waterOf_14 : decode cX0_waterOf 14 = .ok (.iconst 4, 1) := by decide +kernel
theorem dX0_waterOf_15 : decode cX0_waterOf 15 = .ok (.if_icmp .ne 7, 3) := by decide +kernel
theorem dX0_waterOf_18 : decode cX0_waterOf 18 = .ok (.iconst 1, 1) := by decide +kernel
theorem dX0_waterOf_19 : decode cX0_waterOf 19 = .ok (.goto 4, 3) := by decide +kernel
theorem dX0_waterOf_22 : decode cX0_waterOf 22 = .ok (.iconst 0, 1) := by decide +kernel
theorem dX0_waterOf_23 : decode cX0_waterOf 23 = .ok (.ireturn, 1) := by decide +kernel
theorem dX0_waterOf_24 : decode cX0_waterOf 24 = .ok (.iconst 0, 1) := by decide +kernel
theorem dX0_waterOf_25 : decode cX0_waterOf 25 = .ok (.istore_n 3, 1) := by decide +kernel
theorem dX0_waterOf_26 : decode cX0_waterOf 26 = .ok (.iconst 0, 1) := by decide +kernel
theorem dX0_waterOf_27 : decode cX0_waterOf 27 = .ok (.istore 4, 2) := by decide +kernel
theorem dX0_waterOf_29 : decode cX0_waterOf 29 = .ok (.iload 4, 2) := by decide +kernel
theorem dX0_waterOf_31 : decode cX0_waterOf 31 = .ok (.aload_n 0, 1) := by decide +kernel
theorem dX0_waterOf_32 : decode cX0_waterOf 32 = .ok (.getfield 33, 3) := by decide +kernel
theorem dX0_waterOf_35 : decode cX0_waterOf 35 = .ok (.if_icmp .ge 26, 3) := by decide +kernel
theorem dX0_waterOf_38 : decode cX0_waterOf 38 = .ok (.iload_n 3, 1) := by decide +kernel
theorem dX0_waterOf_39 : decode cX0_waterOf 39 = .ok (.iload_n 2, 1) := by decide +kernel
theorem dX0_waterOf_40 : decode cX0_waterOf 40 = .ok (.iload 4, 2) := by decide +kernel
theorem dX0_waterOf_42 : decode cX0_waterOf 42 = .ok (.ishr, 1) := by decide +kernel
theorem dX0_waterOf_43 : decode cX0_waterOf 43 = .ok (.iconst 1, 1) := by decide +kernel
theorem dX0_waterOf_44 : decode cX0_waterOf 44 = .ok (.iand, 1) := by decide +kernel
theorem dX0_waterOf_45 : decode cX0_waterOf 45 = .ok (.aload_n 0, 1) := by decide +kernel
theorem dX0_waterOf_46 : decode cX0_waterOf 46 = .ok (.getfield 15, 3) := by decide +kernel
theorem dX0_waterOf_49 : decode cX0_waterOf 49 = .ok (.iload 4, 2) := by decide +kernel
theorem dX0_waterOf_51 : decode cX0_waterOf 51 = .ok (.iaload, 1) := by decide +kernel
theorem dX0_waterOf_52 : decode cX0_waterOf 52 = .ok (.imul, 1) := by decide +kernel
theorem dX0_waterOf_53 : decode cX0_waterOf 53 = .ok (.iadd, 1) := by decide +kernel
theorem dX0_waterOf_54 : decode cX0_waterOf 54 = .ok (.istore_n 3, 1) := by decide +kernel
theorem dX0_waterOf_55 : decode cX0_waterOf 55 = .ok (.iinc 4 1, 3) := by decide +kernel
theorem dX0_waterOf_58 : decode cX0_waterOf 58 = .ok (.goto (-29), 3) := by decide +kernel
theorem dX0_waterOf_61 : decode cX0_waterOf 61 = .ok (.iload_n 3, 1) := by decide +kernel
theorem dX0_waterOf_62 : decode cX0_waterOf 62 = .ok (.ifCond .gt 5, 3) := by decide +kernel
theorem dX0_waterOf_65 : decode cX0_waterOf 65 = .ok (.iconst 0, 1) := by decide +kernel
theorem dX0_waterOf_66 : decode cX0_waterOf 66 = .ok (.ireturn, 1) := by decide +kernel
theorem dX0_waterOf_67 : decode cX0_waterOf 67 = .ok (.aload_n 0, 1) := by decide +kernel
theorem dX0_waterOf_68 : decode cX0_waterOf 68 = .ok (.getfield 37, 3) := by decide +kernel
theorem dX0_waterOf_71 : decode cX0_waterOf 71 = .ok (.istore 4, 2) := by decide +kernel
theorem dX0_waterOf_73 : decode cX0_waterOf 73 = .ok (.iconst 0, 1) := by decide +kernel
theorem dX0_waterOf_74 : decode cX0_waterOf 74 = .ok (.istore 5, 2) := by decide +kernel
theorem dX0_waterOf_76 : decode cX0_waterOf 76 = .ok (.iload 5, 2) := by decide +kernel
theorem dX0_waterOf_78 : decode cX0_waterOf 78 = .ok (.aload_n 0, 1) := by decide +kernel
theorem dX0_waterOf_79 : decode cX0_waterOf 79 = .ok (.getfield 33, 3) := by decide +kernel
theorem dX0_waterOf_82 : decode cX0_waterOf 82 = .ok (.if_icmp .ge 41, 3) := by decide +kernel
theorem dX0_waterOf_85 : decode cX0_waterOf 85 = .ok (.iload 4, 2) := by decide +kernel
theorem dX0_waterOf_87 : decode cX0_waterOf 87 = .ok (.iload_n 2, 1) := by decide +kernel
theorem dX0_waterOf_88 : decode cX0_waterOf 88 = .ok (.iload 5, 2) := by decide +kernel
theorem dX0_waterOf_90 : decode cX0_waterOf 90 = .ok (.invokestatic 65, 3) := by decide +kernel
theorem dX0_waterOf_93 : decode cX0_waterOf 93 = .ok (.ifCond .eq 20, 3) := by decide +kernel
theorem dX0_waterOf_96 : decode cX0_waterOf 96 = .ok (.aload_n 0, 1) := by decide +kernel
theorem dX0_waterOf_97 : decode cX0_waterOf 97 = .ok (.getfield 37, 3) := by decide +kernel
theorem dX0_waterOf_100 : decode cX0_waterOf 100 = .ok (.aload_n 0, 1) := by decide +kernel
theorem dX0_waterOf_101 : decode cX0_waterOf 101 = .ok (.getfield 15, 3) := by decide +kernel
theorem dX0_waterOf_104 : decode cX0_waterOf 104 = .ok (.iload 5, 2) := by decide +kernel
theorem dX0_waterOf_106 : decode cX0_waterOf 106 = .ok (.iaload, 1) := by decide +kernel
theorem dX0_waterOf_107 : decode cX0_waterOf 107 = .ok (.imul, 1) := by decide +kernel
theorem dX0_waterOf_108 : decode cX0_waterOf 108 = .ok (.iload_n 3, 1) := by decide +kernel
theorem dX0_waterOf_109 : decode cX0_waterOf 109 = .ok (.idiv, 1) := by decide +kernel
theorem dX0_waterOf_110 : decode cX0_waterOf 110 = .ok (.goto 4, 3) := by decide +kernel
theorem dX0_waterOf_113 : decode cX0_waterOf 113 = .ok (.iconst 0, 1) := by decide +kernel
theorem dX0_waterOf_114 : decode cX0_waterOf 114 = .ok (.isub, 1) := by decide +kernel
theorem dX0_waterOf_115 : decode cX0_waterOf 115 = .ok (.istore 4, 2) := by decide +kernel
theorem dX0_waterOf_117 : decode cX0_waterOf 117 = .ok (.iinc 5 1, 3) := by decide +kernel
theorem dX0_waterOf_120 : decode cX0_waterOf 120 = .ok (.goto (-44), 3) := by decide +kernel
theorem dX0_waterOf_123 : decode cX0_waterOf 123 = .ok (.iload_n 2, 1) := by decide +kernel
theorem dX0_waterOf_124 : decode cX0_waterOf 124 = .ok (.iconst 1, 1) := by decide +kernel
theorem dX0_waterOf_125 : decode cX0_waterOf 125 = .ok (.iload_n 1, 1) := by decide +kernel
theorem dX0_waterOf_126 : decode cX0_waterOf 126 = .ok (.ishl, 1) := by decide +kernel
theorem dX0_waterOf_127 : decode cX0_waterOf 127 = .ok (.iconst 1, 1) := by decide +kernel
theorem dX0_waterOf_128 : decode cX0_waterOf 128 = .ok (.isub, 1) := by decide +kernel
theorem dX0_waterOf_129 : decode cX0_waterOf 129 = .ok (.iand, 1) := by decide +kernel
theorem dX0_waterOf_130 : decode cX0_waterOf 130 = .ok (.invokestatic 59, 3) := by decide +kernel
theorem dX0_waterOf_133 : decode cX0_waterOf 133 = .ok (.istore 5, 2) := by decide +kernel
theorem dX0_waterOf_135 : decode cX0_waterOf 135 = .ok (.aload_n 0, 1) := by decide +kernel
theorem dX0_waterOf_136 : decode cX0_waterOf 136 = .ok (.getfield 37, 3) := by decide +kernel
theorem dX0_waterOf_139 : decode cX0_waterOf 139 = .ok (.aload_n 0, 1) := by decide +kernel
theorem dX0_waterOf_140 : decode cX0_waterOf 140 = .ok (.getfield 15, 3) := by decide +kernel
theorem dX0_waterOf_143 : decode cX0_waterOf 143 = .ok (.iload_n 1, 1) := by decide +kernel
theorem dX0_waterOf_144 : decode cX0_waterOf 144 = .ok (.iaload, 1) := by decide +kernel
theorem dX0_waterOf_145 : decode cX0_waterOf 145 = .ok (.imul, 1) := by decide +kernel
theorem dX0_waterOf_146 : decode cX0_waterOf 146 = .ok (.iload_n 3, 1) := by decide +kernel
theorem dX0_waterOf_147 : decode cX0_waterOf 147 = .ok (.idiv, 1) := by decide +kernel
theorem dX0_waterOf_148 : decode cX0_waterOf 148 = .ok (.iload 5, 2) := by decide +kernel
theorem dX0_waterOf_150 : decode cX0_waterOf 150 = .ok (.iload 4, 2) := by decide +kernel
theorem dX0_waterOf_152 : decode cX0_waterOf 152 = .ok (.if_icmp .ge 7, 3) := by decide +kernel
theorem dX0_waterOf_155 : decode cX0_waterOf 155 = .ok (.iconst 1, 1) := by decide +kernel
theorem dX0_waterOf_156 : decode cX0_waterOf 156 = .ok (.goto 4, 3) := by decide +kernel
theorem dX0_waterOf_159 : decode cX0_waterOf 159 = .ok (.iconst 0, 1) := by decide +kernel
theorem dX0_waterOf_160 : decode cX0_waterOf 160 = .ok (.iadd, 1) := by decide +kernel
theorem dX0_waterOf_161 : decode cX0_waterOf 161 = .ok (.ireturn, 1) := by decide +kernel
theorem dX0_servedOf_0 : decode cX0_servedOf 0 = .ok (.iload_n 1, 1) := by decide +kernel
theorem dX0_servedOf_1 : decode cX0_servedOf 1 = .ok (.bipush 31, 2) := by decide +kernel
theorem dX0_servedOf_3 : decode cX0_servedOf 3 = .ok (.iand, 1) := by decide +kernel
theorem dX0_servedOf_4 : decode cX0_servedOf 4 = .ok (.istore_n 2, 1) := by decide +kernel
theorem dX0_servedOf_5 : decode cX0_servedOf 5 = .ok (.aload_n 0, 1) := by decide +kernel
theorem dX0_servedOf_6 : decode cX0_servedOf 6 = .ok (.getfield 30, 3) := by decide +kernel
theorem dX0_servedOf_9 : decode cX0_servedOf 9 = .ok (.iload_n 2, 1) := by decide +kernel
theorem dX0_servedOf_10 : decode cX0_servedOf 10 = .ok (.iaload, 1) := by decide +kernel
theorem dX0_servedOf_11 : decode cX0_servedOf 11 = .ok (.iconst (-1), 1) := by decide +kernel
theorem dX0_servedOf_12 : decode cX0_servedOf 12 = .ok (.if_icmp .ne 58, 3) := by decide +kernel
theorem dX0_servedOf_15 : decode cX0_servedOf 15 = .ok (.iconst 0, 1) := by decide +kernel
theorem dX0_servedOf_16 : decode cX0_servedOf 16 = .ok (.istore_n 3, 1) := by decide +kernel
theorem dX0_servedOf_17 : decode cX0_servedOf 17 = .ok (.iconst 0, 1) := by decide +kernel
theorem dX0_servedOf_18 : decode cX0_servedOf 18 = .ok (.istore 4, 2) := by decide +kernel
theorem dX0_servedOf_20 : decode cX0_servedOf 20 = .ok (.iload 4, 2) := by decide +kernel
theorem dX0_servedOf_22 : decode cX0_servedOf 22 = .ok (.aload_n 0, 1) := by decide +kernel
theorem dX0_servedOf_23 : decode cX0_servedOf 23 = .ok (.getfield 33, 3) := by decide +kernel
theorem dX0_servedOf_26 : decode cX0_servedOf 26 = .ok (.if_icmp .ge 37, 3) := by decide +kernel
theorem dX0_servedOf_29 : decode cX0_servedOf 29 = .ok (.iload_n 3, 1) := by decide +kernel
theorem dX0_servedOf_30 : decode cX0_servedOf 30 = .ok (.aload_n 0, 1) := by decide +kernel
theorem dX0_servedOf_31 : decode cX0_servedOf 31 = .ok (.iload 4, 2) := by decide +kernel
theorem dX0_servedOf_33 : decode cX0_servedOf 33 = .ok (.iload_n 2, 1) := by decide +kernel
theorem dX0_servedOf_34 : decode cX0_servedOf 34 = .ok (.invokevirtual 68, 3) := by decide +kernel
theorem dX0_servedOf_37 : decode cX0_servedOf 37 = .ok (.aload_n 0, 1) := by decide +kernel
theorem dX0_servedOf_38 : decode cX0_servedOf 38 = .ok (.getfield 18, 3) := by decide +kernel
theorem dX0_servedOf_41 : decode cX0_servedOf 41 = .ok (.iload 4, 2) := by decide +kernel
theorem dX0_servedOf_43 : decode cX0_servedOf 43 = .ok (.iaload, 1) := by decide +kernel
theorem dX0_servedOf_44 : decode cX0_servedOf 44 = .ok (.if_icmp .lt 10, 3) := by decide +kernel
theorem dX0_servedOf_47 : decode cX0_servedOf 47 = .ok (.iconst 1, 1) := by decide +kernel
theorem dX0_servedOf_48 : decode cX0_servedOf 48 = .ok (.iload 4, 2) := by decide +kernel
theorem dX0_servedOf_50 : decode cX0_servedOf 50 = .ok (.ishl, 1) := by decide +kernel
theorem dX0_servedOf_51 : decode cX0_servedOf 51 = .ok (.goto 4, 3) := by decide +kernel
theorem dX0_servedOf_54 : decode cX0_servedOf 54 = .ok (.iconst 0, 1) := by decide +kernel
theorem dX0_servedOf_55 : decode cX0_servedOf 55 = .ok (.ior, 1) := by decide +kernel
theorem dX0_servedOf_56 : decode cX0_servedOf 56 = .ok (.istore_n 3, 1) := by decide +kernel
theorem dX0_servedOf_57 : decode cX0_servedOf 57 = .ok (.iinc 4 1, 3) := by decide +kernel
theorem dX0_servedOf_60 : decode cX0_servedOf 60 = .ok (.goto (-40), 3) := by decide +kernel
theorem dX0_servedOf_63 : decode cX0_servedOf 63 = .ok (.aload_n 0, 1) := by decide +kernel
theorem dX0_servedOf_64 : decode cX0_servedOf 64 = .ok (.getfield 30, 3) := by decide +kernel
theorem dX0_servedOf_67 : decode cX0_servedOf 67 = .ok (.iload_n 2, 1) := by decide +kernel
theorem dX0_servedOf_68 : decode cX0_servedOf 68 = .ok (.iload_n 3, 1) := by decide +kernel
theorem dX0_servedOf_69 : decode cX0_servedOf 69 = .ok (.iastore, 1) := by decide +kernel
theorem dX0_servedOf_70 : decode cX0_servedOf 70 = .ok (.aload_n 0, 1) := by decide +kernel
theorem dX0_servedOf_71 : decode cX0_servedOf 71 = .ok (.getfield 30, 3) := by decide +kernel
theorem dX0_servedOf_74 : decode cX0_servedOf 74 = .ok (.iload_n 2, 1) := by decide +kernel
theorem dX0_servedOf_75 : decode cX0_servedOf 75 = .ok (.iaload, 1) := by decide +kernel
theorem dX0_servedOf_76 : decode cX0_servedOf 76 = .ok (.ireturn, 1) := by decide +kernel
theorem dX1_init_0 : decode cX1_init 0 = .ok (.aload_n 0, 1) := by decide +kernel
theorem dX1_init_1 : decode cX1_init 1 = .ok (.invokespecial 3, 3) := by decide +kernel
theorem dX1_init_4 : decode cX1_init 4 = .ok (.aload_n 0, 1) := by decide +kernel
theorem dX1_init_5 : decode cX1_init 5 = .ok (.bipush 32, 2) := by decide +kernel
theorem dX1_init_7 : decode cX1_init 7 = .ok (.newarray .long, 2) := by decide +kernel
theorem dX1_init_9 : decode cX1_init 9 = .ok (.putfield 9, 3) := by decide +kernel
theorem dX1_init_12 : decode cX1_init 12 = .ok (.aload_n 0, 1) := by decide +kernel
theorem dX1_init_13 : decode cX1_init 13 = .ok (.bipush 32, 2) := by decide +kernel
theorem dX1_init_15 : decode cX1_init 15 = .ok (.newarray .int, 2) := by decide +kernel
theorem dX1_init_17 : decode cX1_init 17 = .ok (.putfield 15, 3) := by decide +kernel
theorem dX1_init_20 : decode cX1_init 20 = .ok (.return_, 1) := by decide +kernel
theorem dX1_fewestPayments_0 : decode cX1_fewestPayments 0 = .ok (.iconst 5, 1) := by decide +kernel
theorem dX1_fewestPayments_1 : decode cX1_fewestPayments 1 = .ok (.iconst 0, 1) := by decide +kernel
theorem dX1_fewestPayments_2 : decode cX1_fewestPayments 2 = .ok (.aload_n 1, 1) := by decide +kernel
theorem dX1_fewestPayments_3 : decode cX1_fewestPayments 3 = .ok (.iload_n 2, 1) := by decide +kernel
theorem dX1_fewestPayments_4 : decode cX1_fewestPayments 4 = .ok (.invokevirtual 19, 3) := by decide +kernel
theorem dX1_fewestPayments_7 : decode cX1_fewestPayments 7 = .ok (.invokestatic 25, 3) := by decide +kernel
theorem dX1_fewestPayments_10 : decode cX1_fewestPayments 10 = .ok (.invokestatic 31, 3) := by decide +kernel
theorem dX1_fewestPayments_13 : decode cX1_fewestPayments 13 = .ok (.istore_n 3, 1) := by decide +kernel
theorem dX1_fewestPayments_14 : decode cX1_fewestPayments 14 = .ok (.iconst 1, 1) := by decide +kernel
theorem dX1_fewestPayments_15 : decode cX1_fewestPayments 15 = .ok (.iload_n 3, 1) := by decide +kernel
theorem dX1_fewestPayments_16 : decode cX1_fewestPayments 16 = .ok (.ishl, 1) := by decide +kernel
theorem dX1_fewestPayments_17 : decode cX1_fewestPayments 17 = .ok (.iconst 1, 1) := by decide +kernel
theorem dX1_fewestPayments_18 : decode cX1_fewestPayments 18 = .ok (.isub, 1) := by decide +kernel
theorem dX1_fewestPayments_19 : decode cX1_fewestPayments 19 = .ok (.istore 4, 2) := by decide +kernel
theorem dX1_fewestPayments_21 : decode cX1_fewestPayments 21 = .ok (.iconst 1, 1) := by decide +kernel
theorem dX1_fewestPayments_22 : decode cX1_fewestPayments 22 = .ok (.istore 5, 2) := by decide +kernel
theorem dX1_fewestPayments_24 : decode cX1_fewestPayments 24 = .ok (.iload 5, 2) := by decide +kernel
theorem dX1_fewestPayments_26 : decode cX1_fewestPayments 26 = .ok (.iload 4, 2) := by decide +kernel
theorem dX1_fewestPayments_28 : decode cX1_fewestPayments 28 = .ok (.if_icmp .gt 78, 3) := by decide +kernel
theorem dX1_fewestPayments_31 : decode cX1_fewestPayments 31 = .ok (.iload 5, 2) := by decide +kernel
theorem dX1_fewestPayments_33 : decode cX1_fewestPayments 33 = .ok (.invokestatic 34, 3) := by decide +kernel
theorem dX1_fewestPayments_36 : decode cX1_fewestPayments 36 = .ok (.istore 6, 2) := by decide +kernel
theorem dX1_fewestPayments_38 : decode cX1_fewestPayments 38 = .ok (.aload_n 0, 1) := by decide +kernel
theorem dX1_fewestPayments_39 : decode cX1_fewestPayments 39 = .ok (.getfield 9, 3) := by decide +kernel
theorem dX1_fewestPayments_42 : decode cX1_fewestPayments 42 = .ok (.iload 5, 2) := by decide +kernel
theorem dX1_fewestPayments_44 : decode cX1_fewestPayments 44 = .ok (.aload_n 0, 1) := by decide +kernel
theorem dX1_fewestPayments_45 : decode cX1_fewestPayments 45 = .ok (.getfield 9, 3) := by decide +kernel
theorem dX1_fewestPayments_48 : decode cX1_fewestPayments 48 = .ok (.iload 5, 2) := by decide +kernel
theorem dX1_fewestPayments_50 : decode cX1_fewestPayments 50 = .ok (.iconst 1, 1) := by decide +kernel
theorem dX1_fewestPayments_51 : decode cX1_fewestPayments 51 = .ok (.iload 6, 2) := by decide +kernel
theorem dX1_fewestPayments_53 : decode cX1_fewestPayments 53 = .ok (.ishl, 1) := by decide +kernel
theorem dX1_fewestPayments_54 : decode cX1_fewestPayments 54 = .ok (.iconst (-1), 1) := by decide +kernel
theorem dX1_fewestPayments_55 : decode cX1_fewestPayments 55 = .ok (.ixor, 1) := by decide +kernel
theorem dX1_fewestPayments_56 : decode cX1_fewestPayments 56 = .ok (.iand, 1) := by decide +kernel
theorem dX1_fewestPayments_57 : decode cX1_fewestPayments 57 = .ok (.laload, 1) := by decide +kernel
theorem dX1_fewestPayments_58 : decode cX1_fewestPayments 58 = .ok (.aload_n 1, 1) := by decide +kernel
theorem dX1_fewestPayments_59 : decode cX1_fewestPayments 59 = .ok (.iload_n 2, 1) := by decide +kernel
theorem dX1_fewestPayments_60 : decode cX1_fewestPayments 60 = .ok (.iload 6, 2) := by decide +kernel
theorem dX1_fewestPayments_62 : decode cX1_fewestPayments 62 = .ok (.invokevirtual 37, 3) := by decide +kernel
theorem dX1_fewestPayments_65 : decode cX1_fewestPayments 65 = .ok (.i2l, 1) := by decide +kernel
theorem dX1_fewestPayments_66 : decode cX1_fewestPayments 66 = .ok (.ladd, 1) := by decide +kernel
theorem dX1_fewestPayments_67 : decode cX1_fewestPayments 67 = .ok (.lastore, 1) := by decide +kernel
theorem dX1_fewestPayments_68 : decode cX1_fewestPayments 68 = .ok (.aload_n 0, 1) := by decide +kernel
theorem dX1_fewestPayments_69 : decode cX1_fewestPayments 69 = .ok (.getfield 15, 3) := by decide +kernel
theorem dX1_fewestPayments_72 : decode cX1_fewestPayments 72 = .ok (.iload 5, 2) := by decide +kernel
theorem dX1_fewestPayments_74 : decode cX1_fewestPayments 74 = .ok (.aload_n 0, 1) := by decide +kernel
theorem dX1_fewestPayments_75 : decode cX1_fewestPayments 75 = .ok (.iload 5, 2) := by decide +kernel
theorem dX1_fewestPayments_77 : decode cX1_fewestPayments 77 = .ok (.iload_n 3, 1) := by decide +kernel
theorem dX1_fewestPayments_78 : decode cX1_fewestPayments 78 = .ok (.invokevirtual 40, 3) := by decide +kernel
theorem dX1_fewestPayments_81 : decode cX1_fewestPayments 81 = .ok (.aload_n 0, 1) := by decide +kernel
theorem dX1_fewestPayments_82 : decode cX1_fewestPayments 82 = .ok (.getfield 9, 3) := by decide +kernel
theorem dX1_fewestPayments_85 : decode cX1_fewestPayments 85 = .ok (.iload 5, 2) := by decide +kernel
theorem dX1_fewestPayments_87 : decode cX1_fewestPayments 87 = .ok (.laload, 1) := by decide +kernel
theorem dX1_fewestPayments_88 : decode cX1_fewestPayments 88 = .ok (.lconst 0, 1) := by decide +kernel
theorem dX1_fewestPayments_89 : decode cX1_fewestPayments 89 = .ok (.lcmp, 1) := by decide +kernel
theorem dX1_fewestPayments_90 : decode cX1_fewestPayments 90 = .ok (.ifCond .ne 7, 3) := by decide +kernel
theorem dX1_fewestPayments_93 : decode cX1_fewestPayments 93 = .ok (.iconst 1, 1) := by decide +kernel
theorem dX1_fewestPayments_94 : decode cX1_fewestPayments 94 = .ok (.goto 4, 3) := by decide +kernel
theorem dX1_fewestPayments_97 : decode cX1_fewestPayments 97 = .ok (.iconst 0, 1) := by decide +kernel
theorem dX1_fewestPayments_98 : decode cX1_fewestPayments 98 = .ok (.iadd, 1) := by decide +kernel
theorem dX1_fewestPayments_99 : decode cX1_fewestPayments 99 = .ok (.iastore, 1) := by decide +kernel
theorem dX1_fewestPayments_100 : decode cX1_fewestPayments 100 = .ok (.iinc 5 1, 3) := by decide +kernel
theorem dX1_fewestPayments_103 : decode cX1_fewestPayments 103 = .ok (.goto (-79), 3) := by decide +kernel
theorem dX1_fewestPayments_106 : decode cX1_fewestPayments 106 = .ok (.iload_n 3, 1) := by decide +kernel
theorem dX1_fewestPayments_107 : decode cX1_fewestPayments 107 = .ok (.aload_n 0, 1) := by decide +kernel
theorem dX1_fewestPayments_108 : decode cX1_fewestPayments 108 = .ok (.getfield 15, 3) := by decide +kernel
theorem dX1_fewestPayments_111 : decode cX1_fewestPayments 111 = .ok (.iload 4, 2) := by decide +kernel
theorem dX1_fewestPayments_113 : decode cX1_fewestPayments 113 = .ok (.iaload, 1) := by decide +kernel
theorem dX1_fewestPayments_114 : decode cX1_fewestPayments 114 = .ok (.isub, 1) := by decide +kernel
theorem dX1_fewestPayments_115 : decode cX1_fewestPayments 115 = .ok (.ireturn, 1) := by decide +kernel
theorem dX1_mostGroupsWithin_0 : decode cX1_mostGroupsWithin 0 = .ok (.iconst 0, 1) := by decide +kernel
theorem dX1_mostGroupsWithin_1 : decode cX1_mostGroupsWithin 1 = .ok (.istore_n 3, 1) := by decide +kernel
theorem dX1_mostGroupsWithin_2 : decode cX1_mostGroupsWithin 2 = .ok (.iconst 0, 1) := by decide +kernel
theorem dX1_mostGroupsWithin_3 : decode cX1_mostGroupsWithin 3 = .ok (.istore 4, 2) := by decide +kernel
theorem dX1_mostGroupsWithin_5 : decode cX1_mostGroupsWithin 5 = .ok (.iload 4, 2) := by decide +kernel
theorem dX1_mostGroupsWithin_7 : decode cX1_mostGroupsWithin 7 = .ok (.iload_n 2, 1) := by decide +kernel
theorem dX1_mostGroupsWithin_8 : decode cX1_mostGroupsWithin 8 = .ok (.if_icmp .ge 36, 3) := by decide +kernel
theorem dX1_mostGroupsWithin_11 : decode cX1_mostGroupsWithin 11 = .ok (.iload_n 1, 1) := by decide +kernel
theorem dX1_mostGroupsWithin_12 : decode cX1_mostGroupsWithin 12 = .ok (.iload 4, 2) := by decide +kernel
theorem dX1_mostGroupsWithin_14 : decode cX1_mostGroupsWithin 14 = .ok (.invokestatic 43, 3) := by decide +kernel
theorem dX1_mostGroupsWithin_17 : decode cX1_mostGroupsWithin 17 = .ok (.ifCond .eq 21, 3) := by decide +kernel
theorem dX1_mostGroupsWithin_20 : decode cX1_mostGroupsWithin 20 = .ok (.iload_n 3, 1) := by decide +kernel
theorem dX1_mostGroupsWithin_21 : decode cX1_mostGroupsWithin 21 = .ok (.aload_n 0, 1) := by decide +kernel
theorem dX1_mostGroupsWithin_22 : decode cX1_mostGroupsWithin 22 = .ok (.getfield 15, 3) := by decide +kernel
theorem dX1_mostGroupsWithin_25 : decode cX1_mostGroupsWithin 25 = .ok (.iload_n 1, 1) := by decide +kernel
theorem dX1_mostGroupsWithin_26 : decode cX1_mostGroupsWithin 26 = .ok (.iconst 1, 1) := by decide +kernel
theorem dX1_mostGroupsWithin_27 : decode cX1_mostGroupsWithin 27 = .ok (.iload 4, 2) := by decide +kernel
theorem dX1_mostGroupsWithin_29 : decode cX1_mostGroupsWithin 29 = .ok (.ishl, 1) := by decide +kernel
theorem dX1_mostGroupsWithin_30 : decode cX1_mostGroupsWithin 30 = .ok (.iconst (-1), 1) := by decide +kernel
theorem dX1_mostGroupsWithin_31 : decode cX1_mostGroupsWithin 31 = .ok (.ixor, 1) := by decide +kernel
theorem dX1_mostGroupsWithin_32 : decode cX1_mostGroupsWithin 32 = .ok (.iand, 1) := by decide +kernel
theorem dX1_mostGroupsWithin_33 : decode cX1_mostGroupsWithin 33 = .ok (.iaload, 1) := by decide +kernel
theorem dX1_mostGroupsWithin_34 : decode cX1_mostGroupsWithin 34 = .ok (.invokestatic 25, 3) := by decide +kernel
theorem dX1_mostGroupsWithin_37 : decode cX1_mostGroupsWithin 37 = .ok (.istore_n 3, 1) := by decide +kernel
theorem dX1_mostGroupsWithin_38 : decode cX1_mostGroupsWithin 38 = .ok (.iinc 4 1, 3) := by decide +kernel
theorem dX1_mostGroupsWithin_41 : decode cX1_mostGroupsWithin 41 = .ok (.goto (-36), 3) := by decide +kernel
theorem dX1_mostGroupsWithin_44 : decode cX1_mostGroupsWithin 44 = .ok (.iload_n 3, 1) := by decide +kernel
theorem dX1_mostGroupsWithin_45 : decode cX1_mostGroupsWithin 45 = .ok (.ireturn, 1) := by decide +kernel
theorem dX2_init_0 : decode cX2_init 0 = .ok (.aload_n 0, 1) := by decide +kernel
theorem dX2_init_1 : decode cX2_init 1 = .ok (.invokespecial 3, 3) := by decide +kernel
theorem dX2_init_4 : decode cX2_init 4 = .ok (.return_, 1) := by decide +kernel
theorem dX2_begin_0 : decode cX2_begin 0 = .ok (.aload_n 0, 1) := by decide +kernel
theorem dX2_begin_1 : decode cX2_begin 1 = .ok (.iconst 0, 1) := by decide +kernel
theorem dX2_begin_2 : decode cX2_begin 2 = .ok (.putfield 9, 3) := by decide +kernel
theorem dX2_begin_5 : decode cX2_begin 5 = .ok (.aload_n 0, 1) := by decide +kernel
theorem dX2_begin_6 : decode cX2_begin 6 = .ok (.iconst 0, 1) := by decide +kernel
theorem dX2_begin_7 : decode cX2_begin 7 = .ok (.putfield 15, 3) := by decide +kernel
theorem dX2_begin_10 : decode cX2_begin 10 = .ok (.iconst 0, 1) := by decide +kernel
theorem dX2_begin_11 : decode cX2_begin 11 = .ok (.istore_n 2, 1) := by decide +kernel
theorem dX2_begin_12 : decode cX2_begin 12 = .ok (.iload_n 2, 1) := by decide +kernel
theorem dX2_begin_13 : decode cX2_begin 13 = .ok (.aload_n 1, 1) := by decide +kernel
theorem dX2_begin_14 : decode cX2_begin 14 = .ok (.getfield 18, 3) := by decide +kernel
theorem dX2_begin_17 : decode cX2_begin 17 = .ok (.if_icmp .ge 34, 3) := by decide +kernel
theorem dX2_begin_20 : decode cX2_begin 20 = .ok (.aload_n 0, 1) := by decide +kernel
theorem dX2_begin_21 : decode cX2_begin 21 = .ok (.dup, 1) := by decide +kernel
theorem dX2_begin_22 : decode cX2_begin 22 = .ok (.getfield 15, 3) := by decide +kernel
theorem dX2_begin_25 : decode cX2_begin 25 = .ok (.aload_n 1, 1) := by decide +kernel
theorem dX2_begin_26 : decode cX2_begin 26 = .ok (.iload_n 2, 1) := by decide +kernel
theorem dX2_begin_27 : decode cX2_begin 27 = .ok (.iconst 3, 1) := by decide +kernel
theorem dX2_begin_28 : decode cX2_begin 28 = .ok (.invokevirtual 23, 3) := by decide +kernel
theorem dX2_begin_31 : decode cX2_begin 31 = .ok (.ifCond .eq 9, 3) := by decide +kernel
theorem dX2_begin_34 : decode cX2_begin 34 = .ok (.iconst 1, 1) := by decide +kernel
theorem dX2_begin_35 : decode cX2_begin 35 = .ok (.iload_n 2, 1) := by decide +kernel
theorem dX2_begin_36 : decode cX2_begin 36 = .ok (.ishl, 1) := by decide +kernel
theorem dX2_begin_37 : decode cX2_begin 37 = .ok (.goto 4, 3) := by decide +kernel
theorem dX2_begin_40 : decode cX2_begin 40 = .ok (.iconst 0, 1) := by decide +kernel
theorem dX2_begin_41 : decode cX2_begin 41 = .ok (.ior, 1) := by decide +kernel
theorem dX2_begin_42 : decode cX2_begin 42 = .ok (.putfield 15, 3) := by decide +kernel
theorem dX2_begin_45 : decode cX2_begin 45 = .ok (.iinc 2 1, 3) := by decide +kernel
theorem dX2_begin_48 : decode cX2_begin 48 = .ok (.goto (-36), 3) := by decide +kernel
theorem dX2_begin_51 : decode cX2_begin 51 = .ok (.aload_n 0, 1) := by decide +kernel
theorem dX2_begin_52 : decode cX2_begin 52 = .ok (.aload_n 0, 1) := by decide +kernel
theorem dX2_begin_53 : decode cX2_begin 53 = .ok (.getfield 15, 3) := by decide +kernel
theorem dX2_begin_56 : decode cX2_begin 56 = .ok (.putfield 27, 3) := by decide +kernel
theorem dX2_begin_59 : decode cX2_begin 59 = .ok (.aload_n 0, 1) := by decide +kernel
theorem dX2_begin_60 : decode cX2_begin 60 = .ok (.iconst 0, 1) := by decide +kernel
theorem dX2_begin_61 : decode cX2_begin 61 = .ok (.putfield 30, 3) := by decide +kernel
theorem dX2_begin_64 : decode cX2_begin 64 = .ok (.aload_n 0, 1) := by decide +kernel
theorem dX2_begin_65 : decode cX2_begin 65 = .ok (.iconst 0, 1) := by decide +kernel
theorem dX2_begin_66 : decode cX2_begin 66 = .ok (.putfield 33, 3) := by decide +kernel
theorem dX2_begin_69 : decode cX2_begin 69 = .ok (.aload_n 0, 1) := by decide +kernel
theorem dX2_begin_70 : decode cX2_begin 70 = .ok (.iconst 0, 1) := by decide +kernel
theorem dX2_begin_71 : decode cX2_begin 71 = .ok (.putfield 36, 3) := by decide +kernel
theorem dX2_begin_74 : decode cX2_begin 74 = .ok (.aload_n 0, 1) := by decide +kernel
theorem dX2_begin_75 : decode cX2_begin 75 = .ok (.lconst 0, 1) := by decide +kernel
theorem dX2_begin_76 : decode cX2_begin 76 = .ok (.putfield 39, 3) := by decide +kernel
theorem dX2_begin_79 : decode cX2_begin 79 = .ok (.return_, 1) := by decide +kernel
theorem dX2_copyFrom_0 : decode cX2_copyFrom 0 = .ok (.aload_n 0, 1) := by decide +kernel
theorem dX2_copyFrom_1 : decode cX2_copyFrom 1 = .ok (.aload_n 1, 1) := by decide +kernel
theorem dX2_copyFrom_2 : decode cX2_copyFrom 2 = .ok (.getfield 9, 3) := by decide +kernel
theorem dX2_copyFrom_5 : decode cX2_copyFrom 5 = .ok (.putfield 9, 3) := by decide +kernel
theorem dX2_copyFrom_8 : decode cX2_copyFrom 8 = .ok (.aload_n 0, 1) := by decide +kernel
theorem dX2_copyFrom_9 : decode cX2_copyFrom 9 = .ok (.aload_n 1, 1) := by decide +kernel
theorem dX2_copyFrom_10 : decode cX2_copyFrom 10 = .ok (.getfield 27, 3) := by decide +kernel
theorem dX2_copyFrom_13 : decode cX2_copyFrom 13 = .ok (.putfield 27, 3) := by decide +kernel
theorem dX2_copyFrom_16 : decode cX2_copyFrom 16 = .ok (.aload_n 0, 1) := by decide +kernel
theorem dX2_copyFrom_17 : decode cX2_copyFrom 17 = .ok (.aload_n 1, 1) := by decide +kernel
theorem dX2_copyFrom_18 : decode cX2_copyFrom 18 = .ok (.getfield 15, 3) := by decide +kernel
theorem dX2_copyFrom_21 : decode cX2_copyFrom 21 = .ok (.putfield 15, 3) := by decide +kernel
theorem dX2_copyFrom_24 : decode cX2_copyFrom 24 = .ok (.aload_n 0, 1) := by decide +kernel
theorem dX2_copyFrom_25 : decode cX2_copyFrom 25 = .ok (.aload_n 1, 1) := by decide +kernel
theorem dX2_copyFrom_26 : decode cX2_copyFrom 26 = .ok (.getfield 30, 3) := by decide +kernel
theorem dX2_copyFrom_29 : decode cX2_copyFrom 29 = .ok (.putfield 30, 3) := by decide +kernel
theorem dX2_copyFrom_32 : decode cX2_copyFrom 32 = .ok (.aload_n 0, 1) := by decide +kernel
theorem dX2_copyFrom_33 : decode cX2_copyFrom 33 = .ok (.aload_n 1, 1) := by decide +kernel
theorem dX2_copyFrom_34 : decode cX2_copyFrom 34 = .ok (.getfield 33, 3) := by decide +kernel
theorem dX2_copyFrom_37 : decode cX2_copyFrom 37 = .ok (.putfield 33, 3) := by decide +kernel
theorem dX2_copyFrom_40 : decode cX2_copyFrom 40 = .ok (.aload_n 0, 1) := by decide +kernel
theorem dX2_copyFrom_41 : decode cX2_copyFrom 41 = .ok (.aload_n 1, 1) := by decide +kernel
theorem dX2_copyFrom_42 : decode cX2_copyFrom 42 = .ok (.getfield 36, 3) := by decide +kernel
theorem dX2_copyFrom_45 : decode cX2_copyFrom 45 = .ok (.putfield 36, 3) := by decide +kernel
theorem dX2_copyFrom_48 : decode cX2_copyFrom 48 = .ok (.aload_n 0, 1) := by decide +kernel
theorem dX2_copyFrom_49 : decode cX2_copyFrom 49 = .ok (.aload_n 1, 1) := by decide +kernel
theorem dX2_copyFrom_50 : decode cX2_copyFrom 50 = .ok (.getfield 39, 3) := by decide +kernel
theorem dX2_copyFrom_53 : decode cX2_copyFrom 53 = .ok (.putfield 39, 3) := by decide +kernel
theorem dX2_copyFrom_56 : decode cX2_copyFrom 56 = .ok (.return_, 1) := by decide +kernel
theorem dX2_saltOf_0 : decode cX2_saltOf 0 = .ok (.aload_n 0, 1) := by decide +kernel
theorem dX2_saltOf_1 : decode cX2_saltOf 1 = .ok (.getfield 33, 3) := by decide +kernel
theorem dX2_saltOf_4 : decode cX2_saltOf 4 = .ok (.iconst 4, 1) := by decide +kernel
theorem dX2_saltOf_5 : decode cX2_saltOf 5 = .ok (.iload_n 1, 1) := by decide +kernel
theorem dX2_saltOf_6 : decode cX2_saltOf 6 = .ok (.imul, 1) := by decide +kernel
theorem dX2_saltOf_7 : decode cX2_saltOf 7 = .ok (.ishr, 1) := by decide +kernel
theorem dX2_saltOf_8 : decode cX2_saltOf 8 = .ok (.bipush 15, 2) := by decide +kernel
theorem dX2_saltOf_10 : decode cX2_saltOf 10 = .ok (.iand, 1) := by decide +kernel
theorem dX2_saltOf_11 : decode cX2_saltOf 11 = .ok (.ireturn, 1) := by decide +kernel
theorem dX2_siltOf_0 : decode cX2_siltOf 0 = .ok (.aload_n 0, 1) := by decide +kernel
theorem dX2_siltOf_1 : decode cX2_siltOf 1 = .ok (.getfield 36, 3) := by decide +kernel
theorem dX2_siltOf_4 : decode cX2_siltOf 4 = .ok (.iconst 4, 1) := by decide +kernel
theorem dX2_siltOf_5 : decode cX2_siltOf 5 = .ok (.iload_n 1, 1) := by decide +kernel
theorem dX2_siltOf_6 : decode cX2_siltOf 6 = .ok (.imul, 1) := by decide +kernel
theorem dX2_siltOf_7 : decode cX2_siltOf 7 = .ok (.ishr, 1) := by decide +kernel
theorem dX2_siltOf_8 : decode cX2_siltOf 8 = .ok (.bipush 15, 2) := by decide +kernel
theorem dX2_siltOf_10 : decode cX2_siltOf 10 = .ok (.iand, 1) := by decide +kernel
theorem dX2_siltOf_11 : decode cX2_siltOf 11 = .ok (.ireturn, 1) := by decide +kernel
theorem dX2_harvestsOf_0 : decode cX2_harvestsOf 0 = .ok (.aload_n 0, 1) := by decide +kernel
theorem dX2_harvestsOf_1 : decode cX2_harvestsOf 1 = .ok (.getfield 39, 3) := by decide +kernel
theorem dX2_harvestsOf_4 : decode cX2_harvestsOf 4 = .ok (.bipush 8, 2) := by decide +kernel
theorem dX2_harvestsOf_6 : decode cX2_harvestsOf 6 = .ok (.iload_n 1, 1) := by decide +kernel
theorem dX2_harvestsOf_7 : decode cX2_harvestsOf 7 = .ok (.imul, 1) := by decide +kernel
theorem dX2_harvestsOf_8 : decode cX2_harvestsOf 8 = .ok (.lshr, 1) := by decide +kernel
theorem dX2_harvestsOf_9 : decode cX2_harvestsOf 9 = .ok (.ldc2_w 43, 3) := by decide +kernel
theorem dX2_harvestsOf_12 : decode cX2_harvestsOf 12 = .ok (.land, 1) := by decide +kernel
theorem dX2_harvestsOf_13 : decode cX2_harvestsOf 13 = .ok (.l2i, 1) := by decide +kernel
theorem dX2_harvestsOf_14 : decode cX2_harvestsOf 14 = .ok (.ireturn, 1) := by decide +kernel
theorem dX2_allHarvests_0 : decode cX2_allHarvests 0 = .ok (.iconst 0, 1) := by decide +kernel
theorem dX2_allHarvests_1 : decode cX2_allHarvests 1 = .ok (.istore_n 1, 1) := by decide +kernel
theorem dX2_allHarvests_2 : decode cX2_allHarvests 2 = .ok (.iconst 0, 1) := by decide +kernel
theorem dX2_allHarvests_3 : decode cX2_allHarvests 3 = .ok (.istore_n 2, 1) := by decide +kernel
theorem dX2_allHarvests_4 : decode cX2_allHarvests 4 = .ok (.iload_n 2, 1) := by decide +kernel
theorem dX2_allHarvests_5 : decode cX2_allHarvests 5 = .ok (.iconst 5, 1) := by decide +kernel
theorem dX2_allHarvests_6 : decode cX2_allHarvests 6 = .ok (.if_icmp .ge 17, 3) := by decide +kernel
theorem dX2_allHarvests_9 : decode cX2_allHarvests 9 = .ok (.iload_n 1, 1) := by decide +kernel
theorem dX2_allHarvests_10 : decode cX2_allHarvests 10 = .ok (.aload_n 0, 1) := by decide +kernel
theorem dX2_allHarvests_11 : decode cX2_allHarvests 11 = .ok (.iload_n 2, 1) := by decide +kernel
theorem dX2_allHarvests_12 : decode cX2_allHarvests 12 = .ok (.invokevirtual 45, 3) := by decide +kernel
theorem dX2_allHarvests_15 : decode cX2_allHarvests 15 = .ok (.iadd, 1) := by decide +kernel
theorem dX2_allHarvests_16 : decode cX2_allHarvests 16 = .ok (.istore_n 1, 1) := by decide +kernel
theorem dX2_allHarvests_17 : decode cX2_allHarvests 17 = .ok (.iinc 2 1, 3) := by decide +kernel
theorem dX2_allHarvests_20 : decode cX2_allHarvests 20 = .ok (.goto (-16), 3) := by decide +kernel
theorem dX2_allHarvests_23 : decode cX2_allHarvests 23 = .ok (.iload_n 1, 1) := by decide +kernel
theorem dX2_allHarvests_24 : decode cX2_allHarvests 24 = .ok (.ireturn, 1) := by decide +kernel
theorem dX2_mayBeStamped_0 : decode cX2_mayBeStamped 0 = .ok (.aload_n 1, 1) := by decide +kernel
theorem dX2_mayBeStamped_1 : decode cX2_mayBeStamped 1 = .ok (.getfield 49, 3) := by decide +kernel
theorem dX2_mayBeStamped_4 : decode cX2_mayBeStamped 4 = .ok (.iload_n 2, 1) := by decide +kernel
theorem dX2_mayBeStamped_5 : decode cX2_mayBeStamped 5 = .ok (.iaload, 1) := by decide +kernel
theorem dX2_mayBeStamped_6 : decode cX2_mayBeStamped 6 = .ok (.istore_n 3, 1) := by decide +kernel
theorem dX2_mayBeStamped_7 : decode cX2_mayBeStamped 7 = .ok (.iload_n 3, 1) := by decide +kernel
theorem dX2_mayBeStamped_8 : decode cX2_mayBeStamped 8 = .ok (.ifCond .le 18, 3) := by decide +kernel
theorem dX2_mayBeStamped_11 : decode cX2_mayBeStamped 11 = .ok (.aload_n 0, 1) := by decide +kernel
theorem dX2_mayBeStamped_12 : decode cX2_mayBeStamped 12 = .ok (.getfield 9, 3) := by decide +kernel
theorem dX2_mayBeStamped_15 : decode cX2_mayBeStamped 15 = .ok (.iload_n 3, 1) := by decide +kernel
theorem dX2_mayBeStamped_16 : decode cX2_mayBeStamped 16 = .ok (.irem, 1) := by decide +kernel
theorem dX2_mayBeStamped_17 : decode cX2_mayBeStamped 17 = .ok (.aload_n 1, 1) := by decide +kernel
theorem dX2_mayBeStamped_18 : decode cX2_mayBeStamped 18 = .ok (.getfield 53, 3) := by decide +kernel
theorem dX2_mayBeStamped_21 : decode cX2_mayBeStamped 21 = .ok (.iload_n 2, 1) := by decide +kernel
theorem dX2_mayBeStamped_22 : decode cX2_mayBeStamped 22 = .ok (.iaload, 1) := by decide +kernel
theorem dX2_mayBeStamped_23 : decode cX2_mayBeStamped 23 = .ok (.if_icmp .eq 5, 3) := by decide +kernel
theorem dX2_mayBeStamped_26 : decode cX2_mayBeStamped 26 = .ok (.iconst 0, 1) := by decide +kernel
theorem dX2_mayBeStamped_27 : decode cX2_mayBeStamped 27 = .ok (.ireturn, 1) := by decide +kernel
theorem dX2_mayBeStamped_28 : decode cX2_mayBeStamped 28 = .ok (.aload_n 0, 1) := by decide +kernel
theorem dX2_mayBeStamped_29 : decode cX2_mayBeStamped 29 = .ok (.getfield 30, 3) := by decide +kernel
theorem dX2_mayBeStamped_32 : decode cX2_mayBeStamped 32 = .ok (.aload_n 0, 1) := by decide +kernel
theorem dX2_mayBeStamped_33 : decode cX2_mayBeStamped 33 = .ok (.getfield 27, 3) := by decide +kernel
theorem dX2_mayBeStamped_36 : decode cX2_mayBeStamped 36 = .ok (.aload_n 0, 1) := by decide +kernel
theorem dX2_mayBeStamped_37 : decode cX2_mayBeStamped 37 = .ok (.getfield 15, 3) := by decide +kernel
theorem dX2_mayBeStamped_40 : decode cX2_mayBeStamped 40 = .ok (.iand, 1) := by decide +kernel
theorem dX2_mayBeStamped_41 : decode cX2_mayBeStamped 41 = .ok (.ior, 1) := by decide +kernel
theorem dX2_mayBeStamped_42 : decode cX2_mayBeStamped 42 = .ok (.iload_n 2, 1) := by decide +kernel
theorem dX2_mayBeStamped_43 : decode cX2_mayBeStamped 43 = .ok (.invokestatic 56, 3) := by decide +kernel
theorem dX2_mayBeStamped_46 : decode cX2_mayBeStamped 46 = .ok (.ifCond .ne 23, 3) := by decide +kernel
theorem dX2_mayBeStamped_49 : decode cX2_mayBeStamped 49 = .ok (.aload_n 1, 1) := by decide +kernel
theorem dX2_mayBeStamped_50 : decode cX2_mayBeStamped 50 = .ok (.getfield 59, 3) := by decide +kernel
theorem dX2_mayBeStamped_53 : decode cX2_mayBeStamped 53 = .ok (.iload_n 2, 1) := by decide +kernel
theorem dX2_mayBeStamped_54 : decode cX2_mayBeStamped 54 = .ok (.iaload, 1) := by decide +kernel
theorem dX2_mayBeStamped_55 : decode cX2_mayBeStamped 55 = .ok (.aload_n 0, 1) := by decide +kernel
theorem dX2_mayBeStamped_56 : decode cX2_mayBeStamped 56 = .ok (.getfield 27, 3) := by decide +kernel
theorem dX2_mayBeStamped_59 : decode cX2_mayBeStamped 59 = .ok (.iconst (-1), 1) := by decide +kernel
theorem dX2_mayBeStamped_60 : decode cX2_mayBeStamped 60 = .ok (.ixor, 1) := by decide +kernel
theorem dX2_mayBeStamped_61 : decode cX2_mayBeStamped 61 = .ok (.iand, 1) := by decide +kernel
theorem dX2_mayBeStamped_62 : decode cX2_mayBeStamped 62 = .ok (.ifCond .ne 7, 3) := by decide +kernel
theorem dX2_mayBeStamped_65 : decode cX2_mayBeStamped 65 = .ok (.iconst 1, 1) := by decide +kernel
theorem dX2_mayBeStamped_66 : decode cX2_mayBeStamped 66 = .ok (.goto 4, 3) := by decide +kernel
theorem dX2_mayBeStamped_69 : decode cX2_mayBeStamped 69 = .ok (.iconst 0, 1) := by decide +kernel
theorem dX2_mayBeStamped_70 : decode cX2_mayBeStamped 70 = .ok (.ireturn, 1) := by decide +kernel
theorem dX2_stampable_0 : decode cX2_stampable 0 = .ok (.iconst 0, 1) := by decide +kernel
theorem dX2_stampable_1 : decode cX2_stampable 1 = .ok (.istore_n 2, 1) := by decide +kernel
theorem dX2_stampable_2 : decode cX2_stampable 2 = .ok (.iconst 0, 1) := by decide +kernel
theorem dX2_stampable_3 : decode cX2_stampable 3 = .ok (.istore_n 3, 1) := by decide +kernel
theorem dX2_stampable_4 : decode cX2_stampable 4 = .ok (.iload_n 3, 1) := by decide +kernel
theorem dX2_stampable_5 : decode cX2_stampable 5 = .ok (.aload_n 1, 1) := by decide +kernel
theorem dX2_stampable_6 : decode cX2_stampable 6 = .ok (.getfield 18, 3) := by decide +kernel
theorem dX2_stampable_9 : decode cX2_stampable 9 = .ok (.if_icmp .ge 28, 3) := by decide +kernel
theorem dX2_stampable_12 : decode cX2_stampable 12 = .ok (.iload_n 2, 1) := by decide +kernel
theorem dX2_stampable_13 : decode cX2_stampable 13 = .ok (.aload_n 0, 1) := by decide +kernel
theorem dX2_stampable_14 : decode cX2_stampable 14 = .ok (.aload_n 1, 1) := by decide +kernel
theorem dX2_stampable_15 : decode cX2_stampable 15 = .ok (.iload_n 3, 1) := by decide +kernel
theorem dX2_stampable_16 : decode cX2_stampable 16 = .ok (.invokevirtual 62, 3) := by decide +kernel
theorem dX2_stampable_19 : decode cX2_stampable 19 = .ok (.ifCond .eq 9, 3) := by decide +kernel
theorem dX2_stampable_22 : decode cX2_stampable 22 = .ok (.iconst 1, 1) := by decide +kernel
theorem dX2_stampable_23 : decode cX2_stampable 23 = .ok (.iload_n 3, 1) := by decide +kernel
theorem dX2_stampable_24 : decode cX2_stampable 24 = .ok (.ishl, 1) := by decide +kernel
theorem dX2_stampable_25 : decode cX2_stampable 25 = .ok (.goto 4, 3) := by decide +kernel
theorem dX2_stampable_28 : decode cX2_stampable 28 = .ok (.iconst 0, 1) := by decide +kernel
theorem dX2_stampable_29 : decode cX2_stampable 29 = .ok (.ior, 1) := by decide +kernel
theorem dX2_stampable_30 : decode cX2_stampable 30 = .ok (.istore_n 2, 1) := by decide +kernel
theorem dX2_stampable_31 : decode cX2_stampable 31 = .ok (.iinc 3 1, 3) := by decide +kernel
theorem dX2_stampable_34 : decode cX2_stampable 34 = .ok (.goto (-30), 3) := by decide +kernel
theorem dX2_stampable_37 : decode cX2_stampable 37 = .ok (.iload_n 2, 1) := by decide +kernel
theorem dX2_stampable_38 : decode cX2_stampable 38 = .ok (.ireturn, 1) := by decide +kernel
theorem dX2_stampArm_0 : decode cX2_stampArm 0 = .ok (.aload_n 0, 1) := by decide +kernel
theorem dX2_stampArm_1 : decode cX2_stampArm 1 = .ok (.dup, 1) := by decide +kernel
theorem dX2_stampArm_2 : decode cX2_stampArm 2 = .ok (.getfield 27, 3) := by decide +kernel
theorem dX2_stampArm_5 : decode cX2_stampArm 5 = .ok (.iconst 1, 1) := by decide +kernel
theorem dX2_stampArm_6 : decode cX2_stampArm 6 = .ok (.iload_n 2, 1) := by decide +kernel
theorem dX2_stampArm_7 : decode cX2_stampArm 7 = .ok (.ishl, 1) := by decide +kernel
theorem dX2_stampArm_8 : decode cX2_stampArm 8 = .ok (.ixor, 1) := by decide +kernel
theorem dX2_stampArm_9 : decode cX2_stampArm 9 = .ok (.putfield 27, 3) := by decide +kernel
theorem dX2_stampArm_12 : decode cX2_stampArm 12 = .ok (.aload_n 0, 1) := by decide +kernel
theorem dX2_stampArm_13 : decode cX2_stampArm 13 = .ok (.aload_n 1, 1) := by decide +kernel
theorem dX2_stampArm_14 : decode cX2_stampArm 14 = .ok (.iload_n 2, 1) := by decide +kernel
theorem dX2_stampArm_15 : decode cX2_stampArm 15 = .ok (.invokevirtual 66, 3) := by decide +kernel
theorem dX2_stampArm_18 : decode cX2_stampArm 18 = .ok (.istore_n 3, 1) := by decide +kernel
theorem dX2_stampArm_19 : decode cX2_stampArm 19 = .ok (.iload_n 3, 1) := by decide +kernel
theorem dX2_stampArm_20 : decode cX2_stampArm 20 = .ok (.bipush (-9), 2) := by decide +kernel
theorem dX2_stampArm_22 : decode cX2_stampArm 22 = .ok (.if_icmp .eq 23, 3) := by decide +kernel
theorem dX2_stampArm_25 : decode cX2_stampArm 25 = .ok (.aload_n 0, 1) := by decide +kernel
theorem dX2_stampArm_26 : decode cX2_stampArm 26 = .ok (.aload_n 0, 1) := by decide +kernel
theorem dX2_stampArm_27 : decode cX2_stampArm 27 = .ok (.getfield 27, 3) := by decide +kernel
theorem dX2_stampArm_30 : decode cX2_stampArm 30 = .ok (.iload_n 3, 1) := by decide +kernel
theorem dX2_stampArm_31 : decode cX2_stampArm 31 = .ok (.aload_n 0, 1) := by decide +kernel
theorem dX2_stampArm_32 : decode cX2_stampArm 32 = .ok (.getfield 27, 3) := by decide +kernel
theorem dX2_stampArm_35 : decode cX2_stampArm 35 = .ok (.iload_n 2, 1) := by decide +kernel
theorem dX2_stampArm_36 : decode cX2_stampArm 36 = .ok (.invokestatic 56, 3) := by decide +kernel
theorem dX2_stampArm_39 : decode cX2_stampArm 39 = .ok (.invokestatic 70, 3) := by decide +kernel
theorem dX2_stampArm_42 : decode cX2_stampArm 42 = .ok (.putfield 27, 3) := by decide +kernel
theorem dX2_stampArm_45 : decode cX2_stampArm 45 = .ok (.return_, 1) := by decide +kernel
theorem dX2_followerOf_0 : decode cX2_followerOf 0 = .ok (.iload_n 2, 1) := by decide +kernel
theorem dX2_followerOf_1 : decode cX2_followerOf 1 = .ok (.iconst 1, 1) := by decide +kernel
theorem dX2_followerOf_2 : decode cX2_followerOf 2 = .ok (.iadd, 1) := by decide +kernel
theorem dX2_followerOf_3 : decode cX2_followerOf 3 = .ok (.istore_n 3, 1) := by decide +kernel
theorem dX2_followerOf_4 : decode cX2_followerOf 4 = .ok (.aload_n 1, 1) := by decide +kernel
theorem dX2_followerOf_5 : decode cX2_followerOf 5 = .ok (.getfield 74, 3) := by decide +kernel
theorem dX2_followerOf_8 : decode cX2_followerOf 8 = .ok (.iload_n 2, 1) := by decide +kernel
theorem dX2_followerOf_9 : decode cX2_followerOf 9 = .ok (.iaload, 1) := by decide +kernel
theorem dX2_followerOf_10 : decode cX2_followerOf 10 = .ok (.iconst 5, 1) := by decide +kernel
theorem dX2_followerOf_11 : decode cX2_followerOf 11 = .ok (.if_icmp .ne 15, 3) := by decide +kernel
theorem dX2_followerOf_14 : decode cX2_followerOf 14 = .ok (.aload_n 1, 1) := by decide +kernel
theorem dX2_followerOf_15 : decode cX2_followerOf 15 = .ok (.iload_n 3, 1) := by decide +kernel
theorem dX2_followerOf_16 : decode cX2_followerOf 16 = .ok (.invokevirtual 77, 3) := by decide +kernel
theorem dX2_followerOf_19 : decode cX2_followerOf 19 = .ok (.ifCond .eq 7, 3) := by decide +kernel
theorem dX2_followerOf_22 : decode cX2_followerOf 22 = .ok (.iconst 1, 1) := by decide +kernel
theorem dX2_followerOf_23 : decode cX2_followerOf 23 = .ok (.goto 4, 3) := by decide +kernel
theorem dX2_followerOf_26 : decode cX2_followerOf 26 = .ok (.iconst 0, 1) := by decide +kernel
theorem dX2_followerOf_27 : decode cX2_followerOf 27 = .ok (.istore 4, 2) := by decide +kernel
theorem dX2_followerOf_29 : decode cX2_followerOf 29 = .ok (.iload 4, 2) := by decide +kernel
theorem dX2_followerOf_31 : decode cX2_followerOf 31 = .ok (.ifCond .eq 23, 3) := by decide +kernel
theorem dX2_followerOf_34 : decode cX2_followerOf 34 = .ok (.aload_n 0, 1) := by decide +kernel
theorem dX2_followerOf_35 : decode cX2_followerOf 35 = .ok (.getfield 30, 3) := by decide +kernel
theorem dX2_followerOf_38 : decode cX2_followerOf 38 = .ok (.aload_n 0, 1) := by decide +kernel
theorem dX2_followerOf_39 : decode cX2_followerOf 39 = .ok (.getfield 15, 3) := by decide +kernel
theorem dX2_followerOf_42 : decode cX2_followerOf 42 = .ok (.ior, 1) := by decide +kernel
theorem dX2_followerOf_43 : decode cX2_followerOf 43 = .ok (.iload_n 3, 1) := by decide +kernel
theorem dX2_followerOf_44 : decode cX2_followerOf 44 = .ok (.invokestatic 56, 3) := by decide +kernel
theorem dX2_followerOf_47 : decode cX2_followerOf 47 = .ok (.ifCond .ne 7, 3) := by decide +kernel
theorem dX2_followerOf_50 : decode cX2_followerOf 50 = .ok (.iload_n 3, 1) := by decide +kernel
theorem dX2_followerOf_51 : decode cX2_followerOf 51 = .ok (.goto 5, 3) := by decide +kernel
theorem dX2_followerOf_54 : decode cX2_followerOf 54 = .ok (.bipush (-9), 2) := by decide +kernel
theorem dX2_followerOf_56 : decode cX2_followerOf 56 = .ok (.ireturn, 1) := by decide +kernel
theorem dX2_stampSet_0 : decode cX2_stampSet 0 = .ok (.iconst 0, 1) := by decide +kernel
theorem dX2_stampSet_1 : decode cX2_stampSet 1 = .ok (.istore_n 3, 1) := by decide +kernel
theorem dX2_stampSet_2 : decode cX2_stampSet 2 = .ok (.iconst 0, 1) := by decide +kernel
theorem dX2_stampSet_3 : decode cX2_stampSet 3 = .ok (.istore 4, 2) := by decide +kernel
theorem dX2_stampSet_5 : decode cX2_stampSet 5 = .ok (.iload 4, 2) := by decide +kernel
theorem dX2_stampSet_7 : decode cX2_stampSet 7 = .ok (.aload_n 1, 1) := by decide +kernel
theorem dX2_stampSet_8 : decode cX2_stampSet 8 = .ok (.getfield 18, 3) := by decide +kernel
theorem dX2_stampSet_11 : decode cX2_stampSet 11 = .ok (.if_icmp .ge 42, 3) := by decide +kernel
theorem dX2_stampSet_14 : decode cX2_stampSet 14 = .ok (.iload_n 2, 1) := by decide +kernel
theorem dX2_stampSet_15 : decode cX2_stampSet 15 = .ok (.iload 4, 2) := by decide +kernel
theorem dX2_stampSet_17 : decode cX2_stampSet 17 = .ok (.invokestatic 56, 3) := by decide +kernel
theorem dX2_stampSet_20 : decode cX2_stampSet 20 = .ok (.ifCond .eq 27, 3) := by decide +kernel
theorem dX2_stampSet_23 : decode cX2_stampSet 23 = .ok (.aload_n 0, 1) := by decide +kernel
theorem dX2_stampSet_24 : decode cX2_stampSet 24 = .ok (.aload_n 1, 1) := by decide +kernel
theorem dX2_stampSet_25 : decode cX2_stampSet 25 = .ok (.iload 4, 2) := by decide +kernel
theorem dX2_stampSet_27 : decode cX2_stampSet 27 = .ok (.invokevirtual 62, 3) := by decide +kernel
theorem dX2_stampSet_30 : decode cX2_stampSet 30 = .ok (.ifCond .eq 17, 3) := by decide +kernel
theorem dX2_stampSet_33 : decode cX2_stampSet 33 = .ok (.aload_n 0, 1) := by decide +kernel
theorem dX2_stampSet_34 : decode cX2_stampSet 34 = .ok (.aload_n 1, 1) := by decide +kernel
theorem dX2_stampSet_35 : decode cX2_stampSet 35 = .ok (.iload 4, 2) := by decide +kernel
theorem dX2_stampSet_37 : decode cX2_stampSet 37 = .ok (.invokevirtual 81, 3) := by decide +kernel
theorem dX2_stampSet_40 : decode cX2_stampSet 40 = .ok (.iload_n 3, 1) := by decide +kernel
theorem dX2_stampSet_41 : decode cX2_stampSet 41 = .ok (.iconst 1, 1) := by decide +kernel
theorem dX2_stampSet_42 : decode cX2_stampSet 42 = .ok (.iload 4, 2) := by decide +kernel
theorem dX2_stampSet_44 : decode cX2_stampSet 44 = .ok (.ishl, 1) := by decide +kernel
theorem dX2_stampSet_45 : decode cX2_stampSet 45 = .ok (.ior, 1) := by decide +kernel
theorem dX2_stampSet_46 : decode cX2_stampSet 46 = .ok (.istore_n 3, 1) := by decide +kernel
theorem dX2_stampSet_47 : decode cX2_stampSet 47 = .ok (.iinc 4 1, 3) := by decide +kernel
theorem dX2_stampSet_50 : decode cX2_stampSet 50 = .ok (.goto (-45), 3) := by decide +kernel
theorem dX2_stampSet_53 : decode cX2_stampSet 53 = .ok (.iload_n 3, 1) := by decide +kernel
theorem dX2_stampSet_54 : decode cX2_stampSet 54 = .ok (.ireturn, 1) := by decide +kernel
theorem dX2_dropBarge_0 : decode cX2_dropBarge 0 = .ok (.aload_n 0, 1) := by decide +kernel
theorem dX2_dropBarge_1 : decode cX2_dropBarge 1 = .ok (.aload_n 0, 1) := by decide +kernel
theorem dX2_dropBarge_2 : decode cX2_dropBarge 2 = .ok (.getfield 15, 3) := by decide +kernel
theorem dX2_dropBarge_5 : decode cX2_dropBarge 5 = .ok (.iload_n 1, 1) := by decide +kernel
theorem dX2_dropBarge_6 : decode cX2_dropBarge 6 = .ok (.iconst 0, 1) := by decide +kernel
theorem dX2_dropBarge_7 : decode cX2_dropBarge 7 = .ok (.invokestatic 70, 3) := by decide +kernel
theorem dX2_dropBarge_10 : decode cX2_dropBarge 10 = .ok (.putfield 15, 3) := by decide +kernel
theorem dX2_dropBarge_13 : decode cX2_dropBarge 13 = .ok (.aload_n 0, 1) := by decide +kernel
theorem dX2_dropBarge_14 : decode cX2_dropBarge 14 = .ok (.aload_n 0, 1) := by decide +kernel
theorem dX2_dropBarge_15 : decode cX2_dropBarge 15 = .ok (.getfield 27, 3) := by decide +kernel
theorem dX2_dropBarge_18 : decode cX2_dropBarge 18 = .ok (.iload_n 1, 1) := by decide +kernel
theorem dX2_dropBarge_19 : decode cX2_dropBarge 19 = .ok (.iconst 0, 1) := by decide +kernel
theorem dX2_dropBarge_20 : decode cX2_dropBarge 20 = .ok (.invokestatic 70, 3) := by decide +kernel
theorem dX2_dropBarge_23 : decode cX2_dropBarge 23 = .ok (.putfield 27, 3) := by decide +kernel
theorem dX2_dropBarge_26 : decode cX2_dropBarge 26 = .ok (.return_, 1) := by decide +kernel
theorem dX2_harvestable_0 : decode cX2_harvestable 0 = .ok (.aload_n 1, 1) := by decide +kernel
theorem dX2_harvestable_1 : decode cX2_harvestable 1 = .ok (.aload_n 0, 1) := by decide +kernel
theorem dX2_harvestable_2 : decode cX2_harvestable 2 = .ok (.getfield 27, 3) := by decide +kernel
theorem dX2_harvestable_5 : decode cX2_harvestable 5 = .ok (.invokevirtual 85, 3) := by decide +kernel
theorem dX2_harvestable_8 : decode cX2_harvestable 8 = .ok (.aload_n 0, 1) := by decide +kernel
theorem dX2_harvestable_9 : decode cX2_harvestable 9 = .ok (.getfield 30, 3) := by decide +kernel
theorem dX2_harvestable_12 : decode cX2_harvestable 12 = .ok (.iconst (-1), 1) := by decide +kernel
theorem dX2_harvestable_13 : decode cX2_harvestable 13 = .ok (.ixor, 1) := by decide +kernel
theorem dX2_harvestable_14 : decode cX2_harvestable 14 = .ok (.iand, 1) := by decide +kernel
theorem dX2_harvestable_15 : decode cX2_harvestable 15 = .ok (.istore_n 2, 1) := by decide +kernel
theorem dX2_harvestable_16 : decode cX2_harvestable 16 = .ok (.iconst 0, 1) := by decide +kernel
theorem dX2_harvestable_17 : decode cX2_harvestable 17 = .ok (.istore_n 3, 1) := by decide +kernel
theorem dX2_harvestable_18 : decode cX2_harvestable 18 = .ok (.iload_n 3, 1) := by decide +kernel
theorem dX2_harvestable_19 : decode cX2_harvestable 19 = .ok (.aload_n 1, 1) := by decide +kernel
theorem dX2_harvestable_20 : decode cX2_harvestable 20 = .ok (.getfield 18, 3) := by decide +kernel
theorem dX2_harvestable_23 : decode cX2_harvestable 23 = .ok (.if_icmp .ge 25, 3) := by decide +kernel
theorem dX2_harvestable_26 : decode cX2_harvestable 26 = .ok (.aload_n 0, 1) := by decide +kernel
theorem dX2_harvestable_27 : decode cX2_harvestable 27 = .ok (.iload_n 3, 1) := by decide +kernel
theorem dX2_harvestable_28 : decode cX2_harvestable 28 = .ok (.invokevirtual 88, 3) := by decide +kernel
theorem dX2_harvestable_31 : decode cX2_harvestable 31 = .ok (.iconst 4, 1) := by decide +kernel
theorem dX2_harvestable_32 : decode cX2_harvestable 32 = .ok (.if_icmp .le 10, 3) := by decide +kernel
theorem dX2_harvestable_35 : decode cX2_harvestable 35 = .ok (.iload_n 2, 1) := by decide +kernel
theorem dX2_harvestable_36 : decode cX2_harvestable 36 = .ok (.iload_n 3, 1) := by decide +kernel
theorem dX2_harvestable_37 : decode cX2_harvestable 37 = .ok (.iconst 0, 1) := by decide +kernel
theorem dX2_harvestable_38 : decode cX2_harvestable 38 = .ok (.invokestatic 70, 3) := by decide +kernel
theorem dX2_harvestable_41 : decode cX2_harvestable 41 = .ok (.istore_n 2, 1) := by decide +kernel
theorem dX2_harvestable_42 : decode cX2_harvestable 42 = .ok (.iinc 3 1, 3) := by decide +kernel
theorem dX2_harvestable_45 : decode cX2_harvestable 45 = .ok (.goto (-27), 3) := by decide +kernel
theorem dX2_harvestable_48 : decode cX2_harvestable 48 = .ok (.iload_n 2, 1) := by decide +kernel
theorem dX2_harvestable_49 : decode cX2_harvestable 49 = .ok (.ireturn, 1) := by decide +kernel
theorem dX2_goBy_0 : decode cX2_goBy 0 = .ok (.aload_n 0, 1) := by decide +kernel
theorem dX2_goBy_1 : decode cX2_goBy 1 = .ok (.aload_n 1, 1) := by decide +kernel
theorem dX2_goBy_2 : decode cX2_goBy 2 = .ok (.invokevirtual 91, 3) := by decide +kernel
theorem dX2_goBy_5 : decode cX2_goBy 5 = .ok (.istore_n 2, 1) := by decide +kernel
theorem dX2_goBy_6 : decode cX2_goBy 6 = .ok (.aload_n 1, 1) := by decide +kernel
theorem dX2_goBy_7 : decode cX2_goBy 7 = .ok (.aload_n 0, 1) := by decide +kernel
theorem dX2_goBy_8 : decode cX2_goBy 8 = .ok (.getfield 27, 3) := by decide +kernel
theorem dX2_goBy_11 : decode cX2_goBy 11 = .ok (.invokevirtual 85, 3) := by decide +kernel
theorem dX2_goBy_14 : decode cX2_goBy 14 = .ok (.istore_n 3, 1) := by decide +kernel
theorem dX2_goBy_15 : decode cX2_goBy 15 = .ok (.iconst 0, 1) := by decide +kernel
theorem dX2_goBy_16 : decode cX2_goBy 16 = .ok (.istore 4, 2) := by decide +kernel
theorem dX2_goBy_18 : decode cX2_goBy 18 = .ok (.iload 4, 2) := by decide +kernel
theorem dX2_goBy_20 : decode cX2_goBy 20 = .ok (.aload_n 1, 1) := by decide +kernel
theorem dX2_goBy_21 : decode cX2_goBy 21 = .ok (.getfield 18, 3) := by decide +kernel
theorem dX2_goBy_24 : decode cX2_goBy 24 = .ok (.if_icmp .ge 51, 3) := by decide +kernel
theorem dX2_goBy_27 : decode cX2_goBy 27 = .ok (.aload_n 0, 1) := by decide +kernel
theorem dX2_goBy_28 : decode cX2_goBy 28 = .ok (.dup, 1) := by decide +kernel
theorem dX2_goBy_29 : decode cX2_goBy 29 = .ok (.getfield 39, 3) := by decide +kernel
theorem dX2_goBy_32 : decode cX2_goBy 32 = .ok (.iload_n 2, 1) := by decide +kernel
theorem dX2_goBy_33 : decode cX2_goBy 33 = .ok (.iload 4, 2) := by decide +kernel
theorem dX2_goBy_35 : decode cX2_goBy 35 = .ok (.ishr, 1) := by decide +kernel
theorem dX2_goBy_36 : decode cX2_goBy 36 = .ok (.iconst 1, 1) := by decide +kernel
theorem dX2_goBy_37 : decode cX2_goBy 37 = .ok (.iand, 1) := by decide +kernel
theorem dX2_goBy_38 : decode cX2_goBy 38 = .ok (.i2l, 1) := by decide +kernel
theorem dX2_goBy_39 : decode cX2_goBy 39 = .ok (.bipush 8, 2) := by decide +kernel
theorem dX2_goBy_41 : decode cX2_goBy 41 = .ok (.iload 4, 2) := by decide +kernel
theorem dX2_goBy_43 : decode cX2_goBy 43 = .ok (.imul, 1) := by decide +kernel
theorem dX2_goBy_44 : decode cX2_goBy 44 = .ok (.lshl, 1) := by decide +kernel
theorem dX2_goBy_45 : decode cX2_goBy 45 = .ok (.ladd, 1) := by decide +kernel
theorem dX2_goBy_46 : decode cX2_goBy 46 = .ok (.putfield 39, 3) := by decide +kernel
theorem dX2_goBy_49 : decode cX2_goBy 49 = .ok (.aload_n 0, 1) := by decide +kernel
theorem dX2_goBy_50 : decode cX2_goBy 50 = .ok (.aload_n 1, 1) := by decide +kernel
theorem dX2_goBy_51 : decode cX2_goBy 51 = .ok (.iload 4, 2) := by decide +kernel
theorem dX2_goBy_53 : decode cX2_goBy 53 = .ok (.iload_n 3, 1) := by decide +kernel
theorem dX2_goBy_54 : decode cX2_goBy 54 = .ok (.iload 4, 2) := by decide +kernel
theorem dX2_goBy_56 : decode cX2_goBy 56 = .ok (.invokestatic 56, 3) := by decide +kernel
theorem dX2_goBy_59 : decode cX2_goBy 59 = .ok (.invokevirtual 95, 3) := by decide +kernel
theorem dX2_goBy_62 : decode cX2_goBy 62 = .ok (.aload_n 0, 1) := by decide +kernel
theorem dX2_goBy_63 : decode cX2_goBy 63 = .ok (.aload_n 1, 1) := by decide +kernel
theorem dX2_goBy_64 : decode cX2_goBy 64 = .ok (.iload 4, 2) := by decide +kernel
theorem dX2_goBy_66 : decode cX2_goBy 66 = .ok (.invokevirtual 99, 3) := by decide +kernel
theorem dX2_goBy_69 : decode cX2_goBy 69 = .ok (.iinc 4 1, 3) := by decide +kernel
theorem dX2_goBy_72 : decode cX2_goBy 72 = .ok (.goto (-54), 3) := by decide +kernel
theorem dX2_goBy_75 : decode cX2_goBy 75 = .ok (.aload_n 0, 1) := by decide +kernel
theorem dX2_goBy_76 : decode cX2_goBy 76 = .ok (.dup, 1) := by decide +kernel
theorem dX2_goBy_77 : decode cX2_goBy 77 = .ok (.getfield 9, 3) := by decide +kernel
theorem dX2_goBy_80 : decode cX2_goBy 80 = .ok (.iconst 1, 1) := by decide +kernel
theorem dX2_goBy_81 : decode cX2_goBy 81 = .ok (.iadd, 1) := by decide +kernel
theorem dX2_goBy_82 : decode cX2_goBy 82 = .ok (.putfield 9, 3) := by decide +kernel
theorem dX2_goBy_85 : decode cX2_goBy 85 = .ok (.iload_n 2, 1) := by decide +kernel
theorem dX2_goBy_86 : decode cX2_goBy 86 = .ok (.ireturn, 1) := by decide +kernel
theorem dX2_turnSalt_0 : decode cX2_turnSalt 0 = .ok (.aload_n 0, 1) := by decide +kernel
theorem dX2_turnSalt_1 : decode cX2_turnSalt 1 = .ok (.iload_n 2, 1) := by decide +kernel
theorem dX2_turnSalt_2 : decode cX2_turnSalt 2 = .ok (.invokevirtual 88, 3) := by decide +kernel
theorem dX2_turnSalt_5 : decode cX2_turnSalt 5 = .ok (.istore 4, 2) := by decide +kernel
theorem dX2_turnSalt_7 : decode cX2_turnSalt 7 = .ok (.iload_n 3, 1) := by decide +kernel
theorem dX2_turnSalt_8 : decode cX2_turnSalt 8 = .ok (.ifCond .eq 16, 3) := by decide +kernel
theorem dX2_turnSalt_11 : decode cX2_turnSalt 11 = .ok (.iconst 0, 1) := by decide +kernel
theorem dX2_turnSalt_12 : decode cX2_turnSalt 12 = .ok (.iload 4, 2) := by decide +kernel
theorem dX2_turnSalt_14 : decode cX2_turnSalt 14 = .ok (.iconst 1, 1) := by decide +kernel
theorem dX2_turnSalt_15 : decode cX2_turnSalt 15 = .ok (.isub, 1) := by decide +kernel
theorem dX2_turnSalt_16 : decode cX2_turnSalt 16 = .ok (.invokestatic 102, 3) := by decide +kernel
theorem dX2_turnSalt_19 : decode cX2_turnSalt 19 = .ok (.istore 4, 2) := by decide +kernel
theorem dX2_turnSalt_21 : decode cX2_turnSalt 21 = .ok (.goto 28, 3) := by decide +kernel
theorem dX2_turnSalt_24 : decode cX2_turnSalt 24 = .ok (.bipush 9, 2) := by decide +kernel
theorem dX2_turnSalt_26 : decode cX2_turnSalt 26 = .ok (.iload 4, 2) := by decide +kernel
theorem dX2_turnSalt_28 : decode cX2_turnSalt 28 = .ok (.aload_n 1, 1) := by decide +kernel
theorem dX2_turnSalt_29 : decode cX2_turnSalt 29 = .ok (.getfield 74, 3) := by decide +kernel
theorem dX2_turnSalt_32 : decode cX2_turnSalt 32 = .ok (.iload_n 2, 1) := by decide +kernel
theorem dX2_turnSalt_33 : decode cX2_turnSalt 33 = .ok (.iaload, 1) := by decide +kernel
theorem dX2_turnSalt_34 : decode cX2_turnSalt 34 = .ok (.iconst 1, 1) := by decide +kernel
theorem dX2_turnSalt_35 : decode cX2_turnSalt 35 = .ok (.if_icmp .ne 7, 3) := by decide +kernel
theorem dX2_turnSalt_38 : decode cX2_turnSalt 38 = .ok (.iconst 2, 1) := by decide +kernel
theorem dX2_turnSalt_39 : decode cX2_turnSalt 39 = .ok (.goto 4, 3) := by decide +kernel
theorem dX2_turnSalt_42 : decode cX2_turnSalt 42 = .ok (.iconst 1, 1) := by decide +kernel
theorem dX2_turnSalt_43 : decode cX2_turnSalt 43 = .ok (.iadd, 1) := by decide +kernel
theorem dX2_turnSalt_44 : decode cX2_turnSalt 44 = .ok (.invokestatic 108, 3) := by decide +kernel
theorem dX2_turnSalt_47 : decode cX2_turnSalt 47 = .ok (.istore 4, 2) := by decide +kernel
theorem dX2_turnSalt_49 : decode cX2_turnSalt 49 = .ok (.aload_n 0, 1) := by decide +kernel
theorem dX2_turnSalt_50 : decode cX2_turnSalt 50 = .ok (.aload_n 0, 1) := by decide +kernel
theorem dX2_turnSalt_51 : decode cX2_turnSalt 51 = .ok (.getfield 33, 3) := by decide +kernel
theorem dX2_turnSalt_54 : decode cX2_turnSalt 54 = .ok (.bipush 15, 2) := by decide +kernel
theorem dX2_turnSalt_56 : decode cX2_turnSalt 56 = .ok (.iconst 4, 1) := by decide +kernel
theorem dX2_turnSalt_57 : decode cX2_turnSalt 57 = .ok (.iload_n 2, 1) := by decide +kernel
theorem dX2_turnSalt_58 : decode cX2_turnSalt 58 = .ok (.imul, 1) := by decide +kernel
theorem dX2_turnSalt_59 : decode cX2_turnSalt 59 = .ok (.ishl, 1) := by decide +kernel
theorem dX2_turnSalt_60 : decode cX2_turnSalt 60 = .ok (.iconst (-1), 1) := by decide +kernel
theorem dX2_turnSalt_61 : decode cX2_turnSalt 61 = .ok (.ixor, 1) := by decide +kernel
theorem dX2_turnSalt_62 : decode cX2_turnSalt 62 = .ok (.iand, 1) := by decide +kernel
theorem dX2_turnSalt_63 : decode cX2_turnSalt 63 = .ok (.iload 4, 2) := by decide +kernel
theorem dX2_turnSalt_65 : decode cX2_turnSalt 65 = .ok (.iconst 4, 1) := by decide +kernel
theorem dX2_turnSalt_66 : decode cX2_turnSalt 66 = .ok (.iload_n 2, 1) := by decide +kernel
theorem dX2_turnSalt_67 : decode cX2_turnSalt 67 = .ok (.imul, 1) := by decide +kernel
theorem dX2_turnSalt_68 : decode cX2_turnSalt 68 = .ok (.ishl, 1) := by decide +kernel
theorem dX2_turnSalt_69 : decode cX2_turnSalt 69 = .ok (.ior, 1) := by decide +kernel
theorem dX2_turnSalt_70 : decode cX2_turnSalt 70 = .ok (.putfield 33, 3) := by decide +kernel
theorem dX2_turnSalt_73 : decode cX2_turnSalt 73 = .ok (.return_, 1) := by decide +kernel
theorem dX2_turnSilt_0 : decode cX2_turnSilt 0 = .ok (.aload_n 0, 1) := by decide +kernel
theorem dX2_turnSilt_1 : decode cX2_turnSilt 1 = .ok (.iload_n 2, 1) := by decide +kernel
theorem dX2_turnSilt_2 : decode cX2_turnSilt 2 = .ok (.invokevirtual 111, 3) := by decide +kernel
theorem dX2_turnSilt_5 : decode cX2_turnSilt 5 = .ok (.istore_n 3, 1) := by decide +kernel
theorem dX2_turnSilt_6 : decode cX2_turnSilt 6 = .ok (.aload_n 0, 1) := by decide +kernel
theorem dX2_turnSilt_7 : decode cX2_turnSilt 7 = .ok (.getfield 27, 3) := by decide +kernel
theorem dX2_turnSilt_10 : decode cX2_turnSilt 10 = .ok (.iload_n 2, 1) := by decide +kernel
theorem dX2_turnSilt_11 : decode cX2_turnSilt 11 = .ok (.invokestatic 56, 3) := by decide +kernel
theorem dX2_turnSilt_14 : decode cX2_turnSilt 14 = .ok (.ifCond .eq 14, 3) := by decide +kernel
theorem dX2_turnSilt_17 : decode cX2_turnSilt 17 = .ok (.iconst 0, 1) := by decide +kernel
theorem dX2_turnSilt_18 : decode cX2_turnSilt 18 = .ok (.iload_n 3, 1) := by decide +kernel
theorem dX2_turnSilt_19 : decode cX2_turnSilt 19 = .ok (.iconst 1, 1) := by decide +kernel
theorem dX2_turnSilt_20 : decode cX2_turnSilt 20 = .ok (.isub, 1) := by decide +kernel
theorem dX2_turnSilt_21 : decode cX2_turnSilt 21 = .ok (.invokestatic 102, 3) := by decide +kernel
theorem dX2_turnSilt_24 : decode cX2_turnSilt 24 = .ok (.istore_n 3, 1) := by decide +kernel
theorem dX2_turnSilt_25 : decode cX2_turnSilt 25 = .ok (.goto 25, 3) := by decide +kernel
theorem dX2_turnSilt_28 : decode cX2_turnSilt 28 = .ok (.bipush 9, 2) := by decide +kernel
theorem dX2_turnSilt_30 : decode cX2_turnSilt 30 = .ok (.iload_n 3, 1) := by decide +kernel
theorem dX2_turnSilt_31 : decode cX2_turnSilt 31 = .ok (.aload_n 1, 1) := by decide +kernel
theorem dX2_turnSilt_32 : decode cX2_turnSilt 32 = .ok (.iload_n 2, 1) := by decide +kernel
theorem dX2_turnSilt_33 : decode cX2_turnSilt 33 = .ok (.iconst 2, 1) := by decide +kernel
theorem dX2_turnSilt_34 : decode cX2_turnSilt 34 = .ok (.invokevirtual 23, 3) := by decide +kernel
theorem dX2_turnSilt_37 : decode cX2_turnSilt 37 = .ok (.ifCond .eq 7, 3) := by decide +kernel
theorem dX2_turnSilt_40 : decode cX2_turnSilt 40 = .ok (.iconst 2, 1) := by decide +kernel
theorem dX2_turnSilt_41 : decode cX2_turnSilt 41 = .ok (.goto 4, 3) := by decide +kernel
theorem dX2_turnSilt_44 : decode cX2_turnSilt 44 = .ok (.iconst 1, 1) := by decide +kernel
theorem dX2_turnSilt_45 : decode cX2_turnSilt 45 = .ok (.iadd, 1) := by decide +kernel
theorem dX2_turnSilt_46 : decode cX2_turnSilt 46 = .ok (.invokestatic 108, 3) := by decide +kernel
theorem dX2_turnSilt_49 : decode cX2_turnSilt 49 = .ok (.istore_n 3, 1) := by decide +kernel
theorem dX2_turnSilt_50 : decode cX2_turnSilt 50 = .ok (.aload_n 0, 1) := by decide +kernel
theorem dX2_turnSilt_51 : decode cX2_turnSilt 51 = .ok (.aload_n 0, 1) := by decide +kernel
theorem dX2_turnSilt_52 : decode cX2_turnSilt 52 = .ok (.getfield 36, 3) := by decide +kernel
theorem dX2_turnSilt_55 : decode cX2_turnSilt 55 = .ok (.bipush 15, 2) := by decide +kernel
theorem dX2_turnSilt_57 : decode cX2_turnSilt 57 = .ok (.iconst 4, 1) := by decide +kernel
theorem dX2_turnSilt_58 : decode cX2_turnSilt 58 = .ok (.iload_n 2, 1) := by decide +kernel
theorem dX2_turnSilt_59 : decode cX2_turnSilt 59 = .ok (.imul, 1) := by decide +kernel
theorem dX2_turnSilt_60 : decode cX2_turnSilt 60 = .ok (.ishl, 1) := by decide +kernel
theorem dX2_turnSilt_61 : decode cX2_turnSilt 61 = .ok (.iconst (-1), 1) := by decide +kernel
theorem dX2_turnSilt_62 : decode cX2_turnSilt 62 = .ok (.ixor, 1) := by decide +kernel
theorem dX2_turnSilt_63 : decode cX2_turnSilt 63 = .ok (.iand, 1) := by decide +kernel
theorem dX2_turnSilt_64 : decode cX2_turnSilt 64 = .ok (.iload_n 3, 1) := by decide +kernel
theorem dX2_turnSilt_65 : decode cX2_turnSilt 65 = .ok (.iconst 4, 1) := by decide +kernel
theorem dX2_turnSilt_66 : decode cX2_turnSilt 66 = .ok (.iload_n 2, 1) := by decide +kernel
theorem dX2_turnSilt_67 : decode cX2_turnSilt 67 = .ok (.imul, 1) := by decide +kernel
theorem dX2_turnSilt_68 : decode cX2_turnSilt 68 = .ok (.ishl, 1) := by decide +kernel
theorem dX2_turnSilt_69 : decode cX2_turnSilt 69 = .ok (.ior, 1) := by decide +kernel
theorem dX2_turnSilt_70 : decode cX2_turnSilt 70 = .ok (.putfield 36, 3) := by decide +kernel
theorem dX2_turnSilt_73 : decode cX2_turnSilt 73 = .ok (.iload_n 3, 1) := by decide +kernel
theorem dX2_turnSilt_74 : decode cX2_turnSilt 74 = .ok (.bipush 9, 2) := by decide +kernel
theorem dX2_turnSilt_76 : decode cX2_turnSilt 76 = .ok (.if_icmp .lt 20, 3) := by decide +kernel
theorem dX2_turnSilt_79 : decode cX2_turnSilt 79 = .ok (.aload_n 0, 1) := by decide +kernel
theorem dX2_turnSilt_80 : decode cX2_turnSilt 80 = .ok (.dup, 1) := by decide +kernel
theorem dX2_turnSilt_81 : decode cX2_turnSilt 81 = .ok (.getfield 30, 3) := by decide +kernel
theorem dX2_turnSilt_84 : decode cX2_turnSilt 84 = .ok (.iconst 1, 1) := by decide +kernel
theorem dX2_turnSilt_85 : decode cX2_turnSilt 85 = .ok (.iload_n 2, 1) := by decide +kernel
theorem dX2_turnSilt_86 : decode cX2_turnSilt 86 = .ok (.ishl, 1) := by decide +kernel
theorem dX2_turnSilt_87 : decode cX2_turnSilt 87 = .ok (.ior, 1) := by decide +kernel
theorem dX2_turnSilt_88 : decode cX2_turnSilt 88 = .ok (.putfield 30, 3) := by decide +kernel
theorem dX2_turnSilt_91 : decode cX2_turnSilt 91 = .ok (.aload_n 0, 1) := by decide +kernel
theorem dX2_turnSilt_92 : decode cX2_turnSilt 92 = .ok (.iload_n 2, 1) := by decide +kernel
theorem dX2_turnSilt_93 : decode cX2_turnSilt 93 = .ok (.invokevirtual 114, 3) := by decide +kernel
theorem dX2_turnSilt_96 : decode cX2_turnSilt 96 = .ok (.return_, 1) := by decide +kernel
theorem dX2_harvestsOfSeasons_0 : decode cX2_harvestsOfSeasons 0 = .ok (.iconst 0, 1) := by decide +kernel
theorem dX2_harvestsOfSeasons_1 : decode cX2_harvestsOfSeasons 1 = .ok (.istore_n 3, 1) := by decide +kernel
theorem dX2_harvestsOfSeasons_2 : decode cX2_harvestsOfSeasons 2 = .ok (.iconst 0, 1) := by decide +kernel
theorem dX2_harvestsOfSeasons_3 : decode cX2_harvestsOfSeasons 3 = .ok (.istore 4, 2) := by decide +kernel
theorem dX2_harvestsOfSeasons_5 : decode cX2_harvestsOfSeasons 5 = .ok (.iload 4, 2) := by decide +kernel
theorem dX2_harvestsOfSeasons_7 : decode cX2_harvestsOfSeasons 7 = .ok (.iload_n 2, 1) := by decide +kernel
theorem dX2_harvestsOfSeasons_8 : decode cX2_harvestsOfSeasons 8 = .ok (.if_icmp .ge 20, 3) := by decide +kernel
theorem dX2_harvestsOfSeasons_11 : decode cX2_harvestsOfSeasons 11 = .ok (.iload_n 3, 1) := by decide +kernel
theorem dX2_harvestsOfSeasons_12 : decode cX2_harvestsOfSeasons 12 = .ok (.aload_n 0, 1) := by decide +kernel
theorem dX2_harvestsOfSeasons_13 : decode cX2_harvestsOfSeasons 13 = .ok (.aload_n 1, 1) := by decide +kernel
theorem dX2_harvestsOfSeasons_14 : decode cX2_harvestsOfSeasons 14 = .ok (.invokevirtual 118, 3) := by decide +kernel
theorem dX2_harvestsOfSeasons_17 : decode cX2_harvestsOfSeasons 17 = .ok (.invokestatic 121, 3) := by decide +kernel
theorem dX2_harvestsOfSeasons_20 : decode cX2_harvestsOfSeasons 20 = .ok (.iadd, 1) := by decide +kernel
theorem dX2_harvestsOfSeasons_21 : decode cX2_harvestsOfSeasons 21 = .ok (.istore_n 3, 1) := by decide +kernel
theorem dX2_harvestsOfSeasons_22 : decode cX2_harvestsOfSeasons 22 = .ok (.iinc 4 1, 3) := by decide +kernel
theorem dX2_harvestsOfSeasons_25 : decode cX2_harvestsOfSeasons 25 = .ok (.goto (-20), 3) := by decide +kernel
theorem dX2_harvestsOfSeasons_28 : decode cX2_harvestsOfSeasons 28 = .ok (.iload_n 3, 1) := by decide +kernel
theorem dX2_harvestsOfSeasons_29 : decode cX2_harvestsOfSeasons 29 = .ok (.ireturn, 1) := by decide +kernel
theorem dX3_init_0 : decode cX3_init 0 = .ok (.aload_n 0, 1) := by decide +kernel
theorem dX3_init_1 : decode cX3_init 1 = .ok (.invokespecial 3, 3) := by decide +kernel
theorem dX3_init_4 : decode cX3_init 4 = .ok (.aload_n 0, 1) := by decide +kernel
theorem dX3_init_5 : decode cX3_init 5 = .ok (.new 9, 3) := by decide +kernel
theorem dX3_init_8 : decode cX3_init 8 = .ok (.dup, 1) := by decide +kernel
theorem dX3_init_9 : decode cX3_init 9 = .ok (.invokespecial 11, 3) := by decide +kernel
theorem dX3_init_12 : decode cX3_init 12 = .ok (.putfield 12, 3) := by decide +kernel
theorem dX3_init_15 : decode cX3_init 15 = .ok (.aload_n 0, 1) := by decide +kernel
theorem dX3_init_16 : decode cX3_init 16 = .ok (.iconst 5, 1) := by decide +kernel
theorem dX3_init_17 : decode cX3_init 17 = .ok (.newarray .int, 2) := by decide +kernel
theorem dX3_init_19 : decode cX3_init 19 = .ok (.putfield 18, 3) := by decide +kernel
theorem dX3_init_22 : decode cX3_init 22 = .ok (.return_, 1) := by decide +kernel
theorem dX4_init_0 : decode cX4_init 0 = .ok (.aload_n 0, 1) := by decide +kernel
theorem dX4_init_1 : decode cX4_init 1 = .ok (.invokespecial 3, 3) := by decide +kernel
theorem dX4_init_4 : decode cX4_init 4 = .ok (.aload_n 0, 1) := by decide +kernel
theorem dX4_init_5 : decode cX4_init 5 = .ok (.iconst 5, 1) := by decide +kernel
theorem dX4_init_6 : decode cX4_init 6 = .ok (.newarray .int, 2) := by decide +kernel
theorem dX4_init_8 : decode cX4_init 8 = .ok (.putfield 9, 3) := by decide +kernel
theorem dX4_init_11 : decode cX4_init 11 = .ok (.aload_n 0, 1) := by decide +kernel
theorem dX4_init_12 : decode cX4_init 12 = .ok (.bipush 32, 2) := by decide +kernel
theorem dX4_init_14 : decode cX4_init 14 = .ok (.newarray .long, 2) := by decide +kernel
theorem dX4_init_16 : decode cX4_init 16 = .ok (.putfield 15, 3) := by decide +kernel
theorem dX4_init_19 : decode cX4_init 19 = .ok (.aload_n 0, 1) := by decide +kernel
theorem dX4_init_20 : decode cX4_init 20 = .ok (.aload_n 1, 1) := by decide +kernel
theorem dX4_init_21 : decode cX4_init 21 = .ok (.putfield 19, 3) := by decide +kernel
theorem dX4_init_24 : decode cX4_init 24 = .ok (.return_, 1) := by decide +kernel
theorem dX4_bitOf_0 : decode cX4_bitOf 0 = .ok (.lconst 1, 1) := by decide +kernel
theorem dX4_bitOf_1 : decode cX4_bitOf 1 = .ok (.bipush 39, 2) := by decide +kernel
theorem dX4_bitOf_3 : decode cX4_bitOf 3 = .ok (.iload_n 0, 1) := by decide +kernel
theorem dX4_bitOf_4 : decode cX4_bitOf 4 = .ok (.isub, 1) := by decide +kernel
theorem dX4_bitOf_5 : decode cX4_bitOf 5 = .ok (.lshl, 1) := by decide +kernel
theorem dX4_bitOf_6 : decode cX4_bitOf 6 = .ok (.lreturn, 1) := by decide +kernel
theorem dX4_waitingForThemselves_0 : decode cX4_waitingForThemselves 0 = .ok (.aload_n 0, 1) := by decide +kernel
theorem dX4_waitingForThemselves_1 : decode cX4_waitingForThemselves 1 = .ok (.getfield 19, 3) := by decide +kernel
theorem dX4_waitingForThemselves_4 : decode cX4_waitingForThemselves 4 = .ok (.getfield 23, 3) := by decide +kernel
theorem dX4_waitingForThemselves_7 : decode cX4_waitingForThemselves 7 = .ok (.iconst 0, 1) := by decide +kernel
theorem dX4_waitingForThemselves_8 : decode cX4_waitingForThemselves 8 = .ok (.aload_n 0, 1) := by decide +kernel
theorem dX4_waitingForThemselves_9 : decode cX4_waitingForThemselves 9 = .ok (.getfield 9, 3) := by decide +kernel
theorem dX4_waitingForThemselves_12 : decode cX4_waitingForThemselves 12 = .ok (.iconst 0, 1) := by decide +kernel
theorem dX4_waitingForThemselves_13 : decode cX4_waitingForThemselves 13 = .ok (.iconst 5, 1) := by decide +kernel
theorem dX4_waitingForThemselves_14 : decode cX4_waitingForThemselves 14 = .ok (.invokestatic 28, 3) := by decide +kernel
theorem dX4_waitingForThemselves_17 : decode cX4_waitingForThemselves 17 = .ok (.iconst 0, 1) := by decide +kernel
theorem dX4_waitingForThemselves_18 : decode cX4_waitingForThemselves 18 = .ok (.istore_n 1, 1) := by decide +kernel
theorem dX4_waitingForThemselves_19 : decode cX4_waitingForThemselves 19 = .ok (.iload_n 1, 1) := by decide +kernel
theorem dX4_waitingForThemselves_20 : decode cX4_waitingForThemselves 20 = .ok (.aload_n 0, 1) := by decide +kernel
theorem dX4_waitingForThemselves_21 : decode cX4_waitingForThemselves 21 = .ok (.getfield 19, 3) := by decide +kernel
theorem dX4_waitingForThemselves_24 : decode cX4_waitingForThemselves 24 = .ok (.getfield 34, 3) := by decide +kernel
theorem dX4_waitingForThemselves_27 : decode cX4_waitingForThemselves 27 = .ok (.if_icmp .ge 60, 3) := by decide +kernel
theorem dX4_waitingForThemselves_30 : decode cX4_waitingForThemselves 30 = .ok (.iconst 0, 1) := by decide +kernel
theorem dX4_waitingForThemselves_31 : decode cX4_waitingForThemselves 31 = .ok (.istore_n 2, 1) := by decide +kernel
theorem dX4_waitingForThemselves_32 : decode cX4_waitingForThemselves 32 = .ok (.iload_n 2, 1) := by decide +kernel
theorem dX4_waitingForThemselves_33 : decode cX4_waitingForThemselves 33 = .ok (.aload_n 0, 1) := by decide +kernel
theorem dX4_waitingForThemselves_34 : decode cX4_waitingForThemselves 34 = .ok (.getfield 19, 3) := by decide +kernel
theorem dX4_waitingForThemselves_37 : decode cX4_waitingForThemselves 37 = .ok (.getfield 34, 3) := by decide +kernel
theorem dX4_waitingForThemselves_40 : decode cX4_waitingForThemselves 40 = .ok (.if_icmp .ge 41, 3) := by decide +kernel
theorem dX4_waitingForThemselves_43 : decode cX4_waitingForThemselves 43 = .ok (.aload_n 0, 1) := by decide +kernel
theorem dX4_waitingForThemselves_44 : decode cX4_waitingForThemselves 44 = .ok (.getfield 9, 3) := by decide +kernel
theorem dX4_waitingForThemselves_47 : decode cX4_waitingForThemselves 47 = .ok (.iload_n 2, 1) := by decide +kernel
theorem dX4_waitingForThemselves_48 : decode cX4_waitingForThemselves 48 = .ok (.dup2, 1) := by decide +kernel
theorem dX4_waitingForThemselves_49 : decode cX4_waitingForThemselves 49 = .ok (.iaload, 1) := by decide +kernel
theorem dX4_waitingForThemselves_50 : decode cX4_waitingForThemselves 50 = .ok (.aload_n 0, 1) := by decide +kernel
theorem dX4_waitingForThemselves_51 : decode cX4_waitingForThemselves 51 = .ok (.getfield 9, 3) := by decide +kernel
theorem dX4_waitingForThemselves_54 : decode cX4_waitingForThemselves 54 = .ok (.iload_n 2, 1) := by decide +kernel
theorem dX4_waitingForThemselves_55 : decode cX4_waitingForThemselves 55 = .ok (.iaload, 1) := by decide +kernel
theorem dX4_waitingForThemselves_56 : decode cX4_waitingForThemselves 56 = .ok (.iload_n 1, 1) := by decide +kernel
theorem dX4_waitingForThemselves_57 : decode cX4_waitingForThemselves 57 = .ok (.invokestatic 38, 3) := by decide +kernel
theorem dX4_waitingForThemselves_60 : decode cX4_waitingForThemselves 60 = .ok (.ifCond .eq 12, 3) := by decide +kernel
theorem dX4_waitingForThemselves_63 : decode cX4_waitingForThemselves 63 = .ok (.aload_n 0, 1) := by decide +kernel
theorem dX4_waitingForThemselves_64 : decode cX4_waitingForThemselves 64 = .ok (.getfield 9, 3) := by decide +kernel
theorem dX4_waitingForThemselves_67 : decode cX4_waitingForThemselves 67 = .ok (.iload_n 1, 1) := by decide +kernel
theorem dX4_waitingForThemselves_68 : decode cX4_waitingForThemselves 68 = .ok (.iaload, 1) := by decide +kernel
theorem dX4_waitingForThemselves_69 : decode cX4_waitingForThemselves 69 = .ok (.goto 4, 3) := by decide +kernel
theorem dX4_waitingForThemselves_72 : decode cX4_waitingForThemselves 72 = .ok (.iconst 0, 1) := by decide +kernel
theorem dX4_waitingForThemselves_73 : decode cX4_waitingForThemselves 73 = .ok (.ior, 1) := by decide +kernel
theorem dX4_waitingForThemselves_74 : decode cX4_waitingForThemselves 74 = .ok (.iastore, 1) := by decide +kernel
theorem dX4_waitingForThemselves_75 : decode cX4_waitingForThemselves 75 = .ok (.iinc 2 1, 3) := by decide +kernel
theorem dX4_waitingForThemselves_78 : decode cX4_waitingForThemselves 78 = .ok (.goto (-46), 3) := by decide +kernel
theorem dX4_waitingForThemselves_81 : decode cX4_waitingForThemselves 81 = .ok (.iinc 1 1, 3) := by decide +kernel
theorem dX4_waitingForThemselves_84 : decode cX4_waitingForThemselves 84 = .ok (.goto (-65), 3) := by decide +kernel
theorem dX4_waitingForThemselves_87 : decode cX4_waitingForThemselves 87 = .ok (.iconst 0, 1) := by decide +kernel
theorem dX4_waitingForThemselves_88 : decode cX4_waitingForThemselves 88 = .ok (.istore_n 1, 1) := by decide +kernel
theorem dX4_waitingForThemselves_89 : decode cX4_waitingForThemselves 89 = .ok (.iconst 0, 1) := by decide +kernel
theorem dX4_waitingForThemselves_90 : decode cX4_waitingForThemselves 90 = .ok (.istore_n 2, 1) := by decide +kernel
theorem dX4_waitingForThemselves_91 : decode cX4_waitingForThemselves 91 = .ok (.iload_n 2, 1) := by decide +kernel
theorem dX4_waitingForThemselves_92 : decode cX4_waitingForThemselves 92 = .ok (.aload_n 0, 1) := by decide +kernel
theorem dX4_waitingForThemselves_93 : decode cX4_waitingForThemselves 93 = .ok (.getfield 19, 3) := by decide +kernel
theorem dX4_waitingForThemselves_96 : decode cX4_waitingForThemselves 96 = .ok (.getfield 34, 3) := by decide +kernel
theorem dX4_waitingForThemselves_99 : decode cX4_waitingForThemselves 99 = .ok (.if_icmp .ge 22, 3) := by decide +kernel
theorem dX4_waitingForThemselves_102 : decode cX4_waitingForThemselves 102 = .ok (.iload_n 1, 1) := by decide +kernel
theorem dX4_waitingForThemselves_103 : decode cX4_waitingForThemselves 103 = .ok (.aload_n 0, 1) := by decide +kernel
theorem dX4_waitingForThemselves_104 : decode cX4_waitingForThemselves 104 = .ok (.getfield 9, 3) := by decide +kernel
theorem dX4_waitingForThemselves_107 : decode cX4_waitingForThemselves 107 = .ok (.iload_n 2, 1) := by decide +kernel
theorem dX4_waitingForThemselves_108 : decode cX4_waitingForThemselves 108 = .ok (.iaload, 1) := by decide +kernel
theorem dX4_waitingForThemselves_109 : decode cX4_waitingForThemselves 109 = .ok (.iconst 1, 1) := by decide +kernel
theorem dX4_waitingForThemselves_110 : decode cX4_waitingForThemselves 110 = .ok (.iload_n 2, 1) := by decide +kernel
theorem dX4_waitingForThemselves_111 : decode cX4_waitingForThemselves 111 = .ok (.ishl, 1) := by decide +kernel
theorem dX4_waitingForThemselves_112 : decode cX4_waitingForThemselves 112 = .ok (.iand, 1) := by decide +kernel
theorem dX4_waitingForThemselves_113 : decode cX4_waitingForThemselves 113 = .ok (.ior, 1) := by decide +kernel
theorem dX4_waitingForThemselves_114 : decode cX4_waitingForThemselves 114 = .ok (.istore_n 1, 1) := by decide +kernel
theorem dX4_waitingForThemselves_115 : decode cX4_waitingForThemselves 115 = .ok (.iinc 2 1, 3) := by decide +kernel
theorem dX4_waitingForThemselves_118 : decode cX4_waitingForThemselves 118 = .ok (.goto (-27), 3) := by decide +kernel
theorem dX4_waitingForThemselves_121 : decode cX4_waitingForThemselves 121 = .ok (.iload_n 1, 1) := by decide +kernel
theorem dX4_waitingForThemselves_122 : decode cX4_waitingForThemselves 122 = .ok (.ireturn, 1) := by decide +kernel
theorem dX4_fewestToLoosen_0 : decode cX4_fewestToLoosen 0 = .ok (.aload_n 0, 1) := by decide +kernel
theorem dX4_fewestToLoosen_1 : decode cX4_fewestToLoosen 1 = .ok (.getfield 15, 3) := by decide +kernel
theorem dX4_fewestToLoosen_4 : decode cX4_fewestToLoosen 4 = .ok (.iconst 0, 1) := by decide +kernel
theorem dX4_fewestToLoosen_5 : decode cX4_fewestToLoosen 5 = .ok (.lconst 0, 1) := by decide +kernel
theorem dX4_fewestToLoosen_6 : decode cX4_fewestToLoosen 6 = .ok (.lastore, 1) := by decide +kernel
theorem dX4_fewestToLoosen_7 : decode cX4_fewestToLoosen 7 = .ok (.iconst 1, 1) := by decide +kernel
theorem dX4_fewestToLoosen_8 : decode cX4_fewestToLoosen 8 = .ok (.istore_n 1, 1) := by decide +kernel
theorem dX4_fewestToLoosen_9 : decode cX4_fewestToLoosen 9 = .ok (.iload_n 1, 1) := by decide +kernel
theorem dX4_fewestToLoosen_10 : decode cX4_fewestToLoosen 10 = .ok (.aload_n 0, 1) := by decide +kernel
theorem dX4_fewestToLoosen_11 : decode cX4_fewestToLoosen 11 = .ok (.getfield 19, 3) := by decide +kernel
theorem dX4_fewestToLoosen_14 : decode cX4_fewestToLoosen 14 = .ok (.invokevirtual 42, 3) := by decide +kernel
theorem dX4_fewestToLoosen_17 : decode cX4_fewestToLoosen 17 = .ok (.if_icmp .ge 92, 3) := by decide +kernel
theorem dX4_fewestToLoosen_20 : decode cX4_fewestToLoosen 20 = .ok (.iconst 0, 1) := by decide +kernel
theorem dX4_fewestToLoosen_21 : decode cX4_fewestToLoosen 21 = .ok (.istore_n 2, 1) := by decide +kernel
theorem dX4_fewestToLoosen_22 : decode cX4_fewestToLoosen 22 = .ok (.iconst 0, 1) := by decide +kernel
theorem dX4_fewestToLoosen_23 : decode cX4_fewestToLoosen 23 = .ok (.istore_n 3, 1) := by decide +kernel
theorem dX4_fewestToLoosen_24 : decode cX4_fewestToLoosen 24 = .ok (.iload_n 3, 1) := by decide +kernel
theorem dX4_fewestToLoosen_25 : decode cX4_fewestToLoosen 25 = .ok (.aload_n 0, 1) := by decide +kernel
theorem dX4_fewestToLoosen_26 : decode cX4_fewestToLoosen 26 = .ok (.getfield 19, 3) := by decide +kernel
theorem dX4_fewestToLoosen_29 : decode cX4_fewestToLoosen 29 = .ok (.getfield 34, 3) := by decide +kernel
theorem dX4_fewestToLoosen_32 : decode cX4_fewestToLoosen 32 = .ok (.if_icmp .ge 71, 3) := by decide +kernel
theorem dX4_fewestToLoosen_35 : decode cX4_fewestToLoosen 35 = .ok (.iload_n 1, 1) := by decide +kernel
theorem dX4_fewestToLoosen_36 : decode cX4_fewestToLoosen 36 = .ok (.iload_n 3, 1) := by decide +kernel
theorem dX4_fewestToLoosen_37 : decode cX4_fewestToLoosen 37 = .ok (.invokestatic 38, 3) := by decide +kernel
theorem dX4_fewestToLoosen_40 : decode cX4_fewestToLoosen 40 = .ok (.ifCond .eq 57, 3) := by decide +kernel
theorem dX4_fewestToLoosen_43 : decode cX4_fewestToLoosen 43 = .ok (.iload_n 1, 1) := by decide +kernel
theorem dX4_fewestToLoosen_44 : decode cX4_fewestToLoosen 44 = .ok (.iconst 1, 1) := by decide +kernel
theorem dX4_fewestToLoosen_45 : decode cX4_fewestToLoosen 45 = .ok (.iload_n 3, 1) := by decide +kernel
theorem dX4_fewestToLoosen_46 : decode cX4_fewestToLoosen 46 = .ok (.ishl, 1) := by decide +kernel
theorem dX4_fewestToLoosen_47 : decode cX4_fewestToLoosen 47 = .ok (.iconst (-1), 1) := by decide +kernel
theorem dX4_fewestToLoosen_48 : decode cX4_fewestToLoosen 48 = .ok (.ixor, 1) := by decide +kernel
theorem dX4_fewestToLoosen_49 : decode cX4_fewestToLoosen 49 = .ok (.iand, 1) := by decide +kernel
theorem dX4_fewestToLoosen_50 : decode cX4_fewestToLoosen 50 = .ok (.istore 4, 2) := by decide +kernel
theorem dX4_fewestToLoosen_52 : decode cX4_fewestToLoosen 52 = .ok (.aload_n 0, 1) := by decide +kernel
theorem dX4_fewestToLoosen_53 : decode cX4_fewestToLoosen 53 = .ok (.getfield 15, 3) := by decide +kernel
theorem dX4_fewestToLoosen_56 : decode cX4_fewestToLoosen 56 = .ok (.iload 4, 2) := by decide +kernel
theorem dX4_fewestToLoosen_58 : decode cX4_fewestToLoosen 58 = .ok (.laload, 1) := by decide +kernel
theorem dX4_fewestToLoosen_59 : decode cX4_fewestToLoosen 59 = .ok (.aload_n 0, 1) := by decide +kernel
theorem dX4_fewestToLoosen_60 : decode cX4_fewestToLoosen 60 = .ok (.iload_n 3, 1) := by decide +kernel
theorem dX4_fewestToLoosen_61 : decode cX4_fewestToLoosen 61 = .ok (.iload 4, 2) := by decide +kernel
theorem dX4_fewestToLoosen_63 : decode cX4_fewestToLoosen 63 = .ok (.invokevirtual 46, 3) := by decide +kernel
theorem dX4_fewestToLoosen_66 : decode cX4_fewestToLoosen 66 = .ok (.lor, 1) := by decide +kernel
theorem dX4_fewestToLoosen_67 : decode cX4_fewestToLoosen 67 = .ok (.lstore 5, 2) := by decide +kernel
theorem dX4_fewestToLoosen_69 : decode cX4_fewestToLoosen 69 = .ok (.iload_n 2, 1) := by decide +kernel
theorem dX4_fewestToLoosen_70 : decode cX4_fewestToLoosen 70 = .ok (.ifCond .eq 17, 3) := by decide +kernel
theorem dX4_fewestToLoosen_73 : decode cX4_fewestToLoosen 73 = .ok (.lload 5, 2) := by decide +kernel
theorem dX4_fewestToLoosen_75 : decode cX4_fewestToLoosen 75 = .ok (.aload_n 0, 1) := by decide +kernel
theorem dX4_fewestToLoosen_76 : decode cX4_fewestToLoosen 76 = .ok (.getfield 15, 3) := by decide +kernel
theorem dX4_fewestToLoosen_79 : decode cX4_fewestToLoosen 79 = .ok (.iload_n 1, 1) := by decide +kernel
theorem dX4_fewestToLoosen_80 : decode cX4_fewestToLoosen 80 = .ok (.laload, 1) := by decide +kernel
theorem dX4_fewestToLoosen_81 : decode cX4_fewestToLoosen 81 = .ok (.invokestatic 50, 3) := by decide +kernel
theorem dX4_fewestToLoosen_84 : decode cX4_fewestToLoosen 84 = .ok (.ifCond .eq 11, 3) := by decide +kernel
theorem dX4_fewestToLoosen_87 : decode cX4_fewestToLoosen 87 = .ok (.aload_n 0, 1) := by decide +kernel
theorem dX4_fewestToLoosen_88 : decode cX4_fewestToLoosen 88 = .ok (.getfield 15, 3) := by decide +kernel
theorem dX4_fewestToLoosen_91 : decode cX4_fewestToLoosen 91 = .ok (.iload_n 1, 1) := by decide +kernel
theorem dX4_fewestToLoosen_92 : decode cX4_fewestToLoosen 92 = .ok (.lload 5, 2) := by decide +kernel
theorem dX4_fewestToLoosen_94 : decode cX4_fewestToLoosen 94 = .ok (.lastore, 1) := by decide +kernel
theorem dX4_fewestToLoosen_95 : decode cX4_fewestToLoosen 95 = .ok (.iconst 1, 1) := by decide +kernel
theorem dX4_fewestToLoosen_96 : decode cX4_fewestToLoosen 96 = .ok (.istore_n 2, 1) := by decide +kernel
theorem dX4_fewestToLoosen_97 : decode cX4_fewestToLoosen 97 = .ok (.iinc 3 1, 3) := by decide +kernel
theorem dX4_fewestToLoosen_100 : decode cX4_fewestToLoosen 100 = .ok (.goto (-76), 3) := by decide +kernel
theorem dX4_fewestToLoosen_103 : decode cX4_fewestToLoosen 103 = .ok (.iinc 1 1, 3) := by decide +kernel
theorem dX4_fewestToLoosen_106 : decode cX4_fewestToLoosen 106 = .ok (.goto (-97), 3) := by decide +kernel
theorem dX4_fewestToLoosen_109 : decode cX4_fewestToLoosen 109 = .ok (.aload_n 0, 1) := by decide +kernel
theorem dX4_fewestToLoosen_110 : decode cX4_fewestToLoosen 110 = .ok (.getfield 15, 3) := by decide +kernel
theorem dX4_fewestToLoosen_113 : decode cX4_fewestToLoosen 113 = .ok (.aload_n 0, 1) := by decide +kernel
theorem dX4_fewestToLoosen_114 : decode cX4_fewestToLoosen 114 = .ok (.getfield 19, 3) := by decide +kernel
theorem dX4_fewestToLoosen_117 : decode cX4_fewestToLoosen 117 = .ok (.invokevirtual 42, 3) := by decide +kernel
theorem dX4_fewestToLoosen_120 : decode cX4_fewestToLoosen 120 = .ok (.iconst 1, 1) := by decide +kernel
theorem dX4_fewestToLoosen_121 : decode cX4_fewestToLoosen 121 = .ok (.isub, 1) := by decide +kernel
theorem dX4_fewestToLoosen_122 : decode cX4_fewestToLoosen 122 = .ok (.laload, 1) := by decide +kernel
theorem dX4_fewestToLoosen_123 : decode cX4_fewestToLoosen 123 = .ok (.lreturn, 1) := by decide +kernel
theorem dX4_waitsLoosened_0 : decode cX4_waitsLoosened 0 = .ok (.lconst 0, 1) := by decide +kernel
theorem dX4_waitsLoosened_1 : decode cX4_waitsLoosened 1 = .ok (.lstore_n 3, 1) := by decide +kernel
theorem dX4_waitsLoosened_2 : decode cX4_waitsLoosened 2 = .ok (.iconst 0, 1) := by decide +kernel
theorem dX4_waitsLoosened_3 : decode cX4_waitsLoosened 3 = .ok (.istore 5, 2) := by decide +kernel
theorem dX4_waitsLoosened_5 : decode cX4_waitsLoosened 5 = .ok (.iload 5, 2) := by decide +kernel
theorem dX4_waitsLoosened_7 : decode cX4_waitsLoosened 7 = .ok (.aload_n 0, 1) := by decide +kernel
theorem dX4_waitsLoosened_8 : decode cX4_waitsLoosened 8 = .ok (.getfield 19, 3) := by decide +kernel
theorem dX4_waitsLoosened_11 : decode cX4_waitsLoosened 11 = .ok (.getfield 34, 3) := by decide +kernel
theorem dX4_waitsLoosened_14 : decode cX4_waitsLoosened 14 = .ok (.if_icmp .ge 43, 3) := by decide +kernel
theorem dX4_waitsLoosened_17 : decode cX4_waitsLoosened 17 = .ok (.aload_n 0, 1) := by decide +kernel
theorem dX4_waitsLoosened_18 : decode cX4_waitsLoosened 18 = .ok (.getfield 19, 3) := by decide +kernel
theorem dX4_waitsLoosened_21 : decode cX4_waitsLoosened 21 = .ok (.getfield 23, 3) := by decide +kernel
theorem dX4_waitsLoosened_24 : decode cX4_waitsLoosened 24 = .ok (.iload_n 1, 1) := by decide +kernel
theorem dX4_waitsLoosened_25 : decode cX4_waitsLoosened 25 = .ok (.iaload, 1) := by decide +kernel
theorem dX4_waitsLoosened_26 : decode cX4_waitsLoosened 26 = .ok (.iload_n 2, 1) := by decide +kernel
theorem dX4_waitsLoosened_27 : decode cX4_waitsLoosened 27 = .ok (.iconst (-1), 1) := by decide +kernel
theorem dX4_waitsLoosened_28 : decode cX4_waitsLoosened 28 = .ok (.ixor, 1) := by decide +kernel
theorem dX4_waitsLoosened_29 : decode cX4_waitsLoosened 29 = .ok (.iand, 1) := by decide +kernel
theorem dX4_waitsLoosened_30 : decode cX4_waitsLoosened 30 = .ok (.iload 5, 2) := by decide +kernel
theorem dX4_waitsLoosened_32 : decode cX4_waitsLoosened 32 = .ok (.invokestatic 38, 3) := by decide +kernel
theorem dX4_waitsLoosened_35 : decode cX4_waitsLoosened 35 = .ok (.ifCond .eq 16, 3) := by decide +kernel
theorem dX4_waitsLoosened_38 : decode cX4_waitsLoosened 38 = .ok (.lload_n 3, 1) := by decide +kernel
theorem dX4_waitsLoosened_39 : decode cX4_waitsLoosened 39 = .ok (.bipush 8, 2) := by decide +kernel
theorem dX4_waitsLoosened_41 : decode cX4_waitsLoosened 41 = .ok (.iload_n 1, 1) := by decide +kernel
theorem dX4_waitsLoosened_42 : decode cX4_waitsLoosened 42 = .ok (.imul, 1) := by decide +kernel
theorem dX4_waitsLoosened_43 : decode cX4_waitsLoosened 43 = .ok (.iload 5, 2) := by decide +kernel
theorem dX4_waitsLoosened_45 : decode cX4_waitsLoosened 45 = .ok (.iadd, 1) := by decide +kernel
theorem dX4_waitsLoosened_46 : decode cX4_waitsLoosened 46 = .ok (.invokestatic 54, 3) := by decide +kernel
theorem dX4_waitsLoosened_49 : decode cX4_waitsLoosened 49 = .ok (.lor, 1) := by decide +kernel
theorem dX4_waitsLoosened_50 : decode cX4_waitsLoosened 50 = .ok (.lstore_n 3, 1) := by decide +kernel
theorem dX4_waitsLoosened_51 : decode cX4_waitsLoosened 51 = .ok (.iinc 5 1, 3) := by decide +kernel
theorem dX4_waitsLoosened_54 : decode cX4_waitsLoosened 54 = .ok (.goto (-49), 3) := by decide +kernel
theorem dX4_waitsLoosened_57 : decode cX4_waitsLoosened 57 = .ok (.lload_n 3, 1) := by decide +kernel
theorem dX4_waitsLoosened_58 : decode cX4_waitsLoosened 58 = .ok (.lreturn, 1) := by decide +kernel
theorem dX4_isBetter_0 : decode cX4_isBetter 0 = .ok (.lload_n 0, 1) := by decide +kernel
theorem dX4_isBetter_1 : decode cX4_isBetter 1 = .ok (.invokestatic 58, 3) := by decide +kernel
theorem dX4_isBetter_4 : decode cX4_isBetter 4 = .ok (.istore 4, 2) := by decide +kernel
theorem dX4_isBetter_6 : decode cX4_isBetter 6 = .ok (.lload_n 2, 1) := by decide +kernel
theorem dX4_isBetter_7 : decode cX4_isBetter 7 = .ok (.invokestatic 58, 3) := by decide +kernel
theorem dX4_isBetter_10 : decode cX4_isBetter 10 = .ok (.istore 5, 2) := by decide +kernel
theorem dX4_isBetter_12 : decode cX4_isBetter 12 = .ok (.iload 4, 2) := by decide +kernel
theorem dX4_isBetter_14 : decode cX4_isBetter 14 = .ok (.iload 5, 2) := by decide +kernel
theorem dX4_isBetter_16 : decode cX4_isBetter 16 = .ok (.if_icmp .lt 16, 3) := by decide +kernel
theorem dX4_isBetter_19 : decode cX4_isBetter 19 = .ok (.iload 4, 2) := by decide +kernel
theorem dX4_isBetter_21 : decode cX4_isBetter 21 = .ok (.iload 5, 2) := by decide +kernel
theorem dX4_isBetter_23 : decode cX4_isBetter 23 = .ok (.if_icmp .ne 13, 3) := by decide +kernel
theorem dX4_isBetter_26 : decode cX4_isBetter 26 = .ok (.lload_n 0, 1) := by decide +kernel
theorem dX4_isBetter_27 : decode cX4_isBetter 27 = .ok (.lload_n 2, 1) := by decide +kernel
theorem dX4_isBetter_28 : decode cX4_isBetter 28 = .ok (.lcmp, 1) := by decide +kernel
theorem dX4_isBetter_29 : decode cX4_isBetter 29 = .ok (.ifCond .le 7, 3) := by decide +kernel
theorem dX4_isBetter_32 : decode cX4_isBetter 32 = .ok (.iconst 1, 1) := by decide +kernel
theorem dX4_isBetter_33 : decode cX4_isBetter 33 = .ok (.goto 4, 3) := by decide +kernel
theorem dX4_isBetter_36 : decode cX4_isBetter 36 = .ok (.iconst 0, 1) := by decide +kernel
theorem dX4_isBetter_37 : decode cX4_isBetter 37 = .ok (.ireturn, 1) := by decide +kernel
theorem dX5_init_0 : decode cX5_init 0 = .ok (.aload_n 0, 1) := by decide +kernel
theorem dX5_init_1 : decode cX5_init 1 = .ok (.invokespecial 3, 3) := by decide +kernel
theorem dX5_init_4 : decode cX5_init 4 = .ok (.aload_n 0, 1) := by decide +kernel
theorem dX5_init_5 : decode cX5_init 5 = .ok (.iconst 3, 1) := by decide +kernel
theorem dX5_init_6 : decode cX5_init 6 = .ok (.newarray .int, 2) := by decide +kernel
theorem dX5_init_8 : decode cX5_init 8 = .ok (.putfield 9, 3) := by decide +kernel
theorem dX5_init_11 : decode cX5_init 11 = .ok (.aload_n 0, 1) := by decide +kernel
theorem dX5_init_12 : decode cX5_init 12 = .ok (.iconst 4, 1) := by decide +kernel
theorem dX5_init_13 : decode cX5_init 13 = .ok (.anewarray 15, 3) := by decide +kernel
theorem dX5_init_16 : decode cX5_init 16 = .ok (.putfield 17, 3) := by decide +kernel
theorem dX5_init_19 : decode cX5_init 19 = .ok (.aload_n 0, 1) := by decide +kernel
theorem dX5_init_20 : decode cX5_init 20 = .ok (.iconst 3, 1) := by decide +kernel
theorem dX5_init_21 : decode cX5_init 21 = .ok (.newarray .int, 2) := by decide +kernel
theorem dX5_init_23 : decode cX5_init 23 = .ok (.putfield 21, 3) := by decide +kernel
theorem dX5_init_26 : decode cX5_init 26 = .ok (.aload_n 0, 1) := by decide +kernel
theorem dX5_init_27 : decode cX5_init 27 = .ok (.aload_n 1, 1) := by decide +kernel
theorem dX5_init_28 : decode cX5_init 28 = .ok (.putfield 24, 3) := by decide +kernel
theorem dX5_init_31 : decode cX5_init 31 = .ok (.iconst 0, 1) := by decide +kernel
theorem dX5_init_32 : decode cX5_init 32 = .ok (.istore_n 2, 1) := by decide +kernel
theorem dX5_init_33 : decode cX5_init 33 = .ok (.iload_n 2, 1) := by decide +kernel
theorem dX5_init_34 : decode cX5_init 34 = .ok (.iconst 3, 1) := by decide +kernel
theorem dX5_init_35 : decode cX5_init 35 = .ok (.if_icmp .gt 22, 3) := by decide +kernel
theorem dX5_init_38 : decode cX5_init 38 = .ok (.aload_n 0, 1) := by decide +kernel
theorem dX5_init_39 : decode cX5_init 39 = .ok (.getfield 17, 3) := by decide +kernel
theorem dX5_init_42 : decode cX5_init 42 = .ok (.iload_n 2, 1) := by decide +kernel
theorem dX5_init_43 : decode cX5_init 43 = .ok (.new 15, 3) := by decide +kernel
theorem dX5_init_46 : decode cX5_init 46 = .ok (.dup, 1) := by decide +kernel
theorem dX5_init_47 : decode cX5_init 47 = .ok (.invokespecial 28, 3) := by decide +kernel
theorem dX5_init_50 : decode cX5_init 50 = .ok (.aastore, 1) := by decide +kernel
theorem dX5_init_51 : decode cX5_init 51 = .ok (.iinc 2 1, 3) := by decide +kernel
theorem dX5_init_54 : decode cX5_init 54 = .ok (.goto (-21), 3) := by decide +kernel
theorem dX5_init_57 : decode cX5_init 57 = .ok (.return_, 1) := by decide +kernel
theorem dX5_seek_0 : decode cX5_seek 0 = .ok (.aload_n 0, 1) := by decide +kernel
theorem dX5_seek_1 : decode cX5_seek 1 = .ok (.iload_n 2, 1) := by decide +kernel
theorem dX5_seek_2 : decode cX5_seek 2 = .ok (.iconst 3, 1) := by decide +kernel
theorem dX5_seek_3 : decode cX5_seek 3 = .ok (.invokestatic 29, 3) := by decide +kernel
theorem dX5_seek_6 : decode cX5_seek 6 = .ok (.putfield 35, 3) := by decide +kernel
theorem dX5_seek_9 : decode cX5_seek 9 = .ok (.aload_n 0, 1) := by decide +kernel
theorem dX5_seek_10 : decode cX5_seek 10 = .ok (.iload_n 3, 1) := by decide +kernel
theorem dX5_seek_11 : decode cX5_seek 11 = .ok (.putfield 39, 3) := by decide +kernel
theorem dX5_seek_14 : decode cX5_seek 14 = .ok (.aload_n 0, 1) := by decide +kernel
theorem dX5_seek_15 : decode cX5_seek 15 = .ok (.iload_n 3, 1) := by decide +kernel
theorem dX5_seek_16 : decode cX5_seek 16 = .ok (.bipush (-9), 2) := by decide +kernel
theorem dX5_seek_18 : decode cX5_seek 18 = .ok (.if_icmp .ne 7, 3) := by decide +kernel
theorem dX5_seek_21 : decode cX5_seek 21 = .ok (.iconst (-1), 1) := by decide +kernel
theorem dX5_seek_22 : decode cX5_seek 22 = .ok (.goto 4, 3) := by decide +kernel
theorem dX5_seek_25 : decode cX5_seek 25 = .ok (.iconst 0, 1) := by decide +kernel
theorem dX5_seek_26 : decode cX5_seek 26 = .ok (.putfield 42, 3) := by decide +kernel
theorem dX5_seek_29 : decode cX5_seek 29 = .ok (.aload_n 0, 1) := by decide +kernel
theorem dX5_seek_30 : decode cX5_seek 30 = .ok (.iconst 0, 1) := by decide +kernel
theorem dX5_seek_31 : decode cX5_seek 31 = .ok (.putfield 45, 3) := by decide +kernel
theorem dX5_seek_34 : decode cX5_seek 34 = .ok (.aload_n 0, 1) := by decide +kernel
theorem dX5_seek_35 : decode cX5_seek 35 = .ok (.aload_n 0, 1) := by decide +kernel
theorem dX5_seek_36 : decode cX5_seek 36 = .ok (.invokevirtual 48, 3) := by decide +kernel
theorem dX5_seek_39 : decode cX5_seek 39 = .ok (.putfield 52, 3) := by decide +kernel
theorem dX5_seek_42 : decode cX5_seek 42 = .ok (.aload_n 0, 1) := by decide +kernel
theorem dX5_seek_43 : decode cX5_seek 43 = .ok (.getfield 17, 3) := by decide +kernel
theorem dX5_seek_46 : decode cX5_seek 46 = .ok (.iconst 0, 1) := by decide +kernel
theorem dX5_seek_47 : decode cX5_seek 47 = .ok (.aaload, 1) := by decide +kernel
theorem dX5_seek_48 : decode cX5_seek 48 = .ok (.aload_n 1, 1) := by decide +kernel
theorem dX5_seek_49 : decode cX5_seek 49 = .ok (.invokevirtual 55, 3) := by decide +kernel
theorem dX5_seek_52 : decode cX5_seek 52 = .ok (.aload_n 0, 1) := by decide +kernel
theorem dX5_seek_53 : decode cX5_seek 53 = .ok (.iconst 0, 1) := by decide +kernel
theorem dX5_seek_54 : decode cX5_seek 54 = .ok (.iconst 0, 1) := by decide +kernel
theorem dX5_seek_55 : decode cX5_seek 55 = .ok (.iconst 0, 1) := by decide +kernel
theorem dX5_seek_56 : decode cX5_seek 56 = .ok (.invokestatic 59, 3) := by decide +kernel
theorem dX5_seek_59 : decode cX5_seek 59 = .ok (.return_, 1) := by decide +kernel
theorem dX5_search_0 : decode cX5_search 0 = .ok (.iload_n 1, 1) := by decide +kernel
theorem dX5_search_1 : decode cX5_search 1 = .ok (.aload_n 0, 1) := by decide +kernel
theorem dX5_search_2 : decode cX5_search 2 = .ok (.getfield 35, 3) := by decide +kernel
theorem dX5_search_5 : decode cX5_search 5 = .ok (.if_icmp .lt 10, 3) := by decide +kernel
theorem dX5_search_8 : decode cX5_search 8 = .ok (.aload_n 0, 1) := by decide +kernel
theorem dX5_search_9 : decode cX5_search 9 = .ok (.iload_n 2, 1) := by decide +kernel
theorem dX5_search_10 : decode cX5_search 10 = .ok (.iload_n 3, 1) := by decide +kernel
theorem dX5_search_11 : decode cX5_search 11 = .ok (.invokevirtual 63, 3) := by decide +kernel
theorem dX5_search_14 : decode cX5_search 14 = .ok (.return_, 1) := by decide +kernel
theorem dX5_search_15 : decode cX5_search 15 = .ok (.aload_n 0, 1) := by decide +kernel
theorem dX5_search_16 : decode cX5_search 16 = .ok (.getfield 17, 3) := by decide +kernel
theorem dX5_search_19 : decode cX5_search 19 = .ok (.iload_n 1, 1) := by decide +kernel
theorem dX5_search_20 : decode cX5_search 20 = .ok (.iconst 1, 1) := by decide +kernel
theorem dX5_search_21 : decode cX5_search 21 = .ok (.iadd, 1) := by decide +kernel
theorem dX5_search_22 : decode cX5_search 22 = .ok (.aaload, 1) := by decide +kernel
theorem dX5_search_23 : decode cX5_search 23 = .ok (.astore 4, 2) := by decide +kernel
theorem dX5_search_25 : decode cX5_search 25 = .ok (.iconst 0, 1) := by decide +kernel
theorem dX5_search_26 : decode cX5_search 26 = .ok (.istore 5, 2) := by decide +kernel
theorem dX5_search_28 : decode cX5_search 28 = .ok (.iload 5, 2) := by decide +kernel
theorem dX5_search_30 : decode cX5_search 30 = .ok (.aload_n 0, 1) := by decide +kernel
theorem dX5_search_31 : decode cX5_search 31 = .ok (.getfield 24, 3) := by decide +kernel
theorem dX5_search_34 : decode cX5_search 34 = .ok (.invokevirtual 67, 3) := by decide +kernel
theorem dX5_search_37 : decode cX5_search 37 = .ok (.if_icmp .ge 116, 3) := by decide +kernel
theorem dX5_search_40 : decode cX5_search 40 = .ok (.aload 4, 2) := by decide +kernel
theorem dX5_search_42 : decode cX5_search 42 = .ok (.aload_n 0, 1) := by decide +kernel
theorem dX5_search_43 : decode cX5_search 43 = .ok (.getfield 17, 3) := by decide +kernel
theorem dX5_search_46 : decode cX5_search 46 = .ok (.iload_n 1, 1) := by decide +kernel
theorem dX5_search_47 : decode cX5_search 47 = .ok (.aaload, 1) := by decide +kernel
theorem dX5_search_48 : decode cX5_search 48 = .ok (.invokevirtual 55, 3) := by decide +kernel
theorem dX5_search_51 : decode cX5_search 51 = .ok (.aload 4, 2) := by decide +kernel
theorem dX5_search_53 : decode cX5_search 53 = .ok (.aload_n 0, 1) := by decide +kernel
theorem dX5_search_54 : decode cX5_search 54 = .ok (.getfield 24, 3) := by decide +kernel
theorem dX5_search_57 : decode cX5_search 57 = .ok (.iload 5, 2) := by decide +kernel
theorem dX5_search_59 : decode cX5_search 59 = .ok (.invokevirtual 72, 3) := by decide +kernel
theorem dX5_search_62 : decode cX5_search 62 = .ok (.iload 5, 2) := by decide +kernel
theorem dX5_search_64 : decode cX5_search 64 = .ok (.if_icmp .eq 6, 3) := by decide +kernel
theorem dX5_search_67 : decode cX5_search 67 = .ok (.goto 80, 3) := by decide +kernel
theorem dX5_search_70 : decode cX5_search 70 = .ok (.iload_n 2, 1) := by decide +kernel
theorem dX5_search_71 : decode cX5_search 71 = .ok (.aload_n 0, 1) := by decide +kernel
theorem dX5_search_72 : decode cX5_search 72 = .ok (.aload 4, 2) := by decide +kernel
theorem dX5_search_74 : decode cX5_search 74 = .ok (.aload_n 0, 1) := by decide +kernel
theorem dX5_search_75 : decode cX5_search 75 = .ok (.getfield 24, 3) := by decide +kernel
theorem dX5_search_78 : decode cX5_search 78 = .ok (.invokevirtual 76, 3) := by decide +kernel
theorem dX5_search_81 : decode cX5_search 81 = .ok (.iload_n 1, 1) := by decide +kernel
theorem dX5_search_82 : decode cX5_search 82 = .ok (.invokevirtual 80, 3) := by decide +kernel
theorem dX5_search_85 : decode cX5_search 85 = .ok (.iadd, 1) := by decide +kernel
theorem dX5_search_86 : decode cX5_search 86 = .ok (.istore 6, 2) := by decide +kernel
theorem dX5_search_88 : decode cX5_search 88 = .ok (.iload_n 3, 1) := by decide +kernel
theorem dX5_search_89 : decode cX5_search 89 = .ok (.iload 5, 2) := by decide +kernel
theorem dX5_search_91 : decode cX5_search 91 = .ok (.invokestatic 83, 3) := by decide +kernel
theorem dX5_search_94 : decode cX5_search 94 = .ok (.iadd, 1) := by decide +kernel
theorem dX5_search_95 : decode cX5_search 95 = .ok (.istore 7, 2) := by decide +kernel
theorem dX5_search_97 : decode cX5_search 97 = .ok (.aload_n 0, 1) := by decide +kernel
theorem dX5_search_98 : decode cX5_search 98 = .ok (.iload 6, 2) := by decide +kernel
theorem dX5_search_100 : decode cX5_search 100 = .ok (.aload_n 0, 1) := by decide +kernel
theorem dX5_search_101 : decode cX5_search 101 = .ok (.aload 4, 2) := by decide +kernel
theorem dX5_search_103 : decode cX5_search 103 = .ok (.iload_n 1, 1) := by decide +kernel
theorem dX5_search_104 : decode cX5_search 104 = .ok (.iconst 1, 1) := by decide +kernel
theorem dX5_search_105 : decode cX5_search 105 = .ok (.iadd, 1) := by decide +kernel
theorem dX5_search_106 : decode cX5_search 106 = .ok (.invokevirtual 89, 3) := by decide +kernel
theorem dX5_search_109 : decode cX5_search 109 = .ok (.iadd, 1) := by decide +kernel
theorem dX5_search_110 : decode cX5_search 110 = .ok (.iload 7, 2) := by decide +kernel
theorem dX5_search_112 : decode cX5_search 112 = .ok (.invokevirtual 93, 3) := by decide +kernel
theorem dX5_search_115 : decode cX5_search 115 = .ok (.ifCond .eq 32, 3) := by decide +kernel
theorem dX5_search_118 : decode cX5_search 118 = .ok (.aload 4, 2) := by decide +kernel
theorem dX5_search_120 : decode cX5_search 120 = .ok (.aload_n 0, 1) := by decide +kernel
theorem dX5_search_121 : decode cX5_search 121 = .ok (.getfield 24, 3) := by decide +kernel
theorem dX5_search_124 : decode cX5_search 124 = .ok (.invokevirtual 97, 3) := by decide +kernel
theorem dX5_search_127 : decode cX5_search 127 = .ok (.pop, 1) := by decide +kernel
theorem dX5_search_128 : decode cX5_search 128 = .ok (.aload_n 0, 1) := by decide +kernel
theorem dX5_search_129 : decode cX5_search 129 = .ok (.getfield 21, 3) := by decide +kernel
theorem dX5_search_132 : decode cX5_search 132 = .ok (.iload_n 1, 1) := by decide +kernel
theorem dX5_search_133 : decode cX5_search 133 = .ok (.iload 5, 2) := by decide +kernel
theorem dX5_search_135 : decode cX5_search 135 = .ok (.iastore, 1) := by decide +kernel
theorem dX5_search_136 : decode cX5_search 136 = .ok (.aload_n 0, 1) := by decide +kernel
theorem dX5_search_137 : decode cX5_search 137 = .ok (.iload_n 1, 1) := by decide +kernel
theorem dX5_search_138 : decode cX5_search 138 = .ok (.iconst 1, 1) := by decide +kernel
theorem dX5_search_139 : decode cX5_search 139 = .ok (.iadd, 1) := by decide +kernel
theorem dX5_search_140 : decode cX5_search 140 = .ok (.iload 6, 2) := by decide +kernel
theorem dX5_search_142 : decode cX5_search 142 = .ok (.iload 7, 2) := by decide +kernel
theorem dX5_search_144 : decode cX5_search 144 = .ok (.invokestatic 59, 3) := by decide +kernel
theorem dX5_search_147 : decode cX5_search 147 = .ok (.iinc 5 1, 3) := by decide +kernel
theorem dX5_search_150 : decode cX5_search 150 = .ok (.goto (-122), 3) := by decide +kernel
theorem dX5_search_153 : decode cX5_search 153 = .ok (.return_, 1) := by decide +kernel
theorem dX5_worthOf_0 : decode cX5_worthOf 0 = .ok (.aload_n 0, 1) := by decide +kernel
theorem dX5_worthOf_1 : decode cX5_worthOf 1 = .ok (.getfield 39, 3) := by decide +kernel
theorem dX5_worthOf_4 : decode cX5_worthOf 4 = .ok (.bipush (-9), 2) := by decide +kernel
theorem dX5_worthOf_6 : decode cX5_worthOf 6 = .ok (.if_icmp .ne 8, 3) := by decide +kernel
theorem dX5_worthOf_9 : decode cX5_worthOf 9 = .ok (.iload_n 1, 1) := by decide +kernel
theorem dX5_worthOf_10 : decode cX5_worthOf 10 = .ok (.invokestatic 83, 3) := by decide +kernel
theorem dX5_worthOf_13 : decode cX5_worthOf 13 = .ok (.ireturn, 1) := by decide +kernel
theorem dX5_worthOf_14 : decode cX5_worthOf 14 = .ok (.iload_n 2, 1) := by decide +kernel
theorem dX5_worthOf_15 : decode cX5_worthOf 15 = .ok (.aload_n 0, 1) := by decide +kernel
theorem dX5_worthOf_16 : decode cX5_worthOf 16 = .ok (.getfield 35, 3) := by decide +kernel
theorem dX5_worthOf_19 : decode cX5_worthOf 19 = .ok (.iconst 1, 1) := by decide +kernel
theorem dX5_worthOf_20 : decode cX5_worthOf 20 = .ok (.isub, 1) := by decide +kernel
theorem dX5_worthOf_21 : decode cX5_worthOf 21 = .ok (.if_icmp .ne 18, 3) := by decide +kernel
theorem dX5_worthOf_24 : decode cX5_worthOf 24 = .ok (.iload_n 1, 1) := by decide +kernel
theorem dX5_worthOf_25 : decode cX5_worthOf 25 = .ok (.aload_n 0, 1) := by decide +kernel
theorem dX5_worthOf_26 : decode cX5_worthOf 26 = .ok (.getfield 39, 3) := by decide +kernel
theorem dX5_worthOf_29 : decode cX5_worthOf 29 = .ok (.invokestatic 100, 3) := by decide +kernel
theorem dX5_worthOf_32 : decode cX5_worthOf 32 = .ok (.ifCond .eq 7, 3) := by decide +kernel
theorem dX5_worthOf_35 : decode cX5_worthOf 35 = .ok (.iconst 1, 1) := by decide +kernel
theorem dX5_worthOf_36 : decode cX5_worthOf 36 = .ok (.goto 4, 3) := by decide +kernel
theorem dX5_worthOf_39 : decode cX5_worthOf 39 = .ok (.iconst 0, 1) := by decide +kernel
theorem dX5_worthOf_40 : decode cX5_worthOf 40 = .ok (.ireturn, 1) := by decide +kernel
theorem dX5_mostServed_0 : decode cX5_mostServed 0 = .ok (.iconst 0, 1) := by decide +kernel
theorem dX5_mostServed_1 : decode cX5_mostServed 1 = .ok (.istore_n 1, 1) := by decide +kernel
theorem dX5_mostServed_2 : decode cX5_mostServed 2 = .ok (.iconst 0, 1) := by decide +kernel
theorem dX5_mostServed_3 : decode cX5_mostServed 3 = .ok (.istore_n 2, 1) := by decide +kernel
theorem dX5_mostServed_4 : decode cX5_mostServed 4 = .ok (.iload_n 2, 1) := by decide +kernel
theorem dX5_mostServed_5 : decode cX5_mostServed 5 = .ok (.aload_n 0, 1) := by decide +kernel
theorem dX5_mostServed_6 : decode cX5_mostServed 6 = .ok (.getfield 24, 3) := by decide +kernel
theorem dX5_mostServed_9 : decode cX5_mostServed 9 = .ok (.invokevirtual 67, 3) := by decide +kernel
theorem dX5_mostServed_12 : decode cX5_mostServed 12 = .ok (.if_icmp .ge 51, 3) := by decide +kernel
theorem dX5_mostServed_15 : decode cX5_mostServed 15 = .ok (.aload_n 0, 1) := by decide +kernel
theorem dX5_mostServed_16 : decode cX5_mostServed 16 = .ok (.getfield 24, 3) := by decide +kernel
theorem dX5_mostServed_19 : decode cX5_mostServed 19 = .ok (.iload_n 2, 1) := by decide +kernel
theorem dX5_mostServed_20 : decode cX5_mostServed 20 = .ok (.invokevirtual 103, 3) := by decide +kernel
theorem dX5_mostServed_23 : decode cX5_mostServed 23 = .ok (.istore_n 3, 1) := by decide +kernel
theorem dX5_mostServed_24 : decode cX5_mostServed 24 = .ok (.aload_n 0, 1) := by decide +kernel
theorem dX5_mostServed_25 : decode cX5_mostServed 25 = .ok (.getfield 39, 3) := by decide +kernel
theorem dX5_mostServed_28 : decode cX5_mostServed 28 = .ok (.bipush (-9), 2) := by decide +kernel
theorem dX5_mostServed_30 : decode cX5_mostServed 30 = .ok (.if_icmp .ne 10, 3) := by decide +kernel
theorem dX5_mostServed_33 : decode cX5_mostServed 33 = .ok (.iload_n 3, 1) := by decide +kernel
theorem dX5_mostServed_34 : decode cX5_mostServed 34 = .ok (.invokestatic 83, 3) := by decide +kernel
theorem dX5_mostServed_37 : decode cX5_mostServed 37 = .ok (.goto 11, 3) := by decide +kernel
theorem dX5_mostServed_40 : decode cX5_mostServed 40 = .ok (.iload_n 3, 1) := by decide +kernel
theorem dX5_mostServed_41 : decode cX5_mostServed 41 = .ok (.aload_n 0, 1) := by decide +kernel
theorem dX5_mostServed_42 : decode cX5_mostServed 42 = .ok (.getfield 39, 3) := by decide +kernel
theorem dX5_mostServed_45 : decode cX5_mostServed 45 = .ok (.ishr, 1) := by decide +kernel
theorem dX5_mostServed_46 : decode cX5_mostServed 46 = .ok (.iconst 1, 1) := by decide +kernel
theorem dX5_mostServed_47 : decode cX5_mostServed 47 = .ok (.iand, 1) := by decide +kernel
theorem dX5_mostServed_48 : decode cX5_mostServed 48 = .ok (.istore 4, 2) := by decide +kernel
theorem dX5_mostServed_50 : decode cX5_mostServed 50 = .ok (.iload_n 1, 1) := by decide +kernel
theorem dX5_mostServed_51 : decode cX5_mostServed 51 = .ok (.iload 4, 2) := by decide +kernel
theorem dX5_mostServed_53 : decode cX5_mostServed 53 = .ok (.invokestatic 106, 3) := by decide +kernel
theorem dX5_mostServed_56 : decode cX5_mostServed 56 = .ok (.istore_n 1, 1) := by decide +kernel
theorem dX5_mostServed_57 : decode cX5_mostServed 57 = .ok (.iinc 2 1, 3) := by decide +kernel
theorem dX5_mostServed_60 : decode cX5_mostServed 60 = .ok (.goto (-56), 3) := by decide +kernel
theorem dX5_mostServed_63 : decode cX5_mostServed 63 = .ok (.iload_n 1, 1) := by decide +kernel
theorem dX5_mostServed_64 : decode cX5_mostServed 64 = .ok (.ireturn, 1) := by decide +kernel
theorem dX5_hopeOf_0 : decode cX5_hopeOf 0 = .ok (.aload_n 0, 1) := by decide +kernel
theorem dX5_hopeOf_1 : decode cX5_hopeOf 1 = .ok (.getfield 35, 3) := by decide +kernel
theorem dX5_hopeOf_4 : decode cX5_hopeOf 4 = .ok (.iload_n 2, 1) := by decide +kernel
theorem dX5_hopeOf_5 : decode cX5_hopeOf 5 = .ok (.isub, 1) := by decide +kernel
theorem dX5_hopeOf_6 : decode cX5_hopeOf 6 = .ok (.istore_n 3, 1) := by decide +kernel
theorem dX5_hopeOf_7 : decode cX5_hopeOf 7 = .ok (.aload_n 0, 1) := by decide +kernel
theorem dX5_hopeOf_8 : decode cX5_hopeOf 8 = .ok (.getfield 39, 3) := by decide +kernel
theorem dX5_hopeOf_11 : decode cX5_hopeOf 11 = .ok (.bipush (-9), 2) := by decide +kernel
theorem dX5_hopeOf_13 : decode cX5_hopeOf 13 = .ok (.if_icmp .ne 32, 3) := by decide +kernel
theorem dX5_hopeOf_16 : decode cX5_hopeOf 16 = .ok (.aload_n 0, 1) := by decide +kernel
theorem dX5_hopeOf_17 : decode cX5_hopeOf 17 = .ok (.getfield 24, 3) := by decide +kernel
theorem dX5_hopeOf_20 : decode cX5_hopeOf 20 = .ok (.getfield 109, 3) := by decide +kernel
theorem dX5_hopeOf_23 : decode cX5_hopeOf 23 = .ok (.aload_n 1, 1) := by decide +kernel
theorem dX5_hopeOf_24 : decode cX5_hopeOf 24 = .ok (.getfield 112, 3) := by decide +kernel
theorem dX5_hopeOf_27 : decode cX5_hopeOf 27 = .ok (.invokestatic 83, 3) := by decide +kernel
theorem dX5_hopeOf_30 : decode cX5_hopeOf 30 = .ok (.isub, 1) := by decide +kernel
theorem dX5_hopeOf_31 : decode cX5_hopeOf 31 = .ok (.istore 4, 2) := by decide +kernel
theorem dX5_hopeOf_33 : decode cX5_hopeOf 33 = .ok (.iload_n 3, 1) := by decide +kernel
theorem dX5_hopeOf_34 : decode cX5_hopeOf 34 = .ok (.iload 4, 2) := by decide +kernel
theorem dX5_hopeOf_36 : decode cX5_hopeOf 36 = .ok (.aload_n 0, 1) := by decide +kernel
theorem dX5_hopeOf_37 : decode cX5_hopeOf 37 = .ok (.getfield 52, 3) := by decide +kernel
theorem dX5_hopeOf_40 : decode cX5_hopeOf 40 = .ok (.invokestatic 29, 3) := by decide +kernel
theorem dX5_hopeOf_43 : decode cX5_hopeOf 43 = .ok (.imul, 1) := by decide +kernel
theorem dX5_hopeOf_44 : decode cX5_hopeOf 44 = .ok (.ireturn, 1) := by decide +kernel
theorem dX5_hopeOf_45 : decode cX5_hopeOf 45 = .ok (.iload_n 3, 1) := by decide +kernel
theorem dX5_hopeOf_46 : decode cX5_hopeOf 46 = .ok (.ifCond .le 24, 3) := by decide +kernel
theorem dX5_hopeOf_49 : decode cX5_hopeOf 49 = .ok (.aload_n 1, 1) := by decide +kernel
theorem dX5_hopeOf_50 : decode cX5_hopeOf 50 = .ok (.getfield 112, 3) := by decide +kernel
theorem dX5_hopeOf_53 : decode cX5_hopeOf 53 = .ok (.aload_n 0, 1) := by decide +kernel
theorem dX5_hopeOf_54 : decode cX5_hopeOf 54 = .ok (.getfield 39, 3) := by decide +kernel
theorem dX5_hopeOf_57 : decode cX5_hopeOf 57 = .ok (.invokestatic 100, 3) := by decide +kernel
theorem dX5_hopeOf_60 : decode cX5_hopeOf 60 = .ok (.ifCond .ne 10, 3) := by decide +kernel
theorem dX5_hopeOf_63 : decode cX5_hopeOf 63 = .ok (.aload_n 0, 1) := by decide +kernel
theorem dX5_hopeOf_64 : decode cX5_hopeOf 64 = .ok (.getfield 52, 3) := by decide +kernel
theorem dX5_hopeOf_67 : decode cX5_hopeOf 67 = .ok (.goto 4, 3) := by decide +kernel
theorem dX5_hopeOf_70 : decode cX5_hopeOf 70 = .ok (.iconst 0, 1) := by decide +kernel
theorem dX5_hopeOf_71 : decode cX5_hopeOf 71 = .ok (.ireturn, 1) := by decide +kernel
theorem dX5_canWin_0 : decode cX5_canWin 0 = .ok (.iload_n 1, 1) := by decide +kernel
theorem dX5_canWin_1 : decode cX5_canWin 1 = .ok (.aload_n 0, 1) := by decide +kernel
theorem dX5_canWin_2 : decode cX5_canWin 2 = .ok (.getfield 42, 3) := by decide +kernel
theorem dX5_canWin_5 : decode cX5_canWin 5 = .ok (.if_icmp .gt 19, 3) := by decide +kernel
theorem dX5_canWin_8 : decode cX5_canWin 8 = .ok (.iload_n 1, 1) := by decide +kernel
theorem dX5_canWin_9 : decode cX5_canWin 9 = .ok (.aload_n 0, 1) := by decide +kernel
theorem dX5_canWin_10 : decode cX5_canWin 10 = .ok (.getfield 42, 3) := by decide +kernel
theorem dX5_canWin_13 : decode cX5_canWin 13 = .ok (.if_icmp .ne 15, 3) := by decide +kernel
theorem dX5_canWin_16 : decode cX5_canWin 16 = .ok (.iload_n 2, 1) := by decide +kernel
theorem dX5_canWin_17 : decode cX5_canWin 17 = .ok (.aload_n 0, 1) := by decide +kernel
theorem dX5_canWin_18 : decode cX5_canWin 18 = .ok (.getfield 45, 3) := by decide +kernel
theorem dX5_canWin_21 : decode cX5_canWin 21 = .ok (.if_icmp .ge 7, 3) := by decide +kernel
theorem dX5_canWin_24 : decode cX5_canWin 24 = .ok (.iconst 1, 1) := by decide +kernel
theorem dX5_canWin_25 : decode cX5_canWin 25 = .ok (.goto 4, 3) := by decide +kernel
theorem dX5_canWin_28 : decode cX5_canWin 28 = .ok (.iconst 0, 1) := by decide +kernel
theorem dX5_canWin_29 : decode cX5_canWin 29 = .ok (.ireturn, 1) := by decide +kernel
theorem dX5_judge_0 : decode cX5_judge 0 = .ok (.aload_n 0, 1) := by decide +kernel
theorem dX5_judge_1 : decode cX5_judge 1 = .ok (.iload_n 1, 1) := by decide +kernel
theorem dX5_judge_2 : decode cX5_judge 2 = .ok (.iload_n 2, 1) := by decide +kernel
theorem dX5_judge_3 : decode cX5_judge 3 = .ok (.invokevirtual 93, 3) := by decide +kernel
theorem dX5_judge_6 : decode cX5_judge 6 = .ok (.ifCond .eq 27, 3) := by decide +kernel
theorem dX5_judge_9 : decode cX5_judge 9 = .ok (.aload_n 0, 1) := by decide +kernel
theorem dX5_judge_10 : decode cX5_judge 10 = .ok (.iload_n 1, 1) := by decide +kernel
theorem dX5_judge_11 : decode cX5_judge 11 = .ok (.putfield 42, 3) := by decide +kernel
theorem dX5_judge_14 : decode cX5_judge 14 = .ok (.aload_n 0, 1) := by decide +kernel
theorem dX5_judge_15 : decode cX5_judge 15 = .ok (.iload_n 2, 1) := by decide +kernel
theorem dX5_judge_16 : decode cX5_judge 16 = .ok (.putfield 45, 3) := by decide +kernel
theorem dX5_judge_19 : decode cX5_judge 19 = .ok (.aload_n 0, 1) := by decide +kernel
theorem dX5_judge_20 : decode cX5_judge 20 = .ok (.getfield 21, 3) := by decide +kernel
theorem dX5_judge_23 : decode cX5_judge 23 = .ok (.iconst 0, 1) := by decide +kernel
theorem dX5_judge_24 : decode cX5_judge 24 = .ok (.aload_n 0, 1) := by decide +kernel
theorem dX5_judge_25 : decode cX5_judge 25 = .ok (.getfield 9, 3) := by decide +kernel
theorem dX5_judge_28 : decode cX5_judge 28 = .ok (.iconst 0, 1) := by decide +kernel
theorem dX5_judge_29 : decode cX5_judge 29 = .ok (.iconst 3, 1) := by decide +kernel
theorem dX5_judge_30 : decode cX5_judge 30 = .ok (.invokestatic 115, 3) := by decide +kernel
theorem dX5_judge_33 : decode cX5_judge 33 = .ok (.return_, 1) := by decide +kernel
theorem dX6_init_0 : decode cX6_init 0 = .ok (.aload_n 0, 1) := by decide +kernel
theorem dX6_init_1 : decode cX6_init 1 = .ok (.invokespecial 3, 3) := by decide +kernel
theorem dX6_init_4 : decode cX6_init 4 = .ok (.aload_n 0, 1) := by decide +kernel
theorem dX6_init_5 : decode cX6_init 5 = .ok (.bipush 60, 2) := by decide +kernel
theorem dX6_init_7 : decode cX6_init 7 = .ok (.newarray .int, 2) := by decide +kernel
theorem dX6_init_9 : decode cX6_init 9 = .ok (.putfield 9, 3) := by decide +kernel
theorem dX6_init_12 : decode cX6_init 12 = .ok (.aload_n 0, 1) := by decide +kernel
theorem dX6_init_13 : decode cX6_init 13 = .ok (.aload_n 1, 1) := by decide +kernel
theorem dX6_init_14 : decode cX6_init 14 = .ok (.putfield 15, 3) := by decide +kernel
theorem dX6_init_17 : decode cX6_init 17 = .ok (.return_, 1) := by decide +kernel
theorem dX6_read_0 : decode cX6_read 0 = .ok (.aload_n 0, 1) := by decide +kernel
theorem dX6_read_1 : decode cX6_read 1 = .ok (.aload_n 1, 1) := by decide +kernel
theorem dX6_read_2 : decode cX6_read 2 = .ok (.iload_n 2, 1) := by decide +kernel
theorem dX6_read_3 : decode cX6_read 3 = .ok (.aload_n 0, 1) := by decide +kernel
theorem dX6_read_4 : decode cX6_read 4 = .ok (.getfield 9, 3) := by decide +kernel
theorem dX6_read_7 : decode cX6_read 7 = .ok (.invokevirtual 19, 3) := by decide +kernel
theorem dX6_read_10 : decode cX6_read 10 = .ok (.putfield 25, 3) := by decide +kernel
theorem dX6_read_13 : decode cX6_read 13 = .ok (.aload_n 0, 1) := by decide +kernel
theorem dX6_read_14 : decode cX6_read 14 = .ok (.iconst 0, 1) := by decide +kernel
theorem dX6_read_15 : decode cX6_read 15 = .ok (.putfield 29, 3) := by decide +kernel
theorem dX6_read_18 : decode cX6_read 18 = .ok (.aload_n 0, 1) := by decide +kernel
theorem dX6_read_19 : decode cX6_read 19 = .ok (.iconst 0, 1) := by decide +kernel
theorem dX6_read_20 : decode cX6_read 20 = .ok (.putfield 32, 3) := by decide +kernel
theorem dX6_read_23 : decode cX6_read 23 = .ok (.aload_n 0, 1) := by decide +kernel
theorem dX6_read_24 : decode cX6_read 24 = .ok (.bipush (-9), 2) := by decide +kernel
theorem dX6_read_26 : decode cX6_read 26 = .ok (.putfield 35, 3) := by decide +kernel
theorem dX6_read_29 : decode cX6_read 29 = .ok (.aload_n 0, 1) := by decide +kernel
theorem dX6_read_30 : decode cX6_read 30 = .ok (.getfield 15, 3) := by decide +kernel
theorem dX6_read_33 : decode cX6_read 33 = .ok (.invokevirtual 38, 3) := by decide +kernel
theorem dX6_read_36 : decode cX6_read 36 = .ok (.aload_n 0, 1) := by decide +kernel
theorem dX6_read_37 : decode cX6_read 37 = .ok (.invokevirtual 43, 3) := by decide +kernel
theorem dX6_read_40 : decode cX6_read 40 = .ok (.iconst 0, 1) := by decide +kernel
theorem dX6_read_41 : decode cX6_read 41 = .ok (.istore_n 3, 1) := by decide +kernel
theorem dX6_read_42 : decode cX6_read 42 = .ok (.iload_n 3, 1) := by decide +kernel
theorem dX6_read_43 : decode cX6_read 43 = .ok (.bipush 60, 2) := by decide +kernel
theorem dX6_read_45 : decode cX6_read 45 = .ok (.if_icmp .ge 40, 3) := by decide +kernel
theorem dX6_read_48 : decode cX6_read 48 = .ok (.aload_n 0, 1) := by decide +kernel
theorem dX6_read_49 : decode cX6_read 49 = .ok (.getfield 35, 3) := by decide +kernel
theorem dX6_read_52 : decode cX6_read 52 = .ok (.bipush (-9), 2) := by decide +kernel
theorem dX6_read_54 : decode cX6_read 54 = .ok (.if_icmp .ne 31, 3) := by decide +kernel
theorem dX6_read_57 : decode cX6_read 57 = .ok (.aload_n 0, 1) := by decide +kernel
theorem dX6_read_58 : decode cX6_read 58 = .ok (.invokevirtual 46, 3) := by decide +kernel
theorem dX6_read_61 : decode cX6_read 61 = .ok (.aload_n 0, 1) := by decide +kernel
theorem dX6_read_62 : decode cX6_read 62 = .ok (.getfield 29, 3) := by decide +kernel
theorem dX6_read_65 : decode cX6_read 65 = .ok (.aload_n 0, 1) := by decide +kernel
theorem dX6_read_66 : decode cX6_read 66 = .ok (.getfield 25, 3) := by decide +kernel
theorem dX6_read_69 : decode cX6_read 69 = .ok (.if_icmp .lt 6, 3) := by decide +kernel
theorem dX6_read_72 : decode cX6_read 72 = .ok (.goto 13, 3) := by decide +kernel
theorem dX6_read_75 : decode cX6_read 75 = .ok (.aload_n 0, 1) := by decide +kernel
theorem dX6_read_76 : decode cX6_read 76 = .ok (.invokevirtual 49, 3) := by decide +kernel
theorem dX6_read_79 : decode cX6_read 79 = .ok (.iinc 3 1, 3) := by decide +kernel
theorem dX6_read_82 : decode cX6_read 82 = .ok (.goto (-40), 3) := by decide +kernel
theorem dX6_read_85 : decode cX6_read 85 = .ok (.aload_n 0, 1) := by decide +kernel
theorem dX6_read_86 : decode cX6_read 86 = .ok (.getfield 35, 3) := by decide +kernel
theorem dX6_read_89 : decode cX6_read 89 = .ok (.bipush (-9), 2) := by decide +kernel
theorem dX6_read_91 : decode cX6_read 91 = .ok (.if_icmp .ne 21, 3) := by decide +kernel
theorem dX6_read_94 : decode cX6_read 94 = .ok (.aload_n 0, 1) := by decide +kernel
theorem dX6_read_95 : decode cX6_read 95 = .ok (.getfield 15, 3) := by decide +kernel
theorem dX6_read_98 : decode cX6_read 98 = .ok (.getfield 52, 3) := by decide +kernel
theorem dX6_read_101 : decode cX6_read 101 = .ok (.ifCond .ne 11, 3) := by decide +kernel
theorem dX6_read_104 : decode cX6_read 104 = .ok (.aload_n 0, 1) := by decide +kernel
theorem dX6_read_105 : decode cX6_read 105 = .ok (.aload_n 0, 1) := by decide +kernel
theorem dX6_read_106 : decode cX6_read 106 = .ok (.getfield 25, 3) := by decide +kernel
theorem dX6_read_109 : decode cX6_read 109 = .ok (.putfield 35, 3) := by decide +kernel
theorem dX6_read_112 : decode cX6_read 112 = .ok (.aload_n 0, 1) := by decide +kernel
theorem dX6_read_113 : decode cX6_read 113 = .ok (.getfield 35, 3) := by decide +kernel
theorem dX6_read_116 : decode cX6_read 116 = .ok (.ireturn, 1) := by decide +kernel
theorem dX6_nextSign_0 : decode cX6_nextSign 0 = .ok (.aload_n 0, 1) := by decide +kernel
theorem dX6_nextSign_1 : decode cX6_nextSign 1 = .ok (.getfield 29, 3) := by decide +kernel
theorem dX6_nextSign_4 : decode cX6_nextSign 4 = .ok (.aload_n 0, 1) := by decide +kernel
theorem dX6_nextSign_5 : decode cX6_nextSign 5 = .ok (.getfield 25, 3) := by decide +kernel
theorem dX6_nextSign_8 : decode cX6_nextSign 8 = .ok (.if_icmp .ge 24, 3) := by decide +kernel
theorem dX6_nextSign_11 : decode cX6_nextSign 11 = .ok (.aload_n 0, 1) := by decide +kernel
theorem dX6_nextSign_12 : decode cX6_nextSign 12 = .ok (.getfield 29, 3) := by decide +kernel
theorem dX6_nextSign_15 : decode cX6_nextSign 15 = .ok (.bipush 60, 2) := by decide +kernel
theorem dX6_nextSign_17 : decode cX6_nextSign 17 = .ok (.if_icmp .ge 15, 3) := by decide +kernel
theorem dX6_nextSign_20 : decode cX6_nextSign 20 = .ok (.aload_n 0, 1) := by decide +kernel
theorem dX6_nextSign_21 : decode cX6_nextSign 21 = .ok (.getfield 9, 3) := by decide +kernel
theorem dX6_nextSign_24 : decode cX6_nextSign 24 = .ok (.aload_n 0, 1) := by decide +kernel
theorem dX6_nextSign_25 : decode cX6_nextSign 25 = .ok (.getfield 29, 3) := by decide +kernel
theorem dX6_nextSign_28 : decode cX6_nextSign 28 = .ok (.iaload, 1) := by decide +kernel
theorem dX6_nextSign_29 : decode cX6_nextSign 29 = .ok (.goto 6, 3) := by decide +kernel
theorem dX6_nextSign_32 : decode cX6_nextSign 32 = .ok (.sipush 1000, 3) := by decide +kernel
theorem dX6_nextSign_35 : decode cX6_nextSign 35 = .ok (.ireturn, 1) := by decide +kernel
theorem dX6_skipBlanks_0 : decode cX6_skipBlanks 0 = .ok (.aload_n 0, 1) := by decide +kernel
theorem dX6_skipBlanks_1 : decode cX6_skipBlanks 1 = .ok (.getfield 29, 3) := by decide +kernel
theorem dX6_skipBlanks_4 : decode cX6_skipBlanks 4 = .ok (.aload_n 0, 1) := by decide +kernel
theorem dX6_skipBlanks_5 : decode cX6_skipBlanks 5 = .ok (.getfield 25, 3) := by decide +kernel
theorem dX6_skipBlanks_8 : decode cX6_skipBlanks 8 = .ok (.if_icmp .ge 25, 3) := by decide +kernel
theorem dX6_skipBlanks_11 : decode cX6_skipBlanks 11 = .ok (.aload_n 0, 1) := by decide +kernel
theorem dX6_skipBlanks_12 : decode cX6_skipBlanks 12 = .ok (.invokevirtual 55, 3) := by decide +kernel
theorem dX6_skipBlanks_15 : decode cX6_skipBlanks 15 = .ok (.bipush 32, 2) := by decide +kernel
theorem dX6_skipBlanks_17 : decode cX6_skipBlanks 17 = .ok (.if_icmp .ne 16, 3) := by decide +kernel
theorem dX6_skipBlanks_20 : decode cX6_skipBlanks 20 = .ok (.aload_n 0, 1) := by decide +kernel
theorem dX6_skipBlanks_21 : decode cX6_skipBlanks 21 = .ok (.dup, 1) := by decide +kernel
theorem dX6_skipBlanks_22 : decode cX6_skipBlanks 22 = .ok (.getfield 29, 3) := by decide +kernel
theorem dX6_skipBlanks_25 : decode cX6_skipBlanks 25 = .ok (.iconst 1, 1) := by decide +kernel
theorem dX6_skipBlanks_26 : decode cX6_skipBlanks 26 = .ok (.iadd, 1) := by decide +kernel
theorem dX6_skipBlanks_27 : decode cX6_skipBlanks 27 = .ok (.putfield 29, 3) := by decide +kernel
theorem dX6_skipBlanks_30 : decode cX6_skipBlanks 30 = .ok (.goto (-30), 3) := by decide +kernel
theorem dX6_skipBlanks_33 : decode cX6_skipBlanks 33 = .ok (.return_, 1) := by decide +kernel
theorem dX6_readRiver_0 : decode cX6_readRiver 0 = .ok (.aload_n 0, 1) := by decide +kernel
theorem dX6_readRiver_1 : decode cX6_readRiver 1 = .ok (.invokevirtual 46, 3) := by decide +kernel
theorem dX6_readRiver_4 : decode cX6_readRiver 4 = .ok (.aload_n 0, 1) := by decide +kernel
theorem dX6_readRiver_5 : decode cX6_readRiver 5 = .ok (.invokevirtual 55, 3) := by decide +kernel
theorem dX6_readRiver_8 : decode cX6_readRiver 8 = .ok (.bipush 114, 2) := by decide +kernel
theorem dX6_readRiver_10 : decode cX6_readRiver 10 = .ok (.if_icmp .eq 12, 3) := by decide +kernel
theorem dX6_readRiver_13 : decode cX6_readRiver 13 = .ok (.aload_n 0, 1) := by decide +kernel
theorem dX6_readRiver_14 : decode cX6_readRiver 14 = .ok (.aload_n 0, 1) := by decide +kernel
theorem dX6_readRiver_15 : decode cX6_readRiver 15 = .ok (.getfield 29, 3) := by decide +kernel
theorem dX6_readRiver_18 : decode cX6_readRiver 18 = .ok (.putfield 35, 3) := by decide +kernel
theorem dX6_readRiver_21 : decode cX6_readRiver 21 = .ok (.return_, 1) := by decide +kernel
theorem dX6_readRiver_22 : decode cX6_readRiver 22 = .ok (.aload_n 0, 1) := by decide +kernel
theorem dX6_readRiver_23 : decode cX6_readRiver 23 = .ok (.dup, 1) := by decide +kernel
theorem dX6_readRiver_24 : decode cX6_readRiver 24 = .ok (.getfield 29, 3) := by decide +kernel
theorem dX6_readRiver_27 : decode cX6_readRiver 27 = .ok (.iconst 1, 1) := by decide +kernel
theorem dX6_readRiver_28 : decode cX6_readRiver 28 = .ok (.iadd, 1) := by decide +kernel
theorem dX6_readRiver_29 : decode cX6_readRiver 29 = .ok (.putfield 29, 3) := by decide +kernel
theorem dX6_readRiver_32 : decode cX6_readRiver 32 = .ok (.aload_n 0, 1) := by decide +kernel
theorem dX6_readRiver_33 : decode cX6_readRiver 33 = .ok (.getfield 15, 3) := by decide +kernel
theorem dX6_readRiver_36 : decode cX6_readRiver 36 = .ok (.iconst 3, 1) := by decide +kernel
theorem dX6_readRiver_37 : decode cX6_readRiver 37 = .ok (.aload_n 0, 1) := by decide +kernel
theorem dX6_readRiver_38 : decode cX6_readRiver 38 = .ok (.iconst 1, 1) := by decide +kernel
theorem dX6_readRiver_39 : decode cX6_readRiver 39 = .ok (.bipush 9, 2) := by decide +kernel
theorem dX6_readRiver_41 : decode cX6_readRiver 41 = .ok (.invokevirtual 59, 3) := by decide +kernel
theorem dX6_readRiver_44 : decode cX6_readRiver 44 = .ok (.imul, 1) := by decide +kernel
theorem dX6_readRiver_45 : decode cX6_readRiver 45 = .ok (.putfield 63, 3) := by decide +kernel
theorem dX6_readRiver_48 : decode cX6_readRiver 48 = .ok (.return_, 1) := by decide +kernel
theorem dX6_readItem_0 : decode cX6_readItem 0 = .ok (.aload_n 0, 1) := by decide +kernel
theorem dX6_readItem_1 : decode cX6_readItem 1 = .ok (.invokevirtual 55, 3) := by decide +kernel
theorem dX6_readItem_4 : decode cX6_readItem 4 = .ok (.bipush 119, 2) := by decide +kernel
theorem dX6_readItem_6 : decode cX6_readItem 6 = .ok (.if_icmp .ne 8, 3) := by decide +kernel
theorem dX6_readItem_9 : decode cX6_readItem 9 = .ok (.aload_n 0, 1) := by decide +kernel
theorem dX6_readItem_10 : decode cX6_readItem 10 = .ok (.invokevirtual 66, 3) := by decide +kernel
theorem dX6_readItem_13 : decode cX6_readItem 13 = .ok (.return_, 1) := by decide +kernel
theorem dX6_readItem_14 : decode cX6_readItem 14 = .ok (.aload_n 0, 1) := by decide +kernel
theorem dX6_readItem_15 : decode cX6_readItem 15 = .ok (.invokevirtual 55, 3) := by decide +kernel
theorem dX6_readItem_18 : decode cX6_readItem 18 = .ok (.invokestatic 69, 3) := by decide +kernel
theorem dX6_readItem_21 : decode cX6_readItem 21 = .ok (.istore_n 1, 1) := by decide +kernel
theorem dX6_readItem_22 : decode cX6_readItem 22 = .ok (.iload_n 1, 1) := by decide +kernel
theorem dX6_readItem_23 : decode cX6_readItem 23 = .ok (.bipush (-9), 2) := by decide +kernel
theorem dX6_readItem_25 : decode cX6_readItem 25 = .ok (.if_icmp .eq 21, 3) := by decide +kernel
theorem dX6_readItem_28 : decode cX6_readItem 28 = .ok (.aload_n 0, 1) := by decide +kernel
theorem dX6_readItem_29 : decode cX6_readItem 29 = .ok (.getfield 15, 3) := by decide +kernel
theorem dX6_readItem_32 : decode cX6_readItem 32 = .ok (.getfield 52, 3) := by decide +kernel
theorem dX6_readItem_35 : decode cX6_readItem 35 = .ok (.iconst 5, 1) := by decide +kernel
theorem dX6_readItem_36 : decode cX6_readItem 36 = .ok (.if_icmp .ge 10, 3) := by decide +kernel
theorem dX6_readItem_39 : decode cX6_readItem 39 = .ok (.aload_n 0, 1) := by decide +kernel
theorem dX6_readItem_40 : decode cX6_readItem 40 = .ok (.getfield 32, 3) := by decide +kernel
theorem dX6_readItem_43 : decode cX6_readItem 43 = .ok (.ifCond .le 12, 3) := by decide +kernel
theorem dX6_readItem_46 : decode cX6_readItem 46 = .ok (.aload_n 0, 1) := by decide +kernel
theorem dX6_readItem_47 : decode cX6_readItem 47 = .ok (.aload_n 0, 1) := by decide +kernel
theorem dX6_readItem_48 : decode cX6_readItem 48 = .ok (.getfield 29, 3) := by decide +kernel
theorem dX6_readItem_51 : decode cX6_readItem 51 = .ok (.putfield 35, 3) := by decide +kernel
theorem dX6_readItem_54 : decode cX6_readItem 54 = .ok (.return_, 1) := by decide +kernel
theorem dX6_readItem_55 : decode cX6_readItem 55 = .ok (.aload_n 0, 1) := by decide +kernel
theorem dX6_readItem_56 : decode cX6_readItem 56 = .ok (.iload_n 1, 1) := by decide +kernel
theorem dX6_readItem_57 : decode cX6_readItem 57 = .ok (.invokevirtual 73, 3) := by decide +kernel
theorem dX6_readItem_60 : decode cX6_readItem 60 = .ok (.return_, 1) := by decide +kernel
theorem dX6_readArm_0 : decode cX6_readArm 0 = .ok (.aload_n 0, 1) := by decide +kernel
theorem dX6_readArm_1 : decode cX6_readArm 1 = .ok (.dup, 1) := by decide +kernel
theorem dX6_readArm_2 : decode cX6_readArm 2 = .ok (.getfield 29, 3) := by decide +kernel
theorem dX6_readArm_5 : decode cX6_readArm 5 = .ok (.iconst 1, 1) := by decide +kernel
theorem dX6_readArm_6 : decode cX6_readArm 6 = .ok (.iadd, 1) := by decide +kernel
theorem dX6_readArm_7 : decode cX6_readArm 7 = .ok (.putfield 29, 3) := by decide +kernel
theorem dX6_readArm_10 : decode cX6_readArm 10 = .ok (.aload_n 0, 1) := by decide +kernel
theorem dX6_readArm_11 : decode cX6_readArm 11 = .ok (.getfield 15, 3) := by decide +kernel
theorem dX6_readArm_14 : decode cX6_readArm 14 = .ok (.getfield 52, 3) := by decide +kernel
theorem dX6_readArm_17 : decode cX6_readArm 17 = .ok (.istore_n 2, 1) := by decide +kernel
theorem dX6_readArm_18 : decode cX6_readArm 18 = .ok (.aload_n 0, 1) := by decide +kernel
theorem dX6_readArm_19 : decode cX6_readArm 19 = .ok (.getfield 15, 3) := by decide +kernel
theorem dX6_readArm_22 : decode cX6_readArm 22 = .ok (.getfield 77, 3) := by decide +kernel
theorem dX6_readArm_25 : decode cX6_readArm 25 = .ok (.iload_n 2, 1) := by decide +kernel
theorem dX6_readArm_26 : decode cX6_readArm 26 = .ok (.iload_n 1, 1) := by decide +kernel
theorem dX6_readArm_27 : decode cX6_readArm 27 = .ok (.iastore, 1) := by decide +kernel
theorem dX6_readArm_28 : decode cX6_readArm 28 = .ok (.aload_n 0, 1) := by decide +kernel
theorem dX6_readArm_29 : decode cX6_readArm 29 = .ok (.getfield 15, 3) := by decide +kernel
theorem dX6_readArm_32 : decode cX6_readArm 32 = .ok (.getfield 80, 3) := by decide +kernel
theorem dX6_readArm_35 : decode cX6_readArm 35 = .ok (.iload_n 2, 1) := by decide +kernel
theorem dX6_readArm_36 : decode cX6_readArm 36 = .ok (.aload_n 0, 1) := by decide +kernel
theorem dX6_readArm_37 : decode cX6_readArm 37 = .ok (.iconst 1, 1) := by decide +kernel
theorem dX6_readArm_38 : decode cX6_readArm 38 = .ok (.bipush 9, 2) := by decide +kernel
theorem dX6_readArm_40 : decode cX6_readArm 40 = .ok (.invokevirtual 59, 3) := by decide +kernel
theorem dX6_readArm_43 : decode cX6_readArm 43 = .ok (.iastore, 1) := by decide +kernel
theorem dX6_readArm_44 : decode cX6_readArm 44 = .ok (.aload_n 0, 1) := by decide +kernel
theorem dX6_readArm_45 : decode cX6_readArm 45 = .ok (.getfield 15, 3) := by decide +kernel
theorem dX6_readArm_48 : decode cX6_readArm 48 = .ok (.getfield 83, 3) := by decide +kernel
theorem dX6_readArm_51 : decode cX6_readArm 51 = .ok (.iload_n 2, 1) := by decide +kernel
theorem dX6_readArm_52 : decode cX6_readArm 52 = .ok (.aload_n 0, 1) := by decide +kernel
theorem dX6_readArm_53 : decode cX6_readArm 53 = .ok (.iconst 0, 1) := by decide +kernel
theorem dX6_readArm_54 : decode cX6_readArm 54 = .ok (.bipush 9, 2) := by decide +kernel
theorem dX6_readArm_56 : decode cX6_readArm 56 = .ok (.invokevirtual 59, 3) := by decide +kernel
theorem dX6_readArm_59 : decode cX6_readArm 59 = .ok (.iastore, 1) := by decide +kernel
theorem dX6_readArm_60 : decode cX6_readArm 60 = .ok (.aload_n 0, 1) := by decide +kernel
theorem dX6_readArm_61 : decode cX6_readArm 61 = .ok (.getfield 15, 3) := by decide +kernel
theorem dX6_readArm_64 : decode cX6_readArm 64 = .ok (.getfield 86, 3) := by decide +kernel
theorem dX6_readArm_67 : decode cX6_readArm 67 = .ok (.iload_n 2, 1) := by decide +kernel
theorem dX6_readArm_68 : decode cX6_readArm 68 = .ok (.aload_n 0, 1) := by decide +kernel
theorem dX6_readArm_69 : decode cX6_readArm 69 = .ok (.iconst 1, 1) := by decide +kernel
theorem dX6_readArm_70 : decode cX6_readArm 70 = .ok (.bipush 6, 2) := by decide +kernel
theorem dX6_readArm_72 : decode cX6_readArm 72 = .ok (.invokevirtual 59, 3) := by decide +kernel
theorem dX6_readArm_75 : decode cX6_readArm 75 = .ok (.iastore, 1) := by decide +kernel
theorem dX6_readArm_76 : decode cX6_readArm 76 = .ok (.aload_n 0, 1) := by decide +kernel
theorem dX6_readArm_77 : decode cX6_readArm 77 = .ok (.getfield 15, 3) := by decide +kernel
theorem dX6_readArm_80 : decode cX6_readArm 80 = .ok (.getfield 89, 3) := by decide +kernel
theorem dX6_readArm_83 : decode cX6_readArm 83 = .ok (.iload_n 2, 1) := by decide +kernel
theorem dX6_readArm_84 : decode cX6_readArm 84 = .ok (.aload_n 0, 1) := by decide +kernel
theorem dX6_readArm_85 : decode cX6_readArm 85 = .ok (.iconst 0, 1) := by decide +kernel
theorem dX6_readArm_86 : decode cX6_readArm 86 = .ok (.aload_n 0, 1) := by decide +kernel
theorem dX6_readArm_87 : decode cX6_readArm 87 = .ok (.getfield 15, 3) := by decide +kernel
theorem dX6_readArm_90 : decode cX6_readArm 90 = .ok (.getfield 86, 3) := by decide +kernel
theorem dX6_readArm_93 : decode cX6_readArm 93 = .ok (.iload_n 2, 1) := by decide +kernel
theorem dX6_readArm_94 : decode cX6_readArm 94 = .ok (.iaload, 1) := by decide +kernel
theorem dX6_readArm_95 : decode cX6_readArm 95 = .ok (.iconst 1, 1) := by decide +kernel
theorem dX6_readArm_96 : decode cX6_readArm 96 = .ok (.isub, 1) := by decide +kernel
theorem dX6_readArm_97 : decode cX6_readArm 97 = .ok (.invokevirtual 59, 3) := by decide +kernel
theorem dX6_readArm_100 : decode cX6_readArm 100 = .ok (.iastore, 1) := by decide +kernel
theorem dX6_readArm_101 : decode cX6_readArm 101 = .ok (.aload_n 0, 1) := by decide +kernel
theorem dX6_readArm_102 : decode cX6_readArm 102 = .ok (.getfield 15, 3) := by decide +kernel
theorem dX6_readArm_105 : decode cX6_readArm 105 = .ok (.dup, 1) := by decide +kernel
theorem dX6_readArm_106 : decode cX6_readArm 106 = .ok (.getfield 52, 3) := by decide +kernel
theorem dX6_readArm_109 : decode cX6_readArm 109 = .ok (.iconst 1, 1) := by decide +kernel
theorem dX6_readArm_110 : decode cX6_readArm 110 = .ok (.iadd, 1) := by decide +kernel
theorem dX6_readArm_111 : decode cX6_readArm 111 = .ok (.putfield 52, 3) := by decide +kernel
theorem dX6_readArm_114 : decode cX6_readArm 114 = .ok (.return_, 1) := by decide +kernel
theorem dX6_readWait_0 : decode cX6_readWait 0 = .ok (.aload_n 0, 1) := by decide +kernel
theorem dX6_readWait_1 : decode cX6_readWait 1 = .ok (.getfield 15, 3) := by decide +kernel
theorem dX6_readWait_4 : decode cX6_readWait 4 = .ok (.getfield 52, 3) := by decide +kernel
theorem dX6_readWait_7 : decode cX6_readWait 7 = .ok (.ifCond .eq 12, 3) := by decide +kernel
theorem dX6_readWait_10 : decode cX6_readWait 10 = .ok (.aload_n 0, 1) := by decide +kernel
theorem dX6_readWait_11 : decode cX6_readWait 11 = .ok (.getfield 32, 3) := by decide +kernel
theorem dX6_readWait_14 : decode cX6_readWait 14 = .ok (.bipush 8, 2) := by decide +kernel
theorem dX6_readWait_16 : decode cX6_readWait 16 = .ok (.if_icmp .lt 12, 3) := by decide +kernel
theorem dX6_readWait_19 : decode cX6_readWait 19 = .ok (.aload_n 0, 1) := by decide +kernel
theorem dX6_readWait_20 : decode cX6_readWait 20 = .ok (.aload_n 0, 1) := by decide +kernel
theorem dX6_readWait_21 : decode cX6_readWait 21 = .ok (.getfield 29, 3) := by decide +kernel
theorem dX6_readWait_24 : decode cX6_readWait 24 = .ok (.putfield 35, 3) := by decide +kernel
theorem dX6_readWait_27 : decode cX6_readWait 27 = .ok (.return_, 1) := by decide +kernel
theorem dX6_readWait_28 : decode cX6_readWait 28 = .ok (.aload_n 0, 1) := by decide +kernel
theorem dX6_readWait_29 : decode cX6_readWait 29 = .ok (.dup, 1) := by decide +kernel
theorem dX6_readWait_30 : decode cX6_readWait 30 = .ok (.getfield 29, 3) := by decide +kernel
theorem dX6_readWait_33 : decode cX6_readWait 33 = .ok (.iconst 1, 1) := by decide +kernel
theorem dX6_readWait_34 : decode cX6_readWait 34 = .ok (.iadd, 1) := by decide +kernel
theorem dX6_readWait_35 : decode cX6_readWait 35 = .ok (.putfield 29, 3) := by decide +kernel
theorem dX6_readWait_38 : decode cX6_readWait 38 = .ok (.aload_n 0, 1) := by decide +kernel
theorem dX6_readWait_39 : decode cX6_readWait 39 = .ok (.iconst 0, 1) := by decide +kernel
theorem dX6_readWait_40 : decode cX6_readWait 40 = .ok (.aload_n 0, 1) := by decide +kernel
theorem dX6_readWait_41 : decode cX6_readWait 41 = .ok (.getfield 15, 3) := by decide +kernel
theorem dX6_readWait_44 : decode cX6_readWait 44 = .ok (.getfield 52, 3) := by decide +kernel
theorem dX6_readWait_47 : decode cX6_readWait 47 = .ok (.iconst 1, 1) := by decide +kernel
theorem dX6_readWait_48 : decode cX6_readWait 48 = .ok (.isub, 1) := by decide +kernel
theorem dX6_readWait_49 : decode cX6_readWait 49 = .ok (.invokevirtual 59, 3) := by decide +kernel
theorem dX6_readWait_52 : decode cX6_readWait 52 = .ok (.istore_n 1, 1) := by decide +kernel
theorem dX6_readWait_53 : decode cX6_readWait 53 = .ok (.aload_n 0, 1) := by decide +kernel
theorem dX6_readWait_54 : decode cX6_readWait 54 = .ok (.getfield 29, 3) := by decide +kernel
theorem dX6_readWait_57 : decode cX6_readWait 57 = .ok (.istore_n 2, 1) := by decide +kernel
theorem dX6_readWait_58 : decode cX6_readWait 58 = .ok (.aload_n 0, 1) := by decide +kernel
theorem dX6_readWait_59 : decode cX6_readWait 59 = .ok (.iconst 0, 1) := by decide +kernel
theorem dX6_readWait_60 : decode cX6_readWait 60 = .ok (.aload_n 0, 1) := by decide +kernel
theorem dX6_readWait_61 : decode cX6_readWait 61 = .ok (.getfield 15, 3) := by decide +kernel
theorem dX6_readWait_64 : decode cX6_readWait 64 = .ok (.getfield 52, 3) := by decide +kernel
theorem dX6_readWait_67 : decode cX6_readWait 67 = .ok (.iconst 1, 1) := by decide +kernel
theorem dX6_readWait_68 : decode cX6_readWait 68 = .ok (.isub, 1) := by decide +kernel
theorem dX6_readWait_69 : decode cX6_readWait 69 = .ok (.invokevirtual 59, 3) := by decide +kernel
theorem dX6_readWait_72 : decode cX6_readWait 72 = .ok (.istore_n 3, 1) := by decide +kernel
theorem dX6_readWait_73 : decode cX6_readWait 73 = .ok (.aload_n 0, 1) := by decide +kernel
theorem dX6_readWait_74 : decode cX6_readWait 74 = .ok (.getfield 35, 3) := by decide +kernel
theorem dX6_readWait_77 : decode cX6_readWait 77 = .ok (.bipush (-9), 2) := by decide +kernel
theorem dX6_readWait_79 : decode cX6_readWait 79 = .ok (.if_icmp .eq 4, 3) := by decide +kernel
theorem dX6_readWait_82 : decode cX6_readWait 82 = .ok (.return_, 1) := by decide +kernel
theorem dX6_readWait_83 : decode cX6_readWait 83 = .ok (.iload_n 1, 1) := by decide +kernel
theorem dX6_readWait_84 : decode cX6_readWait 84 = .ok (.iload_n 3, 1) := by decide +kernel
theorem dX6_readWait_85 : decode cX6_readWait 85 = .ok (.if_icmp .eq 19, 3) := by decide +kernel
theorem dX6_readWait_88 : decode cX6_readWait 88 = .ok (.aload_n 0, 1) := by decide +kernel
theorem dX6_readWait_89 : decode cX6_readWait 89 = .ok (.getfield 15, 3) := by decide +kernel
theorem dX6_readWait_92 : decode cX6_readWait 92 = .ok (.getfield 92, 3) := by decide +kernel
theorem dX6_readWait_95 : decode cX6_readWait 95 = .ok (.iload_n 1, 1) := by decide +kernel
theorem dX6_readWait_96 : decode cX6_readWait 96 = .ok (.iaload, 1) := by decide +kernel
theorem dX6_readWait_97 : decode cX6_readWait 97 = .ok (.iload_n 3, 1) := by decide +kernel
theorem dX6_readWait_98 : decode cX6_readWait 98 = .ok (.invokestatic 95, 3) := by decide +kernel
theorem dX6_readWait_101 : decode cX6_readWait 101 = .ok (.ifCond .eq 9, 3) := by decide +kernel
theorem dX6_readWait_104 : decode cX6_readWait 104 = .ok (.aload_n 0, 1) := by decide +kernel
theorem dX6_readWait_105 : decode cX6_readWait 105 = .ok (.iload_n 2, 1) := by decide +kernel
theorem dX6_readWait_106 : decode cX6_readWait 106 = .ok (.putfield 35, 3) := by decide +kernel
theorem dX6_readWait_109 : decode cX6_readWait 109 = .ok (.return_, 1) := by decide +kernel
theorem dX6_readWait_110 : decode cX6_readWait 110 = .ok (.aload_n 0, 1) := by decide +kernel
theorem dX6_readWait_111 : decode cX6_readWait 111 = .ok (.getfield 15, 3) := by decide +kernel
theorem dX6_readWait_114 : decode cX6_readWait 114 = .ok (.getfield 92, 3) := by decide +kernel
theorem dX6_readWait_117 : decode cX6_readWait 117 = .ok (.iload_n 1, 1) := by decide +kernel
theorem dX6_readWait_118 : decode cX6_readWait 118 = .ok (.dup2, 1) := by decide +kernel
theorem dX6_readWait_119 : decode cX6_readWait 119 = .ok (.iaload, 1) := by decide +kernel
theorem dX6_readWait_120 : decode cX6_readWait 120 = .ok (.iconst 1, 1) := by decide +kernel
theorem dX6_readWait_121 : decode cX6_readWait 121 = .ok (.iload_n 3, 1) := by decide +kernel
theorem dX6_readWait_122 : decode cX6_readWait 122 = .ok (.ishl, 1) := by decide +kernel
theorem dX6_readWait_123 : decode cX6_readWait 123 = .ok (.ior, 1) := by decide +kernel
theorem dX6_readWait_124 : decode cX6_readWait 124 = .ok (.iastore, 1) := by decide +kernel
theorem dX6_readWait_125 : decode cX6_readWait 125 = .ok (.aload_n 0, 1) := by decide +kernel
theorem dX6_readWait_126 : decode cX6_readWait 126 = .ok (.dup, 1) := by decide +kernel
theorem dX6_readWait_127 : decode cX6_readWait 127 = .ok (.getfield 32, 3) := by decide +kernel
theorem dX6_readWait_130 : decode cX6_readWait 130 = .ok (.iconst 1, 1) := by decide +kernel
theorem dX6_readWait_131 : decode cX6_readWait 131 = .ok (.iadd, 1) := by decide +kernel
theorem dX6_readWait_132 : decode cX6_readWait 132 = .ok (.putfield 32, 3) := by decide +kernel
theorem dX6_readWait_135 : decode cX6_readWait 135 = .ok (.return_, 1) := by decide +kernel
theorem dX6_readFigure_0 : decode cX6_readFigure 0 = .ok (.aload_n 0, 1) := by decide +kernel
theorem dX6_readFigure_1 : decode cX6_readFigure 1 = .ok (.getfield 35, 3) := by decide +kernel
theorem dX6_readFigure_4 : decode cX6_readFigure 4 = .ok (.bipush (-9), 2) := by decide +kernel
theorem dX6_readFigure_6 : decode cX6_readFigure 6 = .ok (.if_icmp .eq 5, 3) := by decide +kernel
theorem dX6_readFigure_9 : decode cX6_readFigure 9 = .ok (.iconst 0, 1) := by decide +kernel
theorem dX6_readFigure_10 : decode cX6_readFigure 10 = .ok (.ireturn, 1) := by decide +kernel
theorem dX6_readFigure_11 : decode cX6_readFigure 11 = .ok (.aload_n 0, 1) := by decide +kernel
theorem dX6_readFigure_12 : decode cX6_readFigure 12 = .ok (.invokevirtual 55, 3) := by decide +kernel
theorem dX6_readFigure_15 : decode cX6_readFigure 15 = .ok (.bipush 48, 2) := by decide +kernel
theorem dX6_readFigure_17 : decode cX6_readFigure 17 = .ok (.isub, 1) := by decide +kernel
theorem dX6_readFigure_18 : decode cX6_readFigure 18 = .ok (.istore_n 3, 1) := by decide +kernel
theorem dX6_readFigure_19 : decode cX6_readFigure 19 = .ok (.iload_n 3, 1) := by decide +kernel
theorem dX6_readFigure_20 : decode cX6_readFigure 20 = .ok (.iload_n 1, 1) := by decide +kernel
theorem dX6_readFigure_21 : decode cX6_readFigure 21 = .ok (.if_icmp .lt 8, 3) := by decide +kernel
theorem dX6_readFigure_24 : decode cX6_readFigure 24 = .ok (.iload_n 3, 1) := by decide +kernel
theorem dX6_readFigure_25 : decode cX6_readFigure 25 = .ok (.iload_n 2, 1) := by decide +kernel
theorem dX6_readFigure_26 : decode cX6_readFigure 26 = .ok (.if_icmp .le 13, 3) := by decide +kernel
theorem dX6_readFigure_29 : decode cX6_readFigure 29 = .ok (.aload_n 0, 1) := by decide +kernel
theorem dX6_readFigure_30 : decode cX6_readFigure 30 = .ok (.aload_n 0, 1) := by decide +kernel
theorem dX6_readFigure_31 : decode cX6_readFigure 31 = .ok (.getfield 29, 3) := by decide +kernel
theorem dX6_readFigure_34 : decode cX6_readFigure 34 = .ok (.putfield 35, 3) := by decide +kernel
theorem dX6_readFigure_37 : decode cX6_readFigure 37 = .ok (.iconst 0, 1) := by decide +kernel
theorem dX6_readFigure_38 : decode cX6_readFigure 38 = .ok (.ireturn, 1) := by decide +kernel
theorem dX6_readFigure_39 : decode cX6_readFigure 39 = .ok (.aload_n 0, 1) := by decide +kernel
theorem dX6_readFigure_40 : decode cX6_readFigure 40 = .ok (.dup, 1) := by decide +kernel
theorem dX6_readFigure_41 : decode cX6_readFigure 41 = .ok (.getfield 29, 3) := by decide +kernel
theorem dX6_readFigure_44 : decode cX6_readFigure 44 = .ok (.iconst 1, 1) := by decide +kernel
theorem dX6_readFigure_45 : decode cX6_readFigure 45 = .ok (.iadd, 1) := by decide +kernel
theorem dX6_readFigure_46 : decode cX6_readFigure 46 = .ok (.putfield 29, 3) := by decide +kernel
theorem dX6_readFigure_49 : decode cX6_readFigure 49 = .ok (.iload_n 3, 1) := by decide +kernel
theorem dX6_readFigure_50 : decode cX6_readFigure 50 = .ok (.ireturn, 1) := by decide +kernel
theorem dX7_init_0 : decode cX7_init 0 = .ok (.aload_n 0, 1) := by decide +kernel
theorem dX7_init_1 : decode cX7_init 1 = .ok (.invokespecial 3, 3) := by decide +kernel
theorem dX7_init_4 : decode cX7_init 4 = .ok (.aload_n 0, 1) := by decide +kernel
theorem dX7_init_5 : decode cX7_init 5 = .ok (.iload_n 2, 1) := by decide +kernel
theorem dX7_init_6 : decode cX7_init 6 = .ok (.putfield 9, 3) := by decide +kernel
theorem dX7_init_9 : decode cX7_init 9 = .ok (.aload_n 0, 1) := by decide +kernel
theorem dX7_init_10 : decode cX7_init 10 = .ok (.iload_n 1, 1) := by decide +kernel
theorem dX7_init_11 : decode cX7_init 11 = .ok (.iload_n 2, 1) := by decide +kernel
theorem dX7_init_12 : decode cX7_init 12 = .ok (.multianewarray 15 2, 4) := by decide +kernel
theorem dX7_init_16 : decode cX7_init 16 = .ok (.putfield 17, 3) := by decide +kernel
theorem dX7_init_19 : decode cX7_init 19 = .ok (.aload_n 0, 1) := by decide +kernel
theorem dX7_init_20 : decode cX7_init 20 = .ok (.iload_n 1, 1) := by decide +kernel
theorem dX7_init_21 : decode cX7_init 21 = .ok (.newarray .int, 2) := by decide +kernel
theorem dX7_init_23 : decode cX7_init 23 = .ok (.putfield 20, 3) := by decide +kernel
theorem dX7_init_26 : decode cX7_init 26 = .ok (.aload_n 0, 1) := by decide +kernel
theorem dX7_init_27 : decode cX7_init 27 = .ok (.getfield 20, 3) := by decide +kernel
theorem dX7_init_30 : decode cX7_init 30 = .ok (.iconst (-1), 1) := by decide +kernel
theorem dX7_init_31 : decode cX7_init 31 = .ok (.invokestatic 24, 3) := by decide +kernel
theorem dX7_init_34 : decode cX7_init 34 = .ok (.return_, 1) := by decide +kernel
theorem dX7_knows_0 : decode cX7_knows 0 = .ok (.iload_n 1, 1) := by decide +kernel
theorem dX7_knows_1 : decode cX7_knows 1 = .ok (.ifCond .lt 16, 3) := by decide +kernel
theorem dX7_knows_4 : decode cX7_knows 4 = .ok (.iload_n 1, 1) := by decide +kernel
theorem dX7_knows_5 : decode cX7_knows 5 = .ok (.aload_n 0, 1) := by decide +kernel
theorem dX7_knows_6 : decode cX7_knows 6 = .ok (.getfield 20, 3) := by decide +kernel
theorem dX7_knows_9 : decode cX7_knows 9 = .ok (.arraylength, 1) := by decide +kernel
theorem dX7_knows_10 : decode cX7_knows 10 = .ok (.if_icmp .ge 7, 3) := by decide +kernel
theorem dX7_knows_13 : decode cX7_knows 13 = .ok (.iconst 1, 1) := by decide +kernel
theorem dX7_knows_14 : decode cX7_knows 14 = .ok (.goto 4, 3) := by decide +kernel
theorem dX7_knows_17 : decode cX7_knows 17 = .ok (.iconst 0, 1) := by decide +kernel
theorem dX7_knows_18 : decode cX7_knows 18 = .ok (.ireturn, 1) := by decide +kernel
theorem dX7_isThere_0 : decode cX7_isThere 0 = .ok (.aload_n 0, 1) := by decide +kernel
theorem dX7_isThere_1 : decode cX7_isThere 1 = .ok (.iload_n 1, 1) := by decide +kernel
theorem dX7_isThere_2 : decode cX7_isThere 2 = .ok (.invokevirtual 30, 3) := by decide +kernel
theorem dX7_isThere_5 : decode cX7_isThere 5 = .ok (.ifCond .eq 17, 3) := by decide +kernel
theorem dX7_isThere_8 : decode cX7_isThere 8 = .ok (.aload_n 0, 1) := by decide +kernel
theorem dX7_isThere_9 : decode cX7_isThere 9 = .ok (.getfield 20, 3) := by decide +kernel
theorem dX7_isThere_12 : decode cX7_isThere 12 = .ok (.iload_n 1, 1) := by decide +kernel
theorem dX7_isThere_13 : decode cX7_isThere 13 = .ok (.iaload, 1) := by decide +kernel
theorem dX7_isThere_14 : decode cX7_isThere 14 = .ok (.iconst (-1), 1) := by decide +kernel
theorem dX7_isThere_15 : decode cX7_isThere 15 = .ok (.if_icmp .eq 7, 3) := by decide +kernel
theorem dX7_isThere_18 : decode cX7_isThere 18 = .ok (.iconst 1, 1) := by decide +kernel
theorem dX7_isThere_19 : decode cX7_isThere 19 = .ok (.goto 4, 3) := by decide +kernel
theorem dX7_isThere_22 : decode cX7_isThere 22 = .ok (.iconst 0, 1) := by decide +kernel
theorem dX7_isThere_23 : decode cX7_isThere 23 = .ok (.ireturn, 1) := by decide +kernel
theorem dX7_hasStretch_0 : decode cX7_hasStretch 0 = .ok (.aload_n 0, 1) := by decide +kernel
theorem dX7_hasStretch_1 : decode cX7_hasStretch 1 = .ok (.iload_n 1, 1) := by decide +kernel
theorem dX7_hasStretch_2 : decode cX7_hasStretch 2 = .ok (.invokevirtual 30, 3) := by decide +kernel
theorem dX7_hasStretch_5 : decode cX7_hasStretch 5 = .ok (.ifCond .eq 27, 3) := by decide +kernel
theorem dX7_hasStretch_8 : decode cX7_hasStretch 8 = .ok (.iload_n 2, 1) := by decide +kernel
theorem dX7_hasStretch_9 : decode cX7_hasStretch 9 = .ok (.ifCond .lt 23, 3) := by decide +kernel
theorem dX7_hasStretch_12 : decode cX7_hasStretch 12 = .ok (.iload_n 3, 1) := by decide +kernel
theorem dX7_hasStretch_13 : decode cX7_hasStretch 13 = .ok (.ifCond .lt 19, 3) := by decide +kernel
theorem dX7_hasStretch_16 : decode cX7_hasStretch 16 = .ok (.iload_n 2, 1) := by decide +kernel
theorem dX7_hasStretch_17 : decode cX7_hasStretch 17 = .ok (.aload_n 0, 1) := by decide +kernel
theorem dX7_hasStretch_18 : decode cX7_hasStretch 18 = .ok (.getfield 20, 3) := by decide +kernel
theorem dX7_hasStretch_21 : decode cX7_hasStretch 21 = .ok (.iload_n 1, 1) := by decide +kernel
theorem dX7_hasStretch_22 : decode cX7_hasStretch 22 = .ok (.iaload, 1) := by decide +kernel
theorem dX7_hasStretch_23 : decode cX7_hasStretch 23 = .ok (.iload_n 3, 1) := by decide +kernel
theorem dX7_hasStretch_24 : decode cX7_hasStretch 24 = .ok (.isub, 1) := by decide +kernel
theorem dX7_hasStretch_25 : decode cX7_hasStretch 25 = .ok (.if_icmp .gt 7, 3) := by decide +kernel
theorem dX7_hasStretch_28 : decode cX7_hasStretch 28 = .ok (.iconst 1, 1) := by decide +kernel
theorem dX7_hasStretch_29 : decode cX7_hasStretch 29 = .ok (.goto 4, 3) := by decide +kernel
theorem dX7_hasStretch_32 : decode cX7_hasStretch 32 = .ok (.iconst 0, 1) := by decide +kernel
theorem dX7_hasStretch_33 : decode cX7_hasStretch 33 = .ok (.ireturn, 1) := by decide +kernel
theorem dX7_sizeOf_0 : decode cX7_sizeOf 0 = .ok (.aload_n 0, 1) := by decide +kernel
theorem dX7_sizeOf_1 : decode cX7_sizeOf 1 = .ok (.iload_n 1, 1) := by decide +kernel
theorem dX7_sizeOf_2 : decode cX7_sizeOf 2 = .ok (.invokevirtual 30, 3) := by decide +kernel
theorem dX7_sizeOf_5 : decode cX7_sizeOf 5 = .ok (.ifCond .eq 12, 3) := by decide +kernel
theorem dX7_sizeOf_8 : decode cX7_sizeOf 8 = .ok (.aload_n 0, 1) := by decide +kernel
theorem dX7_sizeOf_9 : decode cX7_sizeOf 9 = .ok (.getfield 20, 3) := by decide +kernel
theorem dX7_sizeOf_12 : decode cX7_sizeOf 12 = .ok (.iload_n 1, 1) := by decide +kernel
theorem dX7_sizeOf_13 : decode cX7_sizeOf 13 = .ok (.iaload, 1) := by decide +kernel
theorem dX7_sizeOf_14 : decode cX7_sizeOf 14 = .ok (.goto 4, 3) := by decide +kernel
theorem dX7_sizeOf_17 : decode cX7_sizeOf 17 = .ok (.iconst (-1), 1) := by decide +kernel
theorem dX7_sizeOf_18 : decode cX7_sizeOf 18 = .ok (.ireturn, 1) := by decide +kernel
theorem dX7_valueAt_0 : decode cX7_valueAt 0 = .ok (.aload_n 0, 1) := by decide +kernel
theorem dX7_valueAt_1 : decode cX7_valueAt 1 = .ok (.iload_n 1, 1) := by decide +kernel
theorem dX7_valueAt_2 : decode cX7_valueAt 2 = .ok (.iload_n 2, 1) := by decide +kernel
theorem dX7_valueAt_3 : decode cX7_valueAt 3 = .ok (.iconst 1, 1) := by decide +kernel
theorem dX7_valueAt_4 : decode cX7_valueAt 4 = .ok (.invokevirtual 34, 3) := by decide +kernel
theorem dX7_valueAt_7 : decode cX7_valueAt 7 = .ok (.ifCond .eq 14, 3) := by decide +kernel
theorem dX7_valueAt_10 : decode cX7_valueAt 10 = .ok (.aload_n 0, 1) := by decide +kernel
theorem dX7_valueAt_11 : decode cX7_valueAt 11 = .ok (.getfield 17, 3) := by decide +kernel
theorem dX7_valueAt_14 : decode cX7_valueAt 14 = .ok (.iload_n 1, 1) := by decide +kernel
theorem dX7_valueAt_15 : decode cX7_valueAt 15 = .ok (.aaload, 1) := by decide +kernel
theorem dX7_valueAt_16 : decode cX7_valueAt 16 = .ok (.iload_n 2, 1) := by decide +kernel
theorem dX7_valueAt_17 : decode cX7_valueAt 17 = .ok (.iaload, 1) := by decide +kernel
theorem dX7_valueAt_18 : decode cX7_valueAt 18 = .ok (.goto 4, 3) := by decide +kernel
theorem dX7_valueAt_21 : decode cX7_valueAt 21 = .ok (.iconst 0, 1) := by decide +kernel
theorem dX7_valueAt_22 : decode cX7_valueAt 22 = .ok (.ireturn, 1) := by decide +kernel
theorem dX7_setValue_0 : decode cX7_setValue 0 = .ok (.aload_n 0, 1) := by decide +kernel
theorem dX7_setValue_1 : decode cX7_setValue 1 = .ok (.iload_n 1, 1) := by decide +kernel
theorem dX7_setValue_2 : decode cX7_setValue 2 = .ok (.iload_n 2, 1) := by decide +kernel
theorem dX7_setValue_3 : decode cX7_setValue 3 = .ok (.iconst 1, 1) := by decide +kernel
theorem dX7_setValue_4 : decode cX7_setValue 4 = .ok (.invokevirtual 34, 3) := by decide +kernel
theorem dX7_setValue_7 : decode cX7_setValue 7 = .ok (.ifCond .eq 12, 3) := by decide +kernel
theorem dX7_setValue_10 : decode cX7_setValue 10 = .ok (.aload_n 0, 1) := by decide +kernel
theorem dX7_setValue_11 : decode cX7_setValue 11 = .ok (.getfield 17, 3) := by decide +kernel
theorem dX7_setValue_14 : decode cX7_setValue 14 = .ok (.iload_n 1, 1) := by decide +kernel
theorem dX7_setValue_15 : decode cX7_setValue 15 = .ok (.aaload, 1) := by decide +kernel
theorem dX7_setValue_16 : decode cX7_setValue 16 = .ok (.iload_n 2, 1) := by decide +kernel
theorem dX7_setValue_17 : decode cX7_setValue 17 = .ok (.iload_n 3, 1) := by decide +kernel
theorem dX7_setValue_18 : decode cX7_setValue 18 = .ok (.iastore, 1) := by decide +kernel
theorem dX7_setValue_19 : decode cX7_setValue 19 = .ok (.return_, 1) := by decide +kernel
theorem dX7_make_0 : decode cX7_make 0 = .ok (.aload_n 0, 1) := by decide +kernel
theorem dX7_make_1 : decode cX7_make 1 = .ok (.iload_n 1, 1) := by decide +kernel
theorem dX7_make_2 : decode cX7_make 2 = .ok (.invokevirtual 30, 3) := by decide +kernel
theorem dX7_make_5 : decode cX7_make 5 = .ok (.ifCond .eq 32, 3) := by decide +kernel
theorem dX7_make_8 : decode cX7_make 8 = .ok (.iload_n 2, 1) := by decide +kernel
theorem dX7_make_9 : decode cX7_make 9 = .ok (.ifCond .lt 28, 3) := by decide +kernel
theorem dX7_make_12 : decode cX7_make 12 = .ok (.iload_n 2, 1) := by decide +kernel
theorem dX7_make_13 : decode cX7_make 13 = .ok (.aload_n 0, 1) := by decide +kernel
theorem dX7_make_14 : decode cX7_make 14 = .ok (.getfield 9, 3) := by decide +kernel
theorem dX7_make_17 : decode cX7_make 17 = .ok (.if_icmp .gt 20, 3) := by decide +kernel
theorem dX7_make_20 : decode cX7_make 20 = .ok (.aload_n 0, 1) := by decide +kernel
theorem dX7_make_21 : decode cX7_make 21 = .ok (.getfield 17, 3) := by decide +kernel
theorem dX7_make_24 : decode cX7_make 24 = .ok (.iload_n 1, 1) := by decide +kernel
theorem dX7_make_25 : decode cX7_make 25 = .ok (.aaload, 1) := by decide +kernel
theorem dX7_make_26 : decode cX7_make 26 = .ok (.iload_n 3, 1) := by decide +kernel
theorem dX7_make_27 : decode cX7_make 27 = .ok (.invokestatic 24, 3) := by decide +kernel
theorem dX7_make_30 : decode cX7_make 30 = .ok (.aload_n 0, 1) := by decide +kernel
theorem dX7_make_31 : decode cX7_make 31 = .ok (.getfield 20, 3) := by decide +kernel
theorem dX7_make_34 : decode cX7_make 34 = .ok (.iload_n 1, 1) := by decide +kernel
theorem dX7_make_35 : decode cX7_make 35 = .ok (.iload_n 2, 1) := by decide +kernel
theorem dX7_make_36 : decode cX7_make 36 = .ok (.iastore, 1) := by decide +kernel
theorem dX7_make_37 : decode cX7_make 37 = .ok (.return_, 1) := by decide +kernel
theorem dX7_drop_0 : decode cX7_drop 0 = .ok (.aload_n 0, 1) := by decide +kernel
theorem dX7_drop_1 : decode cX7_drop 1 = .ok (.iload_n 1, 1) := by decide +kernel
theorem dX7_drop_2 : decode cX7_drop 2 = .ok (.invokevirtual 30, 3) := by decide +kernel
theorem dX7_drop_5 : decode cX7_drop 5 = .ok (.ifCond .eq 10, 3) := by decide +kernel
theorem dX7_drop_8 : decode cX7_drop 8 = .ok (.aload_n 0, 1) := by decide +kernel
theorem dX7_drop_9 : decode cX7_drop 9 = .ok (.getfield 20, 3) := by decide +kernel
theorem dX7_drop_12 : decode cX7_drop 12 = .ok (.iload_n 1, 1) := by decide +kernel
theorem dX7_drop_13 : decode cX7_drop 13 = .ok (.iconst (-1), 1) := by decide +kernel
theorem dX7_drop_14 : decode cX7_drop 14 = .ok (.iastore, 1) := by decide +kernel
theorem dX7_drop_15 : decode cX7_drop 15 = .ok (.return_, 1) := by decide +kernel
theorem dX7_move_0 : decode cX7_move 0 = .ok (.aload_n 0, 1) := by decide +kernel
theorem dX7_move_1 : decode cX7_move 1 = .ok (.iload_n 1, 1) := by decide +kernel
theorem dX7_move_2 : decode cX7_move 2 = .ok (.iload_n 2, 1) := by decide +kernel
theorem dX7_move_3 : decode cX7_move 3 = .ok (.iload 5, 2) := by decide +kernel
theorem dX7_move_5 : decode cX7_move 5 = .ok (.invokevirtual 34, 3) := by decide +kernel
theorem dX7_move_8 : decode cX7_move 8 = .ok (.ifCond .eq 35, 3) := by decide +kernel
theorem dX7_move_11 : decode cX7_move 11 = .ok (.aload_n 0, 1) := by decide +kernel
theorem dX7_move_12 : decode cX7_move 12 = .ok (.iload_n 3, 1) := by decide +kernel
theorem dX7_move_13 : decode cX7_move 13 = .ok (.iload 4, 2) := by decide +kernel
theorem dX7_move_15 : decode cX7_move 15 = .ok (.iload 5, 2) := by decide +kernel
theorem dX7_move_17 : decode cX7_move 17 = .ok (.invokevirtual 34, 3) := by decide +kernel
theorem dX7_move_20 : decode cX7_move 20 = .ok (.ifCond .eq 23, 3) := by decide +kernel
theorem dX7_move_23 : decode cX7_move 23 = .ok (.aload_n 0, 1) := by decide +kernel
theorem dX7_move_24 : decode cX7_move 24 = .ok (.getfield 17, 3) := by decide +kernel
theorem dX7_move_27 : decode cX7_move 27 = .ok (.iload_n 1, 1) := by decide +kernel
theorem dX7_move_28 : decode cX7_move 28 = .ok (.aaload, 1) := by decide +kernel
theorem dX7_move_29 : decode cX7_move 29 = .ok (.iload_n 2, 1) := by decide +kernel
theorem dX7_move_30 : decode cX7_move 30 = .ok (.aload_n 0, 1) := by decide +kernel
theorem dX7_move_31 : decode cX7_move 31 = .ok (.getfield 17, 3) := by decide +kernel
theorem dX7_move_34 : decode cX7_move 34 = .ok (.iload_n 3, 1) := by decide +kernel
theorem dX7_move_35 : decode cX7_move 35 = .ok (.aaload, 1) := by decide +kernel
theorem dX7_move_36 : decode cX7_move 36 = .ok (.iload 4, 2) := by decide +kernel
theorem dX7_move_38 : decode cX7_move 38 = .ok (.iload 5, 2) := by decide +kernel
theorem dX7_move_40 : decode cX7_move 40 = .ok (.invokestatic 38, 3) := by decide +kernel
theorem dX7_move_43 : decode cX7_move 43 = .ok (.return_, 1) := by decide +kernel
theorem dX7_copyOut_0 : decode cX7_copyOut 0 = .ok (.aload_n 2, 1) := by decide +kernel
theorem dX7_copyOut_1 : decode cX7_copyOut 1 = .ok (.arraylength, 1) := by decide +kernel
theorem dX7_copyOut_2 : decode cX7_copyOut 2 = .ok (.iconst 0, 1) := by decide +kernel
theorem dX7_copyOut_3 : decode cX7_copyOut 3 = .ok (.aload_n 0, 1) := by decide +kernel
theorem dX7_copyOut_4 : decode cX7_copyOut 4 = .ok (.iload_n 1, 1) := by decide +kernel
theorem dX7_copyOut_5 : decode cX7_copyOut 5 = .ok (.invokevirtual 44, 3) := by decide +kernel
theorem dX7_copyOut_8 : decode cX7_copyOut 8 = .ok (.invokestatic 48, 3) := by decide +kernel
theorem dX7_copyOut_11 : decode cX7_copyOut 11 = .ok (.invokestatic 54, 3) := by decide +kernel
theorem dX7_copyOut_14 : decode cX7_copyOut 14 = .ok (.istore_n 3, 1) := by decide +kernel
theorem dX7_copyOut_15 : decode cX7_copyOut 15 = .ok (.iconst 0, 1) := by decide +kernel
theorem dX7_copyOut_16 : decode cX7_copyOut 16 = .ok (.istore 4, 2) := by decide +kernel
theorem dX7_copyOut_18 : decode cX7_copyOut 18 = .ok (.iload 4, 2) := by decide +kernel
theorem dX7_copyOut_20 : decode cX7_copyOut 20 = .ok (.iload_n 3, 1) := by decide +kernel
theorem dX7_copyOut_21 : decode cX7_copyOut 21 = .ok (.if_icmp .ge 22, 3) := by decide +kernel
theorem dX7_copyOut_24 : decode cX7_copyOut 24 = .ok (.aload_n 2, 1) := by decide +kernel
theorem dX7_copyOut_25 : decode cX7_copyOut 25 = .ok (.iload 4, 2) := by decide +kernel
theorem dX7_copyOut_27 : decode cX7_copyOut 27 = .ok (.aload_n 0, 1) := by decide +kernel
theorem dX7_copyOut_28 : decode cX7_copyOut 28 = .ok (.getfield 17, 3) := by decide +kernel
theorem dX7_copyOut_31 : decode cX7_copyOut 31 = .ok (.iload_n 1, 1) := by decide +kernel
theorem dX7_copyOut_32 : decode cX7_copyOut 32 = .ok (.aaload, 1) := by decide +kernel
theorem dX7_copyOut_33 : decode cX7_copyOut 33 = .ok (.iload 4, 2) := by decide +kernel
theorem dX7_copyOut_35 : decode cX7_copyOut 35 = .ok (.iaload, 1) := by decide +kernel
theorem dX7_copyOut_36 : decode cX7_copyOut 36 = .ok (.iastore, 1) := by decide +kernel
theorem dX7_copyOut_37 : decode cX7_copyOut 37 = .ok (.iinc 4 1, 3) := by decide +kernel
theorem dX7_copyOut_40 : decode cX7_copyOut 40 = .ok (.goto (-22), 3) := by decide +kernel
theorem dX7_copyOut_43 : decode cX7_copyOut 43 = .ok (.iload_n 3, 1) := by decide +kernel
theorem dX7_copyOut_44 : decode cX7_copyOut 44 = .ok (.ireturn, 1) := by decide +kernel
theorem dX7_sumOf_0 : decode cX7_sumOf 0 = .ok (.lconst 0, 1) := by decide +kernel
theorem dX7_sumOf_1 : decode cX7_sumOf 1 = .ok (.lstore_n 2, 1) := by decide +kernel
theorem dX7_sumOf_2 : decode cX7_sumOf 2 = .ok (.iconst 0, 1) := by decide +kernel
theorem dX7_sumOf_3 : decode cX7_sumOf 3 = .ok (.istore 4, 2) := by decide +kernel
theorem dX7_sumOf_5 : decode cX7_sumOf 5 = .ok (.iload 4, 2) := by decide +kernel
theorem dX7_sumOf_7 : decode cX7_sumOf 7 = .ok (.aload_n 0, 1) := by decide +kernel
theorem dX7_sumOf_8 : decode cX7_sumOf 8 = .ok (.iload_n 1, 1) := by decide +kernel
theorem dX7_sumOf_9 : decode cX7_sumOf 9 = .ok (.invokevirtual 44, 3) := by decide +kernel
theorem dX7_sumOf_12 : decode cX7_sumOf 12 = .ok (.if_icmp .ge 22, 3) := by decide +kernel
theorem dX7_sumOf_15 : decode cX7_sumOf 15 = .ok (.lload_n 2, 1) := by decide +kernel
theorem dX7_sumOf_16 : decode cX7_sumOf 16 = .ok (.aload_n 0, 1) := by decide +kernel
theorem dX7_sumOf_17 : decode cX7_sumOf 17 = .ok (.getfield 17, 3) := by decide +kernel
theorem dX7_sumOf_20 : decode cX7_sumOf 20 = .ok (.iload_n 1, 1) := by decide +kernel
theorem dX7_sumOf_21 : decode cX7_sumOf 21 = .ok (.aaload, 1) := by decide +kernel
theorem dX7_sumOf_22 : decode cX7_sumOf 22 = .ok (.iload 4, 2) := by decide +kernel
theorem dX7_sumOf_24 : decode cX7_sumOf 24 = .ok (.iaload, 1) := by decide +kernel
theorem dX7_sumOf_25 : decode cX7_sumOf 25 = .ok (.i2l, 1) := by decide +kernel
theorem dX7_sumOf_26 : decode cX7_sumOf 26 = .ok (.ladd, 1) := by decide +kernel
theorem dX7_sumOf_27 : decode cX7_sumOf 27 = .ok (.lstore_n 2, 1) := by decide +kernel
theorem dX7_sumOf_28 : decode cX7_sumOf 28 = .ok (.iinc 4 1, 3) := by decide +kernel
theorem dX7_sumOf_31 : decode cX7_sumOf 31 = .ok (.goto (-26), 3) := by decide +kernel
theorem dX7_sumOf_34 : decode cX7_sumOf 34 = .ok (.lload_n 2, 1) := by decide +kernel
theorem dX7_sumOf_35 : decode cX7_sumOf 35 = .ok (.lreturn, 1) := by decide +kernel
theorem dX7_countThere_0 : decode cX7_countThere 0 = .ok (.iconst 0, 1) := by decide +kernel
theorem dX7_countThere_1 : decode cX7_countThere 1 = .ok (.istore_n 1, 1) := by decide +kernel
theorem dX7_countThere_2 : decode cX7_countThere 2 = .ok (.iconst 0, 1) := by decide +kernel
theorem dX7_countThere_3 : decode cX7_countThere 3 = .ok (.istore_n 2, 1) := by decide +kernel
theorem dX7_countThere_4 : decode cX7_countThere 4 = .ok (.iload_n 2, 1) := by decide +kernel
theorem dX7_countThere_5 : decode cX7_countThere 5 = .ok (.aload_n 0, 1) := by decide +kernel
theorem dX7_countThere_6 : decode cX7_countThere 6 = .ok (.getfield 20, 3) := by decide +kernel
theorem dX7_countThere_9 : decode cX7_countThere 9 = .ok (.arraylength, 1) := by decide +kernel
theorem dX7_countThere_10 : decode cX7_countThere 10 = .ok (.if_icmp .ge 27, 3) := by decide +kernel
theorem dX7_countThere_13 : decode cX7_countThere 13 = .ok (.iload_n 1, 1) := by decide +kernel
theorem dX7_countThere_14 : decode cX7_countThere 14 = .ok (.aload_n 0, 1) := by decide +kernel
theorem dX7_countThere_15 : decode cX7_countThere 15 = .ok (.getfield 20, 3) := by decide +kernel
theorem dX7_countThere_18 : decode cX7_countThere 18 = .ok (.iload_n 2, 1) := by decide +kernel
theorem dX7_countThere_19 : decode cX7_countThere 19 = .ok (.iaload, 1) := by decide +kernel
theorem dX7_countThere_20 : decode cX7_countThere 20 = .ok (.iconst (-1), 1) := by decide +kernel
theorem dX7_countThere_21 : decode cX7_countThere 21 = .ok (.if_icmp .eq 7, 3) := by decide +kernel
theorem dX7_countThere_24 : decode cX7_countThere 24 = .ok (.iconst 1, 1) := by decide +kernel
theorem dX7_countThere_25 : decode cX7_countThere 25 = .ok (.goto 4, 3) := by decide +kernel
theorem dX7_countThere_28 : decode cX7_countThere 28 = .ok (.iconst 0, 1) := by decide +kernel
theorem dX7_countThere_29 : decode cX7_countThere 29 = .ok (.iadd, 1) := by decide +kernel
theorem dX7_countThere_30 : decode cX7_countThere 30 = .ok (.istore_n 1, 1) := by decide +kernel
theorem dX7_countThere_31 : decode cX7_countThere 31 = .ok (.iinc 2 1, 3) := by decide +kernel
theorem dX7_countThere_34 : decode cX7_countThere 34 = .ok (.goto (-30), 3) := by decide +kernel
theorem dX7_countThere_37 : decode cX7_countThere 37 = .ok (.iload_n 1, 1) := by decide +kernel
theorem dX7_countThere_38 : decode cX7_countThere 38 = .ok (.ireturn, 1) := by decide +kernel
theorem dX7_digestOnto_0 : decode cX7_digestOnto 0 = .ok (.lload_n 1, 1) := by decide +kernel
theorem dX7_digestOnto_1 : decode cX7_digestOnto 1 = .ok (.lstore_n 3, 1) := by decide +kernel
theorem dX7_digestOnto_2 : decode cX7_digestOnto 2 = .ok (.iconst 0, 1) := by decide +kernel
theorem dX7_digestOnto_3 : decode cX7_digestOnto 3 = .ok (.istore 5, 2) := by decide +kernel
theorem dX7_digestOnto_5 : decode cX7_digestOnto 5 = .ok (.iload 5, 2) := by decide +kernel
theorem dX7_digestOnto_7 : decode cX7_digestOnto 7 = .ok (.aload_n 0, 1) := by decide +kernel
theorem dX7_digestOnto_8 : decode cX7_digestOnto 8 = .ok (.getfield 20, 3) := by decide +kernel
theorem dX7_digestOnto_11 : decode cX7_digestOnto 11 = .ok (.arraylength, 1) := by decide +kernel
theorem dX7_digestOnto_12 : decode cX7_digestOnto 12 = .ok (.if_icmp .ge 63, 3) := by decide +kernel
theorem dX7_digestOnto_15 : decode cX7_digestOnto 15 = .ok (.ldc2_w 57, 3) := by decide +kernel
theorem dX7_digestOnto_18 : decode cX7_digestOnto 18 = .ok (.lload_n 3, 1) := by decide +kernel
theorem dX7_digestOnto_19 : decode cX7_digestOnto 19 = .ok (.lmul, 1) := by decide +kernel
theorem dX7_digestOnto_20 : decode cX7_digestOnto 20 = .ok (.aload_n 0, 1) := by decide +kernel
theorem dX7_digestOnto_21 : decode cX7_digestOnto 21 = .ok (.getfield 20, 3) := by decide +kernel
theorem dX7_digestOnto_24 : decode cX7_digestOnto 24 = .ok (.iload 5, 2) := by decide +kernel
theorem dX7_digestOnto_26 : decode cX7_digestOnto 26 = .ok (.iaload, 1) := by decide +kernel
theorem dX7_digestOnto_27 : decode cX7_digestOnto 27 = .ok (.i2l, 1) := by decide +kernel
theorem dX7_digestOnto_28 : decode cX7_digestOnto 28 = .ok (.ladd, 1) := by decide +kernel
theorem dX7_digestOnto_29 : decode cX7_digestOnto 29 = .ok (.lstore_n 3, 1) := by decide +kernel
theorem dX7_digestOnto_30 : decode cX7_digestOnto 30 = .ok (.iconst 0, 1) := by decide +kernel
theorem dX7_digestOnto_31 : decode cX7_digestOnto 31 = .ok (.istore 6, 2) := by decide +kernel
theorem dX7_digestOnto_33 : decode cX7_digestOnto 33 = .ok (.iload 6, 2) := by decide +kernel
theorem dX7_digestOnto_35 : decode cX7_digestOnto 35 = .ok (.aload_n 0, 1) := by decide +kernel
theorem dX7_digestOnto_36 : decode cX7_digestOnto 36 = .ok (.getfield 20, 3) := by decide +kernel
theorem dX7_digestOnto_39 : decode cX7_digestOnto 39 = .ok (.iload 5, 2) := by decide +kernel
theorem dX7_digestOnto_41 : decode cX7_digestOnto 41 = .ok (.iaload, 1) := by decide +kernel
theorem dX7_digestOnto_42 : decode cX7_digestOnto 42 = .ok (.if_icmp .ge 27, 3) := by decide +kernel
theorem dX7_digestOnto_45 : decode cX7_digestOnto 45 = .ok (.ldc2_w 57, 3) := by decide +kernel
theorem dX7_digestOnto_48 : decode cX7_digestOnto 48 = .ok (.lload_n 3, 1) := by decide +kernel
theorem dX7_digestOnto_49 : decode cX7_digestOnto 49 = .ok (.lmul, 1) := by decide +kernel
theorem dX7_digestOnto_50 : decode cX7_digestOnto 50 = .ok (.aload_n 0, 1) := by decide +kernel
theorem dX7_digestOnto_51 : decode cX7_digestOnto 51 = .ok (.getfield 17, 3) := by decide +kernel
theorem dX7_digestOnto_54 : decode cX7_digestOnto 54 = .ok (.iload 5, 2) := by decide +kernel
theorem dX7_digestOnto_56 : decode cX7_digestOnto 56 = .ok (.aaload, 1) := by decide +kernel
theorem dX7_digestOnto_57 : decode cX7_digestOnto 57 = .ok (.iload 6, 2) := by decide +kernel
theorem dX7_digestOnto_59 : decode cX7_digestOnto 59 = .ok (.iaload, 1) := by decide +kernel
theorem dX7_digestOnto_60 : decode cX7_digestOnto 60 = .ok (.i2l, 1) := by decide +kernel
theorem dX7_digestOnto_61 : decode cX7_digestOnto 61 = .ok (.ladd, 1) := by decide +kernel
theorem dX7_digestOnto_62 : decode cX7_digestOnto 62 = .ok (.lstore_n 3, 1) := by decide +kernel
theorem dX7_digestOnto_63 : decode cX7_digestOnto 63 = .ok (.iinc 6 1, 3) := by decide +kernel
theorem dX7_digestOnto_66 : decode cX7_digestOnto 66 = .ok (.goto (-33), 3) := by decide +kernel
theorem dX7_digestOnto_69 : decode cX7_digestOnto 69 = .ok (.iinc 5 1, 3) := by decide +kernel
theorem dX7_digestOnto_72 : decode cX7_digestOnto 72 = .ok (.goto (-67), 3) := by decide +kernel
theorem dX7_digestOnto_75 : decode cX7_digestOnto 75 = .ok (.lload_n 3, 1) := by decide +kernel
theorem dX7_digestOnto_76 : decode cX7_digestOnto 76 = .ok (.lreturn, 1) := by decide +kernel
theorem dX8_init_0 : decode cX8_init 0 = .ok (.aload_n 0, 1) := by decide +kernel
theorem dX8_init_1 : decode cX8_init 1 = .ok (.invokespecial 3, 3) := by decide +kernel
theorem dX8_init_4 : decode cX8_init 4 = .ok (.aload_n 0, 1) := by decide +kernel
theorem dX8_init_5 : decode cX8_init 5 = .ok (.new 9, 3) := by decide +kernel
theorem dX8_init_8 : decode cX8_init 8 = .ok (.dup, 1) := by decide +kernel
theorem dX8_init_9 : decode cX8_init 9 = .ok (.invokespecial 11, 3) := by decide +kernel
theorem dX8_init_12 : decode cX8_init 12 = .ok (.putfield 12, 3) := by decide +kernel
theorem dX8_init_15 : decode cX8_init 15 = .ok (.aload_n 0, 1) := by decide +kernel
theorem dX8_init_16 : decode cX8_init 16 = .ok (.bipush 60, 2) := by decide +kernel
theorem dX8_init_18 : decode cX8_init 18 = .ok (.anewarray 9, 3) := by decide +kernel
theorem dX8_init_21 : decode cX8_init 21 = .ok (.putfield 18, 3) := by decide +kernel
theorem dX8_init_24 : decode cX8_init 24 = .ok (.iconst 0, 1) := by decide +kernel
theorem dX8_init_25 : decode cX8_init 25 = .ok (.istore_n 1, 1) := by decide +kernel
theorem dX8_init_26 : decode cX8_init 26 = .ok (.iload_n 1, 1) := by decide +kernel
theorem dX8_init_27 : decode cX8_init 27 = .ok (.bipush 60, 2) := by decide +kernel
theorem dX8_init_29 : decode cX8_init 29 = .ok (.if_icmp .ge 22, 3) := by decide +kernel
theorem dX8_init_32 : decode cX8_init 32 = .ok (.aload_n 0, 1) := by decide +kernel
theorem dX8_init_33 : decode cX8_init 33 = .ok (.getfield 18, 3) := by decide +kernel
theorem dX8_init_36 : decode cX8_init 36 = .ok (.iload_n 1, 1) := by decide +kernel
theorem dX8_init_37 : decode cX8_init 37 = .ok (.new 9, 3) := by decide +kernel
theorem dX8_init_40 : decode cX8_init 40 = .ok (.dup, 1) := by decide +kernel
theorem dX8_init_41 : decode cX8_init 41 = .ok (.invokespecial 11, 3) := by decide +kernel
theorem dX8_init_44 : decode cX8_init 44 = .ok (.aastore, 1) := by decide +kernel
theorem dX8_init_45 : decode cX8_init 45 = .ok (.iinc 1 1, 3) := by decide +kernel
theorem dX8_init_48 : decode cX8_init 48 = .ok (.goto (-22), 3) := by decide +kernel
theorem dX8_init_51 : decode cX8_init 51 = .ok (.return_, 1) := by decide +kernel
theorem dX8_begin_0 : decode cX8_begin 0 = .ok (.aload_n 0, 1) := by decide +kernel
theorem dX8_begin_1 : decode cX8_begin 1 = .ok (.getfield 12, 3) := by decide +kernel
theorem dX8_begin_4 : decode cX8_begin 4 = .ok (.aload_n 1, 1) := by decide +kernel
theorem dX8_begin_5 : decode cX8_begin 5 = .ok (.invokevirtual 22, 3) := by decide +kernel
theorem dX8_begin_8 : decode cX8_begin 8 = .ok (.aload_n 0, 1) := by decide +kernel
theorem dX8_begin_9 : decode cX8_begin 9 = .ok (.iconst 0, 1) := by decide +kernel
theorem dX8_begin_10 : decode cX8_begin 10 = .ok (.putfield 26, 3) := by decide +kernel
theorem dX8_begin_13 : decode cX8_begin 13 = .ok (.return_, 1) := by decide +kernel
theorem dX8_isFull_0 : decode cX8_isFull 0 = .ok (.aload_n 0, 1) := by decide +kernel
theorem dX8_isFull_1 : decode cX8_isFull 1 = .ok (.getfield 26, 3) := by decide +kernel
theorem dX8_isFull_4 : decode cX8_isFull 4 = .ok (.bipush 60, 2) := by decide +kernel
theorem dX8_isFull_6 : decode cX8_isFull 6 = .ok (.if_icmp .lt 7, 3) := by decide +kernel
theorem dX8_isFull_9 : decode cX8_isFull 9 = .ok (.iconst 1, 1) := by decide +kernel
theorem dX8_isFull_10 : decode cX8_isFull 10 = .ok (.goto 4, 3) := by decide +kernel
theorem dX8_isFull_13 : decode cX8_isFull 13 = .ok (.iconst 0, 1) := by decide +kernel
theorem dX8_isFull_14 : decode cX8_isFull 14 = .ok (.ireturn, 1) := by decide +kernel
theorem dX8_noteDeed_0 : decode cX8_noteDeed 0 = .ok (.aload_n 0, 1) := by decide +kernel
theorem dX8_noteDeed_1 : decode cX8_noteDeed 1 = .ok (.invokevirtual 30, 3) := by decide +kernel
theorem dX8_noteDeed_4 : decode cX8_noteDeed 4 = .ok (.ifCond .ne 29, 3) := by decide +kernel
theorem dX8_noteDeed_7 : decode cX8_noteDeed 7 = .ok (.aload_n 0, 1) := by decide +kernel
theorem dX8_noteDeed_8 : decode cX8_noteDeed 8 = .ok (.getfield 18, 3) := by decide +kernel
theorem dX8_noteDeed_11 : decode cX8_noteDeed 11 = .ok (.aload_n 0, 1) := by decide +kernel
theorem dX8_noteDeed_12 : decode cX8_noteDeed 12 = .ok (.getfield 26, 3) := by decide +kernel
theorem dX8_noteDeed_15 : decode cX8_noteDeed 15 = .ok (.aaload, 1) := by decide +kernel
theorem dX8_noteDeed_16 : decode cX8_noteDeed 16 = .ok (.aload_n 0, 1) := by decide +kernel
theorem dX8_noteDeed_17 : decode cX8_noteDeed 17 = .ok (.getfield 12, 3) := by decide +kernel
theorem dX8_noteDeed_20 : decode cX8_noteDeed 20 = .ok (.invokevirtual 34, 3) := by decide +kernel
theorem dX8_noteDeed_23 : decode cX8_noteDeed 23 = .ok (.aload_n 0, 1) := by decide +kernel
theorem dX8_noteDeed_24 : decode cX8_noteDeed 24 = .ok (.dup, 1) := by decide +kernel
theorem dX8_noteDeed_25 : decode cX8_noteDeed 25 = .ok (.getfield 26, 3) := by decide +kernel
theorem dX8_noteDeed_28 : decode cX8_noteDeed 28 = .ok (.iconst 1, 1) := by decide +kernel
theorem dX8_noteDeed_29 : decode cX8_noteDeed 29 = .ok (.iadd, 1) := by decide +kernel
theorem dX8_noteDeed_30 : decode cX8_noteDeed 30 = .ok (.putfield 26, 3) := by decide +kernel
theorem dX8_noteDeed_33 : decode cX8_noteDeed 33 = .ok (.return_, 1) := by decide +kernel
theorem dX8_goBackTo_0 : decode cX8_goBackTo 0 = .ok (.iload_n 1, 1) := by decide +kernel
theorem dX8_goBackTo_1 : decode cX8_goBackTo 1 = .ok (.ifCond .lt 29, 3) := by decide +kernel
theorem dX8_goBackTo_4 : decode cX8_goBackTo 4 = .ok (.iload_n 1, 1) := by decide +kernel
theorem dX8_goBackTo_5 : decode cX8_goBackTo 5 = .ok (.aload_n 0, 1) := by decide +kernel
theorem dX8_goBackTo_6 : decode cX8_goBackTo 6 = .ok (.getfield 26, 3) := by decide +kernel
theorem dX8_goBackTo_9 : decode cX8_goBackTo 9 = .ok (.if_icmp .ge 21, 3) := by decide +kernel
theorem dX8_goBackTo_12 : decode cX8_goBackTo 12 = .ok (.aload_n 0, 1) := by decide +kernel
theorem dX8_goBackTo_13 : decode cX8_goBackTo 13 = .ok (.getfield 12, 3) := by decide +kernel
theorem dX8_goBackTo_16 : decode cX8_goBackTo 16 = .ok (.aload_n 0, 1) := by decide +kernel
theorem dX8_goBackTo_17 : decode cX8_goBackTo 17 = .ok (.getfield 18, 3) := by decide +kernel
theorem dX8_goBackTo_20 : decode cX8_goBackTo 20 = .ok (.iload_n 1, 1) := by decide +kernel
theorem dX8_goBackTo_21 : decode cX8_goBackTo 21 = .ok (.aaload, 1) := by decide +kernel
theorem dX8_goBackTo_22 : decode cX8_goBackTo 22 = .ok (.invokevirtual 34, 3) := by decide +kernel
theorem dX8_goBackTo_25 : decode cX8_goBackTo 25 = .ok (.aload_n 0, 1) := by decide +kernel
theorem dX8_goBackTo_26 : decode cX8_goBackTo 26 = .ok (.iload_n 1, 1) := by decide +kernel
theorem dX8_goBackTo_27 : decode cX8_goBackTo 27 = .ok (.putfield 26, 3) := by decide +kernel
theorem dX8_goBackTo_30 : decode cX8_goBackTo 30 = .ok (.return_, 1) := by decide +kernel
theorem dX8_copyFrom_0 : decode cX8_copyFrom 0 = .ok (.aload_n 0, 1) := by decide +kernel
theorem dX8_copyFrom_1 : decode cX8_copyFrom 1 = .ok (.getfield 12, 3) := by decide +kernel
theorem dX8_copyFrom_4 : decode cX8_copyFrom 4 = .ok (.aload_n 1, 1) := by decide +kernel
theorem dX8_copyFrom_5 : decode cX8_copyFrom 5 = .ok (.getfield 12, 3) := by decide +kernel
theorem dX8_copyFrom_8 : decode cX8_copyFrom 8 = .ok (.invokevirtual 34, 3) := by decide +kernel
theorem dX8_copyFrom_11 : decode cX8_copyFrom 11 = .ok (.aload_n 0, 1) := by decide +kernel
theorem dX8_copyFrom_12 : decode cX8_copyFrom 12 = .ok (.aload_n 1, 1) := by decide +kernel
theorem dX8_copyFrom_13 : decode cX8_copyFrom 13 = .ok (.getfield 26, 3) := by decide +kernel
theorem dX8_copyFrom_16 : decode cX8_copyFrom 16 = .ok (.putfield 26, 3) := by decide +kernel
theorem dX8_copyFrom_19 : decode cX8_copyFrom 19 = .ok (.iconst 0, 1) := by decide +kernel
theorem dX8_copyFrom_20 : decode cX8_copyFrom 20 = .ok (.istore_n 2, 1) := by decide +kernel
theorem dX8_copyFrom_21 : decode cX8_copyFrom 21 = .ok (.iload_n 2, 1) := by decide +kernel
theorem dX8_copyFrom_22 : decode cX8_copyFrom 22 = .ok (.aload_n 0, 1) := by decide +kernel
theorem dX8_copyFrom_23 : decode cX8_copyFrom 23 = .ok (.getfield 26, 3) := by decide +kernel
theorem dX8_copyFrom_26 : decode cX8_copyFrom 26 = .ok (.if_icmp .ge 24, 3) := by decide +kernel
theorem dX8_copyFrom_29 : decode cX8_copyFrom 29 = .ok (.aload_n 0, 1) := by decide +kernel
theorem dX8_copyFrom_30 : decode cX8_copyFrom 30 = .ok (.getfield 18, 3) := by decide +kernel
theorem dX8_copyFrom_33 : decode cX8_copyFrom 33 = .ok (.iload_n 2, 1) := by decide +kernel
theorem dX8_copyFrom_34 : decode cX8_copyFrom 34 = .ok (.aaload, 1) := by decide +kernel
theorem dX8_copyFrom_35 : decode cX8_copyFrom 35 = .ok (.aload_n 1, 1) := by decide +kernel
theorem dX8_copyFrom_36 : decode cX8_copyFrom 36 = .ok (.getfield 18, 3) := by decide +kernel
theorem dX8_copyFrom_39 : decode cX8_copyFrom 39 = .ok (.iload_n 2, 1) := by decide +kernel
theorem dX8_copyFrom_40 : decode cX8_copyFrom 40 = .ok (.aaload, 1) := by decide +kernel
theorem dX8_copyFrom_41 : decode cX8_copyFrom 41 = .ok (.invokevirtual 34, 3) := by decide +kernel
theorem dX8_copyFrom_44 : decode cX8_copyFrom 44 = .ok (.iinc 2 1, 3) := by decide +kernel
theorem dX8_copyFrom_47 : decode cX8_copyFrom 47 = .ok (.goto (-26), 3) := by decide +kernel
theorem dX8_copyFrom_50 : decode cX8_copyFrom 50 = .ok (.return_, 1) := by decide +kernel
theorem dX9_init_0 : decode cX9_init 0 = .ok (.aload_n 0, 1) := by decide +kernel
theorem dX9_init_1 : decode cX9_init 1 = .ok (.invokespecial 1, 3) := by decide +kernel
theorem dX9_init_4 : decode cX9_init 4 = .ok (.aload_n 0, 1) := by decide +kernel
theorem dX9_init_5 : decode cX9_init 5 = .ok (.new 7, 3) := by decide +kernel
theorem dX9_init_8 : decode cX9_init 8 = .ok (.dup, 1) := by decide +kernel
theorem dX9_init_9 : decode cX9_init 9 = .ok (.bipush 6, 2) := by decide +kernel
theorem dX9_init_11 : decode cX9_init 11 = .ok (.bipush 40, 2) := by decide +kernel
theorem dX9_init_13 : decode cX9_init 13 = .ok (.invokespecial 11, 3) := by decide +kernel
theorem dX9_init_16 : decode cX9_init 16 = .ok (.putfield 14, 3) := by decide +kernel
theorem dX9_init_19 : decode cX9_init 19 = .ok (.aload_n 0, 1) := by decide +kernel
theorem dX9_init_20 : decode cX9_init 20 = .ok (.new 7, 3) := by decide +kernel
theorem dX9_init_23 : decode cX9_init 23 = .ok (.dup, 1) := by decide +kernel
theorem dX9_init_24 : decode cX9_init 24 = .ok (.iconst 4, 1) := by decide +kernel
theorem dX9_init_25 : decode cX9_init 25 = .ok (.bipush 60, 2) := by decide +kernel
theorem dX9_init_27 : decode cX9_init 27 = .ok (.invokespecial 11, 3) := by decide +kernel
theorem dX9_init_30 : decode cX9_init 30 = .ok (.putfield 18, 3) := by decide +kernel
theorem dX9_init_33 : decode cX9_init 33 = .ok (.aload_n 0, 1) := by decide +kernel
theorem dX9_init_34 : decode cX9_init 34 = .ok (.new 21, 3) := by decide +kernel
theorem dX9_init_37 : decode cX9_init 37 = .ok (.dup, 1) := by decide +kernel
theorem dX9_init_38 : decode cX9_init 38 = .ok (.invokespecial 23, 3) := by decide +kernel
theorem dX9_init_41 : decode cX9_init 41 = .ok (.putfield 24, 3) := by decide +kernel
theorem dX9_init_44 : decode cX9_init 44 = .ok (.aload_n 0, 1) := by decide +kernel
theorem dX9_init_45 : decode cX9_init 45 = .ok (.new 28, 3) := by decide +kernel
theorem dX9_init_48 : decode cX9_init 48 = .ok (.dup, 1) := by decide +kernel
theorem dX9_init_49 : decode cX9_init 49 = .ok (.aload_n 0, 1) := by decide +kernel
theorem dX9_init_50 : decode cX9_init 50 = .ok (.getfield 24, 3) := by decide +kernel
theorem dX9_init_53 : decode cX9_init 53 = .ok (.invokespecial 30, 3) := by decide +kernel
theorem dX9_init_56 : decode cX9_init 56 = .ok (.putfield 33, 3) := by decide +kernel
theorem dX9_init_59 : decode cX9_init 59 = .ok (.aload_n 0, 1) := by decide +kernel
theorem dX9_init_60 : decode cX9_init 60 = .ok (.new 28, 3) := by decide +kernel
theorem dX9_init_63 : decode cX9_init 63 = .ok (.dup, 1) := by decide +kernel
theorem dX9_init_64 : decode cX9_init 64 = .ok (.new 21, 3) := by decide +kernel
theorem dX9_init_67 : decode cX9_init 67 = .ok (.dup, 1) := by decide +kernel
theorem dX9_init_68 : decode cX9_init 68 = .ok (.invokespecial 23, 3) := by decide +kernel
theorem dX9_init_71 : decode cX9_init 71 = .ok (.invokespecial 30, 3) := by decide +kernel
theorem dX9_init_74 : decode cX9_init 74 = .ok (.putfield 37, 3) := by decide +kernel
theorem dX9_init_77 : decode cX9_init 77 = .ok (.aload_n 0, 1) := by decide +kernel
theorem dX9_init_78 : decode cX9_init 78 = .ok (.new 40, 3) := by decide +kernel
theorem dX9_init_81 : decode cX9_init 81 = .ok (.dup, 1) := by decide +kernel
theorem dX9_init_82 : decode cX9_init 82 = .ok (.invokespecial 42, 3) := by decide +kernel
theorem dX9_init_85 : decode cX9_init 85 = .ok (.putfield 43, 3) := by decide +kernel
theorem dX9_init_88 : decode cX9_init 88 = .ok (.aload_n 0, 1) := by decide +kernel
theorem dX9_init_89 : decode cX9_init 89 = .ok (.iconst 3, 1) := by decide +kernel
theorem dX9_init_90 : decode cX9_init 90 = .ok (.anewarray 47, 3) := by decide +kernel
theorem dX9_init_93 : decode cX9_init 93 = .ok (.putfield 49, 3) := by decide +kernel
theorem dX9_init_96 : decode cX9_init 96 = .ok (.aload_n 0, 1) := by decide +kernel
theorem dX9_init_97 : decode cX9_init 97 = .ok (.new 53, 3) := by decide +kernel
theorem dX9_init_100 : decode cX9_init 100 = .ok (.dup, 1) := by decide +kernel
theorem dX9_init_101 : decode cX9_init 101 = .ok (.invokespecial 55, 3) := by decide +kernel
theorem dX9_init_104 : decode cX9_init 104 = .ok (.putfield 56, 3) := by decide +kernel
theorem dX9_init_107 : decode cX9_init 107 = .ok (.aload_n 0, 1) := by decide +kernel
theorem dX9_init_108 : decode cX9_init 108 = .ok (.new 60, 3) := by decide +kernel
theorem dX9_init_111 : decode cX9_init 111 = .ok (.dup, 1) := by decide +kernel
theorem dX9_init_112 : decode cX9_init 112 = .ok (.aload_n 0, 1) := by decide +kernel
theorem dX9_init_113 : decode cX9_init 113 = .ok (.getfield 24, 3) := by decide +kernel
theorem dX9_init_116 : decode cX9_init 116 = .ok (.invokespecial 62, 3) := by decide +kernel
theorem dX9_init_119 : decode cX9_init 119 = .ok (.putfield 63, 3) := by decide +kernel
theorem dX9_init_122 : decode cX9_init 122 = .ok (.aload_n 0, 1) := by decide +kernel
theorem dX9_init_123 : decode cX9_init 123 = .ok (.new 67, 3) := by decide +kernel
theorem dX9_init_126 : decode cX9_init 126 = .ok (.dup, 1) := by decide +kernel
theorem dX9_init_127 : decode cX9_init 127 = .ok (.invokespecial 69, 3) := by decide +kernel
theorem dX9_init_130 : decode cX9_init 130 = .ok (.putfield 70, 3) := by decide +kernel
theorem dX9_init_133 : decode cX9_init 133 = .ok (.aload_n 0, 1) := by decide +kernel
theorem dX9_init_134 : decode cX9_init 134 = .ok (.new 74, 3) := by decide +kernel
theorem dX9_init_137 : decode cX9_init 137 = .ok (.dup, 1) := by decide +kernel
theorem dX9_init_138 : decode cX9_init 138 = .ok (.aload_n 0, 1) := by decide +kernel
theorem dX9_init_139 : decode cX9_init 139 = .ok (.getfield 24, 3) := by decide +kernel
theorem dX9_init_142 : decode cX9_init 142 = .ok (.invokespecial 76, 3) := by decide +kernel
theorem dX9_init_145 : decode cX9_init 145 = .ok (.putfield 77, 3) := by decide +kernel
theorem dX9_init_148 : decode cX9_init 148 = .ok (.aload_n 0, 1) := by decide +kernel
theorem dX9_init_149 : decode cX9_init 149 = .ok (.bipush 6, 2) := by decide +kernel
theorem dX9_init_151 : decode cX9_init 151 = .ok (.newarray .int, 2) := by decide +kernel
theorem dX9_init_153 : decode cX9_init 153 = .ok (.putfield 81, 3) := by decide +kernel
theorem dX9_init_156 : decode cX9_init 156 = .ok (.aload_n 0, 1) := by decide +kernel
theorem dX9_init_157 : decode cX9_init 157 = .ok (.lconst 1, 1) := by decide +kernel
theorem dX9_init_158 : decode cX9_init 158 = .ok (.putfield 85, 3) := by decide +kernel
theorem dX9_init_161 : decode cX9_init 161 = .ok (.iconst 0, 1) := by decide +kernel
theorem dX9_init_162 : decode cX9_init 162 = .ok (.istore_n 1, 1) := by decide +kernel
theorem dX9_init_163 : decode cX9_init 163 = .ok (.iload_n 1, 1) := by decide +kernel
theorem dX9_init_164 : decode cX9_init 164 = .ok (.iconst 3, 1) := by decide +kernel
theorem dX9_init_165 : decode cX9_init 165 = .ok (.if_icmp .ge 22, 3) := by decide +kernel
theorem dX9_init_168 : decode cX9_init 168 = .ok (.aload_n 0, 1) := by decide +kernel
theorem dX9_init_169 : decode cX9_init 169 = .ok (.getfield 49, 3) := by decide +kernel
theorem dX9_init_172 : decode cX9_init 172 = .ok (.iload_n 1, 1) := by decide +kernel
theorem dX9_init_173 : decode cX9_init 173 = .ok (.new 47, 3) := by decide +kernel
theorem dX9_init_176 : decode cX9_init 176 = .ok (.dup, 1) := by decide +kernel
theorem dX9_init_177 : decode cX9_init 177 = .ok (.invokespecial 89, 3) := by decide +kernel
theorem dX9_init_180 : decode cX9_init 180 = .ok (.aastore, 1) := by decide +kernel
theorem dX9_init_181 : decode cX9_init 181 = .ok (.iinc 1 1, 3) := by decide +kernel
theorem dX9_init_184 : decode cX9_init 184 = .ok (.goto (-21), 3) := by decide +kernel
theorem dX9_init_187 : decode cX9_init 187 = .ok (.return_, 1) := by decide +kernel
theorem dX9_row_0 : decode cX9_row 0 = .ok (.aload_n 0, 1) := by decide +kernel
theorem dX9_row_1 : decode cX9_row 1 = .ok (.aload_n 0, 1) := by decide +kernel
theorem dX9_row_2 : decode cX9_row 2 = .ok (.getfield 14, 3) := by decide +kernel
theorem dX9_row_5 : decode cX9_row 5 = .ok (.iload_n 1, 1) := by decide +kernel
theorem dX9_row_6 : decode cX9_row 6 = .ok (.iload_n 2, 1) := by decide +kernel
theorem dX9_row_7 : decode cX9_row 7 = .ok (.iconst 0, 1) := by decide +kernel
theorem dX9_row_8 : decode cX9_row 8 = .ok (.invokevirtual 90, 3) := by decide +kernel
theorem dX9_row_11 : decode cX9_row 11 = .ok (.ireturn, 1) := by decide +kernel
theorem dX9_lay_0 : decode cX9_lay 0 = .ok (.aload_n 0, 1) := by decide +kernel
theorem dX9_lay_1 : decode cX9_lay 1 = .ok (.aload_n 0, 1) := by decide +kernel
theorem dX9_lay_2 : decode cX9_lay 2 = .ok (.getfield 14, 3) := by decide +kernel
theorem dX9_lay_5 : decode cX9_lay 5 = .ok (.iload_n 1, 1) := by decide +kernel
theorem dX9_lay_6 : decode cX9_lay 6 = .ok (.iload_n 2, 1) := by decide +kernel
theorem dX9_lay_7 : decode cX9_lay 7 = .ok (.invokevirtual 94, 3) := by decide +kernel
theorem dX9_lay_10 : decode cX9_lay 10 = .ok (.istore 4, 2) := by decide +kernel
theorem dX9_lay_12 : decode cX9_lay 12 = .ok (.iload 4, 2) := by decide +kernel
theorem dX9_lay_14 : decode cX9_lay 14 = .ok (.ifCond .eq 6, 3) := by decide +kernel
theorem dX9_lay_17 : decode cX9_lay 17 = .ok (.iload 4, 2) := by decide +kernel
theorem dX9_lay_19 : decode cX9_lay 19 = .ok (.ireturn, 1) := by decide +kernel
theorem dX9_lay_20 : decode cX9_lay 20 = .ok (.aload_n 0, 1) := by decide +kernel
theorem dX9_lay_21 : decode cX9_lay 21 = .ok (.aload_n 0, 1) := by decide +kernel
theorem dX9_lay_22 : decode cX9_lay 22 = .ok (.getfield 14, 3) := by decide +kernel
theorem dX9_lay_25 : decode cX9_lay 25 = .ok (.iload_n 1, 1) := by decide +kernel
theorem dX9_lay_26 : decode cX9_lay 26 = .ok (.iload_n 2, 1) := by decide +kernel
theorem dX9_lay_27 : decode cX9_lay 27 = .ok (.invokevirtual 98, 3) := by decide +kernel
theorem dX9_lay_30 : decode cX9_lay 30 = .ok (.putfield 102, 3) := by decide +kernel
theorem dX9_lay_33 : decode cX9_lay 33 = .ok (.aload_n 0, 1) := by decide +kernel
theorem dX9_lay_34 : decode cX9_lay 34 = .ok (.getfield 14, 3) := by decide +kernel
theorem dX9_lay_37 : decode cX9_lay 37 = .ok (.iload_n 1, 1) := by decide +kernel
theorem dX9_lay_38 : decode cX9_lay 38 = .ok (.iload_n 2, 1) := by decide +kernel
theorem dX9_lay_39 : decode cX9_lay 39 = .ok (.iload_n 3, 1) := by decide +kernel
theorem dX9_lay_40 : decode cX9_lay 40 = .ok (.invokevirtual 106, 3) := by decide +kernel
theorem dX9_lay_43 : decode cX9_lay 43 = .ok (.iconst 1, 1) := by decide +kernel
theorem dX9_lay_44 : decode cX9_lay 44 = .ok (.ireturn, 1) := by decide +kernel
theorem dX9_at_0 : decode cX9_at 0 = .ok (.aload_n 0, 1) := by decide +kernel
theorem dX9_at_1 : decode cX9_at 1 = .ok (.aload_n 0, 1) := by decide +kernel
theorem dX9_at_2 : decode cX9_at 2 = .ok (.getfield 14, 3) := by decide +kernel
theorem dX9_at_5 : decode cX9_at 5 = .ok (.iload_n 1, 1) := by decide +kernel
theorem dX9_at_6 : decode cX9_at 6 = .ok (.iload_n 2, 1) := by decide +kernel
theorem dX9_at_7 : decode cX9_at 7 = .ok (.invokevirtual 94, 3) := by decide +kernel
theorem dX9_at_10 : decode cX9_at 10 = .ok (.istore_n 3, 1) := by decide +kernel
theorem dX9_at_11 : decode cX9_at 11 = .ok (.iload_n 3, 1) := by decide +kernel
theorem dX9_at_12 : decode cX9_at 12 = .ok (.ifCond .eq 5, 3) := by decide +kernel
theorem dX9_at_15 : decode cX9_at 15 = .ok (.iload_n 3, 1) := by decide +kernel
theorem dX9_at_16 : decode cX9_at 16 = .ok (.ireturn, 1) := by decide +kernel
theorem dX9_at_17 : decode cX9_at 17 = .ok (.aload_n 0, 1) := by decide +kernel
theorem dX9_at_18 : decode cX9_at 18 = .ok (.aload_n 0, 1) := by decide +kernel
theorem dX9_at_19 : decode cX9_at 19 = .ok (.getfield 14, 3) := by decide +kernel
theorem dX9_at_22 : decode cX9_at 22 = .ok (.iload_n 1, 1) := by decide +kernel
theorem dX9_at_23 : decode cX9_at 23 = .ok (.iload_n 2, 1) := by decide +kernel
theorem dX9_at_24 : decode cX9_at 24 = .ok (.invokevirtual 98, 3) := by decide +kernel
theorem dX9_at_27 : decode cX9_at 27 = .ok (.putfield 102, 3) := by decide +kernel
theorem dX9_at_30 : decode cX9_at 30 = .ok (.iconst 1, 1) := by decide +kernel
theorem dX9_at_31 : decode cX9_at 31 = .ok (.ireturn, 1) := by decide +kernel
theorem dX9_tear_0 : decode cX9_tear 0 = .ok (.aload_n 0, 1) := by decide +kernel
theorem dX9_tear_1 : decode cX9_tear 1 = .ok (.aload_n 0, 1) := by decide +kernel
theorem dX9_tear_2 : decode cX9_tear 2 = .ok (.getfield 14, 3) := by decide +kernel
theorem dX9_tear_5 : decode cX9_tear 5 = .ok (.iload_n 1, 1) := by decide +kernel
theorem dX9_tear_6 : decode cX9_tear 6 = .ok (.invokevirtual 110, 3) := by decide +kernel
theorem dX9_tear_9 : decode cX9_tear 9 = .ok (.istore_n 2, 1) := by decide +kernel
theorem dX9_tear_10 : decode cX9_tear 10 = .ok (.iload_n 2, 1) := by decide +kernel
theorem dX9_tear_11 : decode cX9_tear 11 = .ok (.ifCond .eq 5, 3) := by decide +kernel
theorem dX9_tear_14 : decode cX9_tear 14 = .ok (.iload_n 2, 1) := by decide +kernel
theorem dX9_tear_15 : decode cX9_tear 15 = .ok (.ireturn, 1) := by decide +kernel
theorem dX9_tear_16 : decode cX9_tear 16 = .ok (.aload_n 0, 1) := by decide +kernel
theorem dX9_tear_17 : decode cX9_tear 17 = .ok (.getfield 14, 3) := by decide +kernel
theorem dX9_tear_20 : decode cX9_tear 20 = .ok (.iload_n 1, 1) := by decide +kernel
theorem dX9_tear_21 : decode cX9_tear 21 = .ok (.invokevirtual 114, 3) := by decide +kernel
theorem dX9_tear_24 : decode cX9_tear 24 = .ok (.iconst 1, 1) := by decide +kernel
theorem dX9_tear_25 : decode cX9_tear 25 = .ok (.ireturn, 1) := by decide +kernel
theorem dX9_copy_0 : decode cX9_copy 0 = .ok (.aload_n 0, 1) := by decide +kernel
theorem dX9_copy_1 : decode cX9_copy 1 = .ok (.getfield 14, 3) := by decide +kernel
theorem dX9_copy_4 : decode cX9_copy 4 = .ok (.iload_n 1, 1) := by decide +kernel
theorem dX9_copy_5 : decode cX9_copy 5 = .ok (.invokevirtual 118, 3) := by decide +kernel
theorem dX9_copy_8 : decode cX9_copy 8 = .ok (.ifCond .eq 14, 3) := by decide +kernel
theorem dX9_copy_11 : decode cX9_copy 11 = .ok (.aload_n 0, 1) := by decide +kernel
theorem dX9_copy_12 : decode cX9_copy 12 = .ok (.getfield 14, 3) := by decide +kernel
theorem dX9_copy_15 : decode cX9_copy 15 = .ok (.iload_n 3, 1) := by decide +kernel
theorem dX9_copy_16 : decode cX9_copy 16 = .ok (.invokevirtual 118, 3) := by decide +kernel
theorem dX9_copy_19 : decode cX9_copy 19 = .ok (.ifCond .ne 5, 3) := by decide +kernel
theorem dX9_copy_22 : decode cX9_copy 22 = .ok (.iconst (-1), 1) := by decide +kernel
theorem dX9_copy_23 : decode cX9_copy 23 = .ok (.ireturn, 1) := by decide +kernel
theorem dX9_copy_24 : decode cX9_copy 24 = .ok (.iload 5, 2) := by decide +kernel
theorem dX9_copy_26 : decode cX9_copy 26 = .ok (.ifCond .ge 9, 3) := by decide +kernel
theorem dX9_copy_29 : decode cX9_copy 29 = .ok (.aload_n 0, 1) := by decide +kernel
theorem dX9_copy_30 : decode cX9_copy 30 = .ok (.iconst 5, 1) := by decide +kernel
theorem dX9_copy_31 : decode cX9_copy 31 = .ok (.invokevirtual 122, 3) := by decide +kernel
theorem dX9_copy_34 : decode cX9_copy 34 = .ok (.ireturn, 1) := by decide +kernel
theorem dX9_copy_35 : decode cX9_copy 35 = .ok (.aload_n 0, 1) := by decide +kernel
theorem dX9_copy_36 : decode cX9_copy 36 = .ok (.getfield 14, 3) := by decide +kernel
theorem dX9_copy_39 : decode cX9_copy 39 = .ok (.iload_n 1, 1) := by decide +kernel
theorem dX9_copy_40 : decode cX9_copy 40 = .ok (.invokevirtual 126, 3) := by decide +kernel
theorem dX9_copy_43 : decode cX9_copy 43 = .ok (.ifCond .eq 14, 3) := by decide +kernel
theorem dX9_copy_46 : decode cX9_copy 46 = .ok (.aload_n 0, 1) := by decide +kernel
theorem dX9_copy_47 : decode cX9_copy 47 = .ok (.getfield 14, 3) := by decide +kernel
theorem dX9_copy_50 : decode cX9_copy 50 = .ok (.iload_n 3, 1) := by decide +kernel
theorem dX9_copy_51 : decode cX9_copy 51 = .ok (.invokevirtual 126, 3) := by decide +kernel
theorem dX9_copy_54 : decode cX9_copy 54 = .ok (.ifCond .ne 9, 3) := by decide +kernel
theorem dX9_copy_57 : decode cX9_copy 57 = .ok (.aload_n 0, 1) := by decide +kernel
theorem dX9_copy_58 : decode cX9_copy 58 = .ok (.iconst 1, 1) := by decide +kernel
theorem dX9_copy_59 : decode cX9_copy 59 = .ok (.invokevirtual 122, 3) := by decide +kernel
theorem dX9_copy_62 : decode cX9_copy 62 = .ok (.ireturn, 1) := by decide +kernel
theorem dX9_copy_63 : decode cX9_copy 63 = .ok (.aload_n 0, 1) := by decide +kernel
theorem dX9_copy_64 : decode cX9_copy 64 = .ok (.getfield 14, 3) := by decide +kernel
theorem dX9_copy_67 : decode cX9_copy 67 = .ok (.iload_n 1, 1) := by decide +kernel
theorem dX9_copy_68 : decode cX9_copy 68 = .ok (.iload_n 2, 1) := by decide +kernel
theorem dX9_copy_69 : decode cX9_copy 69 = .ok (.iload 5, 2) := by decide +kernel
theorem dX9_copy_71 : decode cX9_copy 71 = .ok (.invokevirtual 129, 3) := by decide +kernel
theorem dX9_copy_74 : decode cX9_copy 74 = .ok (.ifCond .eq 18, 3) := by decide +kernel
theorem dX9_copy_77 : decode cX9_copy 77 = .ok (.aload_n 0, 1) := by decide +kernel
theorem dX9_copy_78 : decode cX9_copy 78 = .ok (.getfield 14, 3) := by decide +kernel
theorem dX9_copy_81 : decode cX9_copy 81 = .ok (.iload_n 3, 1) := by decide +kernel
theorem dX9_copy_82 : decode cX9_copy 82 = .ok (.iload 4, 2) := by decide +kernel
theorem dX9_copy_84 : decode cX9_copy 84 = .ok (.iload 5, 2) := by decide +kernel
theorem dX9_copy_86 : decode cX9_copy 86 = .ok (.invokevirtual 129, 3) := by decide +kernel
theorem dX9_copy_89 : decode cX9_copy 89 = .ok (.ifCond .ne 9, 3) := by decide +kernel
theorem dX9_copy_92 : decode cX9_copy 92 = .ok (.aload_n 0, 1) := by decide +kernel
theorem dX9_copy_93 : decode cX9_copy 93 = .ok (.iconst 2, 1) := by decide +kernel
theorem dX9_copy_94 : decode cX9_copy 94 = .ok (.invokevirtual 122, 3) := by decide +kernel
theorem dX9_copy_97 : decode cX9_copy 97 = .ok (.ireturn, 1) := by decide +kernel
theorem dX9_copy_98 : decode cX9_copy 98 = .ok (.aload_n 0, 1) := by decide +kernel
theorem dX9_copy_99 : decode cX9_copy 99 = .ok (.getfield 14, 3) := by decide +kernel
theorem dX9_copy_102 : decode cX9_copy 102 = .ok (.iload_n 1, 1) := by decide +kernel
theorem dX9_copy_103 : decode cX9_copy 103 = .ok (.iload_n 2, 1) := by decide +kernel
theorem dX9_copy_104 : decode cX9_copy 104 = .ok (.iload_n 3, 1) := by decide +kernel
theorem dX9_copy_105 : decode cX9_copy 105 = .ok (.iload 4, 2) := by decide +kernel
theorem dX9_copy_107 : decode cX9_copy 107 = .ok (.iload 5, 2) := by decide +kernel
theorem dX9_copy_109 : decode cX9_copy 109 = .ok (.invokevirtual 133, 3) := by decide +kernel
theorem dX9_copy_112 : decode cX9_copy 112 = .ok (.iconst 1, 1) := by decide +kernel
theorem dX9_copy_113 : decode cX9_copy 113 = .ok (.ireturn, 1) := by decide +kernel
theorem dX9_mean_0 : decode cX9_mean 0 = .ok (.aload_n 0, 1) := by decide +kernel
theorem dX9_mean_1 : decode cX9_mean 1 = .ok (.aload_n 0, 1) := by decide +kernel
theorem dX9_mean_2 : decode cX9_mean 2 = .ok (.getfield 14, 3) := by decide +kernel
theorem dX9_mean_5 : decode cX9_mean 5 = .ok (.iload_n 1, 1) := by decide +kernel
theorem dX9_mean_6 : decode cX9_mean 6 = .ok (.invokevirtual 110, 3) := by decide +kernel
theorem dX9_mean_9 : decode cX9_mean 9 = .ok (.istore_n 2, 1) := by decide +kernel
theorem dX9_mean_10 : decode cX9_mean 10 = .ok (.iload_n 2, 1) := by decide +kernel
theorem dX9_mean_11 : decode cX9_mean 11 = .ok (.ifCond .eq 5, 3) := by decide +kernel
theorem dX9_mean_14 : decode cX9_mean 14 = .ok (.iload_n 2, 1) := by decide +kernel
theorem dX9_mean_15 : decode cX9_mean 15 = .ok (.ireturn, 1) := by decide +kernel
theorem dX9_mean_16 : decode cX9_mean 16 = .ok (.aload_n 0, 1) := by decide +kernel
theorem dX9_mean_17 : decode cX9_mean 17 = .ok (.getfield 14, 3) := by decide +kernel
theorem dX9_mean_20 : decode cX9_mean 20 = .ok (.iload_n 1, 1) := by decide +kernel
theorem dX9_mean_21 : decode cX9_mean 21 = .ok (.invokevirtual 137, 3) := by decide +kernel
theorem dX9_mean_24 : decode cX9_mean 24 = .ok (.istore_n 3, 1) := by decide +kernel
theorem dX9_mean_25 : decode cX9_mean 25 = .ok (.iload_n 3, 1) := by decide +kernel
theorem dX9_mean_26 : decode cX9_mean 26 = .ok (.ifCond .gt 9, 3) := by decide +kernel
theorem dX9_mean_29 : decode cX9_mean 29 = .ok (.aload_n 0, 1) := by decide +kernel
theorem dX9_mean_30 : decode cX9_mean 30 = .ok (.iconst 4, 1) := by decide +kernel
theorem dX9_mean_31 : decode cX9_mean 31 = .ok (.invokevirtual 122, 3) := by decide +kernel
theorem dX9_mean_34 : decode cX9_mean 34 = .ok (.ireturn, 1) := by decide +kernel
theorem dX9_mean_35 : decode cX9_mean 35 = .ok (.aload_n 0, 1) := by decide +kernel
theorem dX9_mean_36 : decode cX9_mean 36 = .ok (.aload_n 0, 1) := by decide +kernel
theorem dX9_mean_37 : decode cX9_mean 37 = .ok (.getfield 14, 3) := by decide +kernel
theorem dX9_mean_40 : decode cX9_mean 40 = .ok (.iload_n 1, 1) := by decide +kernel
theorem dX9_mean_41 : decode cX9_mean 41 = .ok (.invokevirtual 140, 3) := by decide +kernel
theorem dX9_mean_44 : decode cX9_mean 44 = .ok (.iload_n 3, 1) := by decide +kernel
theorem dX9_mean_45 : decode cX9_mean 45 = .ok (.i2l, 1) := by decide +kernel
theorem dX9_mean_46 : decode cX9_mean 46 = .ok (.ldiv, 1) := by decide +kernel
theorem dX9_mean_47 : decode cX9_mean 47 = .ok (.l2i, 1) := by decide +kernel
theorem dX9_mean_48 : decode cX9_mean 48 = .ok (.putfield 102, 3) := by decide +kernel
theorem dX9_mean_51 : decode cX9_mean 51 = .ok (.iconst 1, 1) := by decide +kernel
theorem dX9_mean_52 : decode cX9_mean 52 = .ok (.ireturn, 1) := by decide +kernel
theorem dX9_text_0 : decode cX9_text 0 = .ok (.aload_n 0, 1) := by decide +kernel
theorem dX9_text_1 : decode cX9_text 1 = .ok (.aload_n 0, 1) := by decide +kernel
theorem dX9_text_2 : decode cX9_text 2 = .ok (.getfield 18, 3) := by decide +kernel
theorem dX9_text_5 : decode cX9_text 5 = .ok (.iload_n 1, 1) := by decide +kernel
theorem dX9_text_6 : decode cX9_text 6 = .ok (.iload_n 2, 1) := by decide +kernel
theorem dX9_text_7 : decode cX9_text 7 = .ok (.bipush 32, 2) := by decide +kernel
theorem dX9_text_9 : decode cX9_text 9 = .ok (.invokevirtual 90, 3) := by decide +kernel
theorem dX9_text_12 : decode cX9_text 12 = .ok (.ireturn, 1) := by decide +kernel
theorem dX9_put_0 : decode cX9_put 0 = .ok (.aload_n 0, 1) := by decide +kernel
theorem dX9_put_1 : decode cX9_put 1 = .ok (.aload_n 0, 1) := by decide +kernel
theorem dX9_put_2 : decode cX9_put 2 = .ok (.getfield 18, 3) := by decide +kernel
theorem dX9_put_5 : decode cX9_put 5 = .ok (.iload_n 1, 1) := by decide +kernel
theorem dX9_put_6 : decode cX9_put 6 = .ok (.iload_n 2, 1) := by decide +kernel
theorem dX9_put_7 : decode cX9_put 7 = .ok (.invokevirtual 94, 3) := by decide +kernel
theorem dX9_put_10 : decode cX9_put 10 = .ok (.istore 4, 2) := by decide +kernel
theorem dX9_put_12 : decode cX9_put 12 = .ok (.iload 4, 2) := by decide +kernel
theorem dX9_put_14 : decode cX9_put 14 = .ok (.ifCond .eq 6, 3) := by decide +kernel
theorem dX9_put_17 : decode cX9_put 17 = .ok (.iload 4, 2) := by decide +kernel
theorem dX9_put_19 : decode cX9_put 19 = .ok (.ireturn, 1) := by decide +kernel
theorem dX9_put_20 : decode cX9_put 20 = .ok (.aload_n 0, 1) := by decide +kernel
theorem dX9_put_21 : decode cX9_put 21 = .ok (.getfield 18, 3) := by decide +kernel
theorem dX9_put_24 : decode cX9_put 24 = .ok (.iload_n 1, 1) := by decide +kernel
theorem dX9_put_25 : decode cX9_put 25 = .ok (.iload_n 2, 1) := by decide +kernel
theorem dX9_put_26 : decode cX9_put 26 = .ok (.invokevirtual 98, 3) := by decide +kernel
theorem dX9_put_29 : decode cX9_put 29 = .ok (.istore 5, 2) := by decide +kernel
theorem dX9_put_31 : decode cX9_put 31 = .ok (.aload_n 0, 1) := by decide +kernel
theorem dX9_put_32 : decode cX9_put 32 = .ok (.getfield 18, 3) := by decide +kernel
theorem dX9_put_35 : decode cX9_put 35 = .ok (.iload_n 1, 1) := by decide +kernel
theorem dX9_put_36 : decode cX9_put 36 = .ok (.iload_n 2, 1) := by decide +kernel
theorem dX9_put_37 : decode cX9_put 37 = .ok (.iload_n 3, 1) := by decide +kernel
theorem dX9_put_38 : decode cX9_put 38 = .ok (.i2b, 1) := by decide +kernel
theorem dX9_put_39 : decode cX9_put 39 = .ok (.invokevirtual 106, 3) := by decide +kernel
theorem dX9_put_42 : decode cX9_put 42 = .ok (.iload 5, 2) := by decide +kernel
theorem dX9_put_44 : decode cX9_put 44 = .ok (.sipush 1000, 3) := by decide +kernel
theorem dX9_put_47 : decode cX9_put 47 = .ok (.iadd, 1) := by decide +kernel
theorem dX9_put_48 : decode cX9_put 48 = .ok (.ireturn, 1) := by decide +kernel
theorem dX9_fault_0 : decode cX9_fault 0 = .ok (.aload_n 0, 1) := by decide +kernel
theorem dX9_fault_1 : decode cX9_fault 1 = .ok (.aload_n 0, 1) := by decide +kernel
theorem dX9_fault_2 : decode cX9_fault 2 = .ok (.getfield 18, 3) := by decide +kernel
theorem dX9_fault_5 : decode cX9_fault 5 = .ok (.iload_n 1, 1) := by decide +kernel
theorem dX9_fault_6 : decode cX9_fault 6 = .ok (.invokevirtual 110, 3) := by decide +kernel
theorem dX9_fault_9 : decode cX9_fault 9 = .ok (.istore_n 2, 1) := by decide +kernel
theorem dX9_fault_10 : decode cX9_fault 10 = .ok (.iload_n 2, 1) := by decide +kernel
theorem dX9_fault_11 : decode cX9_fault 11 = .ok (.ifCond .eq 7, 3) := by decide +kernel
theorem dX9_fault_14 : decode cX9_fault 14 = .ok (.iload_n 2, 1) := by decide +kernel
theorem dX9_fault_15 : decode cX9_fault 15 = .ok (.goto 15, 3) := by decide +kernel
theorem dX9_fault_18 : decode cX9_fault 18 = .ok (.aload_n 0, 1) := by decide +kernel
theorem dX9_fault_19 : decode cX9_fault 19 = .ok (.getfield 37, 3) := by decide +kernel
theorem dX9_fault_22 : decode cX9_fault 22 = .ok (.aload_n 0, 1) := by decide +kernel
theorem dX9_fault_23 : decode cX9_fault 23 = .ok (.getfield 18, 3) := by decide +kernel
theorem dX9_fault_26 : decode cX9_fault 26 = .ok (.iload_n 1, 1) := by decide +kernel
theorem dX9_fault_27 : decode cX9_fault 27 = .ok (.invokevirtual 144, 3) := by decide +kernel
theorem dX9_fault_30 : decode cX9_fault 30 = .ok (.ireturn, 1) := by decide +kernel
theorem dX9_delta_0 : decode cX9_delta 0 = .ok (.aload_n 0, 1) := by decide +kernel
theorem dX9_delta_1 : decode cX9_delta 1 = .ok (.aload_n 0, 1) := by decide +kernel
theorem dX9_delta_2 : decode cX9_delta 2 = .ok (.getfield 18, 3) := by decide +kernel
theorem dX9_delta_5 : decode cX9_delta 5 = .ok (.iload_n 1, 1) := by decide +kernel
theorem dX9_delta_6 : decode cX9_delta 6 = .ok (.invokevirtual 110, 3) := by decide +kernel
theorem dX9_delta_9 : decode cX9_delta 9 = .ok (.istore_n 2, 1) := by decide +kernel
theorem dX9_delta_10 : decode cX9_delta 10 = .ok (.iload_n 2, 1) := by decide +kernel
theorem dX9_delta_11 : decode cX9_delta 11 = .ok (.ifCond .eq 5, 3) := by decide +kernel
theorem dX9_delta_14 : decode cX9_delta 14 = .ok (.iload_n 2, 1) := by decide +kernel
theorem dX9_delta_15 : decode cX9_delta 15 = .ok (.ireturn, 1) := by decide +kernel
theorem dX9_delta_16 : decode cX9_delta 16 = .ok (.aload_n 0, 1) := by decide +kernel
theorem dX9_delta_17 : decode cX9_delta 17 = .ok (.getfield 37, 3) := by decide +kernel
theorem dX9_delta_20 : decode cX9_delta 20 = .ok (.aload_n 0, 1) := by decide +kernel
theorem dX9_delta_21 : decode cX9_delta 21 = .ok (.getfield 18, 3) := by decide +kernel
theorem dX9_delta_24 : decode cX9_delta 24 = .ok (.iload_n 1, 1) := by decide +kernel
theorem dX9_delta_25 : decode cX9_delta 25 = .ok (.invokevirtual 144, 3) := by decide +kernel
theorem dX9_delta_28 : decode cX9_delta 28 = .ok (.bipush (-9), 2) := by decide +kernel
theorem dX9_delta_30 : decode cX9_delta 30 = .ok (.if_icmp .eq 6, 3) := by decide +kernel
theorem dX9_delta_33 : decode cX9_delta 33 = .ok (.bipush (-4), 2) := by decide +kernel
theorem dX9_delta_35 : decode cX9_delta 35 = .ok (.ireturn, 1) := by decide +kernel
theorem dX9_delta_36 : decode cX9_delta 36 = .ok (.aload_n 0, 1) := by decide +kernel
theorem dX9_delta_37 : decode cX9_delta 37 = .ok (.getfield 33, 3) := by decide +kernel
theorem dX9_delta_40 : decode cX9_delta 40 = .ok (.aload_n 0, 1) := by decide +kernel
theorem dX9_delta_41 : decode cX9_delta 41 = .ok (.getfield 18, 3) := by decide +kernel
theorem dX9_delta_44 : decode cX9_delta 44 = .ok (.iload_n 1, 1) := by decide +kernel
theorem dX9_delta_45 : decode cX9_delta 45 = .ok (.invokevirtual 144, 3) := by decide +kernel
theorem dX9_delta_48 : decode cX9_delta 48 = .ok (.pop, 1) := by decide +kernel
theorem dX9_delta_49 : decode cX9_delta 49 = .ok (.aload_n 0, 1) := by decide +kernel
theorem dX9_delta_50 : decode cX9_delta 50 = .ok (.getfield 43, 3) := by decide +kernel
theorem dX9_delta_53 : decode cX9_delta 53 = .ok (.aload_n 0, 1) := by decide +kernel
theorem dX9_delta_54 : decode cX9_delta 54 = .ok (.getfield 24, 3) := by decide +kernel
theorem dX9_delta_57 : decode cX9_delta 57 = .ok (.invokevirtual 147, 3) := by decide +kernel
theorem dX9_delta_60 : decode cX9_delta 60 = .ok (.iconst 0, 1) := by decide +kernel
theorem dX9_delta_61 : decode cX9_delta 61 = .ok (.istore_n 3, 1) := by decide +kernel
theorem dX9_delta_62 : decode cX9_delta 62 = .ok (.iload_n 3, 1) := by decide +kernel
theorem dX9_delta_63 : decode cX9_delta 63 = .ok (.iconst 3, 1) := by decide +kernel
theorem dX9_delta_64 : decode cX9_delta 64 = .ok (.if_icmp .ge 19, 3) := by decide +kernel
theorem dX9_delta_67 : decode cX9_delta 67 = .ok (.aload_n 0, 1) := by decide +kernel
theorem dX9_delta_68 : decode cX9_delta 68 = .ok (.getfield 49, 3) := by decide +kernel
theorem dX9_delta_71 : decode cX9_delta 71 = .ok (.iload_n 3, 1) := by decide +kernel
theorem dX9_delta_72 : decode cX9_delta 72 = .ok (.aaload, 1) := by decide +kernel
theorem dX9_delta_73 : decode cX9_delta 73 = .ok (.iconst 0, 1) := by decide +kernel
theorem dX9_delta_74 : decode cX9_delta 74 = .ok (.putfield 150, 3) := by decide +kernel
theorem dX9_delta_77 : decode cX9_delta 77 = .ok (.iinc 3 1, 3) := by decide +kernel
theorem dX9_delta_80 : decode cX9_delta 80 = .ok (.goto (-18), 3) := by decide +kernel
theorem dX9_delta_83 : decode cX9_delta 83 = .ok (.aload_n 0, 1) := by decide +kernel
theorem dX9_delta_84 : decode cX9_delta 84 = .ok (.getfield 24, 3) := by decide +kernel
theorem dX9_delta_87 : decode cX9_delta 87 = .ok (.getfield 154, 3) := by decide +kernel
theorem dX9_delta_90 : decode cX9_delta 90 = .ok (.ireturn, 1) := by decide +kernel
theorem dX9_arm_0 : decode cX9_arm 0 = .ok (.aload_n 0, 1) := by decide +kernel
theorem dX9_arm_1 : decode cX9_arm 1 = .ok (.getfield 24, 3) := by decide +kernel
theorem dX9_arm_4 : decode cX9_arm 4 = .ok (.iload_n 1, 1) := by decide +kernel
theorem dX9_arm_5 : decode cX9_arm 5 = .ok (.invokevirtual 157, 3) := by decide +kernel
theorem dX9_arm_8 : decode cX9_arm 8 = .ok (.ifCond .eq 13, 3) := by decide +kernel
theorem dX9_arm_11 : decode cX9_arm 11 = .ok (.iload_n 2, 1) := by decide +kernel
theorem dX9_arm_12 : decode cX9_arm 12 = .ok (.ifCond .lt 9, 3) := by decide +kernel
theorem dX9_arm_15 : decode cX9_arm 15 = .ok (.iload_n 2, 1) := by decide +kernel
theorem dX9_arm_16 : decode cX9_arm 16 = .ok (.bipush 7, 2) := by decide +kernel
theorem dX9_arm_18 : decode cX9_arm 18 = .ok (.if_icmp .le 5, 3) := by decide +kernel
theorem dX9_arm_21 : decode cX9_arm 21 = .ok (.iconst (-1), 1) := by decide +kernel
theorem dX9_arm_22 : decode cX9_arm 22 = .ok (.ireturn, 1) := by decide +kernel
theorem dX9_arm_23 : decode cX9_arm 23 = .ok (.aload_n 0, 1) := by decide +kernel
theorem dX9_arm_24 : decode cX9_arm 24 = .ok (.aload_n 0, 1) := by decide +kernel
theorem dX9_arm_25 : decode cX9_arm 25 = .ok (.iload_n 1, 1) := by decide +kernel
theorem dX9_arm_26 : decode cX9_arm 26 = .ok (.iload_n 2, 1) := by decide +kernel
theorem dX9_arm_27 : decode cX9_arm 27 = .ok (.invokevirtual 160, 3) := by decide +kernel
theorem dX9_arm_30 : decode cX9_arm 30 = .ok (.putfield 102, 3) := by decide +kernel
theorem dX9_arm_33 : decode cX9_arm 33 = .ok (.iconst 1, 1) := by decide +kernel
theorem dX9_arm_34 : decode cX9_arm 34 = .ok (.ireturn, 1) := by decide +kernel
theorem dX9_mark_0 : decode cX9_mark 0 = .ok (.aload_n 0, 1) := by decide +kernel
theorem dX9_mark_1 : decode cX9_mark 1 = .ok (.getfield 24, 3) := by decide +kernel
theorem dX9_mark_4 : decode cX9_mark 4 = .ok (.iload_n 1, 1) := by decide +kernel
theorem dX9_mark_5 : decode cX9_mark 5 = .ok (.invokevirtual 157, 3) := by decide +kernel
theorem dX9_mark_8 : decode cX9_mark 8 = .ok (.ifCond .eq 13, 3) := by decide +kernel
theorem dX9_mark_11 : decode cX9_mark 11 = .ok (.iload_n 2, 1) := by decide +kernel
theorem dX9_mark_12 : decode cX9_mark 12 = .ok (.iconst 1, 1) := by decide +kernel
theorem dX9_mark_13 : decode cX9_mark 13 = .ok (.if_icmp .lt 8, 3) := by decide +kernel
theorem dX9_mark_16 : decode cX9_mark 16 = .ok (.iload_n 2, 1) := by decide +kernel
theorem dX9_mark_17 : decode cX9_mark 17 = .ok (.iconst 5, 1) := by decide +kernel
theorem dX9_mark_18 : decode cX9_mark 18 = .ok (.if_icmp .le 5, 3) := by decide +kernel
theorem dX9_mark_21 : decode cX9_mark 21 = .ok (.iconst (-1), 1) := by decide +kernel
theorem dX9_mark_22 : decode cX9_mark 22 = .ok (.ireturn, 1) := by decide +kernel
theorem dX9_mark_23 : decode cX9_mark 23 = .ok (.aload_n 0, 1) := by decide +kernel
theorem dX9_mark_24 : decode cX9_mark 24 = .ok (.getfield 24, 3) := by decide +kernel
theorem dX9_mark_27 : decode cX9_mark 27 = .ok (.iload_n 1, 1) := by decide +kernel
theorem dX9_mark_28 : decode cX9_mark 28 = .ok (.iload_n 2, 1) := by decide +kernel
theorem dX9_mark_29 : decode cX9_mark 29 = .ok (.invokevirtual 163, 3) := by decide +kernel
theorem dX9_mark_32 : decode cX9_mark 32 = .ok (.ifCond .ne 9, 3) := by decide +kernel
theorem dX9_mark_35 : decode cX9_mark 35 = .ok (.aload_n 0, 1) := by decide +kernel
theorem dX9_mark_36 : decode cX9_mark 36 = .ok (.iconst 3, 1) := by decide +kernel
theorem dX9_mark_37 : decode cX9_mark 37 = .ok (.invokevirtual 122, 3) := by decide +kernel
theorem dX9_mark_40 : decode cX9_mark 40 = .ok (.ireturn, 1) := by decide +kernel
theorem dX9_mark_41 : decode cX9_mark 41 = .ok (.aload_n 0, 1) := by decide +kernel
theorem dX9_mark_42 : decode cX9_mark 42 = .ok (.iload_n 1, 1) := by decide +kernel
theorem dX9_mark_43 : decode cX9_mark 43 = .ok (.iload_n 2, 1) := by decide +kernel
theorem dX9_mark_44 : decode cX9_mark 44 = .ok (.invokevirtual 167, 3) := by decide +kernel
theorem dX9_mark_47 : decode cX9_mark 47 = .ok (.ireturn, 1) := by decide +kernel
theorem dX9_need_0 : decode cX9_need 0 = .ok (.aload_n 0, 1) := by decide +kernel
theorem dX9_need_1 : decode cX9_need 1 = .ok (.getfield 24, 3) := by decide +kernel
theorem dX9_need_4 : decode cX9_need 4 = .ok (.iload_n 1, 1) := by decide +kernel
theorem dX9_need_5 : decode cX9_need 5 = .ok (.invokevirtual 157, 3) := by decide +kernel
theorem dX9_need_8 : decode cX9_need 8 = .ok (.ifCond .eq 13, 3) := by decide +kernel
theorem dX9_need_11 : decode cX9_need 11 = .ok (.iload_n 2, 1) := by decide +kernel
theorem dX9_need_12 : decode cX9_need 12 = .ok (.ifCond .lt 9, 3) := by decide +kernel
theorem dX9_need_15 : decode cX9_need 15 = .ok (.iload_n 2, 1) := by decide +kernel
theorem dX9_need_16 : decode cX9_need 16 = .ok (.bipush 9, 2) := by decide +kernel
theorem dX9_need_18 : decode cX9_need 18 = .ok (.if_icmp .le 5, 3) := by decide +kernel
theorem dX9_need_21 : decode cX9_need 21 = .ok (.iconst (-1), 1) := by decide +kernel
theorem dX9_need_22 : decode cX9_need 22 = .ok (.ireturn, 1) := by decide +kernel
theorem dX9_need_23 : decode cX9_need 23 = .ok (.aload_n 0, 1) := by decide +kernel
theorem dX9_need_24 : decode cX9_need 24 = .ok (.getfield 24, 3) := by decide +kernel
theorem dX9_need_27 : decode cX9_need 27 = .ok (.getfield 170, 3) := by decide +kernel
theorem dX9_need_30 : decode cX9_need 30 = .ok (.iload_n 1, 1) := by decide +kernel
theorem dX9_need_31 : decode cX9_need 31 = .ok (.iaload, 1) := by decide +kernel
theorem dX9_need_32 : decode cX9_need 32 = .ok (.istore_n 3, 1) := by decide +kernel
theorem dX9_need_33 : decode cX9_need 33 = .ok (.aload_n 0, 1) := by decide +kernel
theorem dX9_need_34 : decode cX9_need 34 = .ok (.getfield 24, 3) := by decide +kernel
theorem dX9_need_37 : decode cX9_need 37 = .ok (.getfield 170, 3) := by decide +kernel
theorem dX9_need_40 : decode cX9_need 40 = .ok (.iload_n 1, 1) := by decide +kernel
theorem dX9_need_41 : decode cX9_need 41 = .ok (.iload_n 2, 1) := by decide +kernel
theorem dX9_need_42 : decode cX9_need 42 = .ok (.iastore, 1) := by decide +kernel
theorem dX9_need_43 : decode cX9_need 43 = .ok (.aload_n 0, 1) := by decide +kernel
theorem dX9_need_44 : decode cX9_need 44 = .ok (.getfield 24, 3) := by decide +kernel
theorem dX9_need_47 : decode cX9_need 47 = .ok (.invokevirtual 173, 3) := by decide +kernel
theorem dX9_need_50 : decode cX9_need 50 = .ok (.iload_n 3, 1) := by decide +kernel
theorem dX9_need_51 : decode cX9_need 51 = .ok (.ireturn, 1) := by decide +kernel
theorem dX9_awaits_0 : decode cX9_awaits 0 = .ok (.aload_n 0, 1) := by decide +kernel
theorem dX9_awaits_1 : decode cX9_awaits 1 = .ok (.getfield 24, 3) := by decide +kernel
theorem dX9_awaits_4 : decode cX9_awaits 4 = .ok (.iload_n 1, 1) := by decide +kernel
theorem dX9_awaits_5 : decode cX9_awaits 5 = .ok (.invokevirtual 157, 3) := by decide +kernel
theorem dX9_awaits_8 : decode cX9_awaits 8 = .ok (.ifCond .eq 28, 3) := by decide +kernel
theorem dX9_awaits_11 : decode cX9_awaits 11 = .ok (.aload_n 0, 1) := by decide +kernel
theorem dX9_awaits_12 : decode cX9_awaits 12 = .ok (.getfield 24, 3) := by decide +kernel
theorem dX9_awaits_15 : decode cX9_awaits 15 = .ok (.iload_n 2, 1) := by decide +kernel
theorem dX9_awaits_16 : decode cX9_awaits 16 = .ok (.invokevirtual 157, 3) := by decide +kernel
theorem dX9_awaits_19 : decode cX9_awaits 19 = .ok (.ifCond .eq 17, 3) := by decide +kernel
theorem dX9_awaits_22 : decode cX9_awaits 22 = .ok (.iload_n 1, 1) := by decide +kernel
theorem dX9_awaits_23 : decode cX9_awaits 23 = .ok (.iload_n 2, 1) := by decide +kernel
theorem dX9_awaits_24 : decode cX9_awaits 24 = .ok (.if_icmp .eq 12, 3) := by decide +kernel
theorem dX9_awaits_27 : decode cX9_awaits 27 = .ok (.iload_n 3, 1) := by decide +kernel
theorem dX9_awaits_28 : decode cX9_awaits 28 = .ok (.ifCond .lt 8, 3) := by decide +kernel
theorem dX9_awaits_31 : decode cX9_awaits 31 = .ok (.iload_n 3, 1) := by decide +kernel
theorem dX9_awaits_32 : decode cX9_awaits 32 = .ok (.iconst 1, 1) := by decide +kernel
theorem dX9_awaits_33 : decode cX9_awaits 33 = .ok (.if_icmp .le 5, 3) := by decide +kernel
theorem dX9_awaits_36 : decode cX9_awaits 36 = .ok (.iconst (-1), 1) := by decide +kernel
theorem dX9_awaits_37 : decode cX9_awaits 37 = .ok (.ireturn, 1) := by decide +kernel
theorem dX9_awaits_38 : decode cX9_awaits 38 = .ok (.aload_n 0, 1) := by decide +kernel
theorem dX9_awaits_39 : decode cX9_awaits 39 = .ok (.getfield 24, 3) := by decide +kernel
theorem dX9_awaits_42 : decode cX9_awaits 42 = .ok (.getfield 176, 3) := by decide +kernel
theorem dX9_awaits_45 : decode cX9_awaits 45 = .ok (.iload_n 1, 1) := by decide +kernel
theorem dX9_awaits_46 : decode cX9_awaits 46 = .ok (.iaload, 1) := by decide +kernel
theorem dX9_awaits_47 : decode cX9_awaits 47 = .ok (.iload_n 2, 1) := by decide +kernel
theorem dX9_awaits_48 : decode cX9_awaits 48 = .ok (.ishr, 1) := by decide +kernel
theorem dX9_awaits_49 : decode cX9_awaits 49 = .ok (.iconst 1, 1) := by decide +kernel
theorem dX9_awaits_50 : decode cX9_awaits 50 = .ok (.iand, 1) := by decide +kernel
theorem dX9_awaits_51 : decode cX9_awaits 51 = .ok (.istore 4, 2) := by decide +kernel
theorem dX9_awaits_53 : decode cX9_awaits 53 = .ok (.aload_n 0, 1) := by decide +kernel
theorem dX9_awaits_54 : decode cX9_awaits 54 = .ok (.getfield 24, 3) := by decide +kernel
theorem dX9_awaits_57 : decode cX9_awaits 57 = .ok (.getfield 176, 3) := by decide +kernel
theorem dX9_awaits_60 : decode cX9_awaits 60 = .ok (.iload_n 1, 1) := by decide +kernel
theorem dX9_awaits_61 : decode cX9_awaits 61 = .ok (.aload_n 0, 1) := by decide +kernel
theorem dX9_awaits_62 : decode cX9_awaits 62 = .ok (.getfield 24, 3) := by decide +kernel
theorem dX9_awaits_65 : decode cX9_awaits 65 = .ok (.getfield 176, 3) := by decide +kernel
theorem dX9_awaits_68 : decode cX9_awaits 68 = .ok (.iload_n 1, 1) := by decide +kernel
theorem dX9_awaits_69 : decode cX9_awaits 69 = .ok (.iaload, 1) := by decide +kernel
theorem dX9_awaits_70 : decode cX9_awaits 70 = .ok (.iload_n 2, 1) := by decide +kernel
theorem dX9_awaits_71 : decode cX9_awaits 71 = .ok (.iload_n 3, 1) := by decide +kernel
theorem dX9_awaits_72 : decode cX9_awaits 72 = .ok (.iconst 1, 1) := by decide +kernel
theorem dX9_awaits_73 : decode cX9_awaits 73 = .ok (.if_icmp .ne 7, 3) := by decide +kernel
theorem dX9_awaits_76 : decode cX9_awaits 76 = .ok (.iconst 1, 1) := by decide +kernel
theorem dX9_awaits_77 : decode cX9_awaits 77 = .ok (.goto 4, 3) := by decide +kernel
theorem dX9_awaits_80 : decode cX9_awaits 80 = .ok (.iconst 0, 1) := by decide +kernel
theorem dX9_awaits_81 : decode cX9_awaits 81 = .ok (.invokestatic 179, 3) := by decide +kernel
theorem dX9_awaits_84 : decode cX9_awaits 84 = .ok (.iastore, 1) := by decide +kernel
theorem dX9_awaits_85 : decode cX9_awaits 85 = .ok (.iload 4, 2) := by decide +kernel
theorem dX9_awaits_87 : decode cX9_awaits 87 = .ok (.ireturn, 1) := by decide +kernel
theorem dX9_stamp_0 : decode cX9_stamp 0 = .ok (.aload_n 0, 1) := by decide +kernel
theorem dX9_stamp_1 : decode cX9_stamp 1 = .ok (.getfield 24, 3) := by decide +kernel
theorem dX9_stamp_4 : decode cX9_stamp 4 = .ok (.iload_n 1, 1) := by decide +kernel
theorem dX9_stamp_5 : decode cX9_stamp 5 = .ok (.invokevirtual 157, 3) := by decide +kernel
theorem dX9_stamp_8 : decode cX9_stamp 8 = .ok (.ifCond .ne 5, 3) := by decide +kernel
theorem dX9_stamp_11 : decode cX9_stamp 11 = .ok (.iconst (-1), 1) := by decide +kernel
theorem dX9_stamp_12 : decode cX9_stamp 12 = .ok (.ireturn, 1) := by decide +kernel
theorem dX9_stamp_13 : decode cX9_stamp 13 = .ok (.aload_n 0, 1) := by decide +kernel
theorem dX9_stamp_14 : decode cX9_stamp 14 = .ok (.getfield 43, 3) := by decide +kernel
theorem dX9_stamp_17 : decode cX9_stamp 17 = .ok (.getfield 183, 3) := by decide +kernel
theorem dX9_stamp_20 : decode cX9_stamp 20 = .ok (.aload_n 0, 1) := by decide +kernel
theorem dX9_stamp_21 : decode cX9_stamp 21 = .ok (.getfield 24, 3) := by decide +kernel
theorem dX9_stamp_24 : decode cX9_stamp 24 = .ok (.iload_n 1, 1) := by decide +kernel
theorem dX9_stamp_25 : decode cX9_stamp 25 = .ok (.invokevirtual 186, 3) := by decide +kernel
theorem dX9_stamp_28 : decode cX9_stamp 28 = .ok (.ifCond .ne 6, 3) := by decide +kernel
theorem dX9_stamp_31 : decode cX9_stamp 31 = .ok (.bipush (-4), 2) := by decide +kernel
theorem dX9_stamp_33 : decode cX9_stamp 33 = .ok (.ireturn, 1) := by decide +kernel
theorem dX9_stamp_34 : decode cX9_stamp 34 = .ok (.aload_n 0, 1) := by decide +kernel
theorem dX9_stamp_35 : decode cX9_stamp 35 = .ok (.getfield 43, 3) := by decide +kernel
theorem dX9_stamp_38 : decode cX9_stamp 38 = .ok (.invokevirtual 190, 3) := by decide +kernel
theorem dX9_stamp_41 : decode cX9_stamp 41 = .ok (.ifCond .eq 6, 3) := by decide +kernel
theorem dX9_stamp_44 : decode cX9_stamp 44 = .ok (.bipush (-2), 2) := by decide +kernel
theorem dX9_stamp_46 : decode cX9_stamp 46 = .ok (.ireturn, 1) := by decide +kernel
theorem dX9_stamp_47 : decode cX9_stamp 47 = .ok (.aload_n 0, 1) := by decide +kernel
theorem dX9_stamp_48 : decode cX9_stamp 48 = .ok (.iload_n 1, 1) := by decide +kernel
theorem dX9_stamp_49 : decode cX9_stamp 49 = .ok (.invokevirtual 194, 3) := by decide +kernel
theorem dX9_stamp_52 : decode cX9_stamp 52 = .ok (.aload_n 0, 1) := by decide +kernel
theorem dX9_stamp_53 : decode cX9_stamp 53 = .ok (.getfield 43, 3) := by decide +kernel
theorem dX9_stamp_56 : decode cX9_stamp 56 = .ok (.getfield 183, 3) := by decide +kernel
theorem dX9_stamp_59 : decode cX9_stamp 59 = .ok (.getfield 197, 3) := by decide +kernel
theorem dX9_stamp_62 : decode cX9_stamp 62 = .ok (.ireturn, 1) := by decide +kernel
theorem dX9_season_0 : decode cX9_season 0 = .ok (.aload_n 0, 1) := by decide +kernel
theorem dX9_season_1 : decode cX9_season 1 = .ok (.getfield 24, 3) := by decide +kernel
theorem dX9_season_4 : decode cX9_season 4 = .ok (.getfield 154, 3) := by decide +kernel
theorem dX9_season_7 : decode cX9_season 7 = .ok (.ifCond .ne 6, 3) := by decide +kernel
theorem dX9_season_10 : decode cX9_season 10 = .ok (.bipush (-4), 2) := by decide +kernel
theorem dX9_season_12 : decode cX9_season 12 = .ok (.ireturn, 1) := by decide +kernel
theorem dX9_season_13 : decode cX9_season 13 = .ok (.aload_n 0, 1) := by decide +kernel
theorem dX9_season_14 : decode cX9_season 14 = .ok (.getfield 43, 3) := by decide +kernel
theorem dX9_season_17 : decode cX9_season 17 = .ok (.invokevirtual 190, 3) := by decide +kernel
theorem dX9_season_20 : decode cX9_season 20 = .ok (.ifCond .eq 6, 3) := by decide +kernel
theorem dX9_season_23 : decode cX9_season 23 = .ok (.bipush (-2), 2) := by decide +kernel
theorem dX9_season_25 : decode cX9_season 25 = .ok (.ireturn, 1) := by decide +kernel
theorem dX9_season_26 : decode cX9_season 26 = .ok (.aload_n 0, 1) := by decide +kernel
theorem dX9_season_27 : decode cX9_season 27 = .ok (.aload_n 0, 1) := by decide +kernel
theorem dX9_season_28 : decode cX9_season 28 = .ok (.invokevirtual 200, 3) := by decide +kernel
theorem dX9_season_31 : decode cX9_season 31 = .ok (.putfield 102, 3) := by decide +kernel
theorem dX9_season_34 : decode cX9_season 34 = .ok (.aload_n 0, 1) := by decide +kernel
theorem dX9_season_35 : decode cX9_season 35 = .ok (.getfield 102, 3) := by decide +kernel
theorem dX9_season_38 : decode cX9_season 38 = .ok (.invokestatic 204, 3) := by decide +kernel
theorem dX9_season_41 : decode cX9_season 41 = .ok (.ireturn, 1) := by decide +kernel
theorem dX9_leave_0 : decode cX9_leave 0 = .ok (.aload_n 0, 1) := by decide +kernel
theorem dX9_leave_1 : decode cX9_leave 1 = .ok (.getfield 24, 3) := by decide +kernel
theorem dX9_leave_4 : decode cX9_leave 4 = .ok (.iload_n 1, 1) := by decide +kernel
theorem dX9_leave_5 : decode cX9_leave 5 = .ok (.invokevirtual 157, 3) := by decide +kernel
theorem dX9_leave_8 : decode cX9_leave 8 = .ok (.ifCond .ne 5, 3) := by decide +kernel
theorem dX9_leave_11 : decode cX9_leave 11 = .ok (.iconst (-1), 1) := by decide +kernel
theorem dX9_leave_12 : decode cX9_leave 12 = .ok (.ireturn, 1) := by decide +kernel
theorem dX9_leave_13 : decode cX9_leave 13 = .ok (.aload_n 0, 1) := by decide +kernel
theorem dX9_leave_14 : decode cX9_leave 14 = .ok (.getfield 43, 3) := by decide +kernel
theorem dX9_leave_17 : decode cX9_leave 17 = .ok (.getfield 183, 3) := by decide +kernel
theorem dX9_leave_20 : decode cX9_leave 20 = .ok (.getfield 209, 3) := by decide +kernel
theorem dX9_leave_23 : decode cX9_leave 23 = .ok (.iload_n 1, 1) := by decide +kernel
theorem dX9_leave_24 : decode cX9_leave 24 = .ok (.invokestatic 212, 3) := by decide +kernel
theorem dX9_leave_27 : decode cX9_leave 27 = .ok (.ifCond .ne 6, 3) := by decide +kernel
theorem dX9_leave_30 : decode cX9_leave 30 = .ok (.bipush (-4), 2) := by decide +kernel
theorem dX9_leave_32 : decode cX9_leave 32 = .ok (.ireturn, 1) := by decide +kernel
theorem dX9_leave_33 : decode cX9_leave 33 = .ok (.aload_n 0, 1) := by decide +kernel
theorem dX9_leave_34 : decode cX9_leave 34 = .ok (.getfield 43, 3) := by decide +kernel
theorem dX9_leave_37 : decode cX9_leave 37 = .ok (.invokevirtual 190, 3) := by decide +kernel
theorem dX9_leave_40 : decode cX9_leave 40 = .ok (.ifCond .eq 6, 3) := by decide +kernel
theorem dX9_leave_43 : decode cX9_leave 43 = .ok (.bipush (-2), 2) := by decide +kernel
theorem dX9_leave_45 : decode cX9_leave 45 = .ok (.ireturn, 1) := by decide +kernel
theorem dX9_leave_46 : decode cX9_leave 46 = .ok (.aload_n 0, 1) := by decide +kernel
theorem dX9_leave_47 : decode cX9_leave 47 = .ok (.getfield 43, 3) := by decide +kernel
theorem dX9_leave_50 : decode cX9_leave 50 = .ok (.invokevirtual 215, 3) := by decide +kernel
theorem dX9_leave_53 : decode cX9_leave 53 = .ok (.aload_n 0, 1) := by decide +kernel
theorem dX9_leave_54 : decode cX9_leave 54 = .ok (.getfield 43, 3) := by decide +kernel
theorem dX9_leave_57 : decode cX9_leave 57 = .ok (.getfield 183, 3) := by decide +kernel
theorem dX9_leave_60 : decode cX9_leave 60 = .ok (.iload_n 1, 1) := by decide +kernel
theorem dX9_leave_61 : decode cX9_leave 61 = .ok (.invokevirtual 218, 3) := by decide +kernel
theorem dX9_leave_64 : decode cX9_leave 64 = .ok (.iconst 1, 1) := by decide +kernel
theorem dX9_leave_65 : decode cX9_leave 65 = .ok (.ireturn, 1) := by decide +kernel
theorem dX9_undo_0 : decode cX9_undo 0 = .ok (.iload_n 1, 1) := by decide +kernel
theorem dX9_undo_1 : decode cX9_undo 1 = .ok (.ifCond .lt 14, 3) := by decide +kernel
theorem dX9_undo_4 : decode cX9_undo 4 = .ok (.iload_n 1, 1) := by decide +kernel
theorem dX9_undo_5 : decode cX9_undo 5 = .ok (.aload_n 0, 1) := by decide +kernel
theorem dX9_undo_6 : decode cX9_undo 6 = .ok (.getfield 43, 3) := by decide +kernel
theorem dX9_undo_9 : decode cX9_undo 9 = .ok (.getfield 221, 3) := by decide +kernel
theorem dX9_undo_12 : decode cX9_undo 12 = .ok (.if_icmp .le 5, 3) := by decide +kernel
theorem dX9_undo_15 : decode cX9_undo 15 = .ok (.iconst (-1), 1) := by decide +kernel
theorem dX9_undo_16 : decode cX9_undo 16 = .ok (.ireturn, 1) := by decide +kernel
theorem dX9_undo_17 : decode cX9_undo 17 = .ok (.aload_n 0, 1) := by decide +kernel
theorem dX9_undo_18 : decode cX9_undo 18 = .ok (.getfield 43, 3) := by decide +kernel
theorem dX9_undo_21 : decode cX9_undo 21 = .ok (.getfield 221, 3) := by decide +kernel
theorem dX9_undo_24 : decode cX9_undo 24 = .ok (.iload_n 1, 1) := by decide +kernel
theorem dX9_undo_25 : decode cX9_undo 25 = .ok (.isub, 1) := by decide +kernel
theorem dX9_undo_26 : decode cX9_undo 26 = .ok (.istore_n 2, 1) := by decide +kernel
theorem dX9_undo_27 : decode cX9_undo 27 = .ok (.aload_n 0, 1) := by decide +kernel
theorem dX9_undo_28 : decode cX9_undo 28 = .ok (.getfield 43, 3) := by decide +kernel
theorem dX9_undo_31 : decode cX9_undo 31 = .ok (.iload_n 1, 1) := by decide +kernel
theorem dX9_undo_32 : decode cX9_undo 32 = .ok (.invokevirtual 224, 3) := by decide +kernel
theorem dX9_undo_35 : decode cX9_undo 35 = .ok (.iload_n 2, 1) := by decide +kernel
theorem dX9_undo_36 : decode cX9_undo 36 = .ok (.ireturn, 1) := by decide +kernel
theorem dX9_now_0 : decode cX9_now 0 = .ok (.aload_n 0, 1) := by decide +kernel
theorem dX9_now_1 : decode cX9_now 1 = .ok (.getfield 24, 3) := by decide +kernel
theorem dX9_now_4 : decode cX9_now 4 = .ok (.getfield 154, 3) := by decide +kernel
theorem dX9_now_7 : decode cX9_now 7 = .ok (.ifCond .ne 6, 3) := by decide +kernel
theorem dX9_now_10 : decode cX9_now 10 = .ok (.bipush (-4), 2) := by decide +kernel
theorem dX9_now_12 : decode cX9_now 12 = .ok (.ireturn, 1) := by decide +kernel
theorem dX9_now_13 : decode cX9_now 13 = .ok (.aload_n 0, 1) := by decide +kernel
theorem dX9_now_14 : decode cX9_now 14 = .ok (.aload_n 0, 1) := by decide +kernel
theorem dX9_now_15 : decode cX9_now 15 = .ok (.getfield 43, 3) := by decide +kernel
theorem dX9_now_18 : decode cX9_now 18 = .ok (.getfield 183, 3) := by decide +kernel
theorem dX9_now_21 : decode cX9_now 21 = .ok (.getfield 197, 3) := by decide +kernel
theorem dX9_now_24 : decode cX9_now 24 = .ok (.putfield 102, 3) := by decide +kernel
theorem dX9_now_27 : decode cX9_now 27 = .ok (.aload_n 0, 1) := by decide +kernel
theorem dX9_now_28 : decode cX9_now 28 = .ok (.getfield 43, 3) := by decide +kernel
theorem dX9_now_31 : decode cX9_now 31 = .ok (.getfield 183, 3) := by decide +kernel
theorem dX9_now_34 : decode cX9_now 34 = .ok (.getfield 227, 3) := by decide +kernel
theorem dX9_now_37 : decode cX9_now 37 = .ok (.ireturn, 1) := by decide +kernel
theorem dX9_water_0 : decode cX9_water 0 = .ok (.aload_n 0, 1) := by decide +kernel
theorem dX9_water_1 : decode cX9_water 1 = .ok (.getfield 24, 3) := by decide +kernel
theorem dX9_water_4 : decode cX9_water 4 = .ok (.iload_n 1, 1) := by decide +kernel
theorem dX9_water_5 : decode cX9_water 5 = .ok (.invokevirtual 157, 3) := by decide +kernel
theorem dX9_water_8 : decode cX9_water 8 = .ok (.ifCond .eq 24, 3) := by decide +kernel
theorem dX9_water_11 : decode cX9_water 11 = .ok (.aload_n 0, 1) := by decide +kernel
theorem dX9_water_12 : decode cX9_water 12 = .ok (.getfield 24, 3) := by decide +kernel
theorem dX9_water_15 : decode cX9_water 15 = .ok (.iload_n 1, 1) := by decide +kernel
theorem dX9_water_16 : decode cX9_water 16 = .ok (.aload_n 0, 1) := by decide +kernel
theorem dX9_water_17 : decode cX9_water 17 = .ok (.getfield 43, 3) := by decide +kernel
theorem dX9_water_20 : decode cX9_water 20 = .ok (.getfield 183, 3) := by decide +kernel
theorem dX9_water_23 : decode cX9_water 23 = .ok (.getfield 197, 3) := by decide +kernel
theorem dX9_water_26 : decode cX9_water 26 = .ok (.invokevirtual 230, 3) := by decide +kernel
theorem dX9_water_29 : decode cX9_water 29 = .ok (.goto 4, 3) := by decide +kernel
theorem dX9_water_32 : decode cX9_water 32 = .ok (.iconst (-1), 1) := by decide +kernel
theorem dX9_water_33 : decode cX9_water 33 = .ok (.ireturn, 1) := by decide +kernel
theorem dX9_keep_0 : decode cX9_keep 0 = .ok (.iload_n 1, 1) := by decide +kernel
theorem dX9_keep_1 : decode cX9_keep 1 = .ok (.ifCond .lt 8, 3) := by decide +kernel
theorem dX9_keep_4 : decode cX9_keep 4 = .ok (.iload_n 1, 1) := by decide +kernel
theorem dX9_keep_5 : decode cX9_keep 5 = .ok (.iconst 3, 1) := by decide +kernel
theorem dX9_keep_6 : decode cX9_keep 6 = .ok (.if_icmp .lt 5, 3) := by decide +kernel
theorem dX9_keep_9 : decode cX9_keep 9 = .ok (.iconst (-1), 1) := by decide +kernel
theorem dX9_keep_10 : decode cX9_keep 10 = .ok (.ireturn, 1) := by decide +kernel
theorem dX9_keep_11 : decode cX9_keep 11 = .ok (.aload_n 0, 1) := by decide +kernel
theorem dX9_keep_12 : decode cX9_keep 12 = .ok (.getfield 24, 3) := by decide +kernel
theorem dX9_keep_15 : decode cX9_keep 15 = .ok (.getfield 154, 3) := by decide +kernel
theorem dX9_keep_18 : decode cX9_keep 18 = .ok (.ifCond .ne 6, 3) := by decide +kernel
theorem dX9_keep_21 : decode cX9_keep 21 = .ok (.bipush (-4), 2) := by decide +kernel
theorem dX9_keep_23 : decode cX9_keep 23 = .ok (.ireturn, 1) := by decide +kernel
theorem dX9_keep_24 : decode cX9_keep 24 = .ok (.aload_n 0, 1) := by decide +kernel
theorem dX9_keep_25 : decode cX9_keep 25 = .ok (.getfield 49, 3) := by decide +kernel
theorem dX9_keep_28 : decode cX9_keep 28 = .ok (.iload_n 1, 1) := by decide +kernel
theorem dX9_keep_29 : decode cX9_keep 29 = .ok (.aaload, 1) := by decide +kernel
theorem dX9_keep_30 : decode cX9_keep 30 = .ok (.getfield 233, 3) := by decide +kernel
theorem dX9_keep_33 : decode cX9_keep 33 = .ok (.aload_n 0, 1) := by decide +kernel
theorem dX9_keep_34 : decode cX9_keep 34 = .ok (.getfield 43, 3) := by decide +kernel
theorem dX9_keep_37 : decode cX9_keep 37 = .ok (.invokevirtual 234, 3) := by decide +kernel
theorem dX9_keep_40 : decode cX9_keep 40 = .ok (.aload_n 0, 1) := by decide +kernel
theorem dX9_keep_41 : decode cX9_keep 41 = .ok (.getfield 24, 3) := by decide +kernel
theorem dX9_keep_44 : decode cX9_keep 44 = .ok (.getfield 170, 3) := by decide +kernel
theorem dX9_keep_47 : decode cX9_keep 47 = .ok (.iconst 0, 1) := by decide +kernel
theorem dX9_keep_48 : decode cX9_keep 48 = .ok (.aload_n 0, 1) := by decide +kernel
theorem dX9_keep_49 : decode cX9_keep 49 = .ok (.getfield 49, 3) := by decide +kernel
theorem dX9_keep_52 : decode cX9_keep 52 = .ok (.iload_n 1, 1) := by decide +kernel
theorem dX9_keep_53 : decode cX9_keep 53 = .ok (.aaload, 1) := by decide +kernel
theorem dX9_keep_54 : decode cX9_keep 54 = .ok (.getfield 238, 3) := by decide +kernel
theorem dX9_keep_57 : decode cX9_keep 57 = .ok (.iconst 0, 1) := by decide +kernel
theorem dX9_keep_58 : decode cX9_keep 58 = .ok (.iconst 5, 1) := by decide +kernel
theorem dX9_keep_59 : decode cX9_keep 59 = .ok (.invokestatic 241, 3) := by decide +kernel
theorem dX9_keep_62 : decode cX9_keep 62 = .ok (.aload_n 0, 1) := by decide +kernel
theorem dX9_keep_63 : decode cX9_keep 63 = .ok (.getfield 49, 3) := by decide +kernel
theorem dX9_keep_66 : decode cX9_keep 66 = .ok (.iload_n 1, 1) := by decide +kernel
theorem dX9_keep_67 : decode cX9_keep 67 = .ok (.aaload, 1) := by decide +kernel
theorem dX9_keep_68 : decode cX9_keep 68 = .ok (.iconst 1, 1) := by decide +kernel
theorem dX9_keep_69 : decode cX9_keep 69 = .ok (.putfield 150, 3) := by decide +kernel
theorem dX9_keep_72 : decode cX9_keep 72 = .ok (.aload_n 0, 1) := by decide +kernel
theorem dX9_keep_73 : decode cX9_keep 73 = .ok (.getfield 43, 3) := by decide +kernel
theorem dX9_keep_76 : decode cX9_keep 76 = .ok (.getfield 221, 3) := by decide +kernel
theorem dX9_keep_79 : decode cX9_keep 79 = .ok (.ireturn, 1) := by decide +kernel
theorem dX9_on_0 : decode cX9_on 0 = .ok (.iload_n 1, 1) := by decide +kernel
theorem dX9_on_1 : decode cX9_on 1 = .ok (.ifCond .lt 8, 3) := by decide +kernel
theorem dX9_on_4 : decode cX9_on 4 = .ok (.iload_n 1, 1) := by decide +kernel
theorem dX9_on_5 : decode cX9_on 5 = .ok (.iconst 3, 1) := by decide +kernel
theorem dX9_on_6 : decode cX9_on 6 = .ok (.if_icmp .lt 5, 3) := by decide +kernel
theorem dX9_on_9 : decode cX9_on 9 = .ok (.iconst (-1), 1) := by decide +kernel
theorem dX9_on_10 : decode cX9_on 10 = .ok (.ireturn, 1) := by decide +kernel
theorem dX9_on_11 : decode cX9_on 11 = .ok (.aload_n 0, 1) := by decide +kernel
theorem dX9_on_12 : decode cX9_on 12 = .ok (.getfield 49, 3) := by decide +kernel
theorem dX9_on_15 : decode cX9_on 15 = .ok (.iload_n 1, 1) := by decide +kernel
theorem dX9_on_16 : decode cX9_on 16 = .ok (.aaload, 1) := by decide +kernel
theorem dX9_on_17 : decode cX9_on 17 = .ok (.getfield 150, 3) := by decide +kernel
theorem dX9_on_20 : decode cX9_on 20 = .ok (.ifCond .ne 9, 3) := by decide +kernel
theorem dX9_on_23 : decode cX9_on 23 = .ok (.aload_n 0, 1) := by decide +kernel
theorem dX9_on_24 : decode cX9_on 24 = .ok (.iconst 1, 1) := by decide +kernel
theorem dX9_on_25 : decode cX9_on 25 = .ok (.invokevirtual 122, 3) := by decide +kernel
theorem dX9_on_28 : decode cX9_on 28 = .ok (.ireturn, 1) := by decide +kernel
theorem dX9_on_29 : decode cX9_on 29 = .ok (.aload_n 0, 1) := by decide +kernel
theorem dX9_on_30 : decode cX9_on 30 = .ok (.getfield 43, 3) := by decide +kernel
theorem dX9_on_33 : decode cX9_on 33 = .ok (.aload_n 0, 1) := by decide +kernel
theorem dX9_on_34 : decode cX9_on 34 = .ok (.getfield 49, 3) := by decide +kernel
theorem dX9_on_37 : decode cX9_on 37 = .ok (.iload_n 1, 1) := by decide +kernel
theorem dX9_on_38 : decode cX9_on 38 = .ok (.aaload, 1) := by decide +kernel
theorem dX9_on_39 : decode cX9_on 39 = .ok (.getfield 233, 3) := by decide +kernel
theorem dX9_on_42 : decode cX9_on 42 = .ok (.invokevirtual 234, 3) := by decide +kernel
theorem dX9_on_45 : decode cX9_on 45 = .ok (.aload_n 0, 1) := by decide +kernel
theorem dX9_on_46 : decode cX9_on 46 = .ok (.getfield 49, 3) := by decide +kernel
theorem dX9_on_49 : decode cX9_on 49 = .ok (.iload_n 1, 1) := by decide +kernel
theorem dX9_on_50 : decode cX9_on 50 = .ok (.aaload, 1) := by decide +kernel
theorem dX9_on_51 : decode cX9_on 51 = .ok (.getfield 238, 3) := by decide +kernel
theorem dX9_on_54 : decode cX9_on 54 = .ok (.iconst 0, 1) := by decide +kernel
theorem dX9_on_55 : decode cX9_on 55 = .ok (.aload_n 0, 1) := by decide +kernel
theorem dX9_on_56 : decode cX9_on 56 = .ok (.getfield 24, 3) := by decide +kernel
theorem dX9_on_59 : decode cX9_on 59 = .ok (.getfield 170, 3) := by decide +kernel
theorem dX9_on_62 : decode cX9_on 62 = .ok (.iconst 0, 1) := by decide +kernel
theorem dX9_on_63 : decode cX9_on 63 = .ok (.iconst 5, 1) := by decide +kernel
theorem dX9_on_64 : decode cX9_on 64 = .ok (.invokestatic 241, 3) := by decide +kernel
theorem dX9_on_67 : decode cX9_on 67 = .ok (.aload_n 0, 1) := by decide +kernel
theorem dX9_on_68 : decode cX9_on 68 = .ok (.getfield 24, 3) := by decide +kernel
theorem dX9_on_71 : decode cX9_on 71 = .ok (.invokevirtual 173, 3) := by decide +kernel
theorem dX9_on_74 : decode cX9_on 74 = .ok (.aload_n 0, 1) := by decide +kernel
theorem dX9_on_75 : decode cX9_on 75 = .ok (.getfield 43, 3) := by decide +kernel
theorem dX9_on_78 : decode cX9_on 78 = .ok (.getfield 221, 3) := by decide +kernel
theorem dX9_on_81 : decode cX9_on 81 = .ok (.ireturn, 1) := by decide +kernel
theorem dX9_run_0 : decode cX9_run 0 = .ok (.aload_n 0, 1) := by decide +kernel
theorem dX9_run_1 : decode cX9_run 1 = .ok (.iload_n 1, 1) := by decide +kernel
theorem dX9_run_2 : decode cX9_run 2 = .ok (.invokevirtual 247, 3) := by decide +kernel
theorem dX9_run_5 : decode cX9_run 5 = .ok (.istore_n 2, 1) := by decide +kernel
theorem dX9_run_6 : decode cX9_run 6 = .ok (.iload_n 2, 1) := by decide +kernel
theorem dX9_run_7 : decode cX9_run 7 = .ok (.ifCond .eq 5, 3) := by decide +kernel
theorem dX9_run_10 : decode cX9_run 10 = .ok (.iload_n 2, 1) := by decide +kernel
theorem dX9_run_11 : decode cX9_run 11 = .ok (.ireturn, 1) := by decide +kernel
theorem dX9_run_12 : decode cX9_run 12 = .ok (.aload_n 0, 1) := by decide +kernel
theorem dX9_run_13 : decode cX9_run 13 = .ok (.getfield 14, 3) := by decide +kernel
theorem dX9_run_16 : decode cX9_run 16 = .ok (.iload_n 1, 1) := by decide +kernel
theorem dX9_run_17 : decode cX9_run 17 = .ok (.invokevirtual 137, 3) := by decide +kernel
theorem dX9_run_20 : decode cX9_run 20 = .ok (.bipush 12, 2) := by decide +kernel
theorem dX9_run_22 : decode cX9_run 22 = .ok (.if_icmp .le 9, 3) := by decide +kernel
theorem dX9_run_25 : decode cX9_run 25 = .ok (.aload_n 0, 1) := by decide +kernel
theorem dX9_run_26 : decode cX9_run 26 = .ok (.iconst 5, 1) := by decide +kernel
theorem dX9_run_27 : decode cX9_run 27 = .ok (.invokevirtual 122, 3) := by decide +kernel
theorem dX9_run_30 : decode cX9_run 30 = .ok (.ireturn, 1) := by decide +kernel
theorem dX9_run_31 : decode cX9_run 31 = .ok (.aload_n 0, 1) := by decide +kernel
theorem dX9_run_32 : decode cX9_run 32 = .ok (.iload_n 1, 1) := by decide +kernel
theorem dX9_run_33 : decode cX9_run 33 = .ok (.invokevirtual 250, 3) := by decide +kernel
theorem dX9_run_36 : decode cX9_run 36 = .ok (.ifCond .ne 9, 3) := by decide +kernel
theorem dX9_run_39 : decode cX9_run 39 = .ok (.aload_n 0, 1) := by decide +kernel
theorem dX9_run_40 : decode cX9_run 40 = .ok (.iconst 3, 1) := by decide +kernel
theorem dX9_run_41 : decode cX9_run 41 = .ok (.invokevirtual 122, 3) := by decide +kernel
theorem dX9_run_44 : decode cX9_run 44 = .ok (.ireturn, 1) := by decide +kernel
theorem dX9_run_45 : decode cX9_run 45 = .ok (.aload_n 0, 1) := by decide +kernel
theorem dX9_run_46 : decode cX9_run 46 = .ok (.getfield 56, 3) := by decide +kernel
theorem dX9_run_49 : decode cX9_run 49 = .ok (.aload_n 0, 1) := by decide +kernel
theorem dX9_run_50 : decode cX9_run 50 = .ok (.getfield 43, 3) := by decide +kernel
theorem dX9_run_53 : decode cX9_run 53 = .ok (.getfield 183, 3) := by decide +kernel
theorem dX9_run_56 : decode cX9_run 56 = .ok (.invokevirtual 253, 3) := by decide +kernel
theorem dX9_run_59 : decode cX9_run 59 = .ok (.iconst 0, 1) := by decide +kernel
theorem dX9_run_60 : decode cX9_run 60 = .ok (.istore_n 3, 1) := by decide +kernel
theorem dX9_run_61 : decode cX9_run 61 = .ok (.iconst 0, 1) := by decide +kernel
theorem dX9_run_62 : decode cX9_run 62 = .ok (.istore 4, 2) := by decide +kernel
theorem dX9_run_64 : decode cX9_run 64 = .ok (.iconst 0, 1) := by decide +kernel
theorem dX9_run_65 : decode cX9_run 65 = .ok (.istore 5, 2) := by decide +kernel
theorem dX9_run_67 : decode cX9_run 67 = .ok (.iload 5, 2) := by decide +kernel
theorem dX9_run_69 : decode cX9_run 69 = .ok (.aload_n 0, 1) := by decide +kernel
theorem dX9_run_70 : decode cX9_run 70 = .ok (.getfield 14, 3) := by decide +kernel
theorem dX9_run_73 : decode cX9_run 73 = .ok (.iload_n 1, 1) := by decide +kernel
theorem dX9_run_74 : decode cX9_run 74 = .ok (.invokevirtual 137, 3) := by decide +kernel
theorem dX9_run_77 : decode cX9_run 77 = .ok (.if_icmp .ge 55, 3) := by decide +kernel
theorem dX9_run_80 : decode cX9_run 80 = .ok (.iload 4, 2) := by decide +kernel
theorem dX9_run_82 : decode cX9_run 82 = .ok (.aload_n 0, 1) := by decide +kernel
theorem dX9_run_83 : decode cX9_run 83 = .ok (.getfield 56, 3) := by decide +kernel
theorem dX9_run_86 : decode cX9_run 86 = .ok (.aload_n 0, 1) := by decide +kernel
theorem dX9_run_87 : decode cX9_run 87 = .ok (.getfield 24, 3) := by decide +kernel
theorem dX9_run_90 : decode cX9_run 90 = .ok (.aload_n 0, 1) := by decide +kernel
theorem dX9_run_91 : decode cX9_run 91 = .ok (.getfield 14, 3) := by decide +kernel
theorem dX9_run_94 : decode cX9_run 94 = .ok (.iload_n 1, 1) := by decide +kernel
theorem dX9_run_95 : decode cX9_run 95 = .ok (.iload 5, 2) := by decide +kernel
theorem dX9_run_97 : decode cX9_run 97 = .ok (.invokevirtual 98, 3) := by decide +kernel
theorem dX9_run_100 : decode cX9_run 100 = .ok (.invokevirtual 256, 3) := by decide +kernel
theorem dX9_run_103 : decode cX9_run 103 = .ok (.invokestatic 204, 3) := by decide +kernel
theorem dX9_run_106 : decode cX9_run 106 = .ok (.iadd, 1) := by decide +kernel
theorem dX9_run_107 : decode cX9_run 107 = .ok (.istore 4, 2) := by decide +kernel
theorem dX9_run_109 : decode cX9_run 109 = .ok (.iload_n 3, 1) := by decide +kernel
theorem dX9_run_110 : decode cX9_run 110 = .ok (.aload_n 0, 1) := by decide +kernel
theorem dX9_run_111 : decode cX9_run 111 = .ok (.getfield 56, 3) := by decide +kernel
theorem dX9_run_114 : decode cX9_run 114 = .ok (.aload_n 0, 1) := by decide +kernel
theorem dX9_run_115 : decode cX9_run 115 = .ok (.getfield 24, 3) := by decide +kernel
theorem dX9_run_118 : decode cX9_run 118 = .ok (.invokevirtual 260, 3) := by decide +kernel
theorem dX9_run_121 : decode cX9_run 121 = .ok (.invokestatic 204, 3) := by decide +kernel
theorem dX9_run_124 : decode cX9_run 124 = .ok (.iadd, 1) := by decide +kernel
theorem dX9_run_125 : decode cX9_run 125 = .ok (.istore_n 3, 1) := by decide +kernel
theorem dX9_run_126 : decode cX9_run 126 = .ok (.iinc 5 1, 3) := by decide +kernel
theorem dX9_run_129 : decode cX9_run 129 = .ok (.goto (-62), 3) := by decide +kernel
theorem dX9_run_132 : decode cX9_run 132 = .ok (.aload_n 0, 1) := by decide +kernel
theorem dX9_run_133 : decode cX9_run 133 = .ok (.iload 4, 2) := by decide +kernel
theorem dX9_run_135 : decode cX9_run 135 = .ok (.putfield 102, 3) := by decide +kernel
theorem dX9_run_138 : decode cX9_run 138 = .ok (.iload_n 3, 1) := by decide +kernel
theorem dX9_run_139 : decode cX9_run 139 = .ok (.ireturn, 1) := by decide +kernel
theorem dX9_best_0 : decode cX9_best 0 = .ok (.iload_n 1, 1) := by decide +kernel
theorem dX9_best_1 : decode cX9_best 1 = .ok (.ifCond .lt 19, 3) := by decide +kernel
theorem dX9_best_4 : decode cX9_best 4 = .ok (.iload_n 1, 1) := by decide +kernel
theorem dX9_best_5 : decode cX9_best 5 = .ok (.iconst 3, 1) := by decide +kernel
theorem dX9_best_6 : decode cX9_best 6 = .ok (.if_icmp .gt 14, 3) := by decide +kernel
theorem dX9_best_9 : decode cX9_best 9 = .ok (.aload_n 0, 1) := by decide +kernel
theorem dX9_best_10 : decode cX9_best 10 = .ok (.getfield 14, 3) := by decide +kernel
theorem dX9_best_13 : decode cX9_best 13 = .ok (.iload_n 2, 1) := by decide +kernel
theorem dX9_best_14 : decode cX9_best 14 = .ok (.invokevirtual 118, 3) := by decide +kernel
theorem dX9_best_17 : decode cX9_best 17 = .ok (.ifCond .ne 5, 3) := by decide +kernel
theorem dX9_best_20 : decode cX9_best 20 = .ok (.iconst (-1), 1) := by decide +kernel
theorem dX9_best_21 : decode cX9_best 21 = .ok (.ireturn, 1) := by decide +kernel
theorem dX9_best_22 : decode cX9_best 22 = .ok (.aload_n 0, 1) := by decide +kernel
theorem dX9_best_23 : decode cX9_best 23 = .ok (.getfield 24, 3) := by decide +kernel
theorem dX9_best_26 : decode cX9_best 26 = .ok (.getfield 154, 3) := by decide +kernel
theorem dX9_best_29 : decode cX9_best 29 = .ok (.ifCond .ne 6, 3) := by decide +kernel
theorem dX9_best_32 : decode cX9_best 32 = .ok (.bipush (-4), 2) := by decide +kernel
theorem dX9_best_34 : decode cX9_best 34 = .ok (.ireturn, 1) := by decide +kernel
theorem dX9_best_35 : decode cX9_best 35 = .ok (.aload_n 0, 1) := by decide +kernel
theorem dX9_best_36 : decode cX9_best 36 = .ok (.getfield 63, 3) := by decide +kernel
theorem dX9_best_39 : decode cX9_best 39 = .ok (.aload_n 0, 1) := by decide +kernel
theorem dX9_best_40 : decode cX9_best 40 = .ok (.getfield 43, 3) := by decide +kernel
theorem dX9_best_43 : decode cX9_best 43 = .ok (.getfield 183, 3) := by decide +kernel
theorem dX9_best_46 : decode cX9_best 46 = .ok (.iload_n 1, 1) := by decide +kernel
theorem dX9_best_47 : decode cX9_best 47 = .ok (.bipush (-9), 2) := by decide +kernel
theorem dX9_best_49 : decode cX9_best 49 = .ok (.invokevirtual 264, 3) := by decide +kernel
theorem dX9_best_52 : decode cX9_best 52 = .ok (.aload_n 0, 1) := by decide +kernel
theorem dX9_best_53 : decode cX9_best 53 = .ok (.iload_n 1, 1) := by decide +kernel
theorem dX9_best_54 : decode cX9_best 54 = .ok (.iload_n 2, 1) := by decide +kernel
theorem dX9_best_55 : decode cX9_best 55 = .ok (.invokevirtual 268, 3) := by decide +kernel
theorem dX9_best_58 : decode cX9_best 58 = .ok (.aload_n 0, 1) := by decide +kernel
theorem dX9_best_59 : decode cX9_best 59 = .ok (.aload_n 0, 1) := by decide +kernel
theorem dX9_best_60 : decode cX9_best 60 = .ok (.getfield 63, 3) := by decide +kernel
theorem dX9_best_63 : decode cX9_best 63 = .ok (.getfield 271, 3) := by decide +kernel
theorem dX9_best_66 : decode cX9_best 66 = .ok (.putfield 102, 3) := by decide +kernel
theorem dX9_best_69 : decode cX9_best 69 = .ok (.aload_n 0, 1) := by decide +kernel
theorem dX9_best_70 : decode cX9_best 70 = .ok (.getfield 63, 3) := by decide +kernel
theorem dX9_best_73 : decode cX9_best 73 = .ok (.getfield 274, 3) := by decide +kernel
theorem dX9_best_76 : decode cX9_best 76 = .ok (.ireturn, 1) := by decide +kernel
theorem dX9_fewest_0 : decode cX9_fewest 0 = .ok (.aload_n 0, 1) := by decide +kernel
theorem dX9_fewest_1 : decode cX9_fewest 1 = .ok (.getfield 24, 3) := by decide +kernel
theorem dX9_fewest_4 : decode cX9_fewest 4 = .ok (.iload_n 1, 1) := by decide +kernel
theorem dX9_fewest_5 : decode cX9_fewest 5 = .ok (.invokevirtual 157, 3) := by decide +kernel
theorem dX9_fewest_8 : decode cX9_fewest 8 = .ok (.ifCond .eq 23, 3) := by decide +kernel
theorem dX9_fewest_11 : decode cX9_fewest 11 = .ok (.iload_n 2, 1) := by decide +kernel
theorem dX9_fewest_12 : decode cX9_fewest 12 = .ok (.ifCond .lt 19, 3) := by decide +kernel
theorem dX9_fewest_15 : decode cX9_fewest 15 = .ok (.iload_n 2, 1) := by decide +kernel
theorem dX9_fewest_16 : decode cX9_fewest 16 = .ok (.iconst 3, 1) := by decide +kernel
theorem dX9_fewest_17 : decode cX9_fewest 17 = .ok (.if_icmp .gt 14, 3) := by decide +kernel
theorem dX9_fewest_20 : decode cX9_fewest 20 = .ok (.aload_n 0, 1) := by decide +kernel
theorem dX9_fewest_21 : decode cX9_fewest 21 = .ok (.getfield 14, 3) := by decide +kernel
theorem dX9_fewest_24 : decode cX9_fewest 24 = .ok (.iload_n 3, 1) := by decide +kernel
theorem dX9_fewest_25 : decode cX9_fewest 25 = .ok (.invokevirtual 118, 3) := by decide +kernel
theorem dX9_fewest_28 : decode cX9_fewest 28 = .ok (.ifCond .ne 5, 3) := by decide +kernel
theorem dX9_fewest_31 : decode cX9_fewest 31 = .ok (.iconst (-1), 1) := by decide +kernel
theorem dX9_fewest_32 : decode cX9_fewest 32 = .ok (.ireturn, 1) := by decide +kernel
theorem dX9_fewest_33 : decode cX9_fewest 33 = .ok (.aload_n 0, 1) := by decide +kernel
theorem dX9_fewest_34 : decode cX9_fewest 34 = .ok (.getfield 63, 3) := by decide +kernel
theorem dX9_fewest_37 : decode cX9_fewest 37 = .ok (.aload_n 0, 1) := by decide +kernel
theorem dX9_fewest_38 : decode cX9_fewest 38 = .ok (.getfield 43, 3) := by decide +kernel
theorem dX9_fewest_41 : decode cX9_fewest 41 = .ok (.getfield 183, 3) := by decide +kernel
theorem dX9_fewest_44 : decode cX9_fewest 44 = .ok (.iload_n 2, 1) := by decide +kernel
theorem dX9_fewest_45 : decode cX9_fewest 45 = .ok (.iload_n 1, 1) := by decide +kernel
theorem dX9_fewest_46 : decode cX9_fewest 46 = .ok (.invokevirtual 264, 3) := by decide +kernel
theorem dX9_fewest_49 : decode cX9_fewest 49 = .ok (.aload_n 0, 1) := by decide +kernel
theorem dX9_fewest_50 : decode cX9_fewest 50 = .ok (.getfield 63, 3) := by decide +kernel
theorem dX9_fewest_53 : decode cX9_fewest 53 = .ok (.getfield 274, 3) := by decide +kernel
theorem dX9_fewest_56 : decode cX9_fewest 56 = .ok (.ifCond .gt 6, 3) := by decide +kernel
theorem dX9_fewest_59 : decode cX9_fewest 59 = .ok (.bipush (-9), 2) := by decide +kernel
theorem dX9_fewest_61 : decode cX9_fewest 61 = .ok (.ireturn, 1) := by decide +kernel
theorem dX9_fewest_62 : decode cX9_fewest 62 = .ok (.aload_n 0, 1) := by decide +kernel
theorem dX9_fewest_63 : decode cX9_fewest 63 = .ok (.iload_n 2, 1) := by decide +kernel
theorem dX9_fewest_64 : decode cX9_fewest 64 = .ok (.iload_n 3, 1) := by decide +kernel
theorem dX9_fewest_65 : decode cX9_fewest 65 = .ok (.invokevirtual 268, 3) := by decide +kernel
theorem dX9_fewest_68 : decode cX9_fewest 68 = .ok (.aload_n 0, 1) := by decide +kernel
theorem dX9_fewest_69 : decode cX9_fewest 69 = .ok (.getfield 63, 3) := by decide +kernel
theorem dX9_fewest_72 : decode cX9_fewest 72 = .ok (.getfield 271, 3) := by decide +kernel
theorem dX9_fewest_75 : decode cX9_fewest 75 = .ok (.ireturn, 1) := by decide +kernel
theorem dX9_dies_0 : decode cX9_dies 0 = .ok (.aload_n 0, 1) := by decide +kernel
theorem dX9_dies_1 : decode cX9_dies 1 = .ok (.getfield 24, 3) := by decide +kernel
theorem dX9_dies_4 : decode cX9_dies 4 = .ok (.getfield 154, 3) := by decide +kernel
theorem dX9_dies_7 : decode cX9_dies 7 = .ok (.ifCond .ne 6, 3) := by decide +kernel
theorem dX9_dies_10 : decode cX9_dies 10 = .ok (.bipush (-4), 2) := by decide +kernel
theorem dX9_dies_12 : decode cX9_dies 12 = .ok (.ireturn, 1) := by decide +kernel
theorem dX9_dies_13 : decode cX9_dies 13 = .ok (.aload_n 0, 1) := by decide +kernel
theorem dX9_dies_14 : decode cX9_dies 14 = .ok (.getfield 56, 3) := by decide +kernel
theorem dX9_dies_17 : decode cX9_dies 17 = .ok (.aload_n 0, 1) := by decide +kernel
theorem dX9_dies_18 : decode cX9_dies 18 = .ok (.getfield 43, 3) := by decide +kernel
theorem dX9_dies_21 : decode cX9_dies 21 = .ok (.getfield 183, 3) := by decide +kernel
theorem dX9_dies_24 : decode cX9_dies 24 = .ok (.invokevirtual 253, 3) := by decide +kernel
theorem dX9_dies_27 : decode cX9_dies 27 = .ok (.iconst 1, 1) := by decide +kernel
theorem dX9_dies_28 : decode cX9_dies 28 = .ok (.istore_n 1, 1) := by decide +kernel
theorem dX9_dies_29 : decode cX9_dies 29 = .ok (.iload_n 1, 1) := by decide +kernel
theorem dX9_dies_30 : decode cX9_dies 30 = .ok (.bipush 40, 2) := by decide +kernel
theorem dX9_dies_32 : decode cX9_dies 32 = .ok (.if_icmp .gt 55, 3) := by decide +kernel
theorem dX9_dies_35 : decode cX9_dies 35 = .ok (.aload_n 0, 1) := by decide +kernel
theorem dX9_dies_36 : decode cX9_dies 36 = .ok (.getfield 56, 3) := by decide +kernel
theorem dX9_dies_39 : decode cX9_dies 39 = .ok (.getfield 277, 3) := by decide +kernel
theorem dX9_dies_42 : decode cX9_dies 42 = .ok (.istore_n 2, 1) := by decide +kernel
theorem dX9_dies_43 : decode cX9_dies 43 = .ok (.aload_n 0, 1) := by decide +kernel
theorem dX9_dies_44 : decode cX9_dies 44 = .ok (.getfield 56, 3) := by decide +kernel
theorem dX9_dies_47 : decode cX9_dies 47 = .ok (.aload_n 0, 1) := by decide +kernel
theorem dX9_dies_48 : decode cX9_dies 48 = .ok (.getfield 24, 3) := by decide +kernel
theorem dX9_dies_51 : decode cX9_dies 51 = .ok (.invokevirtual 260, 3) := by decide +kernel
theorem dX9_dies_54 : decode cX9_dies 54 = .ok (.pop, 1) := by decide +kernel
theorem dX9_dies_55 : decode cX9_dies 55 = .ok (.aload_n 0, 1) := by decide +kernel
theorem dX9_dies_56 : decode cX9_dies 56 = .ok (.getfield 56, 3) := by decide +kernel
theorem dX9_dies_59 : decode cX9_dies 59 = .ok (.getfield 277, 3) := by decide +kernel
theorem dX9_dies_62 : decode cX9_dies 62 = .ok (.iload_n 2, 1) := by decide +kernel
theorem dX9_dies_63 : decode cX9_dies 63 = .ok (.iconst (-1), 1) := by decide +kernel
theorem dX9_dies_64 : decode cX9_dies 64 = .ok (.ixor, 1) := by decide +kernel
theorem dX9_dies_65 : decode cX9_dies 65 = .ok (.iand, 1) := by decide +kernel
theorem dX9_dies_66 : decode cX9_dies 66 = .ok (.istore_n 3, 1) := by decide +kernel
theorem dX9_dies_67 : decode cX9_dies 67 = .ok (.iload_n 3, 1) := by decide +kernel
theorem dX9_dies_68 : decode cX9_dies 68 = .ok (.ifCond .eq 13, 3) := by decide +kernel
theorem dX9_dies_71 : decode cX9_dies 71 = .ok (.aload_n 0, 1) := by decide +kernel
theorem dX9_dies_72 : decode cX9_dies 72 = .ok (.iload_n 1, 1) := by decide +kernel
theorem dX9_dies_73 : decode cX9_dies 73 = .ok (.putfield 102, 3) := by decide +kernel
theorem dX9_dies_76 : decode cX9_dies 76 = .ok (.iload_n 3, 1) := by decide +kernel
theorem dX9_dies_77 : decode cX9_dies 77 = .ok (.invokestatic 280, 3) := by decide +kernel
theorem dX9_dies_80 : decode cX9_dies 80 = .ok (.ireturn, 1) := by decide +kernel
theorem dX9_dies_81 : decode cX9_dies 81 = .ok (.iinc 1 1, 3) := by decide +kernel
theorem dX9_dies_84 : decode cX9_dies 84 = .ok (.goto (-55), 3) := by decide +kernel
theorem dX9_dies_87 : decode cX9_dies 87 = .ok (.bipush (-9), 2) := by decide +kernel
theorem dX9_dies_89 : decode cX9_dies 89 = .ok (.ireturn, 1) := by decide +kernel
theorem dX9_barge_0 : decode cX9_barge 0 = .ok (.aload_n 0, 1) := by decide +kernel
theorem dX9_barge_1 : decode cX9_barge 1 = .ok (.getfield 24, 3) := by decide +kernel
theorem dX9_barge_4 : decode cX9_barge 4 = .ok (.iload_n 1, 1) := by decide +kernel
theorem dX9_barge_5 : decode cX9_barge 5 = .ok (.invokevirtual 157, 3) := by decide +kernel
theorem dX9_barge_8 : decode cX9_barge 8 = .ok (.ifCond .eq 13, 3) := by decide +kernel
theorem dX9_barge_11 : decode cX9_barge 11 = .ok (.iload_n 2, 1) := by decide +kernel
theorem dX9_barge_12 : decode cX9_barge 12 = .ok (.ifCond .lt 9, 3) := by decide +kernel
theorem dX9_barge_15 : decode cX9_barge 15 = .ok (.iload_n 2, 1) := by decide +kernel
theorem dX9_barge_16 : decode cX9_barge 16 = .ok (.bipush 12, 2) := by decide +kernel
theorem dX9_barge_18 : decode cX9_barge 18 = .ok (.if_icmp .le 5, 3) := by decide +kernel
theorem dX9_barge_21 : decode cX9_barge 21 = .ok (.iconst (-1), 1) := by decide +kernel
theorem dX9_barge_22 : decode cX9_barge 22 = .ok (.ireturn, 1) := by decide +kernel
theorem dX9_barge_23 : decode cX9_barge 23 = .ok (.aload_n 0, 1) := by decide +kernel
theorem dX9_barge_24 : decode cX9_barge 24 = .ok (.getfield 43, 3) := by decide +kernel
theorem dX9_barge_27 : decode cX9_barge 27 = .ok (.getfield 183, 3) := by decide +kernel
theorem dX9_barge_30 : decode cX9_barge 30 = .ok (.getfield 209, 3) := by decide +kernel
theorem dX9_barge_33 : decode cX9_barge 33 = .ok (.iload_n 1, 1) := by decide +kernel
theorem dX9_barge_34 : decode cX9_barge 34 = .ok (.invokestatic 212, 3) := by decide +kernel
theorem dX9_barge_37 : decode cX9_barge 37 = .ok (.ifCond .ne 6, 3) := by decide +kernel
theorem dX9_barge_40 : decode cX9_barge 40 = .ok (.bipush 100, 2) := by decide +kernel
theorem dX9_barge_42 : decode cX9_barge 42 = .ok (.ireturn, 1) := by decide +kernel
theorem dX9_barge_43 : decode cX9_barge 43 = .ok (.aload_n 0, 1) := by decide +kernel
theorem dX9_barge_44 : decode cX9_barge 44 = .ok (.getfield 56, 3) := by decide +kernel
theorem dX9_barge_47 : decode cX9_barge 47 = .ok (.aload_n 0, 1) := by decide +kernel
theorem dX9_barge_48 : decode cX9_barge 48 = .ok (.getfield 43, 3) := by decide +kernel
theorem dX9_barge_51 : decode cX9_barge 51 = .ok (.getfield 183, 3) := by decide +kernel
theorem dX9_barge_54 : decode cX9_barge 54 = .ok (.invokevirtual 253, 3) := by decide +kernel
theorem dX9_barge_57 : decode cX9_barge 57 = .ok (.aload_n 0, 1) := by decide +kernel
theorem dX9_barge_58 : decode cX9_barge 58 = .ok (.getfield 56, 3) := by decide +kernel
theorem dX9_barge_61 : decode cX9_barge 61 = .ok (.aload_n 0, 1) := by decide +kernel
theorem dX9_barge_62 : decode cX9_barge 62 = .ok (.getfield 24, 3) := by decide +kernel
theorem dX9_barge_65 : decode cX9_barge 65 = .ok (.iload_n 2, 1) := by decide +kernel
theorem dX9_barge_66 : decode cX9_barge 66 = .ok (.invokevirtual 283, 3) := by decide +kernel
theorem dX9_barge_69 : decode cX9_barge 69 = .ok (.istore_n 3, 1) := by decide +kernel
theorem dX9_barge_70 : decode cX9_barge 70 = .ok (.aload_n 0, 1) := by decide +kernel
theorem dX9_barge_71 : decode cX9_barge 71 = .ok (.getfield 56, 3) := by decide +kernel
theorem dX9_barge_74 : decode cX9_barge 74 = .ok (.aload_n 0, 1) := by decide +kernel
theorem dX9_barge_75 : decode cX9_barge 75 = .ok (.getfield 43, 3) := by decide +kernel
theorem dX9_barge_78 : decode cX9_barge 78 = .ok (.getfield 183, 3) := by decide +kernel
theorem dX9_barge_81 : decode cX9_barge 81 = .ok (.invokevirtual 253, 3) := by decide +kernel
theorem dX9_barge_84 : decode cX9_barge 84 = .ok (.aload_n 0, 1) := by decide +kernel
theorem dX9_barge_85 : decode cX9_barge 85 = .ok (.getfield 56, 3) := by decide +kernel
theorem dX9_barge_88 : decode cX9_barge 88 = .ok (.iload_n 1, 1) := by decide +kernel
theorem dX9_barge_89 : decode cX9_barge 89 = .ok (.invokevirtual 218, 3) := by decide +kernel
theorem dX9_barge_92 : decode cX9_barge 92 = .ok (.aload_n 0, 1) := by decide +kernel
theorem dX9_barge_93 : decode cX9_barge 93 = .ok (.getfield 56, 3) := by decide +kernel
theorem dX9_barge_96 : decode cX9_barge 96 = .ok (.aload_n 0, 1) := by decide +kernel
theorem dX9_barge_97 : decode cX9_barge 97 = .ok (.getfield 24, 3) := by decide +kernel
theorem dX9_barge_100 : decode cX9_barge 100 = .ok (.iload_n 2, 1) := by decide +kernel
theorem dX9_barge_101 : decode cX9_barge 101 = .ok (.invokevirtual 283, 3) := by decide +kernel
theorem dX9_barge_104 : decode cX9_barge 104 = .ok (.istore 4, 2) := by decide +kernel
theorem dX9_barge_106 : decode cX9_barge 106 = .ok (.iload 4, 2) := by decide +kernel
theorem dX9_barge_108 : decode cX9_barge 108 = .ok (.iload_n 3, 1) := by decide +kernel
theorem dX9_barge_109 : decode cX9_barge 109 = .ok (.isub, 1) := by decide +kernel
theorem dX9_barge_110 : decode cX9_barge 110 = .ok (.bipush 100, 2) := by decide +kernel
theorem dX9_barge_112 : decode cX9_barge 112 = .ok (.iadd, 1) := by decide +kernel
theorem dX9_barge_113 : decode cX9_barge 113 = .ok (.ireturn, 1) := by decide +kernel
theorem dX9_fits_0 : decode cX9_fits 0 = .ok (.aload_n 0, 1) := by decide +kernel
theorem dX9_fits_1 : decode cX9_fits 1 = .ok (.iload_n 1, 1) := by decide +kernel
theorem dX9_fits_2 : decode cX9_fits 2 = .ok (.invokevirtual 286, 3) := by decide +kernel
theorem dX9_fits_5 : decode cX9_fits 5 = .ok (.istore_n 2, 1) := by decide +kernel
theorem dX9_fits_6 : decode cX9_fits 6 = .ok (.iload_n 2, 1) := by decide +kernel
theorem dX9_fits_7 : decode cX9_fits 7 = .ok (.ifCond .eq 5, 3) := by decide +kernel
theorem dX9_fits_10 : decode cX9_fits 10 = .ok (.iload_n 2, 1) := by decide +kernel
theorem dX9_fits_11 : decode cX9_fits 11 = .ok (.ireturn, 1) := by decide +kernel
theorem dX9_fits_12 : decode cX9_fits 12 = .ok (.iconst 0, 1) := by decide +kernel
theorem dX9_fits_13 : decode cX9_fits 13 = .ok (.istore_n 3, 1) := by decide +kernel
theorem dX9_fits_14 : decode cX9_fits 14 = .ok (.bipush (-9), 2) := by decide +kernel
theorem dX9_fits_16 : decode cX9_fits 16 = .ok (.istore 4, 2) := by decide +kernel
theorem dX9_fits_18 : decode cX9_fits 18 = .ok (.iconst 0, 1) := by decide +kernel
theorem dX9_fits_19 : decode cX9_fits 19 = .ok (.istore 5, 2) := by decide +kernel
theorem dX9_fits_21 : decode cX9_fits 21 = .ok (.iload 5, 2) := by decide +kernel
theorem dX9_fits_23 : decode cX9_fits 23 = .ok (.aload_n 0, 1) := by decide +kernel
theorem dX9_fits_24 : decode cX9_fits 24 = .ok (.getfield 24, 3) := by decide +kernel
theorem dX9_fits_27 : decode cX9_fits 27 = .ok (.invokevirtual 289, 3) := by decide +kernel
theorem dX9_fits_30 : decode cX9_fits 30 = .ok (.if_icmp .ge 40, 3) := by decide +kernel
theorem dX9_fits_33 : decode cX9_fits 33 = .ok (.aload_n 0, 1) := by decide +kernel
theorem dX9_fits_34 : decode cX9_fits 34 = .ok (.iload 5, 2) := by decide +kernel
theorem dX9_fits_36 : decode cX9_fits 36 = .ok (.iload_n 1, 1) := by decide +kernel
theorem dX9_fits_37 : decode cX9_fits 37 = .ok (.invokevirtual 292, 3) := by decide +kernel
theorem dX9_fits_40 : decode cX9_fits 40 = .ok (.bipush (-9), 2) := by decide +kernel
theorem dX9_fits_42 : decode cX9_fits 42 = .ok (.if_icmp .eq 22, 3) := by decide +kernel
theorem dX9_fits_45 : decode cX9_fits 45 = .ok (.iinc 3 1, 3) := by decide +kernel
theorem dX9_fits_48 : decode cX9_fits 48 = .ok (.iload 4, 2) := by decide +kernel
theorem dX9_fits_50 : decode cX9_fits 50 = .ok (.bipush (-9), 2) := by decide +kernel
theorem dX9_fits_52 : decode cX9_fits 52 = .ok (.if_icmp .ne 8, 3) := by decide +kernel
theorem dX9_fits_55 : decode cX9_fits 55 = .ok (.iload 5, 2) := by decide +kernel
theorem dX9_fits_57 : decode cX9_fits 57 = .ok (.goto 5, 3) := by decide +kernel
theorem dX9_fits_60 : decode cX9_fits 60 = .ok (.iload 4, 2) := by decide +kernel
theorem dX9_fits_62 : decode cX9_fits 62 = .ok (.istore 4, 2) := by decide +kernel
theorem dX9_fits_64 : decode cX9_fits 64 = .ok (.iinc 5 1, 3) := by decide +kernel
theorem dX9_fits_67 : decode cX9_fits 67 = .ok (.goto (-46), 3) := by decide +kernel
theorem dX9_fits_70 : decode cX9_fits 70 = .ok (.aload_n 0, 1) := by decide +kernel
theorem dX9_fits_71 : decode cX9_fits 71 = .ok (.iload 4, 2) := by decide +kernel
theorem dX9_fits_73 : decode cX9_fits 73 = .ok (.putfield 102, 3) := by decide +kernel
theorem dX9_fits_76 : decode cX9_fits 76 = .ok (.iload_n 3, 1) := by decide +kernel
theorem dX9_fits_77 : decode cX9_fits 77 = .ok (.ireturn, 1) := by decide +kernel
theorem dX9_opened_0 : decode cX9_opened 0 = .ok (.aload_n 0, 1) := by decide +kernel
theorem dX9_opened_1 : decode cX9_opened 1 = .ok (.iload_n 1, 1) := by decide +kernel
theorem dX9_opened_2 : decode cX9_opened 2 = .ok (.invokevirtual 286, 3) := by decide +kernel
theorem dX9_opened_5 : decode cX9_opened 5 = .ok (.istore_n 2, 1) := by decide +kernel
theorem dX9_opened_6 : decode cX9_opened 6 = .ok (.iload_n 2, 1) := by decide +kernel
theorem dX9_opened_7 : decode cX9_opened 7 = .ok (.ifCond .eq 5, 3) := by decide +kernel
theorem dX9_opened_10 : decode cX9_opened 10 = .ok (.iload_n 2, 1) := by decide +kernel
theorem dX9_opened_11 : decode cX9_opened 11 = .ok (.ireturn, 1) := by decide +kernel
theorem dX9_opened_12 : decode cX9_opened 12 = .ok (.bipush (-9), 2) := by decide +kernel
theorem dX9_opened_14 : decode cX9_opened 14 = .ok (.istore_n 3, 1) := by decide +kernel
theorem dX9_opened_15 : decode cX9_opened 15 = .ok (.iconst 0, 1) := by decide +kernel
theorem dX9_opened_16 : decode cX9_opened 16 = .ok (.istore 4, 2) := by decide +kernel
theorem dX9_opened_18 : decode cX9_opened 18 = .ok (.iload 4, 2) := by decide +kernel
theorem dX9_opened_20 : decode cX9_opened 20 = .ok (.aload_n 0, 1) := by decide +kernel
theorem dX9_opened_21 : decode cX9_opened 21 = .ok (.getfield 24, 3) := by decide +kernel
theorem dX9_opened_24 : decode cX9_opened 24 = .ok (.invokevirtual 289, 3) := by decide +kernel
theorem dX9_opened_27 : decode cX9_opened 27 = .ok (.if_icmp .ge 41, 3) := by decide +kernel
theorem dX9_opened_30 : decode cX9_opened 30 = .ok (.aload_n 0, 1) := by decide +kernel
theorem dX9_opened_31 : decode cX9_opened 31 = .ok (.iload 4, 2) := by decide +kernel
theorem dX9_opened_33 : decode cX9_opened 33 = .ok (.iload_n 1, 1) := by decide +kernel
theorem dX9_opened_34 : decode cX9_opened 34 = .ok (.invokevirtual 292, 3) := by decide +kernel
theorem dX9_opened_37 : decode cX9_opened 37 = .ok (.istore 5, 2) := by decide +kernel
theorem dX9_opened_39 : decode cX9_opened 39 = .ok (.iload 5, 2) := by decide +kernel
theorem dX9_opened_41 : decode cX9_opened 41 = .ok (.bipush (-9), 2) := by decide +kernel
theorem dX9_opened_43 : decode cX9_opened 43 = .ok (.if_icmp .eq 19, 3) := by decide +kernel
theorem dX9_opened_46 : decode cX9_opened 46 = .ok (.iload_n 3, 1) := by decide +kernel
theorem dX9_opened_47 : decode cX9_opened 47 = .ok (.bipush (-9), 2) := by decide +kernel
theorem dX9_opened_49 : decode cX9_opened 49 = .ok (.if_icmp .ne 8, 3) := by decide +kernel
theorem dX9_opened_52 : decode cX9_opened 52 = .ok (.iload 5, 2) := by decide +kernel
theorem dX9_opened_54 : decode cX9_opened 54 = .ok (.goto 7, 3) := by decide +kernel
theorem dX9_opened_57 : decode cX9_opened 57 = .ok (.iload_n 3, 1) := by decide +kernel
theorem dX9_opened_58 : decode cX9_opened 58 = .ok (.iload 5, 2) := by decide +kernel
theorem dX9_opened_60 : decode cX9_opened 60 = .ok (.iand, 1) := by decide +kernel
theorem dX9_opened_61 : decode cX9_opened 61 = .ok (.istore_n 3, 1) := by decide +kernel
theorem dX9_opened_62 : decode cX9_opened 62 = .ok (.iinc 4 1, 3) := by decide +kernel
theorem dX9_opened_65 : decode cX9_opened 65 = .ok (.goto (-47), 3) := by decide +kernel
theorem dX9_opened_68 : decode cX9_opened 68 = .ok (.iload_n 3, 1) := by decide +kernel
theorem dX9_opened_69 : decode cX9_opened 69 = .ok (.bipush (-9), 2) := by decide +kernel
theorem dX9_opened_71 : decode cX9_opened 71 = .ok (.if_icmp .ne 7, 3) := by decide +kernel
theorem dX9_opened_74 : decode cX9_opened 74 = .ok (.iconst 0, 1) := by decide +kernel
theorem dX9_opened_75 : decode cX9_opened 75 = .ok (.goto 4, 3) := by decide +kernel
theorem dX9_opened_78 : decode cX9_opened 78 = .ok (.iload_n 3, 1) := by decide +kernel
theorem dX9_opened_79 : decode cX9_opened 79 = .ok (.ireturn, 1) := by decide +kernel
theorem dX9_settle_0 : decode cX9_settle 0 = .ok (.aload_n 0, 1) := by decide +kernel
theorem dX9_settle_1 : decode cX9_settle 1 = .ok (.iload_n 1, 1) := by decide +kernel
theorem dX9_settle_2 : decode cX9_settle 2 = .ok (.invokevirtual 286, 3) := by decide +kernel
theorem dX9_settle_5 : decode cX9_settle 5 = .ok (.istore_n 2, 1) := by decide +kernel
theorem dX9_settle_6 : decode cX9_settle 6 = .ok (.iload_n 2, 1) := by decide +kernel
theorem dX9_settle_7 : decode cX9_settle 7 = .ok (.ifCond .eq 5, 3) := by decide +kernel
theorem dX9_settle_10 : decode cX9_settle 10 = .ok (.iload_n 2, 1) := by decide +kernel
theorem dX9_settle_11 : decode cX9_settle 11 = .ok (.ireturn, 1) := by decide +kernel
theorem dX9_settle_12 : decode cX9_settle 12 = .ok (.aload_n 0, 1) := by decide +kernel
theorem dX9_settle_13 : decode cX9_settle 13 = .ok (.getfield 14, 3) := by decide +kernel
theorem dX9_settle_16 : decode cX9_settle 16 = .ok (.iload_n 1, 1) := by decide +kernel
theorem dX9_settle_17 : decode cX9_settle 17 = .ok (.invokevirtual 140, 3) := by decide +kernel
theorem dX9_settle_20 : decode cX9_settle 20 = .ok (.lconst 0, 1) := by decide +kernel
theorem dX9_settle_21 : decode cX9_settle 21 = .ok (.lcmp, 1) := by decide +kernel
theorem dX9_settle_22 : decode cX9_settle 22 = .ok (.ifCond .eq 9, 3) := by decide +kernel
theorem dX9_settle_25 : decode cX9_settle 25 = .ok (.aload_n 0, 1) := by decide +kernel
theorem dX9_settle_26 : decode cX9_settle 26 = .ok (.iconst 4, 1) := by decide +kernel
theorem dX9_settle_27 : decode cX9_settle 27 = .ok (.invokevirtual 122, 3) := by decide +kernel
theorem dX9_settle_30 : decode cX9_settle 30 = .ok (.ireturn, 1) := by decide +kernel
theorem dX9_settle_31 : decode cX9_settle 31 = .ok (.aload_n 0, 1) := by decide +kernel
theorem dX9_settle_32 : decode cX9_settle 32 = .ok (.getfield 70, 3) := by decide +kernel
theorem dX9_settle_35 : decode cX9_settle 35 = .ok (.aload_n 0, 1) := by decide +kernel
theorem dX9_settle_36 : decode cX9_settle 36 = .ok (.getfield 14, 3) := by decide +kernel
theorem dX9_settle_39 : decode cX9_settle 39 = .ok (.iload_n 1, 1) := by decide +kernel
theorem dX9_settle_40 : decode cX9_settle 40 = .ok (.invokevirtual 295, 3) := by decide +kernel
theorem dX9_settle_43 : decode cX9_settle 43 = .ok (.ireturn, 1) := by decide +kernel
theorem dX9_stalled_0 : decode cX9_stalled 0 = .ok (.aload_n 0, 1) := by decide +kernel
theorem dX9_stalled_1 : decode cX9_stalled 1 = .ok (.aload_n 0, 1) := by decide +kernel
theorem dX9_stalled_2 : decode cX9_stalled 2 = .ok (.getfield 24, 3) := by decide +kernel
theorem dX9_stalled_5 : decode cX9_stalled 5 = .ok (.invokevirtual 298, 3) := by decide +kernel
theorem dX9_stalled_8 : decode cX9_stalled 8 = .ok (.putfield 102, 3) := by decide +kernel
theorem dX9_stalled_11 : decode cX9_stalled 11 = .ok (.aload_n 0, 1) := by decide +kernel
theorem dX9_stalled_12 : decode cX9_stalled 12 = .ok (.getfield 77, 3) := by decide +kernel
theorem dX9_stalled_15 : decode cX9_stalled 15 = .ok (.invokevirtual 301, 3) := by decide +kernel
theorem dX9_stalled_18 : decode cX9_stalled 18 = .ok (.ireturn, 1) := by decide +kernel
theorem dX9_loosen_0 : decode cX9_loosen 0 = .ok (.aload_n 0, 1) := by decide +kernel
theorem dX9_loosen_1 : decode cX9_loosen 1 = .ok (.getfield 14, 3) := by decide +kernel
theorem dX9_loosen_4 : decode cX9_loosen 4 = .ok (.iload_n 1, 1) := by decide +kernel
theorem dX9_loosen_5 : decode cX9_loosen 5 = .ok (.invokevirtual 118, 3) := by decide +kernel
theorem dX9_loosen_8 : decode cX9_loosen 8 = .ok (.ifCond .ne 5, 3) := by decide +kernel
theorem dX9_loosen_11 : decode cX9_loosen 11 = .ok (.iconst (-1), 1) := by decide +kernel
theorem dX9_loosen_12 : decode cX9_loosen 12 = .ok (.ireturn, 1) := by decide +kernel
theorem dX9_loosen_13 : decode cX9_loosen 13 = .ok (.aload_n 0, 1) := by decide +kernel
theorem dX9_loosen_14 : decode cX9_loosen 14 = .ok (.getfield 77, 3) := by decide +kernel
theorem dX9_loosen_17 : decode cX9_loosen 17 = .ok (.invokevirtual 304, 3) := by decide +kernel
theorem dX9_loosen_20 : decode cX9_loosen 20 = .ok (.lstore_n 2, 1) := by decide +kernel
theorem dX9_loosen_21 : decode cX9_loosen 21 = .ok (.lload_n 2, 1) := by decide +kernel
theorem dX9_loosen_22 : decode cX9_loosen 22 = .ok (.invokestatic 308, 3) := by decide +kernel
theorem dX9_loosen_25 : decode cX9_loosen 25 = .ok (.istore 4, 2) := by decide +kernel
theorem dX9_loosen_27 : decode cX9_loosen 27 = .ok (.aload_n 0, 1) := by decide +kernel
theorem dX9_loosen_28 : decode cX9_loosen 28 = .ok (.getfield 14, 3) := by decide +kernel
theorem dX9_loosen_31 : decode cX9_loosen 31 = .ok (.iload_n 1, 1) := by decide +kernel
theorem dX9_loosen_32 : decode cX9_loosen 32 = .ok (.iload 4, 2) := by decide +kernel
theorem dX9_loosen_34 : decode cX9_loosen 34 = .ok (.iconst 0, 1) := by decide +kernel
theorem dX9_loosen_35 : decode cX9_loosen 35 = .ok (.invokevirtual 313, 3) := by decide +kernel
theorem dX9_loosen_38 : decode cX9_loosen 38 = .ok (.iconst 0, 1) := by decide +kernel
theorem dX9_loosen_39 : decode cX9_loosen 39 = .ok (.istore 5, 2) := by decide +kernel
theorem dX9_loosen_41 : decode cX9_loosen 41 = .ok (.iconst 0, 1) := by decide +kernel
theorem dX9_loosen_42 : decode cX9_loosen 42 = .ok (.istore 6, 2) := by decide +kernel
theorem dX9_loosen_44 : decode cX9_loosen 44 = .ok (.iload 6, 2) := by decide +kernel
theorem dX9_loosen_46 : decode cX9_loosen 46 = .ok (.bipush 39, 2) := by decide +kernel
theorem dX9_loosen_48 : decode cX9_loosen 48 = .ok (.if_icmp .gt 36, 3) := by decide +kernel
theorem dX9_loosen_51 : decode cX9_loosen 51 = .ok (.lload_n 2, 1) := by decide +kernel
theorem dX9_loosen_52 : decode cX9_loosen 52 = .ok (.iload 6, 2) := by decide +kernel
theorem dX9_loosen_54 : decode cX9_loosen 54 = .ok (.invokestatic 316, 3) := by decide +kernel
theorem dX9_loosen_57 : decode cX9_loosen 57 = .ok (.land, 1) := by decide +kernel
theorem dX9_loosen_58 : decode cX9_loosen 58 = .ok (.lconst 0, 1) := by decide +kernel
theorem dX9_loosen_59 : decode cX9_loosen 59 = .ok (.lcmp, 1) := by decide +kernel
theorem dX9_loosen_60 : decode cX9_loosen 60 = .ok (.ifCond .eq 18, 3) := by decide +kernel
theorem dX9_loosen_63 : decode cX9_loosen 63 = .ok (.aload_n 0, 1) := by decide +kernel
theorem dX9_loosen_64 : decode cX9_loosen 64 = .ok (.getfield 14, 3) := by decide +kernel
theorem dX9_loosen_67 : decode cX9_loosen 67 = .ok (.iload_n 1, 1) := by decide +kernel
theorem dX9_loosen_68 : decode cX9_loosen 68 = .ok (.iload 5, 2) := by decide +kernel
theorem dX9_loosen_70 : decode cX9_loosen 70 = .ok (.iload 6, 2) := by decide +kernel
theorem dX9_loosen_72 : decode cX9_loosen 72 = .ok (.invokevirtual 106, 3) := by decide +kernel
theorem dX9_loosen_75 : decode cX9_loosen 75 = .ok (.iinc 5 1, 3) := by decide +kernel
theorem dX9_loosen_78 : decode cX9_loosen 78 = .ok (.iinc 6 1, 3) := by decide +kernel
theorem dX9_loosen_81 : decode cX9_loosen 81 = .ok (.goto (-37), 3) := by decide +kernel
theorem dX9_loosen_84 : decode cX9_loosen 84 = .ok (.iload 4, 2) := by decide +kernel
theorem dX9_loosen_86 : decode cX9_loosen 86 = .ok (.ireturn, 1) := by decide +kernel
theorem dX9_eels_0 : decode cX9_eels 0 = .ok (.aload_n 0, 1) := by decide +kernel
theorem dX9_eels_1 : decode cX9_eels 1 = .ok (.getfield 24, 3) := by decide +kernel
theorem dX9_eels_4 : decode cX9_eels 4 = .ok (.iload_n 1, 1) := by decide +kernel
theorem dX9_eels_5 : decode cX9_eels 5 = .ok (.invokevirtual 157, 3) := by decide +kernel
theorem dX9_eels_8 : decode cX9_eels 8 = .ok (.ifCond .eq 19, 3) := by decide +kernel
theorem dX9_eels_11 : decode cX9_eels 11 = .ok (.aload_n 0, 1) := by decide +kernel
theorem dX9_eels_12 : decode cX9_eels 12 = .ok (.getfield 24, 3) := by decide +kernel
theorem dX9_eels_15 : decode cX9_eels 15 = .ok (.iload_n 2, 1) := by decide +kernel
theorem dX9_eels_16 : decode cX9_eels 16 = .ok (.invokevirtual 157, 3) := by decide +kernel
theorem dX9_eels_19 : decode cX9_eels 19 = .ok (.ifCond .eq 8, 3) := by decide +kernel
theorem dX9_eels_22 : decode cX9_eels 22 = .ok (.iload_n 1, 1) := by decide +kernel
theorem dX9_eels_23 : decode cX9_eels 23 = .ok (.iload_n 2, 1) := by decide +kernel
theorem dX9_eels_24 : decode cX9_eels 24 = .ok (.if_icmp .ne 5, 3) := by decide +kernel
theorem dX9_eels_27 : decode cX9_eels 27 = .ok (.iconst (-1), 1) := by decide +kernel
theorem dX9_eels_28 : decode cX9_eels 28 = .ok (.ireturn, 1) := by decide +kernel
theorem dX9_eels_29 : decode cX9_eels 29 = .ok (.iload_n 1, 1) := by decide +kernel
theorem dX9_eels_30 : decode cX9_eels 30 = .ok (.iload_n 2, 1) := by decide +kernel
theorem dX9_eels_31 : decode cX9_eels 31 = .ok (.invokestatic 319, 3) := by decide +kernel
theorem dX9_eels_34 : decode cX9_eels 34 = .ok (.istore_n 3, 1) := by decide +kernel
theorem dX9_eels_35 : decode cX9_eels 35 = .ok (.iload_n 1, 1) := by decide +kernel
theorem dX9_eels_36 : decode cX9_eels 36 = .ok (.iload_n 2, 1) := by decide +kernel
theorem dX9_eels_37 : decode cX9_eels 37 = .ok (.invokestatic 324, 3) := by decide +kernel
theorem dX9_eels_40 : decode cX9_eels 40 = .ok (.istore 4, 2) := by decide +kernel
theorem dX9_eels_42 : decode cX9_eels 42 = .ok (.iload_n 3, 1) := by decide +kernel
theorem dX9_eels_43 : decode cX9_eels 43 = .ok (.istore 5, 2) := by decide +kernel
theorem dX9_eels_45 : decode cX9_eels 45 = .ok (.iload 5, 2) := by decide +kernel
theorem dX9_eels_47 : decode cX9_eels 47 = .ok (.iload 4, 2) := by decide +kernel
theorem dX9_eels_49 : decode cX9_eels 49 = .ok (.if_icmp .gt 30, 3) := by decide +kernel
theorem dX9_eels_52 : decode cX9_eels 52 = .ok (.aload_n 0, 1) := by decide +kernel
theorem dX9_eels_53 : decode cX9_eels 53 = .ok (.getfield 43, 3) := by decide +kernel
theorem dX9_eels_56 : decode cX9_eels 56 = .ok (.getfield 183, 3) := by decide +kernel
theorem dX9_eels_59 : decode cX9_eels 59 = .ok (.getfield 197, 3) := by decide +kernel
theorem dX9_eels_62 : decode cX9_eels 62 = .ok (.iload 5, 2) := by decide +kernel
theorem dX9_eels_64 : decode cX9_eels 64 = .ok (.invokestatic 212, 3) := by decide +kernel
theorem dX9_eels_67 : decode cX9_eels 67 = .ok (.ifCond .ne 6, 3) := by decide +kernel
theorem dX9_eels_70 : decode cX9_eels 70 = .ok (.bipush (-9), 2) := by decide +kernel
theorem dX9_eels_72 : decode cX9_eels 72 = .ok (.ireturn, 1) := by decide +kernel
theorem dX9_eels_73 : decode cX9_eels 73 = .ok (.iinc 5 1, 3) := by decide +kernel
theorem dX9_eels_76 : decode cX9_eels 76 = .ok (.goto (-31), 3) := by decide +kernel
theorem dX9_eels_79 : decode cX9_eels 79 = .ok (.iload 4, 2) := by decide +kernel
theorem dX9_eels_81 : decode cX9_eels 81 = .ok (.iload_n 3, 1) := by decide +kernel
theorem dX9_eels_82 : decode cX9_eels 82 = .ok (.isub, 1) := by decide +kernel
theorem dX9_eels_83 : decode cX9_eels 83 = .ok (.iconst 1, 1) := by decide +kernel
theorem dX9_eels_84 : decode cX9_eels 84 = .ok (.isub, 1) := by decide +kernel
theorem dX9_eels_85 : decode cX9_eels 85 = .ok (.ireturn, 1) := by decide +kernel
theorem dX9_odds_0 : decode cX9_odds 0 = .ok (.aload_n 0, 1) := by decide +kernel
theorem dX9_odds_1 : decode cX9_odds 1 = .ok (.getfield 24, 3) := by decide +kernel
theorem dX9_odds_4 : decode cX9_odds 4 = .ok (.iload_n 1, 1) := by decide +kernel
theorem dX9_odds_5 : decode cX9_odds 5 = .ok (.invokevirtual 157, 3) := by decide +kernel
theorem dX9_odds_8 : decode cX9_odds 8 = .ok (.ifCond .ne 5, 3) := by decide +kernel
theorem dX9_odds_11 : decode cX9_odds 11 = .ok (.iconst (-1), 1) := by decide +kernel
theorem dX9_odds_12 : decode cX9_odds 12 = .ok (.ireturn, 1) := by decide +kernel
theorem dX9_odds_13 : decode cX9_odds 13 = .ok (.aload_n 0, 1) := by decide +kernel
theorem dX9_odds_14 : decode cX9_odds 14 = .ok (.getfield 43, 3) := by decide +kernel
theorem dX9_odds_17 : decode cX9_odds 17 = .ok (.getfield 183, 3) := by decide +kernel
theorem dX9_odds_20 : decode cX9_odds 20 = .ok (.aload_n 0, 1) := by decide +kernel
theorem dX9_odds_21 : decode cX9_odds 21 = .ok (.getfield 24, 3) := by decide +kernel
theorem dX9_odds_24 : decode cX9_odds 24 = .ok (.invokevirtual 327, 3) := by decide +kernel
theorem dX9_odds_27 : decode cX9_odds 27 = .ok (.istore_n 2, 1) := by decide +kernel
theorem dX9_odds_28 : decode cX9_odds 28 = .ok (.iconst 0, 1) := by decide +kernel
theorem dX9_odds_29 : decode cX9_odds 29 = .ok (.istore_n 3, 1) := by decide +kernel
theorem dX9_odds_30 : decode cX9_odds 30 = .ok (.iconst 0, 1) := by decide +kernel
theorem dX9_odds_31 : decode cX9_odds 31 = .ok (.istore 4, 2) := by decide +kernel
theorem dX9_odds_33 : decode cX9_odds 33 = .ok (.iconst 0, 1) := by decide +kernel
theorem dX9_odds_34 : decode cX9_odds 34 = .ok (.istore 5, 2) := by decide +kernel
theorem dX9_odds_36 : decode cX9_odds 36 = .ok (.iload 5, 2) := by decide +kernel
theorem dX9_odds_38 : decode cX9_odds 38 = .ok (.aload_n 0, 1) := by decide +kernel
theorem dX9_odds_39 : decode cX9_odds 39 = .ok (.getfield 24, 3) := by decide +kernel
theorem dX9_odds_42 : decode cX9_odds 42 = .ok (.invokevirtual 289, 3) := by decide +kernel
theorem dX9_odds_45 : decode cX9_odds 45 = .ok (.if_icmp .ge 69, 3) := by decide +kernel
theorem dX9_odds_48 : decode cX9_odds 48 = .ok (.iload 5, 2) := by decide +kernel
theorem dX9_odds_50 : decode cX9_odds 50 = .ok (.iload_n 2, 1) := by decide +kernel
theorem dX9_odds_51 : decode cX9_odds 51 = .ok (.iconst (-1), 1) := by decide +kernel
theorem dX9_odds_52 : decode cX9_odds 52 = .ok (.ixor, 1) := by decide +kernel
theorem dX9_odds_53 : decode cX9_odds 53 = .ok (.iand, 1) := by decide +kernel
theorem dX9_odds_54 : decode cX9_odds 54 = .ok (.ifCond .ne 54, 3) := by decide +kernel
theorem dX9_odds_57 : decode cX9_odds 57 = .ok (.iinc 3 1, 3) := by decide +kernel
theorem dX9_odds_60 : decode cX9_odds 60 = .ok (.aload_n 0, 1) := by decide +kernel
theorem dX9_odds_61 : decode cX9_odds 61 = .ok (.getfield 56, 3) := by decide +kernel
theorem dX9_odds_64 : decode cX9_odds 64 = .ok (.aload_n 0, 1) := by decide +kernel
theorem dX9_odds_65 : decode cX9_odds 65 = .ok (.getfield 43, 3) := by decide +kernel
theorem dX9_odds_68 : decode cX9_odds 68 = .ok (.getfield 183, 3) := by decide +kernel
theorem dX9_odds_71 : decode cX9_odds 71 = .ok (.invokevirtual 253, 3) := by decide +kernel
theorem dX9_odds_74 : decode cX9_odds 74 = .ok (.aload_n 0, 1) := by decide +kernel
theorem dX9_odds_75 : decode cX9_odds 75 = .ok (.getfield 56, 3) := by decide +kernel
theorem dX9_odds_78 : decode cX9_odds 78 = .ok (.aload_n 0, 1) := by decide +kernel
theorem dX9_odds_79 : decode cX9_odds 79 = .ok (.getfield 24, 3) := by decide +kernel
theorem dX9_odds_82 : decode cX9_odds 82 = .ok (.iload 5, 2) := by decide +kernel
theorem dX9_odds_84 : decode cX9_odds 84 = .ok (.invokevirtual 256, 3) := by decide +kernel
theorem dX9_odds_87 : decode cX9_odds 87 = .ok (.pop, 1) := by decide +kernel
theorem dX9_odds_88 : decode cX9_odds 88 = .ok (.iload 4, 2) := by decide +kernel
theorem dX9_odds_90 : decode cX9_odds 90 = .ok (.aload_n 0, 1) := by decide +kernel
theorem dX9_odds_91 : decode cX9_odds 91 = .ok (.getfield 56, 3) := by decide +kernel
theorem dX9_odds_94 : decode cX9_odds 94 = .ok (.aload_n 0, 1) := by decide +kernel
theorem dX9_odds_95 : decode cX9_odds 95 = .ok (.getfield 24, 3) := by decide +kernel
theorem dX9_odds_98 : decode cX9_odds 98 = .ok (.invokevirtual 330, 3) := by decide +kernel
theorem dX9_odds_101 : decode cX9_odds 101 = .ok (.iload_n 1, 1) := by decide +kernel
theorem dX9_odds_102 : decode cX9_odds 102 = .ok (.ishr, 1) := by decide +kernel
theorem dX9_odds_103 : decode cX9_odds 103 = .ok (.iconst 1, 1) := by decide +kernel
theorem dX9_odds_104 : decode cX9_odds 104 = .ok (.iand, 1) := by decide +kernel
theorem dX9_odds_105 : decode cX9_odds 105 = .ok (.iadd, 1) := by decide +kernel
theorem dX9_odds_106 : decode cX9_odds 106 = .ok (.istore 4, 2) := by decide +kernel
theorem dX9_odds_108 : decode cX9_odds 108 = .ok (.iinc 5 1, 3) := by decide +kernel
theorem dX9_odds_111 : decode cX9_odds 111 = .ok (.goto (-75), 3) := by decide +kernel
theorem dX9_odds_114 : decode cX9_odds 114 = .ok (.aload_n 0, 1) := by decide +kernel
theorem dX9_odds_115 : decode cX9_odds 115 = .ok (.iload 4, 2) := by decide +kernel
theorem dX9_odds_117 : decode cX9_odds 117 = .ok (.iload_n 3, 1) := by decide +kernel
theorem dX9_odds_118 : decode cX9_odds 118 = .ok (.invokevirtual 333, 3) := by decide +kernel
theorem dX9_odds_121 : decode cX9_odds 121 = .ok (.iconst 1, 1) := by decide +kernel
theorem dX9_odds_122 : decode cX9_odds 122 = .ok (.ireturn, 1) := by decide +kernel
theorem dX9_lots_0 : decode cX9_lots 0 = .ok (.iload_n 1, 1) := by decide +kernel
theorem dX9_lots_1 : decode cX9_lots 1 = .ok (.iconst 1, 1) := by decide +kernel
theorem dX9_lots_2 : decode cX9_lots 2 = .ok (.if_icmp .lt 23, 3) := by decide +kernel
theorem dX9_lots_5 : decode cX9_lots 5 = .ok (.iload_n 1, 1) := by decide +kernel
theorem dX9_lots_6 : decode cX9_lots 6 = .ok (.bipush 20, 2) := by decide +kernel
theorem dX9_lots_8 : decode cX9_lots 8 = .ok (.if_icmp .gt 17, 3) := by decide +kernel
theorem dX9_lots_11 : decode cX9_lots 11 = .ok (.iload_n 2, 1) := by decide +kernel
theorem dX9_lots_12 : decode cX9_lots 12 = .ok (.iconst 1, 1) := by decide +kernel
theorem dX9_lots_13 : decode cX9_lots 13 = .ok (.if_icmp .lt 12, 3) := by decide +kernel
theorem dX9_lots_16 : decode cX9_lots 16 = .ok (.iload_n 2, 1) := by decide +kernel
theorem dX9_lots_17 : decode cX9_lots 17 = .ok (.i2l, 1) := by decide +kernel
theorem dX9_lots_18 : decode cX9_lots 18 = .ok (.ldc2_w 336, 3) := by decide +kernel
theorem dX9_lots_21 : decode cX9_lots 21 = .ok (.lcmp, 1) := by decide +kernel
theorem dX9_lots_22 : decode cX9_lots 22 = .ok (.ifCond .lt 5, 3) := by decide +kernel
theorem dX9_lots_25 : decode cX9_lots 25 = .ok (.iconst (-1), 1) := by decide +kernel
theorem dX9_lots_26 : decode cX9_lots 26 = .ok (.ireturn, 1) := by decide +kernel
theorem dX9_lots_27 : decode cX9_lots 27 = .ok (.aload_n 0, 1) := by decide +kernel
theorem dX9_lots_28 : decode cX9_lots 28 = .ok (.getfield 24, 3) := by decide +kernel
theorem dX9_lots_31 : decode cX9_lots 31 = .ok (.getfield 154, 3) := by decide +kernel
theorem dX9_lots_34 : decode cX9_lots 34 = .ok (.ifCond .ne 6, 3) := by decide +kernel
theorem dX9_lots_37 : decode cX9_lots 37 = .ok (.bipush (-4), 2) := by decide +kernel
theorem dX9_lots_39 : decode cX9_lots 39 = .ok (.ireturn, 1) := by decide +kernel
theorem dX9_lots_40 : decode cX9_lots 40 = .ok (.iload_n 2, 1) := by decide +kernel
theorem dX9_lots_41 : decode cX9_lots 41 = .ok (.i2l, 1) := by decide +kernel
theorem dX9_lots_42 : decode cX9_lots 42 = .ok (.lstore_n 3, 1) := by decide +kernel
theorem dX9_lots_43 : decode cX9_lots 43 = .ok (.iconst 0, 1) := by decide +kernel
theorem dX9_lots_44 : decode cX9_lots 44 = .ok (.istore 5, 2) := by decide +kernel
theorem dX9_lots_46 : decode cX9_lots 46 = .ok (.iconst 0, 1) := by decide +kernel
theorem dX9_lots_47 : decode cX9_lots 47 = .ok (.istore 6, 2) := by decide +kernel
theorem dX9_lots_49 : decode cX9_lots 49 = .ok (.iload 6, 2) := by decide +kernel
theorem dX9_lots_51 : decode cX9_lots 51 = .ok (.iload_n 1, 1) := by decide +kernel
theorem dX9_lots_52 : decode cX9_lots 52 = .ok (.if_icmp .ge 66, 3) := by decide +kernel
theorem dX9_lots_55 : decode cX9_lots 55 = .ok (.aload_n 0, 1) := by decide +kernel
theorem dX9_lots_56 : decode cX9_lots 56 = .ok (.getfield 43, 3) := by decide +kernel
theorem dX9_lots_59 : decode cX9_lots 59 = .ok (.getfield 221, 3) := by decide +kernel
theorem dX9_lots_62 : decode cX9_lots 62 = .ok (.bipush 6, 2) := by decide +kernel
theorem dX9_lots_64 : decode cX9_lots 64 = .ok (.iadd, 1) := by decide +kernel
theorem dX9_lots_65 : decode cX9_lots 65 = .ok (.bipush 60, 2) := by decide +kernel
theorem dX9_lots_67 : decode cX9_lots 67 = .ok (.if_icmp .gt 51, 3) := by decide +kernel
theorem dX9_lots_70 : decode cX9_lots 70 = .ok (.lload_n 3, 1) := by decide +kernel
theorem dX9_lots_71 : decode cX9_lots 71 = .ok (.ldc2_w 338, 3) := by decide +kernel
theorem dX9_lots_74 : decode cX9_lots 74 = .ok (.lmul, 1) := by decide +kernel
theorem dX9_lots_75 : decode cX9_lots 75 = .ok (.ldc2_w 336, 3) := by decide +kernel
theorem dX9_lots_78 : decode cX9_lots 78 = .ok (.lrem, 1) := by decide +kernel
theorem dX9_lots_79 : decode cX9_lots 79 = .ok (.lstore_n 3, 1) := by decide +kernel
theorem dX9_lots_80 : decode cX9_lots 80 = .ok (.aload_n 0, 1) := by decide +kernel
theorem dX9_lots_81 : decode cX9_lots 81 = .ok (.lload_n 3, 1) := by decide +kernel
theorem dX9_lots_82 : decode cX9_lots 82 = .ok (.ldc2_w 340, 3) := by decide +kernel
theorem dX9_lots_85 : decode cX9_lots 85 = .ok (.ldiv, 1) := by decide +kernel
theorem dX9_lots_86 : decode cX9_lots 86 = .ok (.l2i, 1) := by decide +kernel
theorem dX9_lots_87 : decode cX9_lots 87 = .ok (.aload_n 0, 1) := by decide +kernel
theorem dX9_lots_88 : decode cX9_lots 88 = .ok (.getfield 24, 3) := by decide +kernel
theorem dX9_lots_91 : decode cX9_lots 91 = .ok (.invokevirtual 289, 3) := by decide +kernel
theorem dX9_lots_94 : decode cX9_lots 94 = .ok (.iconst 1, 1) := by decide +kernel
theorem dX9_lots_95 : decode cX9_lots 95 = .ok (.isub, 1) := by decide +kernel
theorem dX9_lots_96 : decode cX9_lots 96 = .ok (.iand, 1) := by decide +kernel
theorem dX9_lots_97 : decode cX9_lots 97 = .ok (.invokevirtual 342, 3) := by decide +kernel
theorem dX9_lots_100 : decode cX9_lots 100 = .ok (.iload 5, 2) := by decide +kernel
theorem dX9_lots_102 : decode cX9_lots 102 = .ok (.aload_n 0, 1) := by decide +kernel
theorem dX9_lots_103 : decode cX9_lots 103 = .ok (.invokevirtual 200, 3) := by decide +kernel
theorem dX9_lots_106 : decode cX9_lots 106 = .ok (.invokestatic 204, 3) := by decide +kernel
theorem dX9_lots_109 : decode cX9_lots 109 = .ok (.iadd, 1) := by decide +kernel
theorem dX9_lots_110 : decode cX9_lots 110 = .ok (.istore 5, 2) := by decide +kernel
theorem dX9_lots_112 : decode cX9_lots 112 = .ok (.iinc 6 1, 3) := by decide +kernel
theorem dX9_lots_115 : decode cX9_lots 115 = .ok (.goto (-66), 3) := by decide +kernel
theorem dX9_lots_118 : decode cX9_lots 118 = .ok (.iload 5, 2) := by decide +kernel
theorem dX9_lots_120 : decode cX9_lots 120 = .ok (.ireturn, 1) := by decide +kernel
theorem dX9_asked_0 : decode cX9_asked 0 = .ok (.aload_n 0, 1) := by decide +kernel
theorem dX9_asked_1 : decode cX9_asked 1 = .ok (.getfield 102, 3) := by decide +kernel
theorem dX9_asked_4 : decode cX9_asked 4 = .ok (.ireturn, 1) := by decide +kernel
theorem dX9_upper_0 : decode cX9_upper 0 = .ok (.aload_n 0, 1) := by decide +kernel
theorem dX9_upper_1 : decode cX9_upper 1 = .ok (.getfield 345, 3) := by decide +kernel
theorem dX9_upper_4 : decode cX9_upper 4 = .ok (.lreturn, 1) := by decide +kernel
theorem dX9_lower_0 : decode cX9_lower 0 = .ok (.aload_n 0, 1) := by decide +kernel
theorem dX9_lower_1 : decode cX9_lower 1 = .ok (.getfield 85, 3) := by decide +kernel
theorem dX9_lower_4 : decode cX9_lower 4 = .ok (.lreturn, 1) := by decide +kernel
theorem dX9_count_0 : decode cX9_count 0 = .ok (.iload_n 1, 1) := by decide +kernel
theorem dX9_count_1 : decode cX9_count 1 = .ok (.tableswitch 148 0 9 #[55, 63, 71, 79, 93, 107, 116, 124, 132, 137], 55) := by decide +kernel
theorem dX9_count_56 : decode cX9_count 56 = .ok (.aload_n 0, 1) := by decide +kernel
theorem dX9_count_57 : decode cX9_count 57 = .ok (.getfield 24, 3) := by decide +kernel
theorem dX9_count_60 : decode cX9_count 60 = .ok (.getfield 154, 3) := by decide +kernel
theorem dX9_count_63 : decode cX9_count 63 = .ok (.ireturn, 1) := by decide +kernel
theorem dX9_count_64 : decode cX9_count 64 = .ok (.aload_n 0, 1) := by decide +kernel
theorem dX9_count_65 : decode cX9_count 65 = .ok (.getfield 24, 3) := by decide +kernel
theorem dX9_count_68 : decode cX9_count 68 = .ok (.getfield 348, 3) := by decide +kernel
theorem dX9_count_71 : decode cX9_count 71 = .ok (.ireturn, 1) := by decide +kernel
theorem dX9_count_72 : decode cX9_count 72 = .ok (.aload_n 0, 1) := by decide +kernel
theorem dX9_count_73 : decode cX9_count 73 = .ok (.getfield 43, 3) := by decide +kernel
theorem dX9_count_76 : decode cX9_count 76 = .ok (.getfield 221, 3) := by decide +kernel
theorem dX9_count_79 : decode cX9_count 79 = .ok (.ireturn, 1) := by decide +kernel
theorem dX9_count_80 : decode cX9_count 80 = .ok (.aload_n 0, 1) := by decide +kernel
theorem dX9_count_81 : decode cX9_count 81 = .ok (.getfield 43, 3) := by decide +kernel
theorem dX9_count_84 : decode cX9_count 84 = .ok (.getfield 183, 3) := by decide +kernel
theorem dX9_count_87 : decode cX9_count 87 = .ok (.getfield 277, 3) := by decide +kernel
theorem dX9_count_90 : decode cX9_count 90 = .ok (.invokestatic 204, 3) := by decide +kernel
theorem dX9_count_93 : decode cX9_count 93 = .ok (.ireturn, 1) := by decide +kernel
theorem dX9_count_94 : decode cX9_count 94 = .ok (.aload_n 0, 1) := by decide +kernel
theorem dX9_count_95 : decode cX9_count 95 = .ok (.getfield 43, 3) := by decide +kernel
theorem dX9_count_98 : decode cX9_count 98 = .ok (.getfield 183, 3) := by decide +kernel
theorem dX9_count_101 : decode cX9_count 101 = .ok (.getfield 209, 3) := by decide +kernel
theorem dX9_count_104 : decode cX9_count 104 = .ok (.invokestatic 204, 3) := by decide +kernel
theorem dX9_count_107 : decode cX9_count 107 = .ok (.ireturn, 1) := by decide +kernel
theorem dX9_count_108 : decode cX9_count 108 = .ok (.aload_n 0, 1) := by decide +kernel
theorem dX9_count_109 : decode cX9_count 109 = .ok (.getfield 24, 3) := by decide +kernel
theorem dX9_count_112 : decode cX9_count 112 = .ok (.iconst 2, 1) := by decide +kernel
theorem dX9_count_113 : decode cX9_count 113 = .ok (.invokevirtual 351, 3) := by decide +kernel
theorem dX9_count_116 : decode cX9_count 116 = .ok (.ireturn, 1) := by decide +kernel
theorem dX9_count_117 : decode cX9_count 117 = .ok (.aload_n 0, 1) := by decide +kernel
theorem dX9_count_118 : decode cX9_count 118 = .ok (.getfield 14, 3) := by decide +kernel
theorem dX9_count_121 : decode cX9_count 121 = .ok (.invokevirtual 354, 3) := by decide +kernel
theorem dX9_count_124 : decode cX9_count 124 = .ok (.ireturn, 1) := by decide +kernel
theorem dX9_count_125 : decode cX9_count 125 = .ok (.aload_n 0, 1) := by decide +kernel
theorem dX9_count_126 : decode cX9_count 126 = .ok (.getfield 18, 3) := by decide +kernel
theorem dX9_count_129 : decode cX9_count 129 = .ok (.invokevirtual 354, 3) := by decide +kernel
theorem dX9_count_132 : decode cX9_count 132 = .ok (.ireturn, 1) := by decide +kernel
theorem dX9_count_133 : decode cX9_count 133 = .ok (.aload_n 0, 1) := by decide +kernel
theorem dX9_count_134 : decode cX9_count 134 = .ok (.invokevirtual 357, 3) := by decide +kernel
theorem dX9_count_137 : decode cX9_count 137 = .ok (.ireturn, 1) := by decide +kernel
theorem dX9_count_138 : decode cX9_count 138 = .ok (.aload_n 0, 1) := by decide +kernel
theorem dX9_count_139 : decode cX9_count 139 = .ok (.getfield 43, 3) := by decide +kernel
theorem dX9_count_142 : decode cX9_count 142 = .ok (.getfield 183, 3) := by decide +kernel
theorem dX9_count_145 : decode cX9_count 145 = .ok (.invokevirtual 360, 3) := by decide +kernel
theorem dX9_count_148 : decode cX9_count 148 = .ok (.ireturn, 1) := by decide +kernel
theorem dX9_count_149 : decode cX9_count 149 = .ok (.iconst (-1), 1) := by decide +kernel
theorem dX9_count_150 : decode cX9_count 150 = .ok (.ireturn, 1) := by decide +kernel
theorem dX9_finding_0 : decode cX9_finding 0 = .ok (.aload_n 0, 1) := by decide +kernel
theorem dX9_finding_1 : decode cX9_finding 1 = .ok (.getfield 363, 3) := by decide +kernel
theorem dX9_finding_4 : decode cX9_finding 4 = .ok (.ireturn, 1) := by decide +kernel
theorem dX9_findings_0 : decode cX9_findings 0 = .ok (.iload_n 1, 1) := by decide +kernel
theorem dX9_findings_1 : decode cX9_findings 1 = .ok (.iconst 1, 1) := by decide +kernel
theorem dX9_findings_2 : decode cX9_findings 2 = .ok (.if_icmp .lt 8, 3) := by decide +kernel
theorem dX9_findings_5 : decode cX9_findings 5 = .ok (.iload_n 1, 1) := by decide +kernel
theorem dX9_findings_6 : decode cX9_findings 6 = .ok (.iconst 5, 1) := by decide +kernel
theorem dX9_findings_7 : decode cX9_findings 7 = .ok (.if_icmp .le 7, 3) := by decide +kernel
theorem dX9_findings_10 : decode cX9_findings 10 = .ok (.iconst (-1), 1) := by decide +kernel
theorem dX9_findings_11 : decode cX9_findings 11 = .ok (.goto 9, 3) := by decide +kernel
theorem dX9_findings_14 : decode cX9_findings 14 = .ok (.aload_n 0, 1) := by decide +kernel
theorem dX9_findings_15 : decode cX9_findings 15 = .ok (.getfield 81, 3) := by decide +kernel
theorem dX9_findings_18 : decode cX9_findings 18 = .ok (.iload_n 1, 1) := by decide +kernel
theorem dX9_findings_19 : decode cX9_findings 19 = .ok (.iaload, 1) := by decide +kernel
theorem dX9_findings_20 : decode cX9_findings 20 = .ok (.ireturn, 1) := by decide +kernel
theorem dX9_digest_0 : decode cX9_digest 0 = .ok (.ldc2_w 366, 3) := by decide +kernel
theorem dX9_digest_3 : decode cX9_digest 3 = .ok (.lstore_n 1, 1) := by decide +kernel
theorem dX9_digest_4 : decode cX9_digest 4 = .ok (.iconst 0, 1) := by decide +kernel
theorem dX9_digest_5 : decode cX9_digest 5 = .ok (.istore_n 3, 1) := by decide +kernel
theorem dX9_digest_6 : decode cX9_digest 6 = .ok (.iload_n 3, 1) := by decide +kernel
theorem dX9_digest_7 : decode cX9_digest 7 = .ok (.bipush 9, 2) := by decide +kernel
theorem dX9_digest_9 : decode cX9_digest 9 = .ok (.if_icmp .gt 22, 3) := by decide +kernel
theorem dX9_digest_12 : decode cX9_digest 12 = .ok (.ldc2_w 368, 3) := by decide +kernel
theorem dX9_digest_15 : decode cX9_digest 15 = .ok (.lload_n 1, 1) := by decide +kernel
theorem dX9_digest_16 : decode cX9_digest 16 = .ok (.lmul, 1) := by decide +kernel
theorem dX9_digest_17 : decode cX9_digest 17 = .ok (.aload_n 0, 1) := by decide +kernel
theorem dX9_digest_18 : decode cX9_digest 18 = .ok (.iload_n 3, 1) := by decide +kernel
theorem dX9_digest_19 : decode cX9_digest 19 = .ok (.invokevirtual 370, 3) := by decide +kernel
theorem dX9_digest_22 : decode cX9_digest 22 = .ok (.i2l, 1) := by decide +kernel
theorem dX9_digest_23 : decode cX9_digest 23 = .ok (.ladd, 1) := by decide +kernel
theorem dX9_digest_24 : decode cX9_digest 24 = .ok (.lstore_n 1, 1) := by decide +kernel
theorem dX9_digest_25 : decode cX9_digest 25 = .ok (.iinc 3 1, 3) := by decide +kernel
theorem dX9_digest_28 : decode cX9_digest 28 = .ok (.goto (-22), 3) := by decide +kernel
theorem dX9_digest_31 : decode cX9_digest 31 = .ok (.ldc2_w 368, 3) := by decide +kernel
theorem dX9_digest_34 : decode cX9_digest 34 = .ok (.lload_n 1, 1) := by decide +kernel
theorem dX9_digest_35 : decode cX9_digest 35 = .ok (.lmul, 1) := by decide +kernel
theorem dX9_digest_36 : decode cX9_digest 36 = .ok (.aload_n 0, 1) := by decide +kernel
theorem dX9_digest_37 : decode cX9_digest 37 = .ok (.getfield 43, 3) := by decide +kernel
theorem dX9_digest_40 : decode cX9_digest 40 = .ok (.getfield 183, 3) := by decide +kernel
theorem dX9_digest_43 : decode cX9_digest 43 = .ok (.getfield 227, 3) := by decide +kernel
theorem dX9_digest_46 : decode cX9_digest 46 = .ok (.i2l, 1) := by decide +kernel
theorem dX9_digest_47 : decode cX9_digest 47 = .ok (.ladd, 1) := by decide +kernel
theorem dX9_digest_48 : decode cX9_digest 48 = .ok (.lstore_n 1, 1) := by decide +kernel
theorem dX9_digest_49 : decode cX9_digest 49 = .ok (.iconst 0, 1) := by decide +kernel
theorem dX9_digest_50 : decode cX9_digest 50 = .ok (.istore_n 3, 1) := by decide +kernel
theorem dX9_digest_51 : decode cX9_digest 51 = .ok (.iload_n 3, 1) := by decide +kernel
theorem dX9_digest_52 : decode cX9_digest 52 = .ok (.aload_n 0, 1) := by decide +kernel
theorem dX9_digest_53 : decode cX9_digest 53 = .ok (.getfield 24, 3) := by decide +kernel
theorem dX9_digest_56 : decode cX9_digest 56 = .ok (.getfield 154, 3) := by decide +kernel
theorem dX9_digest_59 : decode cX9_digest 59 = .ok (.if_icmp .ge 57, 3) := by decide +kernel
theorem dX9_digest_62 : decode cX9_digest 62 = .ok (.iconst 0, 1) := by decide +kernel
theorem dX9_digest_63 : decode cX9_digest 63 = .ok (.istore 4, 2) := by decide +kernel
theorem dX9_digest_65 : decode cX9_digest 65 = .ok (.iload 4, 2) := by decide +kernel
theorem dX9_digest_67 : decode cX9_digest 67 = .ok (.bipush 7, 2) := by decide +kernel
theorem dX9_digest_69 : decode cX9_digest 69 = .ok (.if_icmp .gt 24, 3) := by decide +kernel
theorem dX9_digest_72 : decode cX9_digest 72 = .ok (.ldc2_w 368, 3) := by decide +kernel
theorem dX9_digest_75 : decode cX9_digest 75 = .ok (.lload_n 1, 1) := by decide +kernel
theorem dX9_digest_76 : decode cX9_digest 76 = .ok (.lmul, 1) := by decide +kernel
theorem dX9_digest_77 : decode cX9_digest 77 = .ok (.aload_n 0, 1) := by decide +kernel
theorem dX9_digest_78 : decode cX9_digest 78 = .ok (.iload_n 3, 1) := by decide +kernel
theorem dX9_digest_79 : decode cX9_digest 79 = .ok (.iload 4, 2) := by decide +kernel
theorem dX9_digest_81 : decode cX9_digest 81 = .ok (.invokevirtual 160, 3) := by decide +kernel
theorem dX9_digest_84 : decode cX9_digest 84 = .ok (.i2l, 1) := by decide +kernel
theorem dX9_digest_85 : decode cX9_digest 85 = .ok (.ladd, 1) := by decide +kernel
theorem dX9_digest_86 : decode cX9_digest 86 = .ok (.lstore_n 1, 1) := by decide +kernel
theorem dX9_digest_87 : decode cX9_digest 87 = .ok (.iinc 4 1, 3) := by decide +kernel
theorem dX9_digest_90 : decode cX9_digest 90 = .ok (.goto (-25), 3) := by decide +kernel
theorem dX9_digest_93 : decode cX9_digest 93 = .ok (.ldc2_w 368, 3) := by decide +kernel
theorem dX9_digest_96 : decode cX9_digest 96 = .ok (.lload_n 1, 1) := by decide +kernel
theorem dX9_digest_97 : decode cX9_digest 97 = .ok (.lmul, 1) := by decide +kernel
theorem dX9_digest_98 : decode cX9_digest 98 = .ok (.aload_n 0, 1) := by decide +kernel
theorem dX9_digest_99 : decode cX9_digest 99 = .ok (.getfield 24, 3) := by decide +kernel
theorem dX9_digest_102 : decode cX9_digest 102 = .ok (.getfield 176, 3) := by decide +kernel
theorem dX9_digest_105 : decode cX9_digest 105 = .ok (.iload_n 3, 1) := by decide +kernel
theorem dX9_digest_106 : decode cX9_digest 106 = .ok (.iaload, 1) := by decide +kernel
theorem dX9_digest_107 : decode cX9_digest 107 = .ok (.i2l, 1) := by decide +kernel
theorem dX9_digest_108 : decode cX9_digest 108 = .ok (.ladd, 1) := by decide +kernel
theorem dX9_digest_109 : decode cX9_digest 109 = .ok (.lstore_n 1, 1) := by decide +kernel
theorem dX9_digest_110 : decode cX9_digest 110 = .ok (.iinc 3 1, 3) := by decide +kernel
theorem dX9_digest_113 : decode cX9_digest 113 = .ok (.goto (-62), 3) := by decide +kernel
theorem dX9_digest_116 : decode cX9_digest 116 = .ok (.iconst 0, 1) := by decide +kernel
theorem dX9_digest_117 : decode cX9_digest 117 = .ok (.istore_n 3, 1) := by decide +kernel
theorem dX9_digest_118 : decode cX9_digest 118 = .ok (.iload_n 3, 1) := by decide +kernel
theorem dX9_digest_119 : decode cX9_digest 119 = .ok (.iconst 3, 1) := by decide +kernel
theorem dX9_digest_120 : decode cX9_digest 120 = .ok (.if_icmp .ge 45, 3) := by decide +kernel
theorem dX9_digest_123 : decode cX9_digest 123 = .ok (.ldc2_w 368, 3) := by decide +kernel
theorem dX9_digest_126 : decode cX9_digest 126 = .ok (.lload_n 1, 1) := by decide +kernel
theorem dX9_digest_127 : decode cX9_digest 127 = .ok (.lmul, 1) := by decide +kernel
theorem dX9_digest_128 : decode cX9_digest 128 = .ok (.aload_n 0, 1) := by decide +kernel
theorem dX9_digest_129 : decode cX9_digest 129 = .ok (.getfield 49, 3) := by decide +kernel
theorem dX9_digest_132 : decode cX9_digest 132 = .ok (.iload_n 3, 1) := by decide +kernel
theorem dX9_digest_133 : decode cX9_digest 133 = .ok (.aaload, 1) := by decide +kernel
theorem dX9_digest_134 : decode cX9_digest 134 = .ok (.getfield 150, 3) := by decide +kernel
theorem dX9_digest_137 : decode cX9_digest 137 = .ok (.ifCond .eq 18, 3) := by decide +kernel
theorem dX9_digest_140 : decode cX9_digest 140 = .ok (.aload_n 0, 1) := by decide +kernel
theorem dX9_digest_141 : decode cX9_digest 141 = .ok (.getfield 49, 3) := by decide +kernel
theorem dX9_digest_144 : decode cX9_digest 144 = .ok (.iload_n 3, 1) := by decide +kernel
theorem dX9_digest_145 : decode cX9_digest 145 = .ok (.aaload, 1) := by decide +kernel
theorem dX9_digest_146 : decode cX9_digest 146 = .ok (.getfield 233, 3) := by decide +kernel
theorem dX9_digest_149 : decode cX9_digest 149 = .ok (.getfield 221, 3) := by decide +kernel
theorem dX9_digest_152 : decode cX9_digest 152 = .ok (.goto 4, 3) := by decide +kernel
theorem dX9_digest_155 : decode cX9_digest 155 = .ok (.iconst (-1), 1) := by decide +kernel
theorem dX9_digest_156 : decode cX9_digest 156 = .ok (.i2l, 1) := by decide +kernel
theorem dX9_digest_157 : decode cX9_digest 157 = .ok (.ladd, 1) := by decide +kernel
theorem dX9_digest_158 : decode cX9_digest 158 = .ok (.lstore_n 1, 1) := by decide +kernel
theorem dX9_digest_159 : decode cX9_digest 159 = .ok (.iinc 3 1, 3) := by decide +kernel
theorem dX9_digest_162 : decode cX9_digest 162 = .ok (.goto (-44), 3) := by decide +kernel
theorem dX9_digest_165 : decode cX9_digest 165 = .ok (.aload_n 0, 1) := by decide +kernel
theorem dX9_digest_166 : decode cX9_digest 166 = .ok (.getfield 18, 3) := by decide +kernel
theorem dX9_digest_169 : decode cX9_digest 169 = .ok (.aload_n 0, 1) := by decide +kernel
theorem dX9_digest_170 : decode cX9_digest 170 = .ok (.getfield 14, 3) := by decide +kernel
theorem dX9_digest_173 : decode cX9_digest 173 = .ok (.lload_n 1, 1) := by decide +kernel
theorem dX9_digest_174 : decode cX9_digest 174 = .ok (.invokevirtual 373, 3) := by decide +kernel
theorem dX9_digest_177 : decode cX9_digest 177 = .ok (.invokevirtual 373, 3) := by decide +kernel
theorem dX9_digest_180 : decode cX9_digest 180 = .ok (.lreturn, 1) := by decide +kernel
theorem dX9_answerFinding_0 : decode cX9_answerFinding 0 = .ok (.aload_n 0, 1) := by decide +kernel
theorem dX9_answerFinding_1 : decode cX9_answerFinding 1 = .ok (.iload_n 1, 1) := by decide +kernel
theorem dX9_answerFinding_2 : decode cX9_answerFinding 2 = .ok (.putfield 363, 3) := by decide +kernel
theorem dX9_answerFinding_5 : decode cX9_answerFinding 5 = .ok (.aload_n 0, 1) := by decide +kernel
theorem dX9_answerFinding_6 : decode cX9_answerFinding 6 = .ok (.getfield 81, 3) := by decide +kernel
theorem dX9_answerFinding_9 : decode cX9_answerFinding 9 = .ok (.iload_n 1, 1) := by decide +kernel
theorem dX9_answerFinding_10 : decode cX9_answerFinding 10 = .ok (.dup2, 1) := by decide +kernel
theorem dX9_answerFinding_11 : decode cX9_answerFinding 11 = .ok (.iaload, 1) := by decide +kernel
theorem dX9_answerFinding_12 : decode cX9_answerFinding 12 = .ok (.iconst 1, 1) := by decide +kernel
theorem dX9_answerFinding_13 : decode cX9_answerFinding 13 = .ok (.iadd, 1) := by decide +kernel
theorem dX9_answerFinding_14 : decode cX9_answerFinding 14 = .ok (.iastore, 1) := by decide +kernel
theorem dX9_answerFinding_15 : decode cX9_answerFinding 15 = .ok (.bipush (-3), 2) := by decide +kernel
theorem dX9_answerFinding_17 : decode cX9_answerFinding 17 = .ok (.ireturn, 1) := by decide +kernel
theorem dX9_makeIn_0 : decode cX9_makeIn 0 = .ok (.aload_n 1, 1) := by decide +kernel
theorem dX9_makeIn_1 : decode cX9_makeIn 1 = .ok (.iload_n 2, 1) := by decide +kernel
theorem dX9_makeIn_2 : decode cX9_makeIn 2 = .ok (.invokevirtual 118, 3) := by decide +kernel
theorem dX9_makeIn_5 : decode cX9_makeIn 5 = .ok (.ifCond .eq 11, 3) := by decide +kernel
theorem dX9_makeIn_8 : decode cX9_makeIn 8 = .ok (.iload_n 3, 1) := by decide +kernel
theorem dX9_makeIn_9 : decode cX9_makeIn 9 = .ok (.aload_n 1, 1) := by decide +kernel
theorem dX9_makeIn_10 : decode cX9_makeIn 10 = .ok (.getfield 377, 3) := by decide +kernel
theorem dX9_makeIn_13 : decode cX9_makeIn 13 = .ok (.if_icmp .le 5, 3) := by decide +kernel
theorem dX9_makeIn_16 : decode cX9_makeIn 16 = .ok (.iconst (-1), 1) := by decide +kernel
theorem dX9_makeIn_17 : decode cX9_makeIn 17 = .ok (.ireturn, 1) := by decide +kernel
theorem dX9_makeIn_18 : decode cX9_makeIn 18 = .ok (.iload_n 3, 1) := by decide +kernel
theorem dX9_makeIn_19 : decode cX9_makeIn 19 = .ok (.ifCond .ge 9, 3) := by decide +kernel
theorem dX9_makeIn_22 : decode cX9_makeIn 22 = .ok (.aload_n 0, 1) := by decide +kernel
theorem dX9_makeIn_23 : decode cX9_makeIn 23 = .ok (.iconst 5, 1) := by decide +kernel
theorem dX9_makeIn_24 : decode cX9_makeIn 24 = .ok (.invokevirtual 122, 3) := by decide +kernel
theorem dX9_makeIn_27 : decode cX9_makeIn 27 = .ok (.ireturn, 1) := by decide +kernel
theorem dX9_makeIn_28 : decode cX9_makeIn 28 = .ok (.aload_n 1, 1) := by decide +kernel
theorem dX9_makeIn_29 : decode cX9_makeIn 29 = .ok (.iload_n 2, 1) := by decide +kernel
theorem dX9_makeIn_30 : decode cX9_makeIn 30 = .ok (.iload_n 3, 1) := by decide +kernel
theorem dX9_makeIn_31 : decode cX9_makeIn 31 = .ok (.iload 4, 2) := by decide +kernel
theorem dX9_makeIn_33 : decode cX9_makeIn 33 = .ok (.invokevirtual 313, 3) := by decide +kernel
theorem dX9_makeIn_36 : decode cX9_makeIn 36 = .ok (.iload_n 3, 1) := by decide +kernel
theorem dX9_makeIn_37 : decode cX9_makeIn 37 = .ok (.ireturn, 1) := by decide +kernel
theorem dX9_shelfRefusal_0 : decode cX9_shelfRefusal 0 = .ok (.aload_n 1, 1) := by decide +kernel
theorem dX9_shelfRefusal_1 : decode cX9_shelfRefusal 1 = .ok (.iload_n 2, 1) := by decide +kernel
theorem dX9_shelfRefusal_2 : decode cX9_shelfRefusal 2 = .ok (.invokevirtual 118, 3) := by decide +kernel
theorem dX9_shelfRefusal_5 : decode cX9_shelfRefusal 5 = .ok (.ifCond .ne 5, 3) := by decide +kernel
theorem dX9_shelfRefusal_8 : decode cX9_shelfRefusal 8 = .ok (.iconst (-1), 1) := by decide +kernel
theorem dX9_shelfRefusal_9 : decode cX9_shelfRefusal 9 = .ok (.ireturn, 1) := by decide +kernel
theorem dX9_shelfRefusal_10 : decode cX9_shelfRefusal 10 = .ok (.aload_n 1, 1) := by decide +kernel
theorem dX9_shelfRefusal_11 : decode cX9_shelfRefusal 11 = .ok (.iload_n 2, 1) := by decide +kernel
theorem dX9_shelfRefusal_12 : decode cX9_shelfRefusal 12 = .ok (.invokevirtual 126, 3) := by decide +kernel
theorem dX9_shelfRefusal_15 : decode cX9_shelfRefusal 15 = .ok (.ifCond .eq 7, 3) := by decide +kernel
theorem dX9_shelfRefusal_18 : decode cX9_shelfRefusal 18 = .ok (.iconst 0, 1) := by decide +kernel
theorem dX9_shelfRefusal_19 : decode cX9_shelfRefusal 19 = .ok (.goto 8, 3) := by decide +kernel
theorem dX9_shelfRefusal_22 : decode cX9_shelfRefusal 22 = .ok (.aload_n 0, 1) := by decide +kernel
theorem dX9_shelfRefusal_23 : decode cX9_shelfRefusal 23 = .ok (.iconst 1, 1) := by decide +kernel
theorem dX9_shelfRefusal_24 : decode cX9_shelfRefusal 24 = .ok (.invokevirtual 122, 3) := by decide +kernel
theorem dX9_shelfRefusal_27 : decode cX9_shelfRefusal 27 = .ok (.ireturn, 1) := by decide +kernel
theorem dX9_placeRefusal_0 : decode cX9_placeRefusal 0 = .ok (.aload_n 0, 1) := by decide +kernel
theorem dX9_placeRefusal_1 : decode cX9_placeRefusal 1 = .ok (.aload_n 1, 1) := by decide +kernel
theorem dX9_placeRefusal_2 : decode cX9_placeRefusal 2 = .ok (.iload_n 2, 1) := by decide +kernel
theorem dX9_placeRefusal_3 : decode cX9_placeRefusal 3 = .ok (.invokevirtual 110, 3) := by decide +kernel
theorem dX9_placeRefusal_6 : decode cX9_placeRefusal 6 = .ok (.istore 4, 2) := by decide +kernel
theorem dX9_placeRefusal_8 : decode cX9_placeRefusal 8 = .ok (.iload 4, 2) := by decide +kernel
theorem dX9_placeRefusal_10 : decode cX9_placeRefusal 10 = .ok (.ifCond .eq 6, 3) := by decide +kernel
theorem dX9_placeRefusal_13 : decode cX9_placeRefusal 13 = .ok (.iload 4, 2) := by decide +kernel
theorem dX9_placeRefusal_15 : decode cX9_placeRefusal 15 = .ok (.ireturn, 1) := by decide +kernel
theorem dX9_placeRefusal_16 : decode cX9_placeRefusal 16 = .ok (.aload_n 1, 1) := by decide +kernel
theorem dX9_placeRefusal_17 : decode cX9_placeRefusal 17 = .ok (.iload_n 2, 1) := by decide +kernel
theorem dX9_placeRefusal_18 : decode cX9_placeRefusal 18 = .ok (.iload_n 3, 1) := by decide +kernel
theorem dX9_placeRefusal_19 : decode cX9_placeRefusal 19 = .ok (.iconst 1, 1) := by decide +kernel
theorem dX9_placeRefusal_20 : decode cX9_placeRefusal 20 = .ok (.invokevirtual 129, 3) := by decide +kernel
theorem dX9_placeRefusal_23 : decode cX9_placeRefusal 23 = .ok (.ifCond .eq 7, 3) := by decide +kernel
theorem dX9_placeRefusal_26 : decode cX9_placeRefusal 26 = .ok (.iconst 0, 1) := by decide +kernel
theorem dX9_placeRefusal_27 : decode cX9_placeRefusal 27 = .ok (.goto 8, 3) := by decide +kernel
theorem dX9_placeRefusal_30 : decode cX9_placeRefusal 30 = .ok (.aload_n 0, 1) := by decide +kernel
theorem dX9_placeRefusal_31 : decode cX9_placeRefusal 31 = .ok (.iconst 2, 1) := by decide +kernel
theorem dX9_placeRefusal_32 : decode cX9_placeRefusal 32 = .ok (.invokevirtual 122, 3) := by decide +kernel
theorem dX9_placeRefusal_35 : decode cX9_placeRefusal 35 = .ok (.ireturn, 1) := by decide +kernel
theorem dX9_deltaRowRefusal_0 : decode cX9_deltaRowRefusal 0 = .ok (.aload_n 0, 1) := by decide +kernel
theorem dX9_deltaRowRefusal_1 : decode cX9_deltaRowRefusal 1 = .ok (.getfield 14, 3) := by decide +kernel
theorem dX9_deltaRowRefusal_4 : decode cX9_deltaRowRefusal 4 = .ok (.iload_n 1, 1) := by decide +kernel
theorem dX9_deltaRowRefusal_5 : decode cX9_deltaRowRefusal 5 = .ok (.invokevirtual 118, 3) := by decide +kernel
theorem dX9_deltaRowRefusal_8 : decode cX9_deltaRowRefusal 8 = .ok (.ifCond .ne 5, 3) := by decide +kernel
theorem dX9_deltaRowRefusal_11 : decode cX9_deltaRowRefusal 11 = .ok (.iconst (-1), 1) := by decide +kernel
theorem dX9_deltaRowRefusal_12 : decode cX9_deltaRowRefusal 12 = .ok (.ireturn, 1) := by decide +kernel
theorem dX9_deltaRowRefusal_13 : decode cX9_deltaRowRefusal 13 = .ok (.aload_n 0, 1) := by decide +kernel
theorem dX9_deltaRowRefusal_14 : decode cX9_deltaRowRefusal 14 = .ok (.getfield 24, 3) := by decide +kernel
theorem dX9_deltaRowRefusal_17 : decode cX9_deltaRowRefusal 17 = .ok (.getfield 154, 3) := by decide +kernel
theorem dX9_deltaRowRefusal_20 : decode cX9_deltaRowRefusal 20 = .ok (.ifCond .ne 8, 3) := by decide +kernel
theorem dX9_deltaRowRefusal_23 : decode cX9_deltaRowRefusal 23 = .ok (.bipush (-4), 2) := by decide +kernel
theorem dX9_deltaRowRefusal_25 : decode cX9_deltaRowRefusal 25 = .ok (.goto 12, 3) := by decide +kernel
theorem dX9_deltaRowRefusal_28 : decode cX9_deltaRowRefusal 28 = .ok (.aload_n 0, 1) := by decide +kernel
theorem dX9_deltaRowRefusal_29 : decode cX9_deltaRowRefusal 29 = .ok (.aload_n 0, 1) := by decide +kernel
theorem dX9_deltaRowRefusal_30 : decode cX9_deltaRowRefusal 30 = .ok (.getfield 14, 3) := by decide +kernel
theorem dX9_deltaRowRefusal_33 : decode cX9_deltaRowRefusal 33 = .ok (.iload_n 1, 1) := by decide +kernel
theorem dX9_deltaRowRefusal_34 : decode cX9_deltaRowRefusal 34 = .ok (.invokevirtual 110, 3) := by decide +kernel
theorem dX9_deltaRowRefusal_37 : decode cX9_deltaRowRefusal 37 = .ok (.ireturn, 1) := by decide +kernel
theorem dX9_armRowRefusal_0 : decode cX9_armRowRefusal 0 = .ok (.aload_n 0, 1) := by decide +kernel
theorem dX9_armRowRefusal_1 : decode cX9_armRowRefusal 1 = .ok (.iload_n 1, 1) := by decide +kernel
theorem dX9_armRowRefusal_2 : decode cX9_armRowRefusal 2 = .ok (.invokevirtual 247, 3) := by decide +kernel
theorem dX9_armRowRefusal_5 : decode cX9_armRowRefusal 5 = .ok (.istore_n 2, 1) := by decide +kernel
theorem dX9_armRowRefusal_6 : decode cX9_armRowRefusal 6 = .ok (.iload_n 2, 1) := by decide +kernel
theorem dX9_armRowRefusal_7 : decode cX9_armRowRefusal 7 = .ok (.ifCond .eq 5, 3) := by decide +kernel
theorem dX9_armRowRefusal_10 : decode cX9_armRowRefusal 10 = .ok (.iload_n 2, 1) := by decide +kernel
theorem dX9_armRowRefusal_11 : decode cX9_armRowRefusal 11 = .ok (.ireturn, 1) := by decide +kernel
theorem dX9_armRowRefusal_12 : decode cX9_armRowRefusal 12 = .ok (.aload_n 0, 1) := by decide +kernel
theorem dX9_armRowRefusal_13 : decode cX9_armRowRefusal 13 = .ok (.getfield 14, 3) := by decide +kernel
theorem dX9_armRowRefusal_16 : decode cX9_armRowRefusal 16 = .ok (.iload_n 1, 1) := by decide +kernel
theorem dX9_armRowRefusal_17 : decode cX9_armRowRefusal 17 = .ok (.invokevirtual 137, 3) := by decide +kernel
theorem dX9_armRowRefusal_20 : decode cX9_armRowRefusal 20 = .ok (.aload_n 0, 1) := by decide +kernel
theorem dX9_armRowRefusal_21 : decode cX9_armRowRefusal 21 = .ok (.getfield 24, 3) := by decide +kernel
theorem dX9_armRowRefusal_24 : decode cX9_armRowRefusal 24 = .ok (.getfield 154, 3) := by decide +kernel
theorem dX9_armRowRefusal_27 : decode cX9_armRowRefusal 27 = .ok (.if_icmp .ne 7, 3) := by decide +kernel
theorem dX9_armRowRefusal_30 : decode cX9_armRowRefusal 30 = .ok (.iconst 0, 1) := by decide +kernel
theorem dX9_armRowRefusal_31 : decode cX9_armRowRefusal 31 = .ok (.goto 8, 3) := by decide +kernel
theorem dX9_armRowRefusal_34 : decode cX9_armRowRefusal 34 = .ok (.aload_n 0, 1) := by decide +kernel
theorem dX9_armRowRefusal_35 : decode cX9_armRowRefusal 35 = .ok (.iconst 5, 1) := by decide +kernel
theorem dX9_armRowRefusal_36 : decode cX9_armRowRefusal 36 = .ok (.invokevirtual 122, 3) := by decide +kernel
theorem dX9_armRowRefusal_39 : decode cX9_armRowRefusal 39 = .ok (.ireturn, 1) := by decide +kernel
theorem dX9_armTells_0 : decode cX9_armTells 0 = .ok (.aload_n 0, 1) := by decide +kernel
theorem dX9_armTells_1 : decode cX9_armTells 1 = .ok (.getfield 43, 3) := by decide +kernel
theorem dX9_armTells_4 : decode cX9_armTells 4 = .ok (.getfield 183, 3) := by decide +kernel
theorem dX9_armTells_7 : decode cX9_armTells 7 = .ok (.astore_n 3, 1) := by decide +kernel
theorem dX9_armTells_8 : decode cX9_armTells 8 = .ok (.iload_n 2, 1) := by decide +kernel
theorem dX9_armTells_9 : decode cX9_armTells 9 = .ok (.tableswitch 100 0 6 #[43, 53, 63, 73, 82, 88, 94], 43) := by decide +kernel
theorem dX9_armTells_52 : decode cX9_armTells 52 = .ok (.aload_n 0, 1) := by decide +kernel
theorem dX9_armTells_53 : decode cX9_armTells 53 = .ok (.getfield 24, 3) := by decide +kernel
theorem dX9_armTells_56 : decode cX9_armTells 56 = .ok (.getfield 380, 3) := by decide +kernel
theorem dX9_armTells_59 : decode cX9_armTells 59 = .ok (.iload_n 1, 1) := by decide +kernel
theorem dX9_armTells_60 : decode cX9_armTells 60 = .ok (.iaload, 1) := by decide +kernel
theorem dX9_armTells_61 : decode cX9_armTells 61 = .ok (.ireturn, 1) := by decide +kernel
theorem dX9_armTells_62 : decode cX9_armTells 62 = .ok (.aload_n 0, 1) := by decide +kernel
theorem dX9_armTells_63 : decode cX9_armTells 63 = .ok (.getfield 24, 3) := by decide +kernel
theorem dX9_armTells_66 : decode cX9_armTells 66 = .ok (.getfield 383, 3) := by decide +kernel
theorem dX9_armTells_69 : decode cX9_armTells 69 = .ok (.iload_n 1, 1) := by decide +kernel
theorem dX9_armTells_70 : decode cX9_armTells 70 = .ok (.iaload, 1) := by decide +kernel
theorem dX9_armTells_71 : decode cX9_armTells 71 = .ok (.ireturn, 1) := by decide +kernel
theorem dX9_armTells_72 : decode cX9_armTells 72 = .ok (.aload_n 0, 1) := by decide +kernel
theorem dX9_armTells_73 : decode cX9_armTells 73 = .ok (.getfield 24, 3) := by decide +kernel
theorem dX9_armTells_76 : decode cX9_armTells 76 = .ok (.getfield 170, 3) := by decide +kernel
theorem dX9_armTells_79 : decode cX9_armTells 79 = .ok (.iload_n 1, 1) := by decide +kernel
theorem dX9_armTells_80 : decode cX9_armTells 80 = .ok (.iaload, 1) := by decide +kernel
theorem dX9_armTells_81 : decode cX9_armTells 81 = .ok (.ireturn, 1) := by decide +kernel
theorem dX9_armTells_82 : decode cX9_armTells 82 = .ok (.aload_n 3, 1) := by decide +kernel
theorem dX9_armTells_83 : decode cX9_armTells 83 = .ok (.getfield 197, 3) := by decide +kernel
theorem dX9_armTells_86 : decode cX9_armTells 86 = .ok (.iload_n 1, 1) := by decide +kernel
theorem dX9_armTells_87 : decode cX9_armTells 87 = .ok (.ishr, 1) := by decide +kernel
theorem dX9_armTells_88 : decode cX9_armTells 88 = .ok (.iconst 1, 1) := by decide +kernel
theorem dX9_armTells_89 : decode cX9_armTells 89 = .ok (.iand, 1) := by decide +kernel
theorem dX9_armTells_90 : decode cX9_armTells 90 = .ok (.ireturn, 1) := by decide +kernel
theorem dX9_armTells_91 : decode cX9_armTells 91 = .ok (.aload_n 3, 1) := by decide +kernel
theorem dX9_armTells_92 : decode cX9_armTells 92 = .ok (.iload_n 1, 1) := by decide +kernel
theorem dX9_armTells_93 : decode cX9_armTells 93 = .ok (.invokevirtual 386, 3) := by decide +kernel
theorem dX9_armTells_96 : decode cX9_armTells 96 = .ok (.ireturn, 1) := by decide +kernel
theorem dX9_armTells_97 : decode cX9_armTells 97 = .ok (.aload_n 3, 1) := by decide +kernel
theorem dX9_armTells_98 : decode cX9_armTells 98 = .ok (.iload_n 1, 1) := by decide +kernel
theorem dX9_armTells_99 : decode cX9_armTells 99 = .ok (.invokevirtual 389, 3) := by decide +kernel
theorem dX9_armTells_102 : decode cX9_armTells 102 = .ok (.ireturn, 1) := by decide +kernel
theorem dX9_armTells_103 : decode cX9_armTells 103 = .ok (.aload_n 3, 1) := by decide +kernel
theorem dX9_armTells_104 : decode cX9_armTells 104 = .ok (.iload_n 1, 1) := by decide +kernel
theorem dX9_armTells_105 : decode cX9_armTells 105 = .ok (.invokevirtual 392, 3) := by decide +kernel
theorem dX9_armTells_108 : decode cX9_armTells 108 = .ok (.ireturn, 1) := by decide +kernel
theorem dX9_armTells_109 : decode cX9_armTells 109 = .ok (.aload_n 3, 1) := by decide +kernel
theorem dX9_armTells_110 : decode cX9_armTells 110 = .ok (.aload_n 0, 1) := by decide +kernel
theorem dX9_armTells_111 : decode cX9_armTells 111 = .ok (.getfield 24, 3) := by decide +kernel
theorem dX9_armTells_114 : decode cX9_armTells 114 = .ok (.iload_n 1, 1) := by decide +kernel
theorem dX9_armTells_115 : decode cX9_armTells 115 = .ok (.invokevirtual 186, 3) := by decide +kernel
theorem dX9_armTells_118 : decode cX9_armTells 118 = .ok (.ifCond .eq 7, 3) := by decide +kernel
theorem dX9_armTells_121 : decode cX9_armTells 121 = .ok (.iconst 1, 1) := by decide +kernel
theorem dX9_armTells_122 : decode cX9_armTells 122 = .ok (.goto 4, 3) := by decide +kernel
theorem dX9_armTells_125 : decode cX9_armTells 125 = .ok (.iconst 0, 1) := by decide +kernel
theorem dX9_armTells_126 : decode cX9_armTells 126 = .ok (.ireturn, 1) := by decide +kernel
theorem dX9_markOf_0 : decode cX9_markOf 0 = .ok (.aload_n 0, 1) := by decide +kernel
theorem dX9_markOf_1 : decode cX9_markOf 1 = .ok (.getfield 43, 3) := by decide +kernel
theorem dX9_markOf_4 : decode cX9_markOf 4 = .ok (.getfield 183, 3) := by decide +kernel
theorem dX9_markOf_7 : decode cX9_markOf 7 = .ok (.astore_n 3, 1) := by decide +kernel
theorem dX9_markOf_8 : decode cX9_markOf 8 = .ok (.iload_n 2, 1) := by decide +kernel
theorem dX9_markOf_9 : decode cX9_markOf 9 = .ok (.tableswitch 76 1 4 #[31, 42, 54, 63], 31) := by decide +kernel
theorem dX9_markOf_40 : decode cX9_markOf 40 = .ok (.iconst 5, 1) := by decide +kernel
theorem dX9_markOf_41 : decode cX9_markOf 41 = .ok (.aload_n 3, 1) := by decide +kernel
theorem dX9_markOf_42 : decode cX9_markOf 42 = .ok (.iload_n 1, 1) := by decide +kernel
theorem dX9_markOf_43 : decode cX9_markOf 43 = .ok (.invokevirtual 386, 3) := by decide +kernel
theorem dX9_markOf_46 : decode cX9_markOf 46 = .ok (.isub, 1) := by decide +kernel
theorem dX9_markOf_47 : decode cX9_markOf 47 = .ok (.invokestatic 395, 3) := by decide +kernel
theorem dX9_markOf_50 : decode cX9_markOf 50 = .ok (.ireturn, 1) := by decide +kernel
theorem dX9_markOf_51 : decode cX9_markOf 51 = .ok (.bipush 9, 2) := by decide +kernel
theorem dX9_markOf_53 : decode cX9_markOf 53 = .ok (.aload_n 3, 1) := by decide +kernel
theorem dX9_markOf_54 : decode cX9_markOf 54 = .ok (.iload_n 1, 1) := by decide +kernel
theorem dX9_markOf_55 : decode cX9_markOf 55 = .ok (.invokevirtual 389, 3) := by decide +kernel
theorem dX9_markOf_58 : decode cX9_markOf 58 = .ok (.isub, 1) := by decide +kernel
theorem dX9_markOf_59 : decode cX9_markOf 59 = .ok (.invokestatic 395, 3) := by decide +kernel
theorem dX9_markOf_62 : decode cX9_markOf 62 = .ok (.ireturn, 1) := by decide +kernel
theorem dX9_markOf_63 : decode cX9_markOf 63 = .ok (.aload_n 3, 1) := by decide +kernel
theorem dX9_markOf_64 : decode cX9_markOf 64 = .ok (.getfield 209, 3) := by decide +kernel
theorem dX9_markOf_67 : decode cX9_markOf 67 = .ok (.iload_n 1, 1) := by decide +kernel
theorem dX9_markOf_68 : decode cX9_markOf 68 = .ok (.ishr, 1) := by decide +kernel
theorem dX9_markOf_69 : decode cX9_markOf 69 = .ok (.iconst 1, 1) := by decide +kernel
theorem dX9_markOf_70 : decode cX9_markOf 70 = .ok (.iand, 1) := by decide +kernel
theorem dX9_markOf_71 : decode cX9_markOf 71 = .ok (.ireturn, 1) := by decide +kernel
theorem dX9_markOf_72 : decode cX9_markOf 72 = .ok (.aload_n 0, 1) := by decide +kernel
theorem dX9_markOf_73 : decode cX9_markOf 73 = .ok (.getfield 24, 3) := by decide +kernel
theorem dX9_markOf_76 : decode cX9_markOf 76 = .ok (.iload_n 1, 1) := by decide +kernel
theorem dX9_markOf_77 : decode cX9_markOf 77 = .ok (.aload_n 3, 1) := by decide +kernel
theorem dX9_markOf_78 : decode cX9_markOf 78 = .ok (.getfield 197, 3) := by decide +kernel
theorem dX9_markOf_81 : decode cX9_markOf 81 = .ok (.invokevirtual 230, 3) := by decide +kernel
theorem dX9_markOf_84 : decode cX9_markOf 84 = .ok (.ireturn, 1) := by decide +kernel
theorem dX9_markOf_85 : decode cX9_markOf 85 = .ok (.aload_n 3, 1) := by decide +kernel
theorem dX9_markOf_86 : decode cX9_markOf 86 = .ok (.aload_n 0, 1) := by decide +kernel
theorem dX9_markOf_87 : decode cX9_markOf 87 = .ok (.getfield 24, 3) := by decide +kernel
theorem dX9_markOf_90 : decode cX9_markOf 90 = .ok (.iload_n 1, 1) := by decide +kernel
theorem dX9_markOf_91 : decode cX9_markOf 91 = .ok (.invokevirtual 398, 3) := by decide +kernel
theorem dX9_markOf_94 : decode cX9_markOf 94 = .ok (.ireturn, 1) := by decide +kernel
theorem dX9_stepsOfTwo_0 : decode cX9_stepsOfTwo 0 = .ok (.iload_n 0, 1) := by decide +kernel
theorem dX9_stepsOfTwo_1 : decode cX9_stepsOfTwo 1 = .ok (.ifCond .gt 7, 3) := by decide +kernel
theorem dX9_stepsOfTwo_4 : decode cX9_stepsOfTwo 4 = .ok (.iconst 0, 1) := by decide +kernel
theorem dX9_stepsOfTwo_5 : decode cX9_stepsOfTwo 5 = .ok (.goto 8, 3) := by decide +kernel
theorem dX9_stepsOfTwo_8 : decode cX9_stepsOfTwo 8 = .ok (.iload_n 0, 1) := by decide +kernel
theorem dX9_stepsOfTwo_9 : decode cX9_stepsOfTwo 9 = .ok (.iconst 1, 1) := by decide +kernel
theorem dX9_stepsOfTwo_10 : decode cX9_stepsOfTwo 10 = .ok (.iadd, 1) := by decide +kernel
theorem dX9_stepsOfTwo_11 : decode cX9_stepsOfTwo 11 = .ok (.iconst 2, 1) := by decide +kernel
theorem dX9_stepsOfTwo_12 : decode cX9_stepsOfTwo 12 = .ok (.idiv, 1) := by decide +kernel
theorem dX9_stepsOfTwo_13 : decode cX9_stepsOfTwo 13 = .ok (.ireturn, 1) := by decide +kernel
theorem dX9_hasBit_0 : decode cX9_hasBit 0 = .ok (.iload_n 0, 1) := by decide +kernel
theorem dX9_hasBit_1 : decode cX9_hasBit 1 = .ok (.iload_n 1, 1) := by decide +kernel
theorem dX9_hasBit_2 : decode cX9_hasBit 2 = .ok (.ishr, 1) := by decide +kernel
theorem dX9_hasBit_3 : decode cX9_hasBit 3 = .ok (.iconst 1, 1) := by decide +kernel
theorem dX9_hasBit_4 : decode cX9_hasBit 4 = .ok (.iand, 1) := by decide +kernel
theorem dX9_hasBit_5 : decode cX9_hasBit 5 = .ok (.ifCond .eq 7, 3) := by decide +kernel
theorem dX9_hasBit_8 : decode cX9_hasBit 8 = .ok (.iconst 1, 1) := by decide +kernel
theorem dX9_hasBit_9 : decode cX9_hasBit 9 = .ok (.goto 4, 3) := by decide +kernel
theorem dX9_hasBit_12 : decode cX9_hasBit 12 = .ok (.iconst 0, 1) := by decide +kernel
theorem dX9_hasBit_13 : decode cX9_hasBit 13 = .ok (.ireturn, 1) := by decide +kernel
theorem dX9_withBit_0 : decode cX9_withBit 0 = .ok (.iload_n 2, 1) := by decide +kernel
theorem dX9_withBit_1 : decode cX9_withBit 1 = .ok (.ifCond .eq 11, 3) := by decide +kernel
theorem dX9_withBit_4 : decode cX9_withBit 4 = .ok (.iload_n 0, 1) := by decide +kernel
theorem dX9_withBit_5 : decode cX9_withBit 5 = .ok (.iconst 1, 1) := by decide +kernel
theorem dX9_withBit_6 : decode cX9_withBit 6 = .ok (.iload_n 1, 1) := by decide +kernel
theorem dX9_withBit_7 : decode cX9_withBit 7 = .ok (.ishl, 1) := by decide +kernel
theorem dX9_withBit_8 : decode cX9_withBit 8 = .ok (.ior, 1) := by decide +kernel
theorem dX9_withBit_9 : decode cX9_withBit 9 = .ok (.goto 10, 3) := by decide +kernel
theorem dX9_withBit_12 : decode cX9_withBit 12 = .ok (.iload_n 0, 1) := by decide +kernel
theorem dX9_withBit_13 : decode cX9_withBit 13 = .ok (.iconst 1, 1) := by decide +kernel
theorem dX9_withBit_14 : decode cX9_withBit 14 = .ok (.iload_n 1, 1) := by decide +kernel
theorem dX9_withBit_15 : decode cX9_withBit 15 = .ok (.ishl, 1) := by decide +kernel
theorem dX9_withBit_16 : decode cX9_withBit 16 = .ok (.iconst (-1), 1) := by decide +kernel
theorem dX9_withBit_17 : decode cX9_withBit 17 = .ok (.ixor, 1) := by decide +kernel
theorem dX9_withBit_18 : decode cX9_withBit 18 = .ok (.iand, 1) := by decide +kernel
theorem dX9_withBit_19 : decode cX9_withBit 19 = .ok (.ireturn, 1) := by decide +kernel
theorem dX9_firstOf_0 : decode cX9_firstOf 0 = .ok (.iconst 0, 1) := by decide +kernel
theorem dX9_firstOf_1 : decode cX9_firstOf 1 = .ok (.istore_n 1, 1) := by decide +kernel
theorem dX9_firstOf_2 : decode cX9_firstOf 2 = .ok (.iload_n 1, 1) := by decide +kernel
theorem dX9_firstOf_3 : decode cX9_firstOf 3 = .ok (.iconst 5, 1) := by decide +kernel
theorem dX9_firstOf_4 : decode cX9_firstOf 4 = .ok (.if_icmp .ge 17, 3) := by decide +kernel
theorem dX9_firstOf_7 : decode cX9_firstOf 7 = .ok (.iload_n 0, 1) := by decide +kernel
theorem dX9_firstOf_8 : decode cX9_firstOf 8 = .ok (.iload_n 1, 1) := by decide +kernel
theorem dX9_firstOf_9 : decode cX9_firstOf 9 = .ok (.invokestatic 212, 3) := by decide +kernel
theorem dX9_firstOf_12 : decode cX9_firstOf 12 = .ok (.ifCond .ne 9, 3) := by decide +kernel
theorem dX9_firstOf_15 : decode cX9_firstOf 15 = .ok (.iinc 1 1, 3) := by decide +kernel
theorem dX9_firstOf_18 : decode cX9_firstOf 18 = .ok (.goto (-16), 3) := by decide +kernel
theorem dX9_firstOf_21 : decode cX9_firstOf 21 = .ok (.iload_n 1, 1) := by decide +kernel
theorem dX9_firstOf_22 : decode cX9_firstOf 22 = .ok (.ireturn, 1) := by decide +kernel
theorem dX9_doStamp_0 : decode cX9_doStamp 0 = .ok (.aload_n 0, 1) := by decide +kernel
theorem dX9_doStamp_1 : decode cX9_doStamp 1 = .ok (.getfield 43, 3) := by decide +kernel
theorem dX9_doStamp_4 : decode cX9_doStamp 4 = .ok (.invokevirtual 215, 3) := by decide +kernel
theorem dX9_doStamp_7 : decode cX9_doStamp 7 = .ok (.aload_n 0, 1) := by decide +kernel
theorem dX9_doStamp_8 : decode cX9_doStamp 8 = .ok (.getfield 43, 3) := by decide +kernel
theorem dX9_doStamp_11 : decode cX9_doStamp 11 = .ok (.getfield 183, 3) := by decide +kernel
theorem dX9_doStamp_14 : decode cX9_doStamp 14 = .ok (.aload_n 0, 1) := by decide +kernel
theorem dX9_doStamp_15 : decode cX9_doStamp 15 = .ok (.getfield 24, 3) := by decide +kernel
theorem dX9_doStamp_18 : decode cX9_doStamp 18 = .ok (.iload_n 1, 1) := by decide +kernel
theorem dX9_doStamp_19 : decode cX9_doStamp 19 = .ok (.invokevirtual 401, 3) := by decide +kernel
theorem dX9_doStamp_22 : decode cX9_doStamp 22 = .ok (.return_, 1) := by decide +kernel
theorem dX9_doStamps_0 : decode cX9_doStamps 0 = .ok (.iconst 0, 1) := by decide +kernel
theorem dX9_doStamps_1 : decode cX9_doStamps 1 = .ok (.istore_n 2, 1) := by decide +kernel
theorem dX9_doStamps_2 : decode cX9_doStamps 2 = .ok (.iload_n 2, 1) := by decide +kernel
theorem dX9_doStamps_3 : decode cX9_doStamps 3 = .ok (.aload_n 0, 1) := by decide +kernel
theorem dX9_doStamps_4 : decode cX9_doStamps 4 = .ok (.getfield 24, 3) := by decide +kernel
theorem dX9_doStamps_7 : decode cX9_doStamps 7 = .ok (.getfield 154, 3) := by decide +kernel
theorem dX9_doStamps_10 : decode cX9_doStamps 10 = .ok (.if_icmp .ge 40, 3) := by decide +kernel
theorem dX9_doStamps_13 : decode cX9_doStamps 13 = .ok (.iload_n 1, 1) := by decide +kernel
theorem dX9_doStamps_14 : decode cX9_doStamps 14 = .ok (.iload_n 2, 1) := by decide +kernel
theorem dX9_doStamps_15 : decode cX9_doStamps 15 = .ok (.invokestatic 212, 3) := by decide +kernel
theorem dX9_doStamps_18 : decode cX9_doStamps 18 = .ok (.ifCond .eq 26, 3) := by decide +kernel
theorem dX9_doStamps_21 : decode cX9_doStamps 21 = .ok (.aload_n 0, 1) := by decide +kernel
theorem dX9_doStamps_22 : decode cX9_doStamps 22 = .ok (.getfield 43, 3) := by decide +kernel
theorem dX9_doStamps_25 : decode cX9_doStamps 25 = .ok (.getfield 183, 3) := by decide +kernel
theorem dX9_doStamps_28 : decode cX9_doStamps 28 = .ok (.aload_n 0, 1) := by decide +kernel
theorem dX9_doStamps_29 : decode cX9_doStamps 29 = .ok (.getfield 24, 3) := by decide +kernel
theorem dX9_doStamps_32 : decode cX9_doStamps 32 = .ok (.iload_n 2, 1) := by decide +kernel
theorem dX9_doStamps_33 : decode cX9_doStamps 33 = .ok (.invokevirtual 186, 3) := by decide +kernel
theorem dX9_doStamps_36 : decode cX9_doStamps 36 = .ok (.ifCond .eq 8, 3) := by decide +kernel
theorem dX9_doStamps_39 : decode cX9_doStamps 39 = .ok (.aload_n 0, 1) := by decide +kernel
theorem dX9_doStamps_40 : decode cX9_doStamps 40 = .ok (.iload_n 2, 1) := by decide +kernel
theorem dX9_doStamps_41 : decode cX9_doStamps 41 = .ok (.invokevirtual 194, 3) := by decide +kernel
theorem dX9_doStamps_44 : decode cX9_doStamps 44 = .ok (.iinc 2 1, 3) := by decide +kernel
theorem dX9_doStamps_47 : decode cX9_doStamps 47 = .ok (.goto (-45), 3) := by decide +kernel
theorem dX9_doStamps_50 : decode cX9_doStamps 50 = .ok (.return_, 1) := by decide +kernel
theorem dX9_doSeason_0 : decode cX9_doSeason 0 = .ok (.aload_n 0, 1) := by decide +kernel
theorem dX9_doSeason_1 : decode cX9_doSeason 1 = .ok (.getfield 43, 3) := by decide +kernel
theorem dX9_doSeason_4 : decode cX9_doSeason 4 = .ok (.invokevirtual 215, 3) := by decide +kernel
theorem dX9_doSeason_7 : decode cX9_doSeason 7 = .ok (.aload_n 0, 1) := by decide +kernel
theorem dX9_doSeason_8 : decode cX9_doSeason 8 = .ok (.getfield 43, 3) := by decide +kernel
theorem dX9_doSeason_11 : decode cX9_doSeason 11 = .ok (.getfield 183, 3) := by decide +kernel
theorem dX9_doSeason_14 : decode cX9_doSeason 14 = .ok (.aload_n 0, 1) := by decide +kernel
theorem dX9_doSeason_15 : decode cX9_doSeason 15 = .ok (.getfield 24, 3) := by decide +kernel
theorem dX9_doSeason_18 : decode cX9_doSeason 18 = .ok (.invokevirtual 260, 3) := by decide +kernel
theorem dX9_doSeason_21 : decode cX9_doSeason 21 = .ok (.ireturn, 1) := by decide +kernel
theorem dX9_isPlan_0 : decode cX9_isPlan 0 = .ok (.iconst 0, 1) := by decide +kernel
theorem dX9_isPlan_1 : decode cX9_isPlan 1 = .ok (.istore_n 2, 1) := by decide +kernel
theorem dX9_isPlan_2 : decode cX9_isPlan 2 = .ok (.iload_n 2, 1) := by decide +kernel
theorem dX9_isPlan_3 : decode cX9_isPlan 3 = .ok (.aload_n 0, 1) := by decide +kernel
theorem dX9_isPlan_4 : decode cX9_isPlan 4 = .ok (.getfield 14, 3) := by decide +kernel
theorem dX9_isPlan_7 : decode cX9_isPlan 7 = .ok (.iload_n 1, 1) := by decide +kernel
theorem dX9_isPlan_8 : decode cX9_isPlan 8 = .ok (.invokevirtual 137, 3) := by decide +kernel
theorem dX9_isPlan_11 : decode cX9_isPlan 11 = .ok (.if_icmp .ge 36, 3) := by decide +kernel
theorem dX9_isPlan_14 : decode cX9_isPlan 14 = .ok (.aload_n 0, 1) := by decide +kernel
theorem dX9_isPlan_15 : decode cX9_isPlan 15 = .ok (.getfield 14, 3) := by decide +kernel
theorem dX9_isPlan_18 : decode cX9_isPlan 18 = .ok (.iload_n 1, 1) := by decide +kernel
theorem dX9_isPlan_19 : decode cX9_isPlan 19 = .ok (.iload_n 2, 1) := by decide +kernel
theorem dX9_isPlan_20 : decode cX9_isPlan 20 = .ok (.invokevirtual 98, 3) := by decide +kernel
theorem dX9_isPlan_23 : decode cX9_isPlan 23 = .ok (.istore_n 3, 1) := by decide +kernel
theorem dX9_isPlan_24 : decode cX9_isPlan 24 = .ok (.iload_n 3, 1) := by decide +kernel
theorem dX9_isPlan_25 : decode cX9_isPlan 25 = .ok (.ifCond .lt 14, 3) := by decide +kernel
theorem dX9_isPlan_28 : decode cX9_isPlan 28 = .ok (.iload_n 3, 1) := by decide +kernel
theorem dX9_isPlan_29 : decode cX9_isPlan 29 = .ok (.aload_n 0, 1) := by decide +kernel
theorem dX9_isPlan_30 : decode cX9_isPlan 30 = .ok (.getfield 24, 3) := by decide +kernel
theorem dX9_isPlan_33 : decode cX9_isPlan 33 = .ok (.invokevirtual 289, 3) := by decide +kernel
theorem dX9_isPlan_36 : decode cX9_isPlan 36 = .ok (.if_icmp .lt 5, 3) := by decide +kernel
theorem dX9_isPlan_39 : decode cX9_isPlan 39 = .ok (.iconst 0, 1) := by decide +kernel
theorem dX9_isPlan_40 : decode cX9_isPlan 40 = .ok (.ireturn, 1) := by decide +kernel
theorem dX9_isPlan_41 : decode cX9_isPlan 41 = .ok (.iinc 2 1, 3) := by decide +kernel
theorem dX9_isPlan_44 : decode cX9_isPlan 44 = .ok (.goto (-42), 3) := by decide +kernel
theorem dX9_isPlan_47 : decode cX9_isPlan 47 = .ok (.iconst 1, 1) := by decide +kernel
theorem dX9_isPlan_48 : decode cX9_isPlan 48 = .ok (.ireturn, 1) := by decide +kernel
theorem dX9_takePlan_0 : decode cX9_takePlan 0 = .ok (.aload_n 0, 1) := by decide +kernel
theorem dX9_takePlan_1 : decode cX9_takePlan 1 = .ok (.getfield 14, 3) := by decide +kernel
theorem dX9_takePlan_4 : decode cX9_takePlan 4 = .ok (.iload_n 2, 1) := by decide +kernel
theorem dX9_takePlan_5 : decode cX9_takePlan 5 = .ok (.iload_n 1, 1) := by decide +kernel
theorem dX9_takePlan_6 : decode cX9_takePlan 6 = .ok (.iconst 0, 1) := by decide +kernel
theorem dX9_takePlan_7 : decode cX9_takePlan 7 = .ok (.invokevirtual 313, 3) := by decide +kernel
theorem dX9_takePlan_10 : decode cX9_takePlan 10 = .ok (.iconst 0, 1) := by decide +kernel
theorem dX9_takePlan_11 : decode cX9_takePlan 11 = .ok (.istore_n 3, 1) := by decide +kernel
theorem dX9_takePlan_12 : decode cX9_takePlan 12 = .ok (.iload_n 3, 1) := by decide +kernel
theorem dX9_takePlan_13 : decode cX9_takePlan 13 = .ok (.iload_n 1, 1) := by decide +kernel
theorem dX9_takePlan_14 : decode cX9_takePlan 14 = .ok (.if_icmp .ge 27, 3) := by decide +kernel
theorem dX9_takePlan_17 : decode cX9_takePlan 17 = .ok (.aload_n 0, 1) := by decide +kernel
theorem dX9_takePlan_18 : decode cX9_takePlan 18 = .ok (.getfield 14, 3) := by decide +kernel
theorem dX9_takePlan_21 : decode cX9_takePlan 21 = .ok (.iload_n 2, 1) := by decide +kernel
theorem dX9_takePlan_22 : decode cX9_takePlan 22 = .ok (.iload_n 3, 1) := by decide +kernel
theorem dX9_takePlan_23 : decode cX9_takePlan 23 = .ok (.aload_n 0, 1) := by decide +kernel
theorem dX9_takePlan_24 : decode cX9_takePlan 24 = .ok (.getfield 63, 3) := by decide +kernel
theorem dX9_takePlan_27 : decode cX9_takePlan 27 = .ok (.getfield 405, 3) := by decide +kernel
theorem dX9_takePlan_30 : decode cX9_takePlan 30 = .ok (.iload_n 3, 1) := by decide +kernel
theorem dX9_takePlan_31 : decode cX9_takePlan 31 = .ok (.iaload, 1) := by decide +kernel
theorem dX9_takePlan_32 : decode cX9_takePlan 32 = .ok (.invokevirtual 106, 3) := by decide +kernel
theorem dX9_takePlan_35 : decode cX9_takePlan 35 = .ok (.iinc 3 1, 3) := by decide +kernel
theorem dX9_takePlan_38 : decode cX9_takePlan 38 = .ok (.goto (-26), 3) := by decide +kernel
theorem dX9_takePlan_41 : decode cX9_takePlan 41 = .ok (.return_, 1) := by decide +kernel
theorem dX9_stampedToFit_0 : decode cX9_stampedToFit 0 = .ok (.aload_n 0, 1) := by decide +kernel
theorem dX9_stampedToFit_1 : decode cX9_stampedToFit 1 = .ok (.getfield 56, 3) := by decide +kernel
theorem dX9_stampedToFit_4 : decode cX9_stampedToFit 4 = .ok (.aload_n 0, 1) := by decide +kernel
theorem dX9_stampedToFit_5 : decode cX9_stampedToFit 5 = .ok (.getfield 43, 3) := by decide +kernel
theorem dX9_stampedToFit_8 : decode cX9_stampedToFit 8 = .ok (.getfield 183, 3) := by decide +kernel
theorem dX9_stampedToFit_11 : decode cX9_stampedToFit 11 = .ok (.invokevirtual 253, 3) := by decide +kernel
theorem dX9_stampedToFit_14 : decode cX9_stampedToFit 14 = .ok (.aload_n 0, 1) := by decide +kernel
theorem dX9_stampedToFit_15 : decode cX9_stampedToFit 15 = .ok (.getfield 56, 3) := by decide +kernel
theorem dX9_stampedToFit_18 : decode cX9_stampedToFit 18 = .ok (.aload_n 0, 1) := by decide +kernel
theorem dX9_stampedToFit_19 : decode cX9_stampedToFit 19 = .ok (.getfield 24, 3) := by decide +kernel
theorem dX9_stampedToFit_22 : decode cX9_stampedToFit 22 = .ok (.iload_n 1, 1) := by decide +kernel
theorem dX9_stampedToFit_23 : decode cX9_stampedToFit 23 = .ok (.invokevirtual 256, 3) := by decide +kernel
theorem dX9_stampedToFit_26 : decode cX9_stampedToFit 26 = .ok (.istore_n 3, 1) := by decide +kernel
theorem dX9_stampedToFit_27 : decode cX9_stampedToFit 27 = .ok (.aload_n 0, 1) := by decide +kernel
theorem dX9_stampedToFit_28 : decode cX9_stampedToFit 28 = .ok (.getfield 56, 3) := by decide +kernel
theorem dX9_stampedToFit_31 : decode cX9_stampedToFit 31 = .ok (.aload_n 0, 1) := by decide +kernel
theorem dX9_stampedToFit_32 : decode cX9_stampedToFit 32 = .ok (.getfield 24, 3) := by decide +kernel
theorem dX9_stampedToFit_35 : decode cX9_stampedToFit 35 = .ok (.invokevirtual 260, 3) := by decide +kernel
theorem dX9_stampedToFit_38 : decode cX9_stampedToFit 38 = .ok (.pop, 1) := by decide +kernel
theorem dX9_stampedToFit_39 : decode cX9_stampedToFit 39 = .ok (.iconst 0, 1) := by decide +kernel
theorem dX9_stampedToFit_40 : decode cX9_stampedToFit 40 = .ok (.istore 4, 2) := by decide +kernel
theorem dX9_stampedToFit_42 : decode cX9_stampedToFit 42 = .ok (.iload 4, 2) := by decide +kernel
theorem dX9_stampedToFit_44 : decode cX9_stampedToFit 44 = .ok (.aload_n 0, 1) := by decide +kernel
theorem dX9_stampedToFit_45 : decode cX9_stampedToFit 45 = .ok (.getfield 24, 3) := by decide +kernel
theorem dX9_stampedToFit_48 : decode cX9_stampedToFit 48 = .ok (.getfield 154, 3) := by decide +kernel
theorem dX9_stampedToFit_51 : decode cX9_stampedToFit 51 = .ok (.if_icmp .ge 34, 3) := by decide +kernel
theorem dX9_stampedToFit_54 : decode cX9_stampedToFit 54 = .ok (.aload_n 0, 1) := by decide +kernel
theorem dX9_stampedToFit_55 : decode cX9_stampedToFit 55 = .ok (.getfield 56, 3) := by decide +kernel
theorem dX9_stampedToFit_58 : decode cX9_stampedToFit 58 = .ok (.iload 4, 2) := by decide +kernel
theorem dX9_stampedToFit_60 : decode cX9_stampedToFit 60 = .ok (.invokevirtual 386, 3) := by decide +kernel
theorem dX9_stampedToFit_63 : decode cX9_stampedToFit 63 = .ok (.aload_n 0, 1) := by decide +kernel
theorem dX9_stampedToFit_64 : decode cX9_stampedToFit 64 = .ok (.getfield 14, 3) := by decide +kernel
theorem dX9_stampedToFit_67 : decode cX9_stampedToFit 67 = .ok (.iload_n 2, 1) := by decide +kernel
theorem dX9_stampedToFit_68 : decode cX9_stampedToFit 68 = .ok (.iload 4, 2) := by decide +kernel
theorem dX9_stampedToFit_70 : decode cX9_stampedToFit 70 = .ok (.invokevirtual 98, 3) := by decide +kernel
theorem dX9_stampedToFit_73 : decode cX9_stampedToFit 73 = .ok (.if_icmp .eq 6, 3) := by decide +kernel
theorem dX9_stampedToFit_76 : decode cX9_stampedToFit 76 = .ok (.bipush (-9), 2) := by decide +kernel
theorem dX9_stampedToFit_78 : decode cX9_stampedToFit 78 = .ok (.ireturn, 1) := by decide +kernel
theorem dX9_stampedToFit_79 : decode cX9_stampedToFit 79 = .ok (.iinc 4 1, 3) := by decide +kernel
theorem dX9_stampedToFit_82 : decode cX9_stampedToFit 82 = .ok (.goto (-40), 3) := by decide +kernel
theorem dX9_stampedToFit_85 : decode cX9_stampedToFit 85 = .ok (.iload_n 3, 1) := by decide +kernel
theorem dX9_stampedToFit_86 : decode cX9_stampedToFit 86 = .ok (.ireturn, 1) := by decide +kernel
theorem dX9_tellChances_0 : decode cX9_tellChances 0 = .ok (.iload_n 1, 1) := by decide +kernel
theorem dX9_tellChances_1 : decode cX9_tellChances 1 = .ok (.istore_n 3, 1) := by decide +kernel
theorem dX9_tellChances_2 : decode cX9_tellChances 2 = .ok (.iload_n 1, 1) := by decide +kernel
theorem dX9_tellChances_3 : decode cX9_tellChances 3 = .ok (.ifCond .ne 7, 3) := by decide +kernel
theorem dX9_tellChances_6 : decode cX9_tellChances 6 = .ok (.iconst 1, 1) := by decide +kernel
theorem dX9_tellChances_7 : decode cX9_tellChances 7 = .ok (.goto 4, 3) := by decide +kernel
theorem dX9_tellChances_10 : decode cX9_tellChances 10 = .ok (.iload_n 2, 1) := by decide +kernel
theorem dX9_tellChances_11 : decode cX9_tellChances 11 = .ok (.istore 4, 2) := by decide +kernel
theorem dX9_tellChances_13 : decode cX9_tellChances 13 = .ok (.iconst 0, 1) := by decide +kernel
theorem dX9_tellChances_14 : decode cX9_tellChances 14 = .ok (.istore 5, 2) := by decide +kernel
theorem dX9_tellChances_16 : decode cX9_tellChances 16 = .ok (.iload 5, 2) := by decide +kernel
theorem dX9_tellChances_18 : decode cX9_tellChances 18 = .ok (.iconst 5, 1) := by decide +kernel
theorem dX9_tellChances_19 : decode cX9_tellChances 19 = .ok (.if_icmp .ge 28, 3) := by decide +kernel
theorem dX9_tellChances_22 : decode cX9_tellChances 22 = .ok (.iload_n 3, 1) := by decide +kernel
theorem dX9_tellChances_23 : decode cX9_tellChances 23 = .ok (.iload 4, 2) := by decide +kernel
theorem dX9_tellChances_25 : decode cX9_tellChances 25 = .ok (.ior, 1) := by decide +kernel
theorem dX9_tellChances_26 : decode cX9_tellChances 26 = .ok (.iconst 2, 1) := by decide +kernel
theorem dX9_tellChances_27 : decode cX9_tellChances 27 = .ok (.irem, 1) := by decide +kernel
theorem dX9_tellChances_28 : decode cX9_tellChances 28 = .ok (.ifCond .ne 19, 3) := by decide +kernel
theorem dX9_tellChances_31 : decode cX9_tellChances 31 = .ok (.iload_n 3, 1) := by decide +kernel
theorem dX9_tellChances_32 : decode cX9_tellChances 32 = .ok (.iconst 2, 1) := by decide +kernel
theorem dX9_tellChances_33 : decode cX9_tellChances 33 = .ok (.idiv, 1) := by decide +kernel
theorem dX9_tellChances_34 : decode cX9_tellChances 34 = .ok (.istore_n 3, 1) := by decide +kernel
theorem dX9_tellChances_35 : decode cX9_tellChances 35 = .ok (.iload 4, 2) := by decide +kernel
theorem dX9_tellChances_37 : decode cX9_tellChances 37 = .ok (.iconst 2, 1) := by decide +kernel
theorem dX9_tellChances_38 : decode cX9_tellChances 38 = .ok (.idiv, 1) := by decide +kernel
theorem dX9_tellChances_39 : decode cX9_tellChances 39 = .ok (.istore 4, 2) := by decide +kernel
theorem dX9_tellChances_41 : decode cX9_tellChances 41 = .ok (.iinc 5 1, 3) := by decide +kernel
theorem dX9_tellChances_44 : decode cX9_tellChances 44 = .ok (.goto (-28), 3) := by decide +kernel
theorem dX9_tellChances_47 : decode cX9_tellChances 47 = .ok (.aload_n 0, 1) := by decide +kernel
theorem dX9_tellChances_48 : decode cX9_tellChances 48 = .ok (.iload_n 3, 1) := by decide +kernel
theorem dX9_tellChances_49 : decode cX9_tellChances 49 = .ok (.i2l, 1) := by decide +kernel
theorem dX9_tellChances_50 : decode cX9_tellChances 50 = .ok (.putfield 345, 3) := by decide +kernel
theorem dX9_tellChances_53 : decode cX9_tellChances 53 = .ok (.aload_n 0, 1) := by decide +kernel
theorem dX9_tellChances_54 : decode cX9_tellChances 54 = .ok (.iload 4, 2) := by decide +kernel
theorem dX9_tellChances_56 : decode cX9_tellChances 56 = .ok (.i2l, 1) := by decide +kernel
theorem dX9_tellChances_57 : decode cX9_tellChances 57 = .ok (.putfield 85, 3) := by decide +kernel
theorem dX9_tellChances_60 : decode cX9_tellChances 60 = .ok (.return_, 1) := by decide +kernel
theorem dX9_countKept_0 : decode cX9_countKept 0 = .ok (.iconst 0, 1) := by decide +kernel
theorem dX9_countKept_1 : decode cX9_countKept 1 = .ok (.istore_n 1, 1) := by decide +kernel
theorem dX9_countKept_2 : decode cX9_countKept 2 = .ok (.iconst 0, 1) := by decide +kernel
theorem dX9_countKept_3 : decode cX9_countKept 3 = .ok (.istore_n 2, 1) := by decide +kernel
theorem dX9_countKept_4 : decode cX9_countKept 4 = .ok (.iload_n 2, 1) := by decide +kernel
theorem dX9_countKept_5 : decode cX9_countKept 5 = .ok (.iconst 3, 1) := by decide +kernel
theorem dX9_countKept_6 : decode cX9_countKept 6 = .ok (.if_icmp .ge 29, 3) := by decide +kernel
theorem dX9_countKept_9 : decode cX9_countKept 9 = .ok (.iload_n 1, 1) := by decide +kernel
theorem dX9_countKept_10 : decode cX9_countKept 10 = .ok (.aload_n 0, 1) := by decide +kernel
theorem dX9_countKept_11 : decode cX9_countKept 11 = .ok (.getfield 49, 3) := by decide +kernel
theorem dX9_countKept_14 : decode cX9_countKept 14 = .ok (.iload_n 2, 1) := by decide +kernel
theorem dX9_countKept_15 : decode cX9_countKept 15 = .ok (.aaload, 1) := by decide +kernel
theorem dX9_countKept_16 : decode cX9_countKept 16 = .ok (.getfield 150, 3) := by decide +kernel
theorem dX9_countKept_19 : decode cX9_countKept 19 = .ok (.ifCond .eq 7, 3) := by decide +kernel
theorem dX9_countKept_22 : decode cX9_countKept 22 = .ok (.iconst 1, 1) := by decide +kernel
theorem dX9_countKept_23 : decode cX9_countKept 23 = .ok (.goto 4, 3) := by decide +kernel
theorem dX9_countKept_26 : decode cX9_countKept 26 = .ok (.iconst 0, 1) := by decide +kernel
theorem dX9_countKept_27 : decode cX9_countKept 27 = .ok (.iadd, 1) := by decide +kernel
theorem dX9_countKept_28 : decode cX9_countKept 28 = .ok (.istore_n 1, 1) := by decide +kernel
theorem dX9_countKept_29 : decode cX9_countKept 29 = .ok (.iinc 2 1, 3) := by decide +kernel
theorem dX9_countKept_32 : decode cX9_countKept 32 = .ok (.goto (-28), 3) := by decide +kernel
theorem dX9_countKept_35 : decode cX9_countKept 35 = .ok (.iload_n 1, 1) := by decide +kernel
theorem dX9_countKept_36 : decode cX9_countKept 36 = .ok (.ireturn, 1) := by decide +kernel
theorem dX10_init_0 : decode cX10_init 0 = .ok (.aload_n 0, 1) := by decide +kernel
theorem dX10_init_1 : decode cX10_init 1 = .ok (.invokespecial 1, 3) := by decide +kernel
theorem dX10_init_4 : decode cX10_init 4 = .ok (.aload_n 0, 1) := by decide +kernel
theorem dX10_init_5 : decode cX10_init 5 = .ok (.bipush 6, 2) := by decide +kernel
theorem dX10_init_7 : decode cX10_init 7 = .ok (.newarray .int, 2) := by decide +kernel
theorem dX10_init_9 : decode cX10_init 9 = .ok (.putfield 7, 3) := by decide +kernel
theorem dX10_init_12 : decode cX10_init 12 = .ok (.aload_n 0, 1) := by decide +kernel
theorem dX10_init_13 : decode cX10_init 13 = .ok (.lconst 1, 1) := by decide +kernel
theorem dX10_init_14 : decode cX10_init 14 = .ok (.putfield 13, 3) := by decide +kernel
theorem dX10_init_17 : decode cX10_init 17 = .ok (.aload_n 0, 1) := by decide +kernel
theorem dX10_init_18 : decode cX10_init 18 = .ok (.bipush 6, 2) := by decide +kernel
theorem dX10_init_20 : decode cX10_init 20 = .ok (.newarray .int, 2) := by decide +kernel
theorem dX10_init_22 : decode cX10_init 22 = .ok (.putfield 17, 3) := by decide +kernel
theorem dX10_init_25 : decode cX10_init 25 = .ok (.aload_n 0, 1) := by decide +kernel
theorem dX10_init_26 : decode cX10_init 26 = .ok (.sipush 240, 3) := by decide +kernel
theorem dX10_init_29 : decode cX10_init 29 = .ok (.newarray .int, 2) := by decide +kernel
theorem dX10_init_31 : decode cX10_init 31 = .ok (.putfield 20, 3) := by decide +kernel
theorem dX10_init_34 : decode cX10_init 34 = .ok (.aload_n 0, 1) := by decide +kernel
theorem dX10_init_35 : decode cX10_init 35 = .ok (.bipush 40, 2) := by decide +kernel
theorem dX10_init_37 : decode cX10_init 37 = .ok (.newarray .int, 2) := by decide +kernel
theorem dX10_init_39 : decode cX10_init 39 = .ok (.putfield 23, 3) := by decide +kernel
theorem dX10_init_42 : decode cX10_init 42 = .ok (.aload_n 0, 1) := by decide +kernel
theorem dX10_init_43 : decode cX10_init 43 = .ok (.iconst 4, 1) := by decide +kernel
theorem dX10_init_44 : decode cX10_init 44 = .ok (.newarray .int, 2) := by decide +kernel
theorem dX10_init_46 : decode cX10_init 46 = .ok (.putfield 26, 3) := by decide +kernel
theorem dX10_init_49 : decode cX10_init 49 = .ok (.aload_n 0, 1) := by decide +kernel
theorem dX10_init_50 : decode cX10_init 50 = .ok (.sipush 240, 3) := by decide +kernel
theorem dX10_init_53 : decode cX10_init 53 = .ok (.newarray .byte, 2) := by decide +kernel
theorem dX10_init_55 : decode cX10_init 55 = .ok (.putfield 29, 3) := by decide +kernel
theorem dX10_init_58 : decode cX10_init 58 = .ok (.aload_n 0, 1) := by decide +kernel
theorem dX10_init_59 : decode cX10_init 59 = .ok (.iconst 5, 1) := by decide +kernel
theorem dX10_init_60 : decode cX10_init 60 = .ok (.newarray .int, 2) := by decide +kernel
theorem dX10_init_62 : decode cX10_init 62 = .ok (.putfield 33, 3) := by decide +kernel
theorem dX10_init_65 : decode cX10_init 65 = .ok (.aload_n 0, 1) := by decide +kernel
theorem dX10_init_66 : decode cX10_init 66 = .ok (.iconst 5, 1) := by decide +kernel
theorem dX10_init_67 : decode cX10_init 67 = .ok (.newarray .int, 2) := by decide +kernel
theorem dX10_init_69 : decode cX10_init 69 = .ok (.putfield 36, 3) := by decide +kernel
theorem dX10_init_72 : decode cX10_init 72 = .ok (.aload_n 0, 1) := by decide +kernel
theorem dX10_init_73 : decode cX10_init 73 = .ok (.iconst 5, 1) := by decide +kernel
theorem dX10_init_74 : decode cX10_init 74 = .ok (.newarray .int, 2) := by decide +kernel
theorem dX10_init_76 : decode cX10_init 76 = .ok (.putfield 39, 3) := by decide +kernel
theorem dX10_init_79 : decode cX10_init 79 = .ok (.aload_n 0, 1) := by decide +kernel
theorem dX10_init_80 : decode cX10_init 80 = .ok (.iconst 5, 1) := by decide +kernel
theorem dX10_init_81 : decode cX10_init 81 = .ok (.newarray .int, 2) := by decide +kernel
theorem dX10_init_83 : decode cX10_init 83 = .ok (.putfield 42, 3) := by decide +kernel
theorem dX10_init_86 : decode cX10_init 86 = .ok (.aload_n 0, 1) := by decide +kernel
theorem dX10_init_87 : decode cX10_init 87 = .ok (.iconst 5, 1) := by decide +kernel
theorem dX10_init_88 : decode cX10_init 88 = .ok (.newarray .int, 2) := by decide +kernel
theorem dX10_init_90 : decode cX10_init 90 = .ok (.putfield 45, 3) := by decide +kernel
theorem dX10_init_93 : decode cX10_init 93 = .ok (.aload_n 0, 1) := by decide +kernel
theorem dX10_init_94 : decode cX10_init 94 = .ok (.iconst 5, 1) := by decide +kernel
theorem dX10_init_95 : decode cX10_init 95 = .ok (.newarray .int, 2) := by decide +kernel
theorem dX10_init_97 : decode cX10_init 97 = .ok (.putfield 48, 3) := by decide +kernel
theorem dX10_init_100 : decode cX10_init 100 = .ok (.aload_n 0, 1) := by decide +kernel
theorem dX10_init_101 : decode cX10_init 101 = .ok (.bipush 25, 2) := by decide +kernel
theorem dX10_init_103 : decode cX10_init 103 = .ok (.newarray .int, 2) := by decide +kernel
theorem dX10_init_105 : decode cX10_init 105 = .ok (.putfield 51, 3) := by decide +kernel
theorem dX10_init_108 : decode cX10_init 108 = .ok (.aload_n 0, 1) := by decide +kernel
theorem dX10_init_109 : decode cX10_init 109 = .ok (.iconst 5, 1) := by decide +kernel
theorem dX10_init_110 : decode cX10_init 110 = .ok (.newarray .int, 2) := by decide +kernel
theorem dX10_init_112 : decode cX10_init 112 = .ok (.putfield 54, 3) := by decide +kernel
theorem dX10_init_115 : decode cX10_init 115 = .ok (.aload_n 0, 1) := by decide +kernel
theorem dX10_init_116 : decode cX10_init 116 = .ok (.sipush 186, 3) := by decide +kernel
theorem dX10_init_119 : decode cX10_init 119 = .ok (.newarray .int, 2) := by decide +kernel
theorem dX10_init_121 : decode cX10_init 121 = .ok (.putfield 57, 3) := by decide +kernel
theorem dX10_init_124 : decode cX10_init 124 = .ok (.aload_n 0, 1) := by decide +kernel
theorem dX10_init_125 : decode cX10_init 125 = .ok (.iconst 5, 1) := by decide +kernel
theorem dX10_init_126 : decode cX10_init 126 = .ok (.newarray .int, 2) := by decide +kernel
theorem dX10_init_128 : decode cX10_init 128 = .ok (.putfield 60, 3) := by decide +kernel
theorem dX10_init_131 : decode cX10_init 131 = .ok (.aload_n 0, 1) := by decide +kernel
theorem dX10_init_132 : decode cX10_init 132 = .ok (.sipush 1860, 3) := by decide +kernel
theorem dX10_init_135 : decode cX10_init 135 = .ok (.newarray .int, 2) := by decide +kernel
theorem dX10_init_137 : decode cX10_init 137 = .ok (.putfield 63, 3) := by decide +kernel
theorem dX10_init_140 : decode cX10_init 140 = .ok (.aload_n 0, 1) := by decide +kernel
theorem dX10_init_141 : decode cX10_init 141 = .ok (.iconst 3, 1) := by decide +kernel
theorem dX10_init_142 : decode cX10_init 142 = .ok (.newarray .boolean, 2) := by decide +kernel
theorem dX10_init_144 : decode cX10_init 144 = .ok (.putfield 66, 3) := by decide +kernel
theorem dX10_init_147 : decode cX10_init 147 = .ok (.aload_n 0, 1) := by decide +kernel
theorem dX10_init_148 : decode cX10_init 148 = .ok (.iconst 3, 1) := by decide +kernel
theorem dX10_init_149 : decode cX10_init 149 = .ok (.newarray .int, 2) := by decide +kernel
theorem dX10_init_151 : decode cX10_init 151 = .ok (.putfield 70, 3) := by decide +kernel
theorem dX10_init_154 : decode cX10_init 154 = .ok (.aload_n 0, 1) := by decide +kernel
theorem dX10_init_155 : decode cX10_init 155 = .ok (.bipush 93, 2) := by decide +kernel
theorem dX10_init_157 : decode cX10_init 157 = .ok (.newarray .int, 2) := by decide +kernel
theorem dX10_init_159 : decode cX10_init 159 = .ok (.putfield 73, 3) := by decide +kernel
theorem dX10_init_162 : decode cX10_init 162 = .ok (.aload_n 0, 1) := by decide +kernel
theorem dX10_init_163 : decode cX10_init 163 = .ok (.bipush 15, 2) := by decide +kernel
theorem dX10_init_165 : decode cX10_init 165 = .ok (.newarray .int, 2) := by decide +kernel
theorem dX10_init_167 : decode cX10_init 167 = .ok (.putfield 76, 3) := by decide +kernel
theorem dX10_init_170 : decode cX10_init 170 = .ok (.aload_n 0, 1) := by decide +kernel
theorem dX10_init_171 : decode cX10_init 171 = .ok (.sipush 5580, 3) := by decide +kernel
theorem dX10_init_174 : decode cX10_init 174 = .ok (.newarray .int, 2) := by decide +kernel
theorem dX10_init_176 : decode cX10_init 176 = .ok (.putfield 79, 3) := by decide +kernel
theorem dX10_init_179 : decode cX10_init 179 = .ok (.aload_n 0, 1) := by decide +kernel
theorem dX10_init_180 : decode cX10_init 180 = .ok (.iconst 4, 1) := by decide +kernel
theorem dX10_init_181 : decode cX10_init 181 = .ok (.newarray .int, 2) := by decide +kernel
theorem dX10_init_183 : decode cX10_init 183 = .ok (.putfield 82, 3) := by decide +kernel
theorem dX10_init_186 : decode cX10_init 186 = .ok (.aload_n 0, 1) := by decide +kernel
theorem dX10_init_187 : decode cX10_init 187 = .ok (.iconst 4, 1) := by decide +kernel
theorem dX10_init_188 : decode cX10_init 188 = .ok (.newarray .int, 2) := by decide +kernel
theorem dX10_init_190 : decode cX10_init 190 = .ok (.putfield 85, 3) := by decide +kernel
theorem dX10_init_193 : decode cX10_init 193 = .ok (.aload_n 0, 1) := by decide +kernel
theorem dX10_init_194 : decode cX10_init 194 = .ok (.bipush 20, 2) := by decide +kernel
theorem dX10_init_196 : decode cX10_init 196 = .ok (.newarray .int, 2) := by decide +kernel
theorem dX10_init_198 : decode cX10_init 198 = .ok (.putfield 88, 3) := by decide +kernel
theorem dX10_init_201 : decode cX10_init 201 = .ok (.aload_n 0, 1) := by decide +kernel
theorem dX10_init_202 : decode cX10_init 202 = .ok (.bipush 20, 2) := by decide +kernel
theorem dX10_init_204 : decode cX10_init 204 = .ok (.newarray .int, 2) := by decide +kernel
theorem dX10_init_206 : decode cX10_init 206 = .ok (.putfield 91, 3) := by decide +kernel
theorem dX10_init_209 : decode cX10_init 209 = .ok (.aload_n 0, 1) := by decide +kernel
theorem dX10_init_210 : decode cX10_init 210 = .ok (.iconst 5, 1) := by decide +kernel
theorem dX10_init_211 : decode cX10_init 211 = .ok (.newarray .int, 2) := by decide +kernel
theorem dX10_init_213 : decode cX10_init 213 = .ok (.putfield 94, 3) := by decide +kernel
theorem dX10_init_216 : decode cX10_init 216 = .ok (.iconst 0, 1) := by decide +kernel
theorem dX10_init_217 : decode cX10_init 217 = .ok (.istore_n 1, 1) := by decide +kernel
theorem dX10_init_218 : decode cX10_init 218 = .ok (.iload_n 1, 1) := by decide +kernel
theorem dX10_init_219 : decode cX10_init 219 = .ok (.bipush 6, 2) := by decide +kernel
theorem dX10_init_221 : decode cX10_init 221 = .ok (.if_icmp .ge 16, 3) := by decide +kernel
theorem dX10_init_224 : decode cX10_init 224 = .ok (.aload_n 0, 1) := by decide +kernel
theorem dX10_init_225 : decode cX10_init 225 = .ok (.getfield 17, 3) := by decide +kernel
theorem dX10_init_228 : decode cX10_init 228 = .ok (.iload_n 1, 1) := by decide +kernel
theorem dX10_init_229 : decode cX10_init 229 = .ok (.iconst (-1), 1) := by decide +kernel
theorem dX10_init_230 : decode cX10_init 230 = .ok (.iastore, 1) := by decide +kernel
theorem dX10_init_231 : decode cX10_init 231 = .ok (.iinc 1 1, 3) := by decide +kernel
theorem dX10_init_234 : decode cX10_init 234 = .ok (.goto (-16), 3) := by decide +kernel
theorem dX10_init_237 : decode cX10_init 237 = .ok (.iconst 0, 1) := by decide +kernel
theorem dX10_init_238 : decode cX10_init 238 = .ok (.istore_n 1, 1) := by decide +kernel
theorem dX10_init_239 : decode cX10_init 239 = .ok (.iload_n 1, 1) := by decide +kernel
theorem dX10_init_240 : decode cX10_init 240 = .ok (.iconst 4, 1) := by decide +kernel
theorem dX10_init_241 : decode cX10_init 241 = .ok (.if_icmp .ge 16, 3) := by decide +kernel
theorem dX10_init_244 : decode cX10_init 244 = .ok (.aload_n 0, 1) := by decide +kernel
theorem dX10_init_245 : decode cX10_init 245 = .ok (.getfield 26, 3) := by decide +kernel
theorem dX10_init_248 : decode cX10_init 248 = .ok (.iload_n 1, 1) := by decide +kernel
theorem dX10_init_249 : decode cX10_init 249 = .ok (.iconst (-1), 1) := by decide +kernel
theorem dX10_init_250 : decode cX10_init 250 = .ok (.iastore, 1) := by decide +kernel
theorem dX10_init_251 : decode cX10_init 251 = .ok (.iinc 1 1, 3) := by decide +kernel
theorem dX10_init_254 : decode cX10_init 254 = .ok (.goto (-15), 3) := by decide +kernel
theorem dX10_init_257 : decode cX10_init 257 = .ok (.return_, 1) := by decide +kernel
theorem dX10_in_0 : decode cX10_in 0 = .ok (.iload_n 0, 1) := by decide +kernel
theorem dX10_in_1 : decode cX10_in 1 = .ok (.iload_n 1, 1) := by decide +kernel
theorem dX10_in_2 : decode cX10_in 2 = .ok (.if_icmp .lt 12, 3) := by decide +kernel
theorem dX10_in_5 : decode cX10_in 5 = .ok (.iload_n 0, 1) := by decide +kernel
theorem dX10_in_6 : decode cX10_in 6 = .ok (.iload_n 2, 1) := by decide +kernel
theorem dX10_in_7 : decode cX10_in 7 = .ok (.if_icmp .gt 7, 3) := by decide +kernel
theorem dX10_in_10 : decode cX10_in 10 = .ok (.iconst 1, 1) := by decide +kernel
theorem dX10_in_11 : decode cX10_in 11 = .ok (.goto 4, 3) := by decide +kernel
theorem dX10_in_14 : decode cX10_in 14 = .ok (.iconst 0, 1) := by decide +kernel
theorem dX10_in_15 : decode cX10_in 15 = .ok (.ireturn, 1) := by decide +kernel
theorem dX10_has_0 : decode cX10_has 0 = .ok (.iload_n 0, 1) := by decide +kernel
theorem dX10_has_1 : decode cX10_has 1 = .ok (.iload_n 1, 1) := by decide +kernel
theorem dX10_has_2 : decode cX10_has 2 = .ok (.ishr, 1) := by decide +kernel
theorem dX10_has_3 : decode cX10_has 3 = .ok (.iconst 1, 1) := by decide +kernel
theorem dX10_has_4 : decode cX10_has 4 = .ok (.iand, 1) := by decide +kernel
theorem dX10_has_5 : decode cX10_has 5 = .ok (.iconst 1, 1) := by decide +kernel
theorem dX10_has_6 : decode cX10_has 6 = .ok (.if_icmp .ne 7, 3) := by decide +kernel
theorem dX10_has_9 : decode cX10_has 9 = .ok (.iconst 1, 1) := by decide +kernel
theorem dX10_has_10 : decode cX10_has 10 = .ok (.goto 4, 3) := by decide +kernel
theorem dX10_has_13 : decode cX10_has 13 = .ok (.iconst 0, 1) := by decide +kernel
theorem dX10_has_14 : decode cX10_has 14 = .ok (.ireturn, 1) := by decide +kernel
theorem dX10_bits_0 : decode cX10_bits 0 = .ok (.iconst 0, 1) := by decide +kernel
theorem dX10_bits_1 : decode cX10_bits 1 = .ok (.istore_n 1, 1) := by decide +kernel
theorem dX10_bits_2 : decode cX10_bits 2 = .ok (.iload_n 0, 1) := by decide +kernel
theorem dX10_bits_3 : decode cX10_bits 3 = .ok (.istore_n 2, 1) := by decide +kernel
theorem dX10_bits_4 : decode cX10_bits 4 = .ok (.iload_n 2, 1) := by decide +kernel
theorem dX10_bits_5 : decode cX10_bits 5 = .ok (.ifCond .eq 15, 3) := by decide +kernel
theorem dX10_bits_8 : decode cX10_bits 8 = .ok (.iinc 1 1, 3) := by decide +kernel
theorem dX10_bits_11 : decode cX10_bits 11 = .ok (.iload_n 2, 1) := by decide +kernel
theorem dX10_bits_12 : decode cX10_bits 12 = .ok (.iload_n 2, 1) := by decide +kernel
theorem dX10_bits_13 : decode cX10_bits 13 = .ok (.iconst 1, 1) := by decide +kernel
theorem dX10_bits_14 : decode cX10_bits 14 = .ok (.isub, 1) := by decide +kernel
theorem dX10_bits_15 : decode cX10_bits 15 = .ok (.iand, 1) := by decide +kernel
theorem dX10_bits_16 : decode cX10_bits 16 = .ok (.istore_n 2, 1) := by decide +kernel
theorem dX10_bits_17 : decode cX10_bits 17 = .ok (.goto (-13), 3) := by decide +kernel
theorem dX10_bits_20 : decode cX10_bits 20 = .ok (.iload_n 1, 1) := by decide +kernel
theorem dX10_bits_21 : decode cX10_bits 21 = .ok (.ireturn, 1) := by decide +kernel
theorem dX10_greater_0 : decode cX10_greater 0 = .ok (.iload_n 0, 1) := by decide +kernel
theorem dX10_greater_1 : decode cX10_greater 1 = .ok (.iload_n 1, 1) := by decide +kernel
theorem dX10_greater_2 : decode cX10_greater 2 = .ok (.if_icmp .le 7, 3) := by decide +kernel
theorem dX10_greater_5 : decode cX10_greater 5 = .ok (.iload_n 0, 1) := by decide +kernel
theorem dX10_greater_6 : decode cX10_greater 6 = .ok (.goto 4, 3) := by decide +kernel
theorem dX10_greater_9 : decode cX10_greater 9 = .ok (.iload_n 1, 1) := by decide +kernel
theorem dX10_greater_10 : decode cX10_greater 10 = .ok (.ireturn, 1) := by decide +kernel
theorem dX10_lesser_0 : decode cX10_lesser 0 = .ok (.iload_n 0, 1) := by decide +kernel
theorem dX10_lesser_1 : decode cX10_lesser 1 = .ok (.iload_n 1, 1) := by decide +kernel
theorem dX10_lesser_2 : decode cX10_lesser 2 = .ok (.if_icmp .ge 7, 3) := by decide +kernel
theorem dX10_lesser_5 : decode cX10_lesser 5 = .ok (.iload_n 0, 1) := by decide +kernel
theorem dX10_lesser_6 : decode cX10_lesser 6 = .ok (.goto 4, 3) := by decide +kernel
theorem dX10_lesser_9 : decode cX10_lesser 9 = .ok (.iload_n 1, 1) := by decide +kernel
theorem dX10_lesser_10 : decode cX10_lesser 10 = .ok (.ireturn, 1) := by decide +kernel
theorem dX10_meets_0 : decode cX10_meets 0 = .ok (.aload_n 0, 1) := by decide +kernel
theorem dX10_meets_1 : decode cX10_meets 1 = .ok (.iload_n 1, 1) := by decide +kernel
theorem dX10_meets_2 : decode cX10_meets 2 = .ok (.putfield 97, 3) := by decide +kernel
theorem dX10_meets_5 : decode cX10_meets 5 = .ok (.aload_n 0, 1) := by decide +kernel
theorem dX10_meets_6 : decode cX10_meets 6 = .ok (.getfield 7, 3) := by decide +kernel
theorem dX10_meets_9 : decode cX10_meets 9 = .ok (.iload_n 1, 1) := by decide +kernel
theorem dX10_meets_10 : decode cX10_meets 10 = .ok (.dup2, 1) := by decide +kernel
theorem dX10_meets_11 : decode cX10_meets 11 = .ok (.iaload, 1) := by decide +kernel
theorem dX10_meets_12 : decode cX10_meets 12 = .ok (.iconst 1, 1) := by decide +kernel
theorem dX10_meets_13 : decode cX10_meets 13 = .ok (.iadd, 1) := by decide +kernel
theorem dX10_meets_14 : decode cX10_meets 14 = .ok (.iastore, 1) := by decide +kernel
theorem dX10_meets_15 : decode cX10_meets 15 = .ok (.bipush (-3), 2) := by decide +kernel
theorem dX10_meets_17 : decode cX10_meets 17 = .ok (.ireturn, 1) := by decide +kernel
theorem dX10_finding_0 : decode cX10_finding 0 = .ok (.aload_n 0, 1) := by decide +kernel
theorem dX10_finding_1 : decode cX10_finding 1 = .ok (.getfield 97, 3) := by decide +kernel
theorem dX10_finding_4 : decode cX10_finding 4 = .ok (.ireturn, 1) := by decide +kernel
theorem dX10_findings_0 : decode cX10_findings 0 = .ok (.iload_n 1, 1) := by decide +kernel
theorem dX10_findings_1 : decode cX10_findings 1 = .ok (.iconst 1, 1) := by decide +kernel
theorem dX10_findings_2 : decode cX10_findings 2 = .ok (.iconst 5, 1) := by decide +kernel
theorem dX10_findings_3 : decode cX10_findings 3 = .ok (.invokestatic 101, 3) := by decide +kernel
theorem dX10_findings_6 : decode cX10_findings 6 = .ok (.ifCond .eq 12, 3) := by decide +kernel
theorem dX10_findings_9 : decode cX10_findings 9 = .ok (.aload_n 0, 1) := by decide +kernel
theorem dX10_findings_10 : decode cX10_findings 10 = .ok (.getfield 7, 3) := by decide +kernel
theorem dX10_findings_13 : decode cX10_findings 13 = .ok (.iload_n 1, 1) := by decide +kernel
theorem dX10_findings_14 : decode cX10_findings 14 = .ok (.iaload, 1) := by decide +kernel
theorem dX10_findings_15 : decode cX10_findings 15 = .ok (.goto 4, 3) := by decide +kernel
theorem dX10_findings_18 : decode cX10_findings 18 = .ok (.iconst (-1), 1) := by decide +kernel
theorem dX10_findings_19 : decode cX10_findings 19 = .ok (.ireturn, 1) := by decide +kernel
theorem dX10_tells_0 : decode cX10_tells 0 = .ok (.aload_n 0, 1) := by decide +kernel
theorem dX10_tells_1 : decode cX10_tells 1 = .ok (.iload_n 1, 1) := by decide +kernel
theorem dX10_tells_2 : decode cX10_tells 2 = .ok (.putfield 105, 3) := by decide +kernel
theorem dX10_tells_5 : decode cX10_tells 5 = .ok (.iload_n 2, 1) := by decide +kernel
theorem dX10_tells_6 : decode cX10_tells 6 = .ok (.ireturn, 1) := by decide +kernel
theorem dX10_asked_0 : decode cX10_asked 0 = .ok (.aload_n 0, 1) := by decide +kernel
theorem dX10_asked_1 : decode cX10_asked 1 = .ok (.getfield 105, 3) := by decide +kernel
theorem dX10_asked_4 : decode cX10_asked 4 = .ok (.ireturn, 1) := by decide +kernel
theorem dX10_part_0 : decode cX10_part 0 = .ok (.iload_n 1, 1) := by decide +kernel
theorem dX10_part_1 : decode cX10_part 1 = .ok (.istore_n 3, 1) := by decide +kernel
theorem dX10_part_2 : decode cX10_part 2 = .ok (.iload_n 2, 1) := by decide +kernel
theorem dX10_part_3 : decode cX10_part 3 = .ok (.istore 4, 2) := by decide +kernel
theorem dX10_part_5 : decode cX10_part 5 = .ok (.iload 4, 2) := by decide +kernel
theorem dX10_part_7 : decode cX10_part 7 = .ok (.ifCond .eq 19, 3) := by decide +kernel
theorem dX10_part_10 : decode cX10_part 10 = .ok (.iload_n 3, 1) := by decide +kernel
theorem dX10_part_11 : decode cX10_part 11 = .ok (.iload 4, 2) := by decide +kernel
theorem dX10_part_13 : decode cX10_part 13 = .ok (.irem, 1) := by decide +kernel
theorem dX10_part_14 : decode cX10_part 14 = .ok (.istore 5, 2) := by decide +kernel
theorem dX10_part_16 : decode cX10_part 16 = .ok (.iload 4, 2) := by decide +kernel
theorem dX10_part_18 : decode cX10_part 18 = .ok (.istore_n 3, 1) := by decide +kernel
theorem dX10_part_19 : decode cX10_part 19 = .ok (.iload 5, 2) := by decide +kernel
theorem dX10_part_21 : decode cX10_part 21 = .ok (.istore 4, 2) := by decide +kernel
theorem dX10_part_23 : decode cX10_part 23 = .ok (.goto (-18), 3) := by decide +kernel
theorem dX10_part_26 : decode cX10_part 26 = .ok (.aload_n 0, 1) := by decide +kernel
theorem dX10_part_27 : decode cX10_part 27 = .ok (.iload_n 1, 1) := by decide +kernel
theorem dX10_part_28 : decode cX10_part 28 = .ok (.iload_n 3, 1) := by decide +kernel
theorem dX10_part_29 : decode cX10_part 29 = .ok (.idiv, 1) := by decide +kernel
theorem dX10_part_30 : decode cX10_part 30 = .ok (.i2l, 1) := by decide +kernel
theorem dX10_part_31 : decode cX10_part 31 = .ok (.putfield 108, 3) := by decide +kernel
theorem dX10_part_34 : decode cX10_part 34 = .ok (.aload_n 0, 1) := by decide +kernel
theorem dX10_part_35 : decode cX10_part 35 = .ok (.iload_n 2, 1) := by decide +kernel
theorem dX10_part_36 : decode cX10_part 36 = .ok (.iload_n 3, 1) := by decide +kernel
theorem dX10_part_37 : decode cX10_part 37 = .ok (.idiv, 1) := by decide +kernel
theorem dX10_part_38 : decode cX10_part 38 = .ok (.i2l, 1) := by decide +kernel
theorem dX10_part_39 : decode cX10_part 39 = .ok (.putfield 13, 3) := by decide +kernel
theorem dX10_part_42 : decode cX10_part 42 = .ok (.iconst 1, 1) := by decide +kernel
theorem dX10_part_43 : decode cX10_part 43 = .ok (.ireturn, 1) := by decide +kernel
theorem dX10_upper_0 : decode cX10_upper 0 = .ok (.aload_n 0, 1) := by decide +kernel
theorem dX10_upper_1 : decode cX10_upper 1 = .ok (.getfield 108, 3) := by decide +kernel
theorem dX10_upper_4 : decode cX10_upper 4 = .ok (.lreturn, 1) := by decide +kernel
theorem dX10_lower_0 : decode cX10_lower 0 = .ok (.aload_n 0, 1) := by decide +kernel
theorem dX10_lower_1 : decode cX10_lower 1 = .ok (.getfield 13, 3) := by decide +kernel
theorem dX10_lower_4 : decode cX10_lower 4 = .ok (.lreturn, 1) := by decide +kernel
theorem dX10_isRow_0 : decode cX10_isRow 0 = .ok (.iload_n 0, 1) := by decide +kernel
theorem dX10_isRow_1 : decode cX10_isRow 1 = .ok (.iconst 0, 1) := by decide +kernel
theorem dX10_isRow_2 : decode cX10_isRow 2 = .ok (.iconst 5, 1) := by decide +kernel
theorem dX10_isRow_3 : decode cX10_isRow 3 = .ok (.invokestatic 101, 3) := by decide +kernel
theorem dX10_isRow_6 : decode cX10_isRow 6 = .ok (.ireturn, 1) := by decide +kernel
theorem dX10_rowAt_0 : decode cX10_rowAt 0 = .ok (.aload_n 0, 1) := by decide +kernel
theorem dX10_rowAt_1 : decode cX10_rowAt 1 = .ok (.getfield 20, 3) := by decide +kernel
theorem dX10_rowAt_4 : decode cX10_rowAt 4 = .ok (.bipush 40, 2) := by decide +kernel
theorem dX10_rowAt_6 : decode cX10_rowAt 6 = .ok (.iload_n 1, 1) := by decide +kernel
theorem dX10_rowAt_7 : decode cX10_rowAt 7 = .ok (.imul, 1) := by decide +kernel
theorem dX10_rowAt_8 : decode cX10_rowAt 8 = .ok (.iload_n 2, 1) := by decide +kernel
theorem dX10_rowAt_9 : decode cX10_rowAt 9 = .ok (.iadd, 1) := by decide +kernel
theorem dX10_rowAt_10 : decode cX10_rowAt 10 = .ok (.iaload, 1) := by decide +kernel
theorem dX10_rowAt_11 : decode cX10_rowAt 11 = .ok (.ireturn, 1) := by decide +kernel
theorem dX10_row_0 : decode cX10_row 0 = .ok (.iload_n 1, 1) := by decide +kernel
theorem dX10_row_1 : decode cX10_row 1 = .ok (.invokestatic 111, 3) := by decide +kernel
theorem dX10_row_4 : decode cX10_row 4 = .ok (.ifCond .eq 9, 3) := by decide +kernel
theorem dX10_row_7 : decode cX10_row 7 = .ok (.iload_n 2, 1) := by decide +kernel
theorem dX10_row_8 : decode cX10_row 8 = .ok (.bipush 40, 2) := by decide +kernel
theorem dX10_row_10 : decode cX10_row 10 = .ok (.if_icmp .le 5, 3) := by decide +kernel
theorem dX10_row_13 : decode cX10_row 13 = .ok (.iconst (-1), 1) := by decide +kernel
theorem dX10_row_14 : decode cX10_row 14 = .ok (.ireturn, 1) := by decide +kernel
theorem dX10_row_15 : decode cX10_row 15 = .ok (.iload_n 2, 1) := by decide +kernel
theorem dX10_row_16 : decode cX10_row 16 = .ok (.ifCond .ge 9, 3) := by decide +kernel
theorem dX10_row_19 : decode cX10_row 19 = .ok (.aload_n 0, 1) := by decide +kernel
theorem dX10_row_20 : decode cX10_row 20 = .ok (.iconst 5, 1) := by decide +kernel
theorem dX10_row_21 : decode cX10_row 21 = .ok (.invokevirtual 115, 3) := by decide +kernel
theorem dX10_row_24 : decode cX10_row 24 = .ok (.ireturn, 1) := by decide +kernel
theorem dX10_row_25 : decode cX10_row 25 = .ok (.aload_n 0, 1) := by decide +kernel
theorem dX10_row_26 : decode cX10_row 26 = .ok (.getfield 17, 3) := by decide +kernel
theorem dX10_row_29 : decode cX10_row 29 = .ok (.iload_n 1, 1) := by decide +kernel
theorem dX10_row_30 : decode cX10_row 30 = .ok (.iload_n 2, 1) := by decide +kernel
theorem dX10_row_31 : decode cX10_row 31 = .ok (.iastore, 1) := by decide +kernel
theorem dX10_row_32 : decode cX10_row 32 = .ok (.iconst 0, 1) := by decide +kernel
theorem dX10_row_33 : decode cX10_row 33 = .ok (.istore_n 3, 1) := by decide +kernel
theorem dX10_row_34 : decode cX10_row 34 = .ok (.iload_n 3, 1) := by decide +kernel
theorem dX10_row_35 : decode cX10_row 35 = .ok (.bipush 40, 2) := by decide +kernel
theorem dX10_row_37 : decode cX10_row 37 = .ok (.if_icmp .ge 21, 3) := by decide +kernel
theorem dX10_row_40 : decode cX10_row 40 = .ok (.aload_n 0, 1) := by decide +kernel
theorem dX10_row_41 : decode cX10_row 41 = .ok (.getfield 20, 3) := by decide +kernel
theorem dX10_row_44 : decode cX10_row 44 = .ok (.bipush 40, 2) := by decide +kernel
theorem dX10_row_46 : decode cX10_row 46 = .ok (.iload_n 1, 1) := by decide +kernel
theorem dX10_row_47 : decode cX10_row 47 = .ok (.imul, 1) := by decide +kernel
theorem dX10_row_48 : decode cX10_row 48 = .ok (.iload_n 3, 1) := by decide +kernel
theorem dX10_row_49 : decode cX10_row 49 = .ok (.iadd, 1) := by decide +kernel
theorem dX10_row_50 : decode cX10_row 50 = .ok (.iconst 0, 1) := by decide +kernel
theorem dX10_row_51 : decode cX10_row 51 = .ok (.iastore, 1) := by decide +kernel
theorem dX10_row_52 : decode cX10_row 52 = .ok (.iinc 3 1, 3) := by decide +kernel
theorem dX10_row_55 : decode cX10_row 55 = .ok (.goto (-21), 3) := by decide +kernel
theorem dX10_row_58 : decode cX10_row 58 = .ok (.iload_n 2, 1) := by decide +kernel
theorem dX10_row_59 : decode cX10_row 59 = .ok (.ireturn, 1) := by decide +kernel
theorem dX10_lay_0 : decode cX10_lay 0 = .ok (.iload_n 1, 1) := by decide +kernel
theorem dX10_lay_1 : decode cX10_lay 1 = .ok (.invokestatic 111, 3) := by decide +kernel
theorem dX10_lay_4 : decode cX10_lay 4 = .ok (.ifCond .ne 5, 3) := by decide +kernel
theorem dX10_lay_7 : decode cX10_lay 7 = .ok (.iconst (-1), 1) := by decide +kernel
theorem dX10_lay_8 : decode cX10_lay 8 = .ok (.ireturn, 1) := by decide +kernel
theorem dX10_lay_9 : decode cX10_lay 9 = .ok (.aload_n 0, 1) := by decide +kernel
theorem dX10_lay_10 : decode cX10_lay 10 = .ok (.getfield 17, 3) := by decide +kernel
theorem dX10_lay_13 : decode cX10_lay 13 = .ok (.iload_n 1, 1) := by decide +kernel
theorem dX10_lay_14 : decode cX10_lay 14 = .ok (.iaload, 1) := by decide +kernel
theorem dX10_lay_15 : decode cX10_lay 15 = .ok (.ifCond .ge 9, 3) := by decide +kernel
theorem dX10_lay_18 : decode cX10_lay 18 = .ok (.aload_n 0, 1) := by decide +kernel
theorem dX10_lay_19 : decode cX10_lay 19 = .ok (.iconst 1, 1) := by decide +kernel
theorem dX10_lay_20 : decode cX10_lay 20 = .ok (.invokevirtual 115, 3) := by decide +kernel
theorem dX10_lay_23 : decode cX10_lay 23 = .ok (.ireturn, 1) := by decide +kernel
theorem dX10_lay_24 : decode cX10_lay 24 = .ok (.iload_n 2, 1) := by decide +kernel
theorem dX10_lay_25 : decode cX10_lay 25 = .ok (.iconst 0, 1) := by decide +kernel
theorem dX10_lay_26 : decode cX10_lay 26 = .ok (.aload_n 0, 1) := by decide +kernel
theorem dX10_lay_27 : decode cX10_lay 27 = .ok (.getfield 17, 3) := by decide +kernel
theorem dX10_lay_30 : decode cX10_lay 30 = .ok (.iload_n 1, 1) := by decide +kernel
theorem dX10_lay_31 : decode cX10_lay 31 = .ok (.iaload, 1) := by decide +kernel
theorem dX10_lay_32 : decode cX10_lay 32 = .ok (.iconst 1, 1) := by decide +kernel
theorem dX10_lay_33 : decode cX10_lay 33 = .ok (.isub, 1) := by decide +kernel
theorem dX10_lay_34 : decode cX10_lay 34 = .ok (.invokestatic 101, 3) := by decide +kernel
theorem dX10_lay_37 : decode cX10_lay 37 = .ok (.ifCond .ne 9, 3) := by decide +kernel
theorem dX10_lay_40 : decode cX10_lay 40 = .ok (.aload_n 0, 1) := by decide +kernel
theorem dX10_lay_41 : decode cX10_lay 41 = .ok (.iconst 2, 1) := by decide +kernel
theorem dX10_lay_42 : decode cX10_lay 42 = .ok (.invokevirtual 115, 3) := by decide +kernel
theorem dX10_lay_45 : decode cX10_lay 45 = .ok (.ireturn, 1) := by decide +kernel
theorem dX10_lay_46 : decode cX10_lay 46 = .ok (.aload_n 0, 1) := by decide +kernel
theorem dX10_lay_47 : decode cX10_lay 47 = .ok (.iload_n 1, 1) := by decide +kernel
theorem dX10_lay_48 : decode cX10_lay 48 = .ok (.iload_n 2, 1) := by decide +kernel
theorem dX10_lay_49 : decode cX10_lay 49 = .ok (.invokevirtual 119, 3) := by decide +kernel
theorem dX10_lay_52 : decode cX10_lay 52 = .ok (.istore 4, 2) := by decide +kernel
theorem dX10_lay_54 : decode cX10_lay 54 = .ok (.aload_n 0, 1) := by decide +kernel
theorem dX10_lay_55 : decode cX10_lay 55 = .ok (.getfield 20, 3) := by decide +kernel
theorem dX10_lay_58 : decode cX10_lay 58 = .ok (.bipush 40, 2) := by decide +kernel
theorem dX10_lay_60 : decode cX10_lay 60 = .ok (.iload_n 1, 1) := by decide +kernel
theorem dX10_lay_61 : decode cX10_lay 61 = .ok (.imul, 1) := by decide +kernel
theorem dX10_lay_62 : decode cX10_lay 62 = .ok (.iload_n 2, 1) := by decide +kernel
theorem dX10_lay_63 : decode cX10_lay 63 = .ok (.iadd, 1) := by decide +kernel
theorem dX10_lay_64 : decode cX10_lay 64 = .ok (.iload_n 3, 1) := by decide +kernel
theorem dX10_lay_65 : decode cX10_lay 65 = .ok (.iastore, 1) := by decide +kernel
theorem dX10_lay_66 : decode cX10_lay 66 = .ok (.aload_n 0, 1) := by decide +kernel
theorem dX10_lay_67 : decode cX10_lay 67 = .ok (.iload 4, 2) := by decide +kernel
theorem dX10_lay_69 : decode cX10_lay 69 = .ok (.iconst 1, 1) := by decide +kernel
theorem dX10_lay_70 : decode cX10_lay 70 = .ok (.invokevirtual 123, 3) := by decide +kernel
theorem dX10_lay_73 : decode cX10_lay 73 = .ok (.ireturn, 1) := by decide +kernel
theorem dX10_at_0 : decode cX10_at 0 = .ok (.iload_n 1, 1) := by decide +kernel
theorem dX10_at_1 : decode cX10_at 1 = .ok (.invokestatic 111, 3) := by decide +kernel
theorem dX10_at_4 : decode cX10_at 4 = .ok (.ifCond .ne 5, 3) := by decide +kernel
theorem dX10_at_7 : decode cX10_at 7 = .ok (.iconst (-1), 1) := by decide +kernel
theorem dX10_at_8 : decode cX10_at 8 = .ok (.ireturn, 1) := by decide +kernel
theorem dX10_at_9 : decode cX10_at 9 = .ok (.aload_n 0, 1) := by decide +kernel
theorem dX10_at_10 : decode cX10_at 10 = .ok (.getfield 17, 3) := by decide +kernel
theorem dX10_at_13 : decode cX10_at 13 = .ok (.iload_n 1, 1) := by decide +kernel
theorem dX10_at_14 : decode cX10_at 14 = .ok (.iaload, 1) := by decide +kernel
theorem dX10_at_15 : decode cX10_at 15 = .ok (.ifCond .ge 9, 3) := by decide +kernel
theorem dX10_at_18 : decode cX10_at 18 = .ok (.aload_n 0, 1) := by decide +kernel
theorem dX10_at_19 : decode cX10_at 19 = .ok (.iconst 1, 1) := by decide +kernel
theorem dX10_at_20 : decode cX10_at 20 = .ok (.invokevirtual 115, 3) := by decide +kernel
theorem dX10_at_23 : decode cX10_at 23 = .ok (.ireturn, 1) := by decide +kernel
theorem dX10_at_24 : decode cX10_at 24 = .ok (.iload_n 2, 1) := by decide +kernel
theorem dX10_at_25 : decode cX10_at 25 = .ok (.iconst 0, 1) := by decide +kernel
theorem dX10_at_26 : decode cX10_at 26 = .ok (.aload_n 0, 1) := by decide +kernel
theorem dX10_at_27 : decode cX10_at 27 = .ok (.getfield 17, 3) := by decide +kernel
theorem dX10_at_30 : decode cX10_at 30 = .ok (.iload_n 1, 1) := by decide +kernel
theorem dX10_at_31 : decode cX10_at 31 = .ok (.iaload, 1) := by decide +kernel
theorem dX10_at_32 : decode cX10_at 32 = .ok (.iconst 1, 1) := by decide +kernel
theorem dX10_at_33 : decode cX10_at 33 = .ok (.isub, 1) := by decide +kernel
theorem dX10_at_34 : decode cX10_at 34 = .ok (.invokestatic 101, 3) := by decide +kernel
theorem dX10_at_37 : decode cX10_at 37 = .ok (.ifCond .eq 17, 3) := by decide +kernel
theorem dX10_at_40 : decode cX10_at 40 = .ok (.aload_n 0, 1) := by decide +kernel
theorem dX10_at_41 : decode cX10_at 41 = .ok (.aload_n 0, 1) := by decide +kernel
theorem dX10_at_42 : decode cX10_at 42 = .ok (.iload_n 1, 1) := by decide +kernel
theorem dX10_at_43 : decode cX10_at 43 = .ok (.iload_n 2, 1) := by decide +kernel
theorem dX10_at_44 : decode cX10_at 44 = .ok (.invokevirtual 119, 3) := by decide +kernel
theorem dX10_at_47 : decode cX10_at 47 = .ok (.iconst 1, 1) := by decide +kernel
theorem dX10_at_48 : decode cX10_at 48 = .ok (.invokevirtual 123, 3) := by decide +kernel
theorem dX10_at_51 : decode cX10_at 51 = .ok (.goto 8, 3) := by decide +kernel
theorem dX10_at_54 : decode cX10_at 54 = .ok (.aload_n 0, 1) := by decide +kernel
theorem dX10_at_55 : decode cX10_at 55 = .ok (.iconst 2, 1) := by decide +kernel
theorem dX10_at_56 : decode cX10_at 56 = .ok (.invokevirtual 115, 3) := by decide +kernel
theorem dX10_at_59 : decode cX10_at 59 = .ok (.ireturn, 1) := by decide +kernel
theorem dX10_tear_0 : decode cX10_tear 0 = .ok (.iload_n 1, 1) := by decide +kernel
theorem dX10_tear_1 : decode cX10_tear 1 = .ok (.invokestatic 111, 3) := by decide +kernel
theorem dX10_tear_4 : decode cX10_tear 4 = .ok (.ifCond .ne 5, 3) := by decide +kernel
theorem dX10_tear_7 : decode cX10_tear 7 = .ok (.iconst (-1), 1) := by decide +kernel
theorem dX10_tear_8 : decode cX10_tear 8 = .ok (.ireturn, 1) := by decide +kernel
theorem dX10_tear_9 : decode cX10_tear 9 = .ok (.aload_n 0, 1) := by decide +kernel
theorem dX10_tear_10 : decode cX10_tear 10 = .ok (.getfield 17, 3) := by decide +kernel
theorem dX10_tear_13 : decode cX10_tear 13 = .ok (.iload_n 1, 1) := by decide +kernel
theorem dX10_tear_14 : decode cX10_tear 14 = .ok (.iaload, 1) := by decide +kernel
theorem dX10_tear_15 : decode cX10_tear 15 = .ok (.ifCond .ge 9, 3) := by decide +kernel
theorem dX10_tear_18 : decode cX10_tear 18 = .ok (.aload_n 0, 1) := by decide +kernel
theorem dX10_tear_19 : decode cX10_tear 19 = .ok (.iconst 1, 1) := by decide +kernel
theorem dX10_tear_20 : decode cX10_tear 20 = .ok (.invokevirtual 115, 3) := by decide +kernel
theorem dX10_tear_23 : decode cX10_tear 23 = .ok (.ireturn, 1) := by decide +kernel
theorem dX10_tear_24 : decode cX10_tear 24 = .ok (.aload_n 0, 1) := by decide +kernel
theorem dX10_tear_25 : decode cX10_tear 25 = .ok (.getfield 17, 3) := by decide +kernel
theorem dX10_tear_28 : decode cX10_tear 28 = .ok (.iload_n 1, 1) := by decide +kernel
theorem dX10_tear_29 : decode cX10_tear 29 = .ok (.iconst (-1), 1) := by decide +kernel
theorem dX10_tear_30 : decode cX10_tear 30 = .ok (.iastore, 1) := by decide +kernel
theorem dX10_tear_31 : decode cX10_tear 31 = .ok (.iconst 1, 1) := by decide +kernel
theorem dX10_tear_32 : decode cX10_tear 32 = .ok (.ireturn, 1) := by decide +kernel
theorem dX10_copy_0 : decode cX10_copy 0 = .ok (.iload_n 1, 1) := by decide +kernel
theorem dX10_copy_1 : decode cX10_copy 1 = .ok (.invokestatic 111, 3) := by decide +kernel
theorem dX10_copy_4 : decode cX10_copy 4 = .ok (.ifCond .eq 10, 3) := by decide +kernel
theorem dX10_copy_7 : decode cX10_copy 7 = .ok (.iload_n 3, 1) := by decide +kernel
theorem dX10_copy_8 : decode cX10_copy 8 = .ok (.invokestatic 111, 3) := by decide +kernel
theorem dX10_copy_11 : decode cX10_copy 11 = .ok (.ifCond .ne 5, 3) := by decide +kernel
theorem dX10_copy_14 : decode cX10_copy 14 = .ok (.iconst (-1), 1) := by decide +kernel
theorem dX10_copy_15 : decode cX10_copy 15 = .ok (.ireturn, 1) := by decide +kernel
theorem dX10_copy_16 : decode cX10_copy 16 = .ok (.iload 5, 2) := by decide +kernel
theorem dX10_copy_18 : decode cX10_copy 18 = .ok (.ifCond .ge 9, 3) := by decide +kernel
theorem dX10_copy_21 : decode cX10_copy 21 = .ok (.aload_n 0, 1) := by decide +kernel
theorem dX10_copy_22 : decode cX10_copy 22 = .ok (.iconst 5, 1) := by decide +kernel
theorem dX10_copy_23 : decode cX10_copy 23 = .ok (.invokevirtual 115, 3) := by decide +kernel
theorem dX10_copy_26 : decode cX10_copy 26 = .ok (.ireturn, 1) := by decide +kernel
theorem dX10_copy_27 : decode cX10_copy 27 = .ok (.aload_n 0, 1) := by decide +kernel
theorem dX10_copy_28 : decode cX10_copy 28 = .ok (.getfield 17, 3) := by decide +kernel
theorem dX10_copy_31 : decode cX10_copy 31 = .ok (.iload_n 1, 1) := by decide +kernel
theorem dX10_copy_32 : decode cX10_copy 32 = .ok (.iaload, 1) := by decide +kernel
theorem dX10_copy_33 : decode cX10_copy 33 = .ok (.ifCond .lt 12, 3) := by decide +kernel
theorem dX10_copy_36 : decode cX10_copy 36 = .ok (.aload_n 0, 1) := by decide +kernel
theorem dX10_copy_37 : decode cX10_copy 37 = .ok (.getfield 17, 3) := by decide +kernel
theorem dX10_copy_40 : decode cX10_copy 40 = .ok (.iload_n 3, 1) := by decide +kernel
theorem dX10_copy_41 : decode cX10_copy 41 = .ok (.iaload, 1) := by decide +kernel
theorem dX10_copy_42 : decode cX10_copy 42 = .ok (.ifCond .ge 9, 3) := by decide +kernel
theorem dX10_copy_45 : decode cX10_copy 45 = .ok (.aload_n 0, 1) := by decide +kernel
theorem dX10_copy_46 : decode cX10_copy 46 = .ok (.iconst 1, 1) := by decide +kernel
theorem dX10_copy_47 : decode cX10_copy 47 = .ok (.invokevirtual 115, 3) := by decide +kernel
theorem dX10_copy_50 : decode cX10_copy 50 = .ok (.ireturn, 1) := by decide +kernel
theorem dX10_copy_51 : decode cX10_copy 51 = .ok (.iload_n 2, 1) := by decide +kernel
theorem dX10_copy_52 : decode cX10_copy 52 = .ok (.ifCond .lt 43, 3) := by decide +kernel
theorem dX10_copy_55 : decode cX10_copy 55 = .ok (.iload 4, 2) := by decide +kernel
theorem dX10_copy_57 : decode cX10_copy 57 = .ok (.ifCond .lt 38, 3) := by decide +kernel
theorem dX10_copy_60 : decode cX10_copy 60 = .ok (.iload_n 2, 1) := by decide +kernel
theorem dX10_copy_61 : decode cX10_copy 61 = .ok (.i2l, 1) := by decide +kernel
theorem dX10_copy_62 : decode cX10_copy 62 = .ok (.iload 5, 2) := by decide +kernel
theorem dX10_copy_64 : decode cX10_copy 64 = .ok (.i2l, 1) := by decide +kernel
theorem dX10_copy_65 : decode cX10_copy 65 = .ok (.ladd, 1) := by decide +kernel
theorem dX10_copy_66 : decode cX10_copy 66 = .ok (.aload_n 0, 1) := by decide +kernel
theorem dX10_copy_67 : decode cX10_copy 67 = .ok (.getfield 17, 3) := by decide +kernel
theorem dX10_copy_70 : decode cX10_copy 70 = .ok (.iload_n 1, 1) := by decide +kernel
theorem dX10_copy_71 : decode cX10_copy 71 = .ok (.iaload, 1) := by decide +kernel
theorem dX10_copy_72 : decode cX10_copy 72 = .ok (.i2l, 1) := by decide +kernel
theorem dX10_copy_73 : decode cX10_copy 73 = .ok (.lcmp, 1) := by decide +kernel
theorem dX10_copy_74 : decode cX10_copy 74 = .ok (.ifCond .gt 21, 3) := by decide +kernel
theorem dX10_copy_77 : decode cX10_copy 77 = .ok (.iload 4, 2) := by decide +kernel
theorem dX10_copy_79 : decode cX10_copy 79 = .ok (.i2l, 1) := by decide +kernel
theorem dX10_copy_80 : decode cX10_copy 80 = .ok (.iload 5, 2) := by decide +kernel
theorem dX10_copy_82 : decode cX10_copy 82 = .ok (.i2l, 1) := by decide +kernel
theorem dX10_copy_83 : decode cX10_copy 83 = .ok (.ladd, 1) := by decide +kernel
theorem dX10_copy_84 : decode cX10_copy 84 = .ok (.aload_n 0, 1) := by decide +kernel
theorem dX10_copy_85 : decode cX10_copy 85 = .ok (.getfield 17, 3) := by decide +kernel
theorem dX10_copy_88 : decode cX10_copy 88 = .ok (.iload_n 3, 1) := by decide +kernel
theorem dX10_copy_89 : decode cX10_copy 89 = .ok (.iaload, 1) := by decide +kernel
theorem dX10_copy_90 : decode cX10_copy 90 = .ok (.i2l, 1) := by decide +kernel
theorem dX10_copy_91 : decode cX10_copy 91 = .ok (.lcmp, 1) := by decide +kernel
theorem dX10_copy_92 : decode cX10_copy 92 = .ok (.ifCond .le 9, 3) := by decide +kernel
theorem dX10_copy_95 : decode cX10_copy 95 = .ok (.aload_n 0, 1) := by decide +kernel
theorem dX10_copy_96 : decode cX10_copy 96 = .ok (.iconst 2, 1) := by decide +kernel
theorem dX10_copy_97 : decode cX10_copy 97 = .ok (.invokevirtual 115, 3) := by decide +kernel
theorem dX10_copy_100 : decode cX10_copy 100 = .ok (.ireturn, 1) := by decide +kernel
theorem dX10_copy_101 : decode cX10_copy 101 = .ok (.iconst 0, 1) := by decide +kernel
theorem dX10_copy_102 : decode cX10_copy 102 = .ok (.istore 6, 2) := by decide +kernel
theorem dX10_copy_104 : decode cX10_copy 104 = .ok (.iload 6, 2) := by decide +kernel
theorem dX10_copy_106 : decode cX10_copy 106 = .ok (.iload 5, 2) := by decide +kernel
theorem dX10_copy_108 : decode cX10_copy 108 = .ok (.if_icmp .ge 25, 3) := by decide +kernel
theorem dX10_copy_111 : decode cX10_copy 111 = .ok (.aload_n 0, 1) := by decide +kernel
theorem dX10_copy_112 : decode cX10_copy 112 = .ok (.getfield 23, 3) := by decide +kernel
theorem dX10_copy_115 : decode cX10_copy 115 = .ok (.iload 6, 2) := by decide +kernel
theorem dX10_copy_117 : decode cX10_copy 117 = .ok (.aload_n 0, 1) := by decide +kernel
theorem dX10_copy_118 : decode cX10_copy 118 = .ok (.iload_n 1, 1) := by decide +kernel
theorem dX10_copy_119 : decode cX10_copy 119 = .ok (.iload_n 2, 1) := by decide +kernel
theorem dX10_copy_120 : decode cX10_copy 120 = .ok (.iload 6, 2) := by decide +kernel
theorem dX10_copy_122 : decode cX10_copy 122 = .ok (.iadd, 1) := by decide +kernel
theorem dX10_copy_123 : decode cX10_copy 123 = .ok (.invokevirtual 119, 3) := by decide +kernel
theorem dX10_copy_126 : decode cX10_copy 126 = .ok (.iastore, 1) := by decide +kernel
theorem dX10_copy_127 : decode cX10_copy 127 = .ok (.iinc 6 1, 3) := by decide +kernel
theorem dX10_copy_130 : decode cX10_copy 130 = .ok (.goto (-26), 3) := by decide +kernel
theorem dX10_copy_133 : decode cX10_copy 133 = .ok (.iconst 0, 1) := by decide +kernel
theorem dX10_copy_134 : decode cX10_copy 134 = .ok (.istore 6, 2) := by decide +kernel
theorem dX10_copy_136 : decode cX10_copy 136 = .ok (.iload 6, 2) := by decide +kernel
theorem dX10_copy_138 : decode cX10_copy 138 = .ok (.iload 5, 2) := by decide +kernel
theorem dX10_copy_140 : decode cX10_copy 140 = .ok (.if_icmp .ge 31, 3) := by decide +kernel
theorem dX10_copy_143 : decode cX10_copy 143 = .ok (.aload_n 0, 1) := by decide +kernel
theorem dX10_copy_144 : decode cX10_copy 144 = .ok (.getfield 20, 3) := by decide +kernel
theorem dX10_copy_147 : decode cX10_copy 147 = .ok (.bipush 40, 2) := by decide +kernel
theorem dX10_copy_149 : decode cX10_copy 149 = .ok (.iload_n 3, 1) := by decide +kernel
theorem dX10_copy_150 : decode cX10_copy 150 = .ok (.imul, 1) := by decide +kernel
theorem dX10_copy_151 : decode cX10_copy 151 = .ok (.iload 4, 2) := by decide +kernel
theorem dX10_copy_153 : decode cX10_copy 153 = .ok (.iadd, 1) := by decide +kernel
theorem dX10_copy_154 : decode cX10_copy 154 = .ok (.iload 6, 2) := by decide +kernel
theorem dX10_copy_156 : decode cX10_copy 156 = .ok (.iadd, 1) := by decide +kernel
theorem dX10_copy_157 : decode cX10_copy 157 = .ok (.aload_n 0, 1) := by decide +kernel
theorem dX10_copy_158 : decode cX10_copy 158 = .ok (.getfield 23, 3) := by decide +kernel
theorem dX10_copy_161 : decode cX10_copy 161 = .ok (.iload 6, 2) := by decide +kernel
theorem dX10_copy_163 : decode cX10_copy 163 = .ok (.iaload, 1) := by decide +kernel
theorem dX10_copy_164 : decode cX10_copy 164 = .ok (.iastore, 1) := by decide +kernel
theorem dX10_copy_165 : decode cX10_copy 165 = .ok (.iinc 6 1, 3) := by decide +kernel
theorem dX10_copy_168 : decode cX10_copy 168 = .ok (.goto (-32), 3) := by decide +kernel
theorem dX10_copy_171 : decode cX10_copy 171 = .ok (.iconst 1, 1) := by decide +kernel
theorem dX10_copy_172 : decode cX10_copy 172 = .ok (.ireturn, 1) := by decide +kernel
theorem dX10_mean_0 : decode cX10_mean 0 = .ok (.iload_n 1, 1) := by decide +kernel
theorem dX10_mean_1 : decode cX10_mean 1 = .ok (.invokestatic 111, 3) := by decide +kernel
theorem dX10_mean_4 : decode cX10_mean 4 = .ok (.ifCond .ne 5, 3) := by decide +kernel
theorem dX10_mean_7 : decode cX10_mean 7 = .ok (.iconst (-1), 1) := by decide +kernel
theorem dX10_mean_8 : decode cX10_mean 8 = .ok (.ireturn, 1) := by decide +kernel
theorem dX10_mean_9 : decode cX10_mean 9 = .ok (.aload_n 0, 1) := by decide +kernel
theorem dX10_mean_10 : decode cX10_mean 10 = .ok (.getfield 17, 3) := by decide +kernel
theorem dX10_mean_13 : decode cX10_mean 13 = .ok (.iload_n 1, 1) := by decide +kernel
theorem dX10_mean_14 : decode cX10_mean 14 = .ok (.iaload, 1) := by decide +kernel
theorem dX10_mean_15 : decode cX10_mean 15 = .ok (.ifCond .ge 9, 3) := by decide +kernel
theorem dX10_mean_18 : decode cX10_mean 18 = .ok (.aload_n 0, 1) := by decide +kernel
theorem dX10_mean_19 : decode cX10_mean 19 = .ok (.iconst 1, 1) := by decide +kernel
theorem dX10_mean_20 : decode cX10_mean 20 = .ok (.invokevirtual 115, 3) := by decide +kernel
theorem dX10_mean_23 : decode cX10_mean 23 = .ok (.ireturn, 1) := by decide +kernel
theorem dX10_mean_24 : decode cX10_mean 24 = .ok (.aload_n 0, 1) := by decide +kernel
theorem dX10_mean_25 : decode cX10_mean 25 = .ok (.getfield 17, 3) := by decide +kernel
theorem dX10_mean_28 : decode cX10_mean 28 = .ok (.iload_n 1, 1) := by decide +kernel
theorem dX10_mean_29 : decode cX10_mean 29 = .ok (.iaload, 1) := by decide +kernel
theorem dX10_mean_30 : decode cX10_mean 30 = .ok (.ifCond .ne 9, 3) := by decide +kernel
theorem dX10_mean_33 : decode cX10_mean 33 = .ok (.aload_n 0, 1) := by decide +kernel
theorem dX10_mean_34 : decode cX10_mean 34 = .ok (.iconst 4, 1) := by decide +kernel
theorem dX10_mean_35 : decode cX10_mean 35 = .ok (.invokevirtual 115, 3) := by decide +kernel
theorem dX10_mean_38 : decode cX10_mean 38 = .ok (.ireturn, 1) := by decide +kernel
theorem dX10_mean_39 : decode cX10_mean 39 = .ok (.lconst 0, 1) := by decide +kernel
theorem dX10_mean_40 : decode cX10_mean 40 = .ok (.lstore_n 2, 1) := by decide +kernel
theorem dX10_mean_41 : decode cX10_mean 41 = .ok (.iconst 0, 1) := by decide +kernel
theorem dX10_mean_42 : decode cX10_mean 42 = .ok (.istore 4, 2) := by decide +kernel
theorem dX10_mean_44 : decode cX10_mean 44 = .ok (.iload 4, 2) := by decide +kernel
theorem dX10_mean_46 : decode cX10_mean 46 = .ok (.aload_n 0, 1) := by decide +kernel
theorem dX10_mean_47 : decode cX10_mean 47 = .ok (.getfield 17, 3) := by decide +kernel
theorem dX10_mean_50 : decode cX10_mean 50 = .ok (.iload_n 1, 1) := by decide +kernel
theorem dX10_mean_51 : decode cX10_mean 51 = .ok (.iaload, 1) := by decide +kernel
theorem dX10_mean_52 : decode cX10_mean 52 = .ok (.if_icmp .ge 20, 3) := by decide +kernel
theorem dX10_mean_55 : decode cX10_mean 55 = .ok (.lload_n 2, 1) := by decide +kernel
theorem dX10_mean_56 : decode cX10_mean 56 = .ok (.aload_n 0, 1) := by decide +kernel
theorem dX10_mean_57 : decode cX10_mean 57 = .ok (.iload_n 1, 1) := by decide +kernel
theorem dX10_mean_58 : decode cX10_mean 58 = .ok (.iload 4, 2) := by decide +kernel
theorem dX10_mean_60 : decode cX10_mean 60 = .ok (.invokevirtual 119, 3) := by decide +kernel
theorem dX10_mean_63 : decode cX10_mean 63 = .ok (.i2l, 1) := by decide +kernel
theorem dX10_mean_64 : decode cX10_mean 64 = .ok (.ladd, 1) := by decide +kernel
theorem dX10_mean_65 : decode cX10_mean 65 = .ok (.lstore_n 2, 1) := by decide +kernel
theorem dX10_mean_66 : decode cX10_mean 66 = .ok (.iinc 4 1, 3) := by decide +kernel
theorem dX10_mean_69 : decode cX10_mean 69 = .ok (.goto (-25), 3) := by decide +kernel
theorem dX10_mean_72 : decode cX10_mean 72 = .ok (.aload_n 0, 1) := by decide +kernel
theorem dX10_mean_73 : decode cX10_mean 73 = .ok (.lload_n 2, 1) := by decide +kernel
theorem dX10_mean_74 : decode cX10_mean 74 = .ok (.aload_n 0, 1) := by decide +kernel
theorem dX10_mean_75 : decode cX10_mean 75 = .ok (.getfield 17, 3) := by decide +kernel
theorem dX10_mean_78 : decode cX10_mean 78 = .ok (.iload_n 1, 1) := by decide +kernel
theorem dX10_mean_79 : decode cX10_mean 79 = .ok (.iaload, 1) := by decide +kernel
theorem dX10_mean_80 : decode cX10_mean 80 = .ok (.i2l, 1) := by decide +kernel
theorem dX10_mean_81 : decode cX10_mean 81 = .ok (.ldiv, 1) := by decide +kernel
theorem dX10_mean_82 : decode cX10_mean 82 = .ok (.l2i, 1) := by decide +kernel
theorem dX10_mean_83 : decode cX10_mean 83 = .ok (.iconst 1, 1) := by decide +kernel
theorem dX10_mean_84 : decode cX10_mean 84 = .ok (.invokevirtual 123, 3) := by decide +kernel
theorem dX10_mean_87 : decode cX10_mean 87 = .ok (.ireturn, 1) := by decide +kernel
theorem dX10_isText_0 : decode cX10_isText 0 = .ok (.iload_n 0, 1) := by decide +kernel
theorem dX10_isText_1 : decode cX10_isText 1 = .ok (.iconst 0, 1) := by decide +kernel
theorem dX10_isText_2 : decode cX10_isText 2 = .ok (.iconst 3, 1) := by decide +kernel
theorem dX10_isText_3 : decode cX10_isText 3 = .ok (.invokestatic 101, 3) := by decide +kernel
theorem dX10_isText_6 : decode cX10_isText 6 = .ok (.ireturn, 1) := by decide +kernel
theorem dX10_text_0 : decode cX10_text 0 = .ok (.iload_n 1, 1) := by decide +kernel
theorem dX10_text_1 : decode cX10_text 1 = .ok (.invokestatic 126, 3) := by decide +kernel
theorem dX10_text_4 : decode cX10_text 4 = .ok (.ifCond .eq 9, 3) := by decide +kernel
theorem dX10_text_7 : decode cX10_text 7 = .ok (.iload_n 2, 1) := by decide +kernel
theorem dX10_text_8 : decode cX10_text 8 = .ok (.bipush 60, 2) := by decide +kernel
theorem dX10_text_10 : decode cX10_text 10 = .ok (.if_icmp .le 5, 3) := by decide +kernel
theorem dX10_text_13 : decode cX10_text 13 = .ok (.iconst (-1), 1) := by decide +kernel
theorem dX10_text_14 : decode cX10_text 14 = .ok (.ireturn, 1) := by decide +kernel
theorem dX10_text_15 : decode cX10_text 15 = .ok (.iload_n 2, 1) := by decide +kernel
theorem dX10_text_16 : decode cX10_text 16 = .ok (.ifCond .ge 9, 3) := by decide +kernel
theorem dX10_text_19 : decode cX10_text 19 = .ok (.aload_n 0, 1) := by decide +kernel
theorem dX10_text_20 : decode cX10_text 20 = .ok (.iconst 5, 1) := by decide +kernel
theorem dX10_text_21 : decode cX10_text 21 = .ok (.invokevirtual 115, 3) := by decide +kernel
theorem dX10_text_24 : decode cX10_text 24 = .ok (.ireturn, 1) := by decide +kernel
theorem dX10_text_25 : decode cX10_text 25 = .ok (.aload_n 0, 1) := by decide +kernel
theorem dX10_text_26 : decode cX10_text 26 = .ok (.getfield 26, 3) := by decide +kernel
theorem dX10_text_29 : decode cX10_text 29 = .ok (.iload_n 1, 1) := by decide +kernel
theorem dX10_text_30 : decode cX10_text 30 = .ok (.iload_n 2, 1) := by decide +kernel
theorem dX10_text_31 : decode cX10_text 31 = .ok (.iastore, 1) := by decide +kernel
theorem dX10_text_32 : decode cX10_text 32 = .ok (.iconst 0, 1) := by decide +kernel
theorem dX10_text_33 : decode cX10_text 33 = .ok (.istore_n 3, 1) := by decide +kernel
theorem dX10_text_34 : decode cX10_text 34 = .ok (.iload_n 3, 1) := by decide +kernel
theorem dX10_text_35 : decode cX10_text 35 = .ok (.bipush 60, 2) := by decide +kernel
theorem dX10_text_37 : decode cX10_text 37 = .ok (.if_icmp .ge 22, 3) := by decide +kernel
theorem dX10_text_40 : decode cX10_text 40 = .ok (.aload_n 0, 1) := by decide +kernel
theorem dX10_text_41 : decode cX10_text 41 = .ok (.getfield 29, 3) := by decide +kernel
theorem dX10_text_44 : decode cX10_text 44 = .ok (.bipush 60, 2) := by decide +kernel
theorem dX10_text_46 : decode cX10_text 46 = .ok (.iload_n 1, 1) := by decide +kernel
theorem dX10_text_47 : decode cX10_text 47 = .ok (.imul, 1) := by decide +kernel
theorem dX10_text_48 : decode cX10_text 48 = .ok (.iload_n 3, 1) := by decide +kernel
theorem dX10_text_49 : decode cX10_text 49 = .ok (.iadd, 1) := by decide +kernel
theorem dX10_text_50 : decode cX10_text 50 = .ok (.bipush 32, 2) := by decide +kernel
theorem dX10_text_52 : decode cX10_text 52 = .ok (.bastore, 1) := by decide +kernel
theorem dX10_text_53 : decode cX10_text 53 = .ok (.iinc 3 1, 3) := by decide +kernel
theorem dX10_text_56 : decode cX10_text 56 = .ok (.goto (-22), 3) := by decide +kernel
theorem dX10_text_59 : decode cX10_text 59 = .ok (.iload_n 2, 1) := by decide +kernel
theorem dX10_text_60 : decode cX10_text 60 = .ok (.ireturn, 1) := by decide +kernel
theorem dX10_put_0 : decode cX10_put 0 = .ok (.iload_n 1, 1) := by decide +kernel
theorem dX10_put_1 : decode cX10_put 1 = .ok (.invokestatic 126, 3) := by decide +kernel
theorem dX10_put_4 : decode cX10_put 4 = .ok (.ifCond .ne 5, 3) := by decide +kernel
theorem dX10_put_7 : decode cX10_put 7 = .ok (.iconst (-1), 1) := by decide +kernel
theorem dX10_put_8 : decode cX10_put 8 = .ok (.ireturn, 1) := by decide +kernel
theorem dX10_put_9 : decode cX10_put 9 = .ok (.aload_n 0, 1) := by decide +kernel
theorem dX10_put_10 : decode cX10_put 10 = .ok (.getfield 26, 3) := by decide +kernel
theorem dX10_put_13 : decode cX10_put 13 = .ok (.iload_n 1, 1) := by decide +kernel
theorem dX10_put_14 : decode cX10_put 14 = .ok (.iaload, 1) := by decide +kernel
theorem dX10_put_15 : decode cX10_put 15 = .ok (.ifCond .ge 9, 3) := by decide +kernel
theorem dX10_put_18 : decode cX10_put 18 = .ok (.aload_n 0, 1) := by decide +kernel
theorem dX10_put_19 : decode cX10_put 19 = .ok (.iconst 1, 1) := by decide +kernel
theorem dX10_put_20 : decode cX10_put 20 = .ok (.invokevirtual 115, 3) := by decide +kernel
theorem dX10_put_23 : decode cX10_put 23 = .ok (.ireturn, 1) := by decide +kernel
theorem dX10_put_24 : decode cX10_put 24 = .ok (.iload_n 2, 1) := by decide +kernel
theorem dX10_put_25 : decode cX10_put 25 = .ok (.iconst 0, 1) := by decide +kernel
theorem dX10_put_26 : decode cX10_put 26 = .ok (.aload_n 0, 1) := by decide +kernel
theorem dX10_put_27 : decode cX10_put 27 = .ok (.getfield 26, 3) := by decide +kernel
theorem dX10_put_30 : decode cX10_put 30 = .ok (.iload_n 1, 1) := by decide +kernel
theorem dX10_put_31 : decode cX10_put 31 = .ok (.iaload, 1) := by decide +kernel
theorem dX10_put_32 : decode cX10_put 32 = .ok (.iconst 1, 1) := by decide +kernel
theorem dX10_put_33 : decode cX10_put 33 = .ok (.isub, 1) := by decide +kernel
theorem dX10_put_34 : decode cX10_put 34 = .ok (.invokestatic 101, 3) := by decide +kernel
theorem dX10_put_37 : decode cX10_put 37 = .ok (.ifCond .ne 9, 3) := by decide +kernel
theorem dX10_put_40 : decode cX10_put 40 = .ok (.aload_n 0, 1) := by decide +kernel
theorem dX10_put_41 : decode cX10_put 41 = .ok (.iconst 2, 1) := by decide +kernel
theorem dX10_put_42 : decode cX10_put 42 = .ok (.invokevirtual 115, 3) := by decide +kernel
theorem dX10_put_45 : decode cX10_put 45 = .ok (.ireturn, 1) := by decide +kernel
theorem dX10_put_46 : decode cX10_put 46 = .ok (.aload_n 0, 1) := by decide +kernel
theorem dX10_put_47 : decode cX10_put 47 = .ok (.getfield 29, 3) := by decide +kernel
theorem dX10_put_50 : decode cX10_put 50 = .ok (.bipush 60, 2) := by decide +kernel
theorem dX10_put_52 : decode cX10_put 52 = .ok (.iload_n 1, 1) := by decide +kernel
theorem dX10_put_53 : decode cX10_put 53 = .ok (.imul, 1) := by decide +kernel
theorem dX10_put_54 : decode cX10_put 54 = .ok (.iload_n 2, 1) := by decide +kernel
theorem dX10_put_55 : decode cX10_put 55 = .ok (.iadd, 1) := by decide +kernel
theorem dX10_put_56 : decode cX10_put 56 = .ok (.baload, 1) := by decide +kernel
theorem dX10_put_57 : decode cX10_put 57 = .ok (.istore 4, 2) := by decide +kernel
theorem dX10_put_59 : decode cX10_put 59 = .ok (.aload_n 0, 1) := by decide +kernel
theorem dX10_put_60 : decode cX10_put 60 = .ok (.getfield 29, 3) := by decide +kernel
theorem dX10_put_63 : decode cX10_put 63 = .ok (.bipush 60, 2) := by decide +kernel
theorem dX10_put_65 : decode cX10_put 65 = .ok (.iload_n 1, 1) := by decide +kernel
theorem dX10_put_66 : decode cX10_put 66 = .ok (.imul, 1) := by decide +kernel
theorem dX10_put_67 : decode cX10_put 67 = .ok (.iload_n 2, 1) := by decide +kernel
theorem dX10_put_68 : decode cX10_put 68 = .ok (.iadd, 1) := by decide +kernel
theorem dX10_put_69 : decode cX10_put 69 = .ok (.iload_n 3, 1) := by decide +kernel
theorem dX10_put_70 : decode cX10_put 70 = .ok (.i2b, 1) := by decide +kernel
theorem dX10_put_71 : decode cX10_put 71 = .ok (.bastore, 1) := by decide +kernel
theorem dX10_put_72 : decode cX10_put 72 = .ok (.sipush 1000, 3) := by decide +kernel
theorem dX10_put_75 : decode cX10_put 75 = .ok (.iload 4, 2) := by decide +kernel
theorem dX10_put_77 : decode cX10_put 77 = .ok (.iadd, 1) := by decide +kernel
theorem dX10_put_78 : decode cX10_put 78 = .ok (.ireturn, 1) := by decide +kernel
theorem dX10_byteAt_0 : decode cX10_byteAt 0 = .ok (.iload_n 2, 1) := by decide +kernel
theorem dX10_byteAt_1 : decode cX10_byteAt 1 = .ok (.aload_n 0, 1) := by decide +kernel
theorem dX10_byteAt_2 : decode cX10_byteAt 2 = .ok (.getfield 26, 3) := by decide +kernel
theorem dX10_byteAt_5 : decode cX10_byteAt 5 = .ok (.iload_n 1, 1) := by decide +kernel
theorem dX10_byteAt_6 : decode cX10_byteAt 6 = .ok (.iaload, 1) := by decide +kernel
theorem dX10_byteAt_7 : decode cX10_byteAt 7 = .ok (.if_icmp .ge 17, 3) := by decide +kernel
theorem dX10_byteAt_10 : decode cX10_byteAt 10 = .ok (.aload_n 0, 1) := by decide +kernel
theorem dX10_byteAt_11 : decode cX10_byteAt 11 = .ok (.getfield 29, 3) := by decide +kernel
theorem dX10_byteAt_14 : decode cX10_byteAt 14 = .ok (.bipush 60, 2) := by decide +kernel
theorem dX10_byteAt_16 : decode cX10_byteAt 16 = .ok (.iload_n 1, 1) := by decide +kernel
theorem dX10_byteAt_17 : decode cX10_byteAt 17 = .ok (.imul, 1) := by decide +kernel
theorem dX10_byteAt_18 : decode cX10_byteAt 18 = .ok (.iload_n 2, 1) := by decide +kernel
theorem dX10_byteAt_19 : decode cX10_byteAt 19 = .ok (.iadd, 1) := by decide +kernel
theorem dX10_byteAt_20 : decode cX10_byteAt 20 = .ok (.baload, 1) := by decide +kernel
theorem dX10_byteAt_21 : decode cX10_byteAt 21 = .ok (.goto 4, 3) := by decide +kernel
theorem dX10_byteAt_24 : decode cX10_byteAt 24 = .ok (.iconst 0, 1) := by decide +kernel
theorem dX10_byteAt_25 : decode cX10_byteAt 25 = .ok (.ireturn, 1) := by decide +kernel
theorem dX10_layRow_0 : decode cX10_layRow 0 = .ok (.aload_n 0, 1) := by decide +kernel
theorem dX10_layRow_1 : decode cX10_layRow 1 = .ok (.getfield 17, 3) := by decide +kernel
theorem dX10_layRow_4 : decode cX10_layRow 4 = .ok (.iload_n 1, 1) := by decide +kernel
theorem dX10_layRow_5 : decode cX10_layRow 5 = .ok (.iload_n 3, 1) := by decide +kernel
theorem dX10_layRow_6 : decode cX10_layRow 6 = .ok (.iastore, 1) := by decide +kernel
theorem dX10_layRow_7 : decode cX10_layRow 7 = .ok (.iconst 0, 1) := by decide +kernel
theorem dX10_layRow_8 : decode cX10_layRow 8 = .ok (.istore 4, 2) := by decide +kernel
theorem dX10_layRow_10 : decode cX10_layRow 10 = .ok (.iload 4, 2) := by decide +kernel
theorem dX10_layRow_12 : decode cX10_layRow 12 = .ok (.bipush 40, 2) := by decide +kernel
theorem dX10_layRow_14 : decode cX10_layRow 14 = .ok (.if_icmp .ge 35, 3) := by decide +kernel
theorem dX10_layRow_17 : decode cX10_layRow 17 = .ok (.aload_n 0, 1) := by decide +kernel
theorem dX10_layRow_18 : decode cX10_layRow 18 = .ok (.getfield 20, 3) := by decide +kernel
theorem dX10_layRow_21 : decode cX10_layRow 21 = .ok (.bipush 40, 2) := by decide +kernel
theorem dX10_layRow_23 : decode cX10_layRow 23 = .ok (.iload_n 1, 1) := by decide +kernel
theorem dX10_layRow_24 : decode cX10_layRow 24 = .ok (.imul, 1) := by decide +kernel
theorem dX10_layRow_25 : decode cX10_layRow 25 = .ok (.iload 4, 2) := by decide +kernel
theorem dX10_layRow_27 : decode cX10_layRow 27 = .ok (.iadd, 1) := by decide +kernel
theorem dX10_layRow_28 : decode cX10_layRow 28 = .ok (.iload 4, 2) := by decide +kernel
theorem dX10_layRow_30 : decode cX10_layRow 30 = .ok (.iload_n 3, 1) := by decide +kernel
theorem dX10_layRow_31 : decode cX10_layRow 31 = .ok (.if_icmp .ge 10, 3) := by decide +kernel
theorem dX10_layRow_34 : decode cX10_layRow 34 = .ok (.aload_n 2, 1) := by decide +kernel
theorem dX10_layRow_35 : decode cX10_layRow 35 = .ok (.iload 4, 2) := by decide +kernel
theorem dX10_layRow_37 : decode cX10_layRow 37 = .ok (.iaload, 1) := by decide +kernel
theorem dX10_layRow_38 : decode cX10_layRow 38 = .ok (.goto 4, 3) := by decide +kernel
theorem dX10_layRow_41 : decode cX10_layRow 41 = .ok (.iconst 0, 1) := by decide +kernel
theorem dX10_layRow_42 : decode cX10_layRow 42 = .ok (.iastore, 1) := by decide +kernel
theorem dX10_layRow_43 : decode cX10_layRow 43 = .ok (.iinc 4 1, 3) := by decide +kernel
theorem dX10_layRow_46 : decode cX10_layRow 46 = .ok (.goto (-36), 3) := by decide +kernel
theorem dX10_layRow_49 : decode cX10_layRow 49 = .ok (.return_, 1) := by decide +kernel
theorem dX10_kindOf_0 : decode cX10_kindOf 0 = .ok (.iload_n 0, 1) := by decide +kernel
theorem dX10_kindOf_1 : decode cX10_kindOf 1 = .ok (.tableswitch 107 97 116 #[95, 101, 107, 107, 107, 107, 107, 107, 107, 107, 107, 103, 105, 107, 107, 107, 107, 107, 99, 97], 95) := by decide +kernel
theorem dX10_kindOf_96 : decode cX10_kindOf 96 = .ok (.iconst 0, 1) := by decide +kernel
theorem dX10_kindOf_97 : decode cX10_kindOf 97 = .ok (.ireturn, 1) := by decide +kernel
theorem dX10_kindOf_98 : decode cX10_kindOf 98 = .ok (.iconst 1, 1) := by decide +kernel
theorem dX10_kindOf_99 : decode cX10_kindOf 99 = .ok (.ireturn, 1) := by decide +kernel
theorem dX10_kindOf_100 : decode cX10_kindOf 100 = .ok (.iconst 2, 1) := by decide +kernel
theorem dX10_kindOf_101 : decode cX10_kindOf 101 = .ok (.ireturn, 1) := by decide +kernel
theorem dX10_kindOf_102 : decode cX10_kindOf 102 = .ok (.iconst 3, 1) := by decide +kernel
theorem dX10_kindOf_103 : decode cX10_kindOf 103 = .ok (.ireturn, 1) := by decide +kernel
theorem dX10_kindOf_104 : decode cX10_kindOf 104 = .ok (.iconst 4, 1) := by decide +kernel
theorem dX10_kindOf_105 : decode cX10_kindOf 105 = .ok (.ireturn, 1) := by decide +kernel
theorem dX10_kindOf_106 : decode cX10_kindOf 106 = .ok (.iconst 5, 1) := by decide +kernel
theorem dX10_kindOf_107 : decode cX10_kindOf 107 = .ok (.ireturn, 1) := by decide +kernel
theorem dX10_kindOf_108 : decode cX10_kindOf 108 = .ok (.bipush (-9), 2) := by decide +kernel
theorem dX10_kindOf_110 : decode cX10_kindOf 110 = .ok (.ireturn, 1) := by decide +kernel
theorem dX10_figure_0 : decode cX10_figure 0 = .ok (.aload_n 0, 1) := by decide +kernel
theorem dX10_figure_1 : decode cX10_figure 1 = .ok (.aload_n 0, 1) := by decide +kernel
theorem dX10_figure_2 : decode cX10_figure 2 = .ok (.iload_n 1, 1) := by decide +kernel
theorem dX10_figure_3 : decode cX10_figure 3 = .ok (.aload_n 0, 1) := by decide +kernel
theorem dX10_figure_4 : decode cX10_figure 4 = .ok (.getfield 129, 3) := by decide +kernel
theorem dX10_figure_7 : decode cX10_figure 7 = .ok (.invokevirtual 132, 3) := by decide +kernel
theorem dX10_figure_10 : decode cX10_figure 10 = .ok (.bipush 48, 2) := by decide +kernel
theorem dX10_figure_12 : decode cX10_figure 12 = .ok (.isub, 1) := by decide +kernel
theorem dX10_figure_13 : decode cX10_figure 13 = .ok (.putfield 135, 3) := by decide +kernel
theorem dX10_figure_16 : decode cX10_figure 16 = .ok (.aload_n 0, 1) := by decide +kernel
theorem dX10_figure_17 : decode cX10_figure 17 = .ok (.getfield 135, 3) := by decide +kernel
theorem dX10_figure_20 : decode cX10_figure 20 = .ok (.iload_n 2, 1) := by decide +kernel
theorem dX10_figure_21 : decode cX10_figure 21 = .ok (.iload_n 3, 1) := by decide +kernel
theorem dX10_figure_22 : decode cX10_figure 22 = .ok (.invokestatic 101, 3) := by decide +kernel
theorem dX10_figure_25 : decode cX10_figure 25 = .ok (.istore 4, 2) := by decide +kernel
theorem dX10_figure_27 : decode cX10_figure 27 = .ok (.aload_n 0, 1) := by decide +kernel
theorem dX10_figure_28 : decode cX10_figure 28 = .ok (.dup, 1) := by decide +kernel
theorem dX10_figure_29 : decode cX10_figure 29 = .ok (.getfield 129, 3) := by decide +kernel
theorem dX10_figure_32 : decode cX10_figure 32 = .ok (.iload 4, 2) := by decide +kernel
theorem dX10_figure_34 : decode cX10_figure 34 = .ok (.ifCond .eq 7, 3) := by decide +kernel
theorem dX10_figure_37 : decode cX10_figure 37 = .ok (.iconst 1, 1) := by decide +kernel
theorem dX10_figure_38 : decode cX10_figure 38 = .ok (.goto 4, 3) := by decide +kernel
theorem dX10_figure_41 : decode cX10_figure 41 = .ok (.iconst 0, 1) := by decide +kernel
theorem dX10_figure_42 : decode cX10_figure 42 = .ok (.iadd, 1) := by decide +kernel
theorem dX10_figure_43 : decode cX10_figure 43 = .ok (.putfield 129, 3) := by decide +kernel
theorem dX10_figure_46 : decode cX10_figure 46 = .ok (.iload 4, 2) := by decide +kernel
theorem dX10_figure_48 : decode cX10_figure 48 = .ok (.ireturn, 1) := by decide +kernel
theorem dX10_readsRiver_0 : decode cX10_readsRiver 0 = .ok (.aload_n 0, 1) := by decide +kernel
theorem dX10_readsRiver_1 : decode cX10_readsRiver 1 = .ok (.iload_n 1, 1) := by decide +kernel
theorem dX10_readsRiver_2 : decode cX10_readsRiver 2 = .ok (.aload_n 0, 1) := by decide +kernel
theorem dX10_readsRiver_3 : decode cX10_readsRiver 3 = .ok (.getfield 129, 3) := by decide +kernel
theorem dX10_readsRiver_6 : decode cX10_readsRiver 6 = .ok (.invokevirtual 132, 3) := by decide +kernel
theorem dX10_readsRiver_9 : decode cX10_readsRiver 9 = .ok (.bipush 114, 2) := by decide +kernel
theorem dX10_readsRiver_11 : decode cX10_readsRiver 11 = .ok (.if_icmp .eq 5, 3) := by decide +kernel
theorem dX10_readsRiver_14 : decode cX10_readsRiver 14 = .ok (.iconst 0, 1) := by decide +kernel
theorem dX10_readsRiver_15 : decode cX10_readsRiver 15 = .ok (.ireturn, 1) := by decide +kernel
theorem dX10_readsRiver_16 : decode cX10_readsRiver 16 = .ok (.aload_n 0, 1) := by decide +kernel
theorem dX10_readsRiver_17 : decode cX10_readsRiver 17 = .ok (.dup, 1) := by decide +kernel
theorem dX10_readsRiver_18 : decode cX10_readsRiver 18 = .ok (.getfield 129, 3) := by decide +kernel
theorem dX10_readsRiver_21 : decode cX10_readsRiver 21 = .ok (.iconst 1, 1) := by decide +kernel
theorem dX10_readsRiver_22 : decode cX10_readsRiver 22 = .ok (.iadd, 1) := by decide +kernel
theorem dX10_readsRiver_23 : decode cX10_readsRiver 23 = .ok (.putfield 129, 3) := by decide +kernel
theorem dX10_readsRiver_26 : decode cX10_readsRiver 26 = .ok (.aload_n 0, 1) := by decide +kernel
theorem dX10_readsRiver_27 : decode cX10_readsRiver 27 = .ok (.iload_n 1, 1) := by decide +kernel
theorem dX10_readsRiver_28 : decode cX10_readsRiver 28 = .ok (.iconst 1, 1) := by decide +kernel
theorem dX10_readsRiver_29 : decode cX10_readsRiver 29 = .ok (.bipush 9, 2) := by decide +kernel
theorem dX10_readsRiver_31 : decode cX10_readsRiver 31 = .ok (.invokevirtual 138, 3) := by decide +kernel
theorem dX10_readsRiver_34 : decode cX10_readsRiver 34 = .ok (.ifCond .ne 5, 3) := by decide +kernel
theorem dX10_readsRiver_37 : decode cX10_readsRiver 37 = .ok (.iconst 0, 1) := by decide +kernel
theorem dX10_readsRiver_38 : decode cX10_readsRiver 38 = .ok (.ireturn, 1) := by decide +kernel
theorem dX10_readsRiver_39 : decode cX10_readsRiver 39 = .ok (.aload_n 0, 1) := by decide +kernel
theorem dX10_readsRiver_40 : decode cX10_readsRiver 40 = .ok (.iconst 3, 1) := by decide +kernel
theorem dX10_readsRiver_41 : decode cX10_readsRiver 41 = .ok (.aload_n 0, 1) := by decide +kernel
theorem dX10_readsRiver_42 : decode cX10_readsRiver 42 = .ok (.getfield 135, 3) := by decide +kernel
theorem dX10_readsRiver_45 : decode cX10_readsRiver 45 = .ok (.imul, 1) := by decide +kernel
theorem dX10_readsRiver_46 : decode cX10_readsRiver 46 = .ok (.putfield 141, 3) := by decide +kernel
theorem dX10_readsRiver_49 : decode cX10_readsRiver 49 = .ok (.iconst 1, 1) := by decide +kernel
theorem dX10_readsRiver_50 : decode cX10_readsRiver 50 = .ok (.ireturn, 1) := by decide +kernel
theorem dX10_readsArm_0 : decode cX10_readsArm 0 = .ok (.aload_n 0, 1) := by decide +kernel
theorem dX10_readsArm_1 : decode cX10_readsArm 1 = .ok (.iload_n 1, 1) := by decide +kernel
theorem dX10_readsArm_2 : decode cX10_readsArm 2 = .ok (.aload_n 0, 1) := by decide +kernel
theorem dX10_readsArm_3 : decode cX10_readsArm 3 = .ok (.getfield 129, 3) := by decide +kernel
theorem dX10_readsArm_6 : decode cX10_readsArm 6 = .ok (.invokevirtual 132, 3) := by decide +kernel
theorem dX10_readsArm_9 : decode cX10_readsArm 9 = .ok (.invokestatic 144, 3) := by decide +kernel
theorem dX10_readsArm_12 : decode cX10_readsArm 12 = .ok (.istore_n 2, 1) := by decide +kernel
theorem dX10_readsArm_13 : decode cX10_readsArm 13 = .ok (.iload_n 2, 1) := by decide +kernel
theorem dX10_readsArm_14 : decode cX10_readsArm 14 = .ok (.bipush (-9), 2) := by decide +kernel
theorem dX10_readsArm_16 : decode cX10_readsArm 16 = .ok (.if_icmp .eq 18, 3) := by decide +kernel
theorem dX10_readsArm_19 : decode cX10_readsArm 19 = .ok (.aload_n 0, 1) := by decide +kernel
theorem dX10_readsArm_20 : decode cX10_readsArm 20 = .ok (.getfield 147, 3) := by decide +kernel
theorem dX10_readsArm_23 : decode cX10_readsArm 23 = .ok (.iconst 5, 1) := by decide +kernel
theorem dX10_readsArm_24 : decode cX10_readsArm 24 = .ok (.if_icmp .eq 10, 3) := by decide +kernel
theorem dX10_readsArm_27 : decode cX10_readsArm 27 = .ok (.aload_n 0, 1) := by decide +kernel
theorem dX10_readsArm_28 : decode cX10_readsArm 28 = .ok (.getfield 150, 3) := by decide +kernel
theorem dX10_readsArm_31 : decode cX10_readsArm 31 = .ok (.ifCond .le 5, 3) := by decide +kernel
theorem dX10_readsArm_34 : decode cX10_readsArm 34 = .ok (.iconst 0, 1) := by decide +kernel
theorem dX10_readsArm_35 : decode cX10_readsArm 35 = .ok (.ireturn, 1) := by decide +kernel
theorem dX10_readsArm_36 : decode cX10_readsArm 36 = .ok (.iconst 5, 1) := by decide +kernel
theorem dX10_readsArm_37 : decode cX10_readsArm 37 = .ok (.aload_n 0, 1) := by decide +kernel
theorem dX10_readsArm_38 : decode cX10_readsArm 38 = .ok (.getfield 147, 3) := by decide +kernel
theorem dX10_readsArm_41 : decode cX10_readsArm 41 = .ok (.imul, 1) := by decide +kernel
theorem dX10_readsArm_42 : decode cX10_readsArm 42 = .ok (.istore_n 3, 1) := by decide +kernel
theorem dX10_readsArm_43 : decode cX10_readsArm 43 = .ok (.aload_n 0, 1) := by decide +kernel
theorem dX10_readsArm_44 : decode cX10_readsArm 44 = .ok (.dup, 1) := by decide +kernel
theorem dX10_readsArm_45 : decode cX10_readsArm 45 = .ok (.getfield 129, 3) := by decide +kernel
theorem dX10_readsArm_48 : decode cX10_readsArm 48 = .ok (.iconst 1, 1) := by decide +kernel
theorem dX10_readsArm_49 : decode cX10_readsArm 49 = .ok (.iadd, 1) := by decide +kernel
theorem dX10_readsArm_50 : decode cX10_readsArm 50 = .ok (.putfield 129, 3) := by decide +kernel
theorem dX10_readsArm_53 : decode cX10_readsArm 53 = .ok (.aload_n 0, 1) := by decide +kernel
theorem dX10_readsArm_54 : decode cX10_readsArm 54 = .ok (.getfield 51, 3) := by decide +kernel
theorem dX10_readsArm_57 : decode cX10_readsArm 57 = .ok (.iload_n 3, 1) := by decide +kernel
theorem dX10_readsArm_58 : decode cX10_readsArm 58 = .ok (.iload_n 2, 1) := by decide +kernel
theorem dX10_readsArm_59 : decode cX10_readsArm 59 = .ok (.iastore, 1) := by decide +kernel
theorem dX10_readsArm_60 : decode cX10_readsArm 60 = .ok (.iconst 1, 1) := by decide +kernel
theorem dX10_readsArm_61 : decode cX10_readsArm 61 = .ok (.istore 4, 2) := by decide +kernel
theorem dX10_readsArm_63 : decode cX10_readsArm 63 = .ok (.iload 4, 2) := by decide +kernel
theorem dX10_readsArm_65 : decode cX10_readsArm 65 = .ok (.iconst 5, 1) := by decide +kernel
theorem dX10_readsArm_66 : decode cX10_readsArm 66 = .ok (.if_icmp .ge 98, 3) := by decide +kernel
theorem dX10_readsArm_69 : decode cX10_readsArm 69 = .ok (.iload 4, 2) := by decide +kernel
theorem dX10_readsArm_71 : decode cX10_readsArm 71 = .ok (.iconst 1, 1) := by decide +kernel
theorem dX10_readsArm_72 : decode cX10_readsArm 72 = .ok (.if_icmp .ne 14, 3) := by decide +kernel
theorem dX10_readsArm_75 : decode cX10_readsArm 75 = .ok (.aload_n 0, 1) := by decide +kernel
theorem dX10_readsArm_76 : decode cX10_readsArm 76 = .ok (.iload_n 1, 1) := by decide +kernel
theorem dX10_readsArm_77 : decode cX10_readsArm 77 = .ok (.iconst 1, 1) := by decide +kernel
theorem dX10_readsArm_78 : decode cX10_readsArm 78 = .ok (.bipush 9, 2) := by decide +kernel
theorem dX10_readsArm_80 : decode cX10_readsArm 80 = .ok (.invokevirtual 138, 3) := by decide +kernel
theorem dX10_readsArm_83 : decode cX10_readsArm 83 = .ok (.goto 53, 3) := by decide +kernel
theorem dX10_readsArm_86 : decode cX10_readsArm 86 = .ok (.iload 4, 2) := by decide +kernel
theorem dX10_readsArm_88 : decode cX10_readsArm 88 = .ok (.iconst 2, 1) := by decide +kernel
theorem dX10_readsArm_89 : decode cX10_readsArm 89 = .ok (.if_icmp .ne 14, 3) := by decide +kernel
theorem dX10_readsArm_92 : decode cX10_readsArm 92 = .ok (.aload_n 0, 1) := by decide +kernel
theorem dX10_readsArm_93 : decode cX10_readsArm 93 = .ok (.iload_n 1, 1) := by decide +kernel
theorem dX10_readsArm_94 : decode cX10_readsArm 94 = .ok (.iconst 0, 1) := by decide +kernel
theorem dX10_readsArm_95 : decode cX10_readsArm 95 = .ok (.bipush 9, 2) := by decide +kernel
theorem dX10_readsArm_97 : decode cX10_readsArm 97 = .ok (.invokevirtual 138, 3) := by decide +kernel
theorem dX10_readsArm_100 : decode cX10_readsArm 100 = .ok (.goto 36, 3) := by decide +kernel
theorem dX10_readsArm_103 : decode cX10_readsArm 103 = .ok (.iload 4, 2) := by decide +kernel
theorem dX10_readsArm_105 : decode cX10_readsArm 105 = .ok (.iconst 3, 1) := by decide +kernel
theorem dX10_readsArm_106 : decode cX10_readsArm 106 = .ok (.if_icmp .ne 14, 3) := by decide +kernel
theorem dX10_readsArm_109 : decode cX10_readsArm 109 = .ok (.aload_n 0, 1) := by decide +kernel
theorem dX10_readsArm_110 : decode cX10_readsArm 110 = .ok (.iload_n 1, 1) := by decide +kernel
theorem dX10_readsArm_111 : decode cX10_readsArm 111 = .ok (.iconst 1, 1) := by decide +kernel
theorem dX10_readsArm_112 : decode cX10_readsArm 112 = .ok (.bipush 6, 2) := by decide +kernel
theorem dX10_readsArm_114 : decode cX10_readsArm 114 = .ok (.invokevirtual 138, 3) := by decide +kernel
theorem dX10_readsArm_117 : decode cX10_readsArm 117 = .ok (.goto 19, 3) := by decide +kernel
theorem dX10_readsArm_120 : decode cX10_readsArm 120 = .ok (.aload_n 0, 1) := by decide +kernel
theorem dX10_readsArm_121 : decode cX10_readsArm 121 = .ok (.iload_n 1, 1) := by decide +kernel
theorem dX10_readsArm_122 : decode cX10_readsArm 122 = .ok (.iconst 0, 1) := by decide +kernel
theorem dX10_readsArm_123 : decode cX10_readsArm 123 = .ok (.aload_n 0, 1) := by decide +kernel
theorem dX10_readsArm_124 : decode cX10_readsArm 124 = .ok (.getfield 51, 3) := by decide +kernel
theorem dX10_readsArm_127 : decode cX10_readsArm 127 = .ok (.iload_n 3, 1) := by decide +kernel
theorem dX10_readsArm_128 : decode cX10_readsArm 128 = .ok (.iconst 3, 1) := by decide +kernel
theorem dX10_readsArm_129 : decode cX10_readsArm 129 = .ok (.iadd, 1) := by decide +kernel
theorem dX10_readsArm_130 : decode cX10_readsArm 130 = .ok (.iaload, 1) := by decide +kernel
theorem dX10_readsArm_131 : decode cX10_readsArm 131 = .ok (.iconst 1, 1) := by decide +kernel
theorem dX10_readsArm_132 : decode cX10_readsArm 132 = .ok (.isub, 1) := by decide +kernel
theorem dX10_readsArm_133 : decode cX10_readsArm 133 = .ok (.invokevirtual 138, 3) := by decide +kernel
theorem dX10_readsArm_136 : decode cX10_readsArm 136 = .ok (.istore 5, 2) := by decide +kernel
theorem dX10_readsArm_138 : decode cX10_readsArm 138 = .ok (.iload 5, 2) := by decide +kernel
theorem dX10_readsArm_140 : decode cX10_readsArm 140 = .ok (.ifCond .ne 5, 3) := by decide +kernel
theorem dX10_readsArm_143 : decode cX10_readsArm 143 = .ok (.iconst 0, 1) := by decide +kernel
theorem dX10_readsArm_144 : decode cX10_readsArm 144 = .ok (.ireturn, 1) := by decide +kernel
theorem dX10_readsArm_145 : decode cX10_readsArm 145 = .ok (.aload_n 0, 1) := by decide +kernel
theorem dX10_readsArm_146 : decode cX10_readsArm 146 = .ok (.getfield 51, 3) := by decide +kernel
theorem dX10_readsArm_149 : decode cX10_readsArm 149 = .ok (.iload_n 3, 1) := by decide +kernel
theorem dX10_readsArm_150 : decode cX10_readsArm 150 = .ok (.iload 4, 2) := by decide +kernel
theorem dX10_readsArm_152 : decode cX10_readsArm 152 = .ok (.iadd, 1) := by decide +kernel
theorem dX10_readsArm_153 : decode cX10_readsArm 153 = .ok (.aload_n 0, 1) := by decide +kernel
theorem dX10_readsArm_154 : decode cX10_readsArm 154 = .ok (.getfield 135, 3) := by decide +kernel
theorem dX10_readsArm_157 : decode cX10_readsArm 157 = .ok (.iastore, 1) := by decide +kernel
theorem dX10_readsArm_158 : decode cX10_readsArm 158 = .ok (.iinc 4 1, 3) := by decide +kernel
theorem dX10_readsArm_161 : decode cX10_readsArm 161 = .ok (.goto (-98), 3) := by decide +kernel
theorem dX10_readsArm_164 : decode cX10_readsArm 164 = .ok (.aload_n 0, 1) := by decide +kernel
theorem dX10_readsArm_165 : decode cX10_readsArm 165 = .ok (.dup, 1) := by decide +kernel
theorem dX10_readsArm_166 : decode cX10_readsArm 166 = .ok (.getfield 147, 3) := by decide +kernel
theorem dX10_readsArm_169 : decode cX10_readsArm 169 = .ok (.iconst 1, 1) := by decide +kernel
theorem dX10_readsArm_170 : decode cX10_readsArm 170 = .ok (.iadd, 1) := by decide +kernel
theorem dX10_readsArm_171 : decode cX10_readsArm 171 = .ok (.putfield 147, 3) := by decide +kernel
theorem dX10_readsArm_174 : decode cX10_readsArm 174 = .ok (.iconst 1, 1) := by decide +kernel
theorem dX10_readsArm_175 : decode cX10_readsArm 175 = .ok (.ireturn, 1) := by decide +kernel
theorem dX10_readsWait_0 : decode cX10_readsWait 0 = .ok (.aload_n 0, 1) := by decide +kernel
theorem dX10_readsWait_1 : decode cX10_readsWait 1 = .ok (.getfield 147, 3) := by decide +kernel
theorem dX10_readsWait_4 : decode cX10_readsWait 4 = .ok (.ifCond .eq 12, 3) := by decide +kernel
theorem dX10_readsWait_7 : decode cX10_readsWait 7 = .ok (.aload_n 0, 1) := by decide +kernel
theorem dX10_readsWait_8 : decode cX10_readsWait 8 = .ok (.getfield 150, 3) := by decide +kernel
theorem dX10_readsWait_11 : decode cX10_readsWait 11 = .ok (.bipush 8, 2) := by decide +kernel
theorem dX10_readsWait_13 : decode cX10_readsWait 13 = .ok (.if_icmp .ne 5, 3) := by decide +kernel
theorem dX10_readsWait_16 : decode cX10_readsWait 16 = .ok (.iconst 0, 1) := by decide +kernel
theorem dX10_readsWait_17 : decode cX10_readsWait 17 = .ok (.ireturn, 1) := by decide +kernel
theorem dX10_readsWait_18 : decode cX10_readsWait 18 = .ok (.aload_n 0, 1) := by decide +kernel
theorem dX10_readsWait_19 : decode cX10_readsWait 19 = .ok (.dup, 1) := by decide +kernel
theorem dX10_readsWait_20 : decode cX10_readsWait 20 = .ok (.getfield 129, 3) := by decide +kernel
theorem dX10_readsWait_23 : decode cX10_readsWait 23 = .ok (.iconst 1, 1) := by decide +kernel
theorem dX10_readsWait_24 : decode cX10_readsWait 24 = .ok (.iadd, 1) := by decide +kernel
theorem dX10_readsWait_25 : decode cX10_readsWait 25 = .ok (.putfield 129, 3) := by decide +kernel
theorem dX10_readsWait_28 : decode cX10_readsWait 28 = .ok (.aload_n 0, 1) := by decide +kernel
theorem dX10_readsWait_29 : decode cX10_readsWait 29 = .ok (.iload_n 1, 1) := by decide +kernel
theorem dX10_readsWait_30 : decode cX10_readsWait 30 = .ok (.iconst 0, 1) := by decide +kernel
theorem dX10_readsWait_31 : decode cX10_readsWait 31 = .ok (.aload_n 0, 1) := by decide +kernel
theorem dX10_readsWait_32 : decode cX10_readsWait 32 = .ok (.getfield 147, 3) := by decide +kernel
theorem dX10_readsWait_35 : decode cX10_readsWait 35 = .ok (.iconst 1, 1) := by decide +kernel
theorem dX10_readsWait_36 : decode cX10_readsWait 36 = .ok (.isub, 1) := by decide +kernel
theorem dX10_readsWait_37 : decode cX10_readsWait 37 = .ok (.invokevirtual 138, 3) := by decide +kernel
theorem dX10_readsWait_40 : decode cX10_readsWait 40 = .ok (.ifCond .ne 5, 3) := by decide +kernel
theorem dX10_readsWait_43 : decode cX10_readsWait 43 = .ok (.iconst 0, 1) := by decide +kernel
theorem dX10_readsWait_44 : decode cX10_readsWait 44 = .ok (.ireturn, 1) := by decide +kernel
theorem dX10_readsWait_45 : decode cX10_readsWait 45 = .ok (.aload_n 0, 1) := by decide +kernel
theorem dX10_readsWait_46 : decode cX10_readsWait 46 = .ok (.getfield 135, 3) := by decide +kernel
theorem dX10_readsWait_49 : decode cX10_readsWait 49 = .ok (.istore_n 2, 1) := by decide +kernel
theorem dX10_readsWait_50 : decode cX10_readsWait 50 = .ok (.aload_n 0, 1) := by decide +kernel
theorem dX10_readsWait_51 : decode cX10_readsWait 51 = .ok (.iload_n 1, 1) := by decide +kernel
theorem dX10_readsWait_52 : decode cX10_readsWait 52 = .ok (.aload_n 0, 1) := by decide +kernel
theorem dX10_readsWait_53 : decode cX10_readsWait 53 = .ok (.getfield 129, 3) := by decide +kernel
theorem dX10_readsWait_56 : decode cX10_readsWait 56 = .ok (.invokevirtual 132, 3) := by decide +kernel
theorem dX10_readsWait_59 : decode cX10_readsWait 59 = .ok (.bipush 48, 2) := by decide +kernel
theorem dX10_readsWait_61 : decode cX10_readsWait 61 = .ok (.isub, 1) := by decide +kernel
theorem dX10_readsWait_62 : decode cX10_readsWait 62 = .ok (.istore_n 3, 1) := by decide +kernel
theorem dX10_readsWait_63 : decode cX10_readsWait 63 = .ok (.iload_n 3, 1) := by decide +kernel
theorem dX10_readsWait_64 : decode cX10_readsWait 64 = .ok (.iconst 0, 1) := by decide +kernel
theorem dX10_readsWait_65 : decode cX10_readsWait 65 = .ok (.aload_n 0, 1) := by decide +kernel
theorem dX10_readsWait_66 : decode cX10_readsWait 66 = .ok (.getfield 147, 3) := by decide +kernel
theorem dX10_readsWait_69 : decode cX10_readsWait 69 = .ok (.iconst 1, 1) := by decide +kernel
theorem dX10_readsWait_70 : decode cX10_readsWait 70 = .ok (.isub, 1) := by decide +kernel
theorem dX10_readsWait_71 : decode cX10_readsWait 71 = .ok (.invokestatic 101, 3) := by decide +kernel
theorem dX10_readsWait_74 : decode cX10_readsWait 74 = .ok (.ifCond .eq 21, 3) := by decide +kernel
theorem dX10_readsWait_77 : decode cX10_readsWait 77 = .ok (.iload_n 3, 1) := by decide +kernel
theorem dX10_readsWait_78 : decode cX10_readsWait 78 = .ok (.iload_n 2, 1) := by decide +kernel
theorem dX10_readsWait_79 : decode cX10_readsWait 79 = .ok (.if_icmp .eq 16, 3) := by decide +kernel
theorem dX10_readsWait_82 : decode cX10_readsWait 82 = .ok (.aload_n 0, 1) := by decide +kernel
theorem dX10_readsWait_83 : decode cX10_readsWait 83 = .ok (.getfield 54, 3) := by decide +kernel
theorem dX10_readsWait_86 : decode cX10_readsWait 86 = .ok (.iload_n 2, 1) := by decide +kernel
theorem dX10_readsWait_87 : decode cX10_readsWait 87 = .ok (.iaload, 1) := by decide +kernel
theorem dX10_readsWait_88 : decode cX10_readsWait 88 = .ok (.iload_n 3, 1) := by decide +kernel
theorem dX10_readsWait_89 : decode cX10_readsWait 89 = .ok (.invokestatic 153, 3) := by decide +kernel
theorem dX10_readsWait_92 : decode cX10_readsWait 92 = .ok (.ifCond .eq 5, 3) := by decide +kernel
theorem dX10_readsWait_95 : decode cX10_readsWait 95 = .ok (.iconst 0, 1) := by decide +kernel
theorem dX10_readsWait_96 : decode cX10_readsWait 96 = .ok (.ireturn, 1) := by decide +kernel
theorem dX10_readsWait_97 : decode cX10_readsWait 97 = .ok (.aload_n 0, 1) := by decide +kernel
theorem dX10_readsWait_98 : decode cX10_readsWait 98 = .ok (.dup, 1) := by decide +kernel
theorem dX10_readsWait_99 : decode cX10_readsWait 99 = .ok (.getfield 129, 3) := by decide +kernel
theorem dX10_readsWait_102 : decode cX10_readsWait 102 = .ok (.iconst 1, 1) := by decide +kernel
theorem dX10_readsWait_103 : decode cX10_readsWait 103 = .ok (.iadd, 1) := by decide +kernel
theorem dX10_readsWait_104 : decode cX10_readsWait 104 = .ok (.putfield 129, 3) := by decide +kernel
theorem dX10_readsWait_107 : decode cX10_readsWait 107 = .ok (.aload_n 0, 1) := by decide +kernel
theorem dX10_readsWait_108 : decode cX10_readsWait 108 = .ok (.getfield 54, 3) := by decide +kernel
theorem dX10_readsWait_111 : decode cX10_readsWait 111 = .ok (.iload_n 2, 1) := by decide +kernel
theorem dX10_readsWait_112 : decode cX10_readsWait 112 = .ok (.dup2, 1) := by decide +kernel
theorem dX10_readsWait_113 : decode cX10_readsWait 113 = .ok (.iaload, 1) := by decide +kernel
theorem dX10_readsWait_114 : decode cX10_readsWait 114 = .ok (.iconst 1, 1) := by decide +kernel
theorem dX10_readsWait_115 : decode cX10_readsWait 115 = .ok (.iload_n 3, 1) := by decide +kernel
theorem dX10_readsWait_116 : decode cX10_readsWait 116 = .ok (.ishl, 1) := by decide +kernel
theorem dX10_readsWait_117 : decode cX10_readsWait 117 = .ok (.ior, 1) := by decide +kernel
theorem dX10_readsWait_118 : decode cX10_readsWait 118 = .ok (.iastore, 1) := by decide +kernel
theorem dX10_readsWait_119 : decode cX10_readsWait 119 = .ok (.aload_n 0, 1) := by decide +kernel
theorem dX10_readsWait_120 : decode cX10_readsWait 120 = .ok (.dup, 1) := by decide +kernel
theorem dX10_readsWait_121 : decode cX10_readsWait 121 = .ok (.getfield 150, 3) := by decide +kernel
theorem dX10_readsWait_124 : decode cX10_readsWait 124 = .ok (.iconst 1, 1) := by decide +kernel
theorem dX10_readsWait_125 : decode cX10_readsWait 125 = .ok (.iadd, 1) := by decide +kernel
theorem dX10_readsWait_126 : decode cX10_readsWait 126 = .ok (.putfield 150, 3) := by decide +kernel
theorem dX10_readsWait_129 : decode cX10_readsWait 129 = .ok (.iconst 1, 1) := by decide +kernel
theorem dX10_readsWait_130 : decode cX10_readsWait 130 = .ok (.ireturn, 1) := by decide +kernel
theorem dX10_readsItem_0 : decode cX10_readsItem 0 = .ok (.aload_n 0, 1) := by decide +kernel
theorem dX10_readsItem_1 : decode cX10_readsItem 1 = .ok (.getfield 141, 3) := by decide +kernel
theorem dX10_readsItem_4 : decode cX10_readsItem 4 = .ok (.ifCond .ne 9, 3) := by decide +kernel
theorem dX10_readsItem_7 : decode cX10_readsItem 7 = .ok (.aload_n 0, 1) := by decide +kernel
theorem dX10_readsItem_8 : decode cX10_readsItem 8 = .ok (.iload_n 1, 1) := by decide +kernel
theorem dX10_readsItem_9 : decode cX10_readsItem 9 = .ok (.invokevirtual 157, 3) := by decide +kernel
theorem dX10_readsItem_12 : decode cX10_readsItem 12 = .ok (.ireturn, 1) := by decide +kernel
theorem dX10_readsItem_13 : decode cX10_readsItem 13 = .ok (.aload_n 0, 1) := by decide +kernel
theorem dX10_readsItem_14 : decode cX10_readsItem 14 = .ok (.iload_n 1, 1) := by decide +kernel
theorem dX10_readsItem_15 : decode cX10_readsItem 15 = .ok (.aload_n 0, 1) := by decide +kernel
theorem dX10_readsItem_16 : decode cX10_readsItem 16 = .ok (.getfield 129, 3) := by decide +kernel
theorem dX10_readsItem_19 : decode cX10_readsItem 19 = .ok (.invokevirtual 132, 3) := by decide +kernel
theorem dX10_readsItem_22 : decode cX10_readsItem 22 = .ok (.bipush 119, 2) := by decide +kernel
theorem dX10_readsItem_24 : decode cX10_readsItem 24 = .ok (.if_icmp .ne 11, 3) := by decide +kernel
theorem dX10_readsItem_27 : decode cX10_readsItem 27 = .ok (.aload_n 0, 1) := by decide +kernel
theorem dX10_readsItem_28 : decode cX10_readsItem 28 = .ok (.iload_n 1, 1) := by decide +kernel
theorem dX10_readsItem_29 : decode cX10_readsItem 29 = .ok (.invokevirtual 160, 3) := by decide +kernel
theorem dX10_readsItem_32 : decode cX10_readsItem 32 = .ok (.goto 8, 3) := by decide +kernel
theorem dX10_readsItem_35 : decode cX10_readsItem 35 = .ok (.aload_n 0, 1) := by decide +kernel
theorem dX10_readsItem_36 : decode cX10_readsItem 36 = .ok (.iload_n 1, 1) := by decide +kernel
theorem dX10_readsItem_37 : decode cX10_readsItem 37 = .ok (.invokevirtual 163, 3) := by decide +kernel
theorem dX10_readsItem_40 : decode cX10_readsItem 40 = .ok (.ireturn, 1) := by decide +kernel
theorem dX10_faultOf_0 : decode cX10_faultOf 0 = .ok (.aload_n 0, 1) := by decide +kernel
theorem dX10_faultOf_1 : decode cX10_faultOf 1 = .ok (.iconst 0, 1) := by decide +kernel
theorem dX10_faultOf_2 : decode cX10_faultOf 2 = .ok (.putfield 129, 3) := by decide +kernel
theorem dX10_faultOf_5 : decode cX10_faultOf 5 = .ok (.aload_n 0, 1) := by decide +kernel
theorem dX10_faultOf_6 : decode cX10_faultOf 6 = .ok (.iconst 0, 1) := by decide +kernel
theorem dX10_faultOf_7 : decode cX10_faultOf 7 = .ok (.putfield 141, 3) := by decide +kernel
theorem dX10_faultOf_10 : decode cX10_faultOf 10 = .ok (.aload_n 0, 1) := by decide +kernel
theorem dX10_faultOf_11 : decode cX10_faultOf 11 = .ok (.iconst 0, 1) := by decide +kernel
theorem dX10_faultOf_12 : decode cX10_faultOf 12 = .ok (.putfield 147, 3) := by decide +kernel
theorem dX10_faultOf_15 : decode cX10_faultOf 15 = .ok (.aload_n 0, 1) := by decide +kernel
theorem dX10_faultOf_16 : decode cX10_faultOf 16 = .ok (.iconst 0, 1) := by decide +kernel
theorem dX10_faultOf_17 : decode cX10_faultOf 17 = .ok (.putfield 150, 3) := by decide +kernel
theorem dX10_faultOf_20 : decode cX10_faultOf 20 = .ok (.iconst 0, 1) := by decide +kernel
theorem dX10_faultOf_21 : decode cX10_faultOf 21 = .ok (.istore_n 2, 1) := by decide +kernel
theorem dX10_faultOf_22 : decode cX10_faultOf 22 = .ok (.iload_n 2, 1) := by decide +kernel
theorem dX10_faultOf_23 : decode cX10_faultOf 23 = .ok (.iconst 5, 1) := by decide +kernel
theorem dX10_faultOf_24 : decode cX10_faultOf 24 = .ok (.if_icmp .ge 16, 3) := by decide +kernel
theorem dX10_faultOf_27 : decode cX10_faultOf 27 = .ok (.aload_n 0, 1) := by decide +kernel
theorem dX10_faultOf_28 : decode cX10_faultOf 28 = .ok (.getfield 54, 3) := by decide +kernel
theorem dX10_faultOf_31 : decode cX10_faultOf 31 = .ok (.iload_n 2, 1) := by decide +kernel
theorem dX10_faultOf_32 : decode cX10_faultOf 32 = .ok (.iconst 0, 1) := by decide +kernel
theorem dX10_faultOf_33 : decode cX10_faultOf 33 = .ok (.iastore, 1) := by decide +kernel
theorem dX10_faultOf_34 : decode cX10_faultOf 34 = .ok (.iinc 2 1, 3) := by decide +kernel
theorem dX10_faultOf_37 : decode cX10_faultOf 37 = .ok (.goto (-15), 3) := by decide +kernel
theorem dX10_faultOf_40 : decode cX10_faultOf 40 = .ok (.aload_n 0, 1) := by decide +kernel
theorem dX10_faultOf_41 : decode cX10_faultOf 41 = .ok (.getfield 129, 3) := by decide +kernel
theorem dX10_faultOf_44 : decode cX10_faultOf 44 = .ok (.aload_n 0, 1) := by decide +kernel
theorem dX10_faultOf_45 : decode cX10_faultOf 45 = .ok (.getfield 26, 3) := by decide +kernel
theorem dX10_faultOf_48 : decode cX10_faultOf 48 = .ok (.iload_n 1, 1) := by decide +kernel
theorem dX10_faultOf_49 : decode cX10_faultOf 49 = .ok (.iaload, 1) := by decide +kernel
theorem dX10_faultOf_50 : decode cX10_faultOf 50 = .ok (.if_icmp .ge 43, 3) := by decide +kernel
theorem dX10_faultOf_53 : decode cX10_faultOf 53 = .ok (.aload_n 0, 1) := by decide +kernel
theorem dX10_faultOf_54 : decode cX10_faultOf 54 = .ok (.iload_n 1, 1) := by decide +kernel
theorem dX10_faultOf_55 : decode cX10_faultOf 55 = .ok (.aload_n 0, 1) := by decide +kernel
theorem dX10_faultOf_56 : decode cX10_faultOf 56 = .ok (.getfield 129, 3) := by decide +kernel
theorem dX10_faultOf_59 : decode cX10_faultOf 59 = .ok (.invokevirtual 132, 3) := by decide +kernel
theorem dX10_faultOf_62 : decode cX10_faultOf 62 = .ok (.bipush 32, 2) := by decide +kernel
theorem dX10_faultOf_64 : decode cX10_faultOf 64 = .ok (.if_icmp .ne 16, 3) := by decide +kernel
theorem dX10_faultOf_67 : decode cX10_faultOf 67 = .ok (.aload_n 0, 1) := by decide +kernel
theorem dX10_faultOf_68 : decode cX10_faultOf 68 = .ok (.dup, 1) := by decide +kernel
theorem dX10_faultOf_69 : decode cX10_faultOf 69 = .ok (.getfield 129, 3) := by decide +kernel
theorem dX10_faultOf_72 : decode cX10_faultOf 72 = .ok (.iconst 1, 1) := by decide +kernel
theorem dX10_faultOf_73 : decode cX10_faultOf 73 = .ok (.iadd, 1) := by decide +kernel
theorem dX10_faultOf_74 : decode cX10_faultOf 74 = .ok (.putfield 129, 3) := by decide +kernel
theorem dX10_faultOf_77 : decode cX10_faultOf 77 = .ok (.goto (-37), 3) := by decide +kernel
theorem dX10_faultOf_80 : decode cX10_faultOf 80 = .ok (.aload_n 0, 1) := by decide +kernel
theorem dX10_faultOf_81 : decode cX10_faultOf 81 = .ok (.iload_n 1, 1) := by decide +kernel
theorem dX10_faultOf_82 : decode cX10_faultOf 82 = .ok (.invokevirtual 166, 3) := by decide +kernel
theorem dX10_faultOf_85 : decode cX10_faultOf 85 = .ok (.ifCond .ne (-45), 3) := by decide +kernel
theorem dX10_faultOf_88 : decode cX10_faultOf 88 = .ok (.aload_n 0, 1) := by decide +kernel
theorem dX10_faultOf_89 : decode cX10_faultOf 89 = .ok (.getfield 129, 3) := by decide +kernel
theorem dX10_faultOf_92 : decode cX10_faultOf 92 = .ok (.ireturn, 1) := by decide +kernel
theorem dX10_faultOf_93 : decode cX10_faultOf 93 = .ok (.aload_n 0, 1) := by decide +kernel
theorem dX10_faultOf_94 : decode cX10_faultOf 94 = .ok (.getfield 147, 3) := by decide +kernel
theorem dX10_faultOf_97 : decode cX10_faultOf 97 = .ok (.ifCond .ne 12, 3) := by decide +kernel
theorem dX10_faultOf_100 : decode cX10_faultOf 100 = .ok (.aload_n 0, 1) := by decide +kernel
theorem dX10_faultOf_101 : decode cX10_faultOf 101 = .ok (.getfield 26, 3) := by decide +kernel
theorem dX10_faultOf_104 : decode cX10_faultOf 104 = .ok (.iload_n 1, 1) := by decide +kernel
theorem dX10_faultOf_105 : decode cX10_faultOf 105 = .ok (.iaload, 1) := by decide +kernel
theorem dX10_faultOf_106 : decode cX10_faultOf 106 = .ok (.goto 5, 3) := by decide +kernel
theorem dX10_faultOf_109 : decode cX10_faultOf 109 = .ok (.bipush (-9), 2) := by decide +kernel
theorem dX10_faultOf_111 : decode cX10_faultOf 111 = .ok (.ireturn, 1) := by decide +kernel
theorem dX10_fault_0 : decode cX10_fault 0 = .ok (.iload_n 1, 1) := by decide +kernel
theorem dX10_fault_1 : decode cX10_fault 1 = .ok (.invokestatic 126, 3) := by decide +kernel
theorem dX10_fault_4 : decode cX10_fault 4 = .ok (.ifCond .ne 5, 3) := by decide +kernel
theorem dX10_fault_7 : decode cX10_fault 7 = .ok (.iconst (-1), 1) := by decide +kernel
theorem dX10_fault_8 : decode cX10_fault 8 = .ok (.ireturn, 1) := by decide +kernel
theorem dX10_fault_9 : decode cX10_fault 9 = .ok (.aload_n 0, 1) := by decide +kernel
theorem dX10_fault_10 : decode cX10_fault 10 = .ok (.getfield 26, 3) := by decide +kernel
theorem dX10_fault_13 : decode cX10_fault 13 = .ok (.iload_n 1, 1) := by decide +kernel
theorem dX10_fault_14 : decode cX10_fault 14 = .ok (.iaload, 1) := by decide +kernel
theorem dX10_fault_15 : decode cX10_fault 15 = .ok (.ifCond .ge 11, 3) := by decide +kernel
theorem dX10_fault_18 : decode cX10_fault 18 = .ok (.aload_n 0, 1) := by decide +kernel
theorem dX10_fault_19 : decode cX10_fault 19 = .ok (.iconst 1, 1) := by decide +kernel
theorem dX10_fault_20 : decode cX10_fault 20 = .ok (.invokevirtual 115, 3) := by decide +kernel
theorem dX10_fault_23 : decode cX10_fault 23 = .ok (.goto 8, 3) := by decide +kernel
theorem dX10_fault_26 : decode cX10_fault 26 = .ok (.aload_n 0, 1) := by decide +kernel
theorem dX10_fault_27 : decode cX10_fault 27 = .ok (.iload_n 1, 1) := by decide +kernel
theorem dX10_fault_28 : decode cX10_fault 28 = .ok (.invokevirtual 169, 3) := by decide +kernel
theorem dX10_fault_31 : decode cX10_fault 31 = .ok (.ireturn, 1) := by decide +kernel
theorem dX10_delta_0 : decode cX10_delta 0 = .ok (.iload_n 1, 1) := by decide +kernel
theorem dX10_delta_1 : decode cX10_delta 1 = .ok (.invokestatic 126, 3) := by decide +kernel
theorem dX10_delta_4 : decode cX10_delta 4 = .ok (.ifCond .ne 5, 3) := by decide +kernel
theorem dX10_delta_7 : decode cX10_delta 7 = .ok (.iconst (-1), 1) := by decide +kernel
theorem dX10_delta_8 : decode cX10_delta 8 = .ok (.ireturn, 1) := by decide +kernel
theorem dX10_delta_9 : decode cX10_delta 9 = .ok (.aload_n 0, 1) := by decide +kernel
theorem dX10_delta_10 : decode cX10_delta 10 = .ok (.getfield 26, 3) := by decide +kernel
theorem dX10_delta_13 : decode cX10_delta 13 = .ok (.iload_n 1, 1) := by decide +kernel
theorem dX10_delta_14 : decode cX10_delta 14 = .ok (.iaload, 1) := by decide +kernel
theorem dX10_delta_15 : decode cX10_delta 15 = .ok (.ifCond .ge 9, 3) := by decide +kernel
theorem dX10_delta_18 : decode cX10_delta 18 = .ok (.aload_n 0, 1) := by decide +kernel
theorem dX10_delta_19 : decode cX10_delta 19 = .ok (.iconst 1, 1) := by decide +kernel
theorem dX10_delta_20 : decode cX10_delta 20 = .ok (.invokevirtual 115, 3) := by decide +kernel
theorem dX10_delta_23 : decode cX10_delta 23 = .ok (.ireturn, 1) := by decide +kernel
theorem dX10_delta_24 : decode cX10_delta 24 = .ok (.aload_n 0, 1) := by decide +kernel
theorem dX10_delta_25 : decode cX10_delta 25 = .ok (.iload_n 1, 1) := by decide +kernel
theorem dX10_delta_26 : decode cX10_delta 26 = .ok (.invokevirtual 169, 3) := by decide +kernel
theorem dX10_delta_29 : decode cX10_delta 29 = .ok (.bipush (-9), 2) := by decide +kernel
theorem dX10_delta_31 : decode cX10_delta 31 = .ok (.if_icmp .eq 6, 3) := by decide +kernel
theorem dX10_delta_34 : decode cX10_delta 34 = .ok (.bipush (-4), 2) := by decide +kernel
theorem dX10_delta_36 : decode cX10_delta 36 = .ok (.ireturn, 1) := by decide +kernel
theorem dX10_delta_37 : decode cX10_delta 37 = .ok (.aload_n 0, 1) := by decide +kernel
theorem dX10_delta_38 : decode cX10_delta 38 = .ok (.aload_n 0, 1) := by decide +kernel
theorem dX10_delta_39 : decode cX10_delta 39 = .ok (.getfield 147, 3) := by decide +kernel
theorem dX10_delta_42 : decode cX10_delta 42 = .ok (.putfield 172, 3) := by decide +kernel
theorem dX10_delta_45 : decode cX10_delta 45 = .ok (.aload_n 0, 1) := by decide +kernel
theorem dX10_delta_46 : decode cX10_delta 46 = .ok (.aload_n 0, 1) := by decide +kernel
theorem dX10_delta_47 : decode cX10_delta 47 = .ok (.getfield 141, 3) := by decide +kernel
theorem dX10_delta_50 : decode cX10_delta 50 = .ok (.putfield 175, 3) := by decide +kernel
theorem dX10_delta_53 : decode cX10_delta 53 = .ok (.iconst 0, 1) := by decide +kernel
theorem dX10_delta_54 : decode cX10_delta 54 = .ok (.istore_n 2, 1) := by decide +kernel
theorem dX10_delta_55 : decode cX10_delta 55 = .ok (.iload_n 2, 1) := by decide +kernel
theorem dX10_delta_56 : decode cX10_delta 56 = .ok (.bipush 31, 2) := by decide +kernel
theorem dX10_delta_58 : decode cX10_delta 58 = .ok (.if_icmp .ge 16, 3) := by decide +kernel
theorem dX10_delta_61 : decode cX10_delta 61 = .ok (.aload_n 0, 1) := by decide +kernel
theorem dX10_delta_62 : decode cX10_delta 62 = .ok (.getfield 57, 3) := by decide +kernel
theorem dX10_delta_65 : decode cX10_delta 65 = .ok (.iload_n 2, 1) := by decide +kernel
theorem dX10_delta_66 : decode cX10_delta 66 = .ok (.iconst 0, 1) := by decide +kernel
theorem dX10_delta_67 : decode cX10_delta 67 = .ok (.iastore, 1) := by decide +kernel
theorem dX10_delta_68 : decode cX10_delta 68 = .ok (.iinc 2 1, 3) := by decide +kernel
theorem dX10_delta_71 : decode cX10_delta 71 = .ok (.goto (-16), 3) := by decide +kernel
theorem dX10_delta_74 : decode cX10_delta 74 = .ok (.iconst 0, 1) := by decide +kernel
theorem dX10_delta_75 : decode cX10_delta 75 = .ok (.istore_n 2, 1) := by decide +kernel
theorem dX10_delta_76 : decode cX10_delta 76 = .ok (.iload_n 2, 1) := by decide +kernel
theorem dX10_delta_77 : decode cX10_delta 77 = .ok (.aload_n 0, 1) := by decide +kernel
theorem dX10_delta_78 : decode cX10_delta 78 = .ok (.getfield 172, 3) := by decide +kernel
theorem dX10_delta_81 : decode cX10_delta 81 = .ok (.if_icmp .ge 158, 3) := by decide +kernel
theorem dX10_delta_84 : decode cX10_delta 84 = .ok (.aload_n 0, 1) := by decide +kernel
theorem dX10_delta_85 : decode cX10_delta 85 = .ok (.getfield 33, 3) := by decide +kernel
theorem dX10_delta_88 : decode cX10_delta 88 = .ok (.iload_n 2, 1) := by decide +kernel
theorem dX10_delta_89 : decode cX10_delta 89 = .ok (.aload_n 0, 1) := by decide +kernel
theorem dX10_delta_90 : decode cX10_delta 90 = .ok (.getfield 51, 3) := by decide +kernel
theorem dX10_delta_93 : decode cX10_delta 93 = .ok (.iconst 5, 1) := by decide +kernel
theorem dX10_delta_94 : decode cX10_delta 94 = .ok (.iload_n 2, 1) := by decide +kernel
theorem dX10_delta_95 : decode cX10_delta 95 = .ok (.imul, 1) := by decide +kernel
theorem dX10_delta_96 : decode cX10_delta 96 = .ok (.iaload, 1) := by decide +kernel
theorem dX10_delta_97 : decode cX10_delta 97 = .ok (.iastore, 1) := by decide +kernel
theorem dX10_delta_98 : decode cX10_delta 98 = .ok (.aload_n 0, 1) := by decide +kernel
theorem dX10_delta_99 : decode cX10_delta 99 = .ok (.getfield 36, 3) := by decide +kernel
theorem dX10_delta_102 : decode cX10_delta 102 = .ok (.iload_n 2, 1) := by decide +kernel
theorem dX10_delta_103 : decode cX10_delta 103 = .ok (.aload_n 0, 1) := by decide +kernel
theorem dX10_delta_104 : decode cX10_delta 104 = .ok (.getfield 51, 3) := by decide +kernel
theorem dX10_delta_107 : decode cX10_delta 107 = .ok (.iconst 5, 1) := by decide +kernel
theorem dX10_delta_108 : decode cX10_delta 108 = .ok (.iload_n 2, 1) := by decide +kernel
theorem dX10_delta_109 : decode cX10_delta 109 = .ok (.imul, 1) := by decide +kernel
theorem dX10_delta_110 : decode cX10_delta 110 = .ok (.iconst 1, 1) := by decide +kernel
theorem dX10_delta_111 : decode cX10_delta 111 = .ok (.iadd, 1) := by decide +kernel
theorem dX10_delta_112 : decode cX10_delta 112 = .ok (.iaload, 1) := by decide +kernel
theorem dX10_delta_113 : decode cX10_delta 113 = .ok (.iastore, 1) := by decide +kernel
theorem dX10_delta_114 : decode cX10_delta 114 = .ok (.aload_n 0, 1) := by decide +kernel
theorem dX10_delta_115 : decode cX10_delta 115 = .ok (.getfield 39, 3) := by decide +kernel
theorem dX10_delta_118 : decode cX10_delta 118 = .ok (.iload_n 2, 1) := by decide +kernel
theorem dX10_delta_119 : decode cX10_delta 119 = .ok (.aload_n 0, 1) := by decide +kernel
theorem dX10_delta_120 : decode cX10_delta 120 = .ok (.getfield 51, 3) := by decide +kernel
theorem dX10_delta_123 : decode cX10_delta 123 = .ok (.iconst 5, 1) := by decide +kernel
theorem dX10_delta_124 : decode cX10_delta 124 = .ok (.iload_n 2, 1) := by decide +kernel
theorem dX10_delta_125 : decode cX10_delta 125 = .ok (.imul, 1) := by decide +kernel
theorem dX10_delta_126 : decode cX10_delta 126 = .ok (.iconst 2, 1) := by decide +kernel
theorem dX10_delta_127 : decode cX10_delta 127 = .ok (.iadd, 1) := by decide +kernel
theorem dX10_delta_128 : decode cX10_delta 128 = .ok (.iaload, 1) := by decide +kernel
theorem dX10_delta_129 : decode cX10_delta 129 = .ok (.iastore, 1) := by decide +kernel
theorem dX10_delta_130 : decode cX10_delta 130 = .ok (.aload_n 0, 1) := by decide +kernel
theorem dX10_delta_131 : decode cX10_delta 131 = .ok (.getfield 42, 3) := by decide +kernel
theorem dX10_delta_134 : decode cX10_delta 134 = .ok (.iload_n 2, 1) := by decide +kernel
theorem dX10_delta_135 : decode cX10_delta 135 = .ok (.aload_n 0, 1) := by decide +kernel
theorem dX10_delta_136 : decode cX10_delta 136 = .ok (.getfield 51, 3) := by decide +kernel
theorem dX10_delta_139 : decode cX10_delta 139 = .ok (.iconst 5, 1) := by decide +kernel
theorem dX10_delta_140 : decode cX10_delta 140 = .ok (.iload_n 2, 1) := by decide +kernel
theorem dX10_delta_141 : decode cX10_delta 141 = .ok (.imul, 1) := by decide +kernel
theorem dX10_delta_142 : decode cX10_delta 142 = .ok (.iconst 3, 1) := by decide +kernel
theorem dX10_delta_143 : decode cX10_delta 143 = .ok (.iadd, 1) := by decide +kernel
theorem dX10_delta_144 : decode cX10_delta 144 = .ok (.iaload, 1) := by decide +kernel
theorem dX10_delta_145 : decode cX10_delta 145 = .ok (.iastore, 1) := by decide +kernel
theorem dX10_delta_146 : decode cX10_delta 146 = .ok (.aload_n 0, 1) := by decide +kernel
theorem dX10_delta_147 : decode cX10_delta 147 = .ok (.getfield 45, 3) := by decide +kernel
theorem dX10_delta_150 : decode cX10_delta 150 = .ok (.iload_n 2, 1) := by decide +kernel
theorem dX10_delta_151 : decode cX10_delta 151 = .ok (.aload_n 0, 1) := by decide +kernel
theorem dX10_delta_152 : decode cX10_delta 152 = .ok (.getfield 51, 3) := by decide +kernel
theorem dX10_delta_155 : decode cX10_delta 155 = .ok (.iconst 5, 1) := by decide +kernel
theorem dX10_delta_156 : decode cX10_delta 156 = .ok (.iload_n 2, 1) := by decide +kernel
theorem dX10_delta_157 : decode cX10_delta 157 = .ok (.imul, 1) := by decide +kernel
theorem dX10_delta_158 : decode cX10_delta 158 = .ok (.iconst 4, 1) := by decide +kernel
theorem dX10_delta_159 : decode cX10_delta 159 = .ok (.iadd, 1) := by decide +kernel
theorem dX10_delta_160 : decode cX10_delta 160 = .ok (.iaload, 1) := by decide +kernel
theorem dX10_delta_161 : decode cX10_delta 161 = .ok (.iastore, 1) := by decide +kernel
theorem dX10_delta_162 : decode cX10_delta 162 = .ok (.aload_n 0, 1) := by decide +kernel
theorem dX10_delta_163 : decode cX10_delta 163 = .ok (.getfield 48, 3) := by decide +kernel
theorem dX10_delta_166 : decode cX10_delta 166 = .ok (.iload_n 2, 1) := by decide +kernel
theorem dX10_delta_167 : decode cX10_delta 167 = .ok (.aload_n 0, 1) := by decide +kernel
theorem dX10_delta_168 : decode cX10_delta 168 = .ok (.getfield 54, 3) := by decide +kernel
theorem dX10_delta_171 : decode cX10_delta 171 = .ok (.iload_n 2, 1) := by decide +kernel
theorem dX10_delta_172 : decode cX10_delta 172 = .ok (.iaload, 1) := by decide +kernel
theorem dX10_delta_173 : decode cX10_delta 173 = .ok (.iastore, 1) := by decide +kernel
theorem dX10_delta_174 : decode cX10_delta 174 = .ok (.aload_n 0, 1) := by decide +kernel
theorem dX10_delta_175 : decode cX10_delta 175 = .ok (.getfield 33, 3) := by decide +kernel
theorem dX10_delta_178 : decode cX10_delta 178 = .ok (.iload_n 2, 1) := by decide +kernel
theorem dX10_delta_179 : decode cX10_delta 179 = .ok (.iaload, 1) := by decide +kernel
theorem dX10_delta_180 : decode cX10_delta 180 = .ok (.iconst 3, 1) := by decide +kernel
theorem dX10_delta_181 : decode cX10_delta 181 = .ok (.if_icmp .eq 13, 3) := by decide +kernel
theorem dX10_delta_184 : decode cX10_delta 184 = .ok (.aload_n 0, 1) := by decide +kernel
theorem dX10_delta_185 : decode cX10_delta 185 = .ok (.getfield 33, 3) := by decide +kernel
theorem dX10_delta_188 : decode cX10_delta 188 = .ok (.iload_n 2, 1) := by decide +kernel
theorem dX10_delta_189 : decode cX10_delta 189 = .ok (.iaload, 1) := by decide +kernel
theorem dX10_delta_190 : decode cX10_delta 190 = .ok (.iconst 5, 1) := by decide +kernel
theorem dX10_delta_191 : decode cX10_delta 191 = .ok (.if_icmp .ne 7, 3) := by decide +kernel
theorem dX10_delta_194 : decode cX10_delta 194 = .ok (.iconst 1, 1) := by decide +kernel
theorem dX10_delta_195 : decode cX10_delta 195 = .ok (.goto 4, 3) := by decide +kernel
theorem dX10_delta_198 : decode cX10_delta 198 = .ok (.iconst 0, 1) := by decide +kernel
theorem dX10_delta_199 : decode cX10_delta 199 = .ok (.istore_n 3, 1) := by decide +kernel
theorem dX10_delta_200 : decode cX10_delta 200 = .ok (.aload_n 0, 1) := by decide +kernel
theorem dX10_delta_201 : decode cX10_delta 201 = .ok (.getfield 57, 3) := by decide +kernel
theorem dX10_delta_204 : decode cX10_delta 204 = .ok (.iload_n 2, 1) := by decide +kernel
theorem dX10_delta_205 : decode cX10_delta 205 = .ok (.iload_n 3, 1) := by decide +kernel
theorem dX10_delta_206 : decode cX10_delta 206 = .ok (.ifCond .eq 7, 3) := by decide +kernel
theorem dX10_delta_209 : decode cX10_delta 209 = .ok (.iconst 1, 1) := by decide +kernel
theorem dX10_delta_210 : decode cX10_delta 210 = .ok (.goto 4, 3) := by decide +kernel
theorem dX10_delta_213 : decode cX10_delta 213 = .ok (.iconst 0, 1) := by decide +kernel
theorem dX10_delta_214 : decode cX10_delta 214 = .ok (.iastore, 1) := by decide +kernel
theorem dX10_delta_215 : decode cX10_delta 215 = .ok (.aload_n 0, 1) := by decide +kernel
theorem dX10_delta_216 : decode cX10_delta 216 = .ok (.getfield 57, 3) := by decide +kernel
theorem dX10_delta_219 : decode cX10_delta 219 = .ok (.bipush 20, 2) := by decide +kernel
theorem dX10_delta_221 : decode cX10_delta 221 = .ok (.iload_n 2, 1) := by decide +kernel
theorem dX10_delta_222 : decode cX10_delta 222 = .ok (.iadd, 1) := by decide +kernel
theorem dX10_delta_223 : decode cX10_delta 223 = .ok (.iload_n 3, 1) := by decide +kernel
theorem dX10_delta_224 : decode cX10_delta 224 = .ok (.ifCond .eq 7, 3) := by decide +kernel
theorem dX10_delta_227 : decode cX10_delta 227 = .ok (.iconst 1, 1) := by decide +kernel
theorem dX10_delta_228 : decode cX10_delta 228 = .ok (.goto 4, 3) := by decide +kernel
theorem dX10_delta_231 : decode cX10_delta 231 = .ok (.iconst 0, 1) := by decide +kernel
theorem dX10_delta_232 : decode cX10_delta 232 = .ok (.iastore, 1) := by decide +kernel
theorem dX10_delta_233 : decode cX10_delta 233 = .ok (.iinc 2 1, 3) := by decide +kernel
theorem dX10_delta_236 : decode cX10_delta 236 = .ok (.goto (-160), 3) := by decide +kernel
theorem dX10_delta_239 : decode cX10_delta 239 = .ok (.aload_n 0, 1) := by decide +kernel
theorem dX10_delta_240 : decode cX10_delta 240 = .ok (.iconst 0, 1) := by decide +kernel
theorem dX10_delta_241 : decode cX10_delta 241 = .ok (.putfield 178, 3) := by decide +kernel
theorem dX10_delta_244 : decode cX10_delta 244 = .ok (.iconst 0, 1) := by decide +kernel
theorem dX10_delta_245 : decode cX10_delta 245 = .ok (.istore_n 2, 1) := by decide +kernel
theorem dX10_delta_246 : decode cX10_delta 246 = .ok (.iload_n 2, 1) := by decide +kernel
theorem dX10_delta_247 : decode cX10_delta 247 = .ok (.iconst 3, 1) := by decide +kernel
theorem dX10_delta_248 : decode cX10_delta 248 = .ok (.if_icmp .ge 16, 3) := by decide +kernel
theorem dX10_delta_251 : decode cX10_delta 251 = .ok (.aload_n 0, 1) := by decide +kernel
theorem dX10_delta_252 : decode cX10_delta 252 = .ok (.getfield 66, 3) := by decide +kernel
theorem dX10_delta_255 : decode cX10_delta 255 = .ok (.iload_n 2, 1) := by decide +kernel
theorem dX10_delta_256 : decode cX10_delta 256 = .ok (.iconst 0, 1) := by decide +kernel
theorem dX10_delta_257 : decode cX10_delta 257 = .ok (.bastore, 1) := by decide +kernel
theorem dX10_delta_258 : decode cX10_delta 258 = .ok (.iinc 2 1, 3) := by decide +kernel
theorem dX10_delta_261 : decode cX10_delta 261 = .ok (.goto (-15), 3) := by decide +kernel
theorem dX10_delta_264 : decode cX10_delta 264 = .ok (.aload_n 0, 1) := by decide +kernel
theorem dX10_delta_265 : decode cX10_delta 265 = .ok (.getfield 172, 3) := by decide +kernel
theorem dX10_delta_268 : decode cX10_delta 268 = .ok (.ireturn, 1) := by decide +kernel
theorem dX10_isArm_0 : decode cX10_isArm 0 = .ok (.iload_n 1, 1) := by decide +kernel
theorem dX10_isArm_1 : decode cX10_isArm 1 = .ok (.iconst 0, 1) := by decide +kernel
theorem dX10_isArm_2 : decode cX10_isArm 2 = .ok (.aload_n 0, 1) := by decide +kernel
theorem dX10_isArm_3 : decode cX10_isArm 3 = .ok (.getfield 172, 3) := by decide +kernel
theorem dX10_isArm_6 : decode cX10_isArm 6 = .ok (.iconst 1, 1) := by decide +kernel
theorem dX10_isArm_7 : decode cX10_isArm 7 = .ok (.isub, 1) := by decide +kernel
theorem dX10_isArm_8 : decode cX10_isArm 8 = .ok (.invokestatic 101, 3) := by decide +kernel
theorem dX10_isArm_11 : decode cX10_isArm 11 = .ok (.ireturn, 1) := by decide +kernel
theorem dX10_isSilty_0 : decode cX10_isSilty 0 = .ok (.aload_n 0, 1) := by decide +kernel
theorem dX10_isSilty_1 : decode cX10_isSilty 1 = .ok (.getfield 33, 3) := by decide +kernel
theorem dX10_isSilty_4 : decode cX10_isSilty 4 = .ok (.iload_n 1, 1) := by decide +kernel
theorem dX10_isSilty_5 : decode cX10_isSilty 5 = .ok (.iaload, 1) := by decide +kernel
theorem dX10_isSilty_6 : decode cX10_isSilty 6 = .ok (.iconst 2, 1) := by decide +kernel
theorem dX10_isSilty_7 : decode cX10_isSilty 7 = .ok (.if_icmp .eq 13, 3) := by decide +kernel
theorem dX10_isSilty_10 : decode cX10_isSilty 10 = .ok (.aload_n 0, 1) := by decide +kernel
theorem dX10_isSilty_11 : decode cX10_isSilty 11 = .ok (.getfield 33, 3) := by decide +kernel
theorem dX10_isSilty_14 : decode cX10_isSilty 14 = .ok (.iload_n 1, 1) := by decide +kernel
theorem dX10_isSilty_15 : decode cX10_isSilty 15 = .ok (.iaload, 1) := by decide +kernel
theorem dX10_isSilty_16 : decode cX10_isSilty 16 = .ok (.iconst 4, 1) := by decide +kernel
theorem dX10_isSilty_17 : decode cX10_isSilty 17 = .ok (.if_icmp .ne 7, 3) := by decide +kernel
theorem dX10_isSilty_20 : decode cX10_isSilty 20 = .ok (.iconst 1, 1) := by decide +kernel
theorem dX10_isSilty_21 : decode cX10_isSilty 21 = .ok (.goto 4, 3) := by decide +kernel
theorem dX10_isSilty_24 : decode cX10_isSilty 24 = .ok (.iconst 0, 1) := by decide +kernel
theorem dX10_isSilty_25 : decode cX10_isSilty 25 = .ok (.ireturn, 1) := by decide +kernel
theorem dX10_copyTo_0 : decode cX10_copyTo 0 = .ok (.iconst 0, 1) := by decide +kernel
theorem dX10_copyTo_1 : decode cX10_copyTo 1 = .ok (.istore_n 3, 1) := by decide +kernel
theorem dX10_copyTo_2 : decode cX10_copyTo 2 = .ok (.iload_n 3, 1) := by decide +kernel
theorem dX10_copyTo_3 : decode cX10_copyTo 3 = .ok (.bipush 31, 2) := by decide +kernel
theorem dX10_copyTo_5 : decode cX10_copyTo 5 = .ok (.if_icmp .ge 31, 3) := by decide +kernel
theorem dX10_copyTo_8 : decode cX10_copyTo 8 = .ok (.aload_n 0, 1) := by decide +kernel
theorem dX10_copyTo_9 : decode cX10_copyTo 9 = .ok (.getfield 57, 3) := by decide +kernel
theorem dX10_copyTo_12 : decode cX10_copyTo 12 = .ok (.bipush 31, 2) := by decide +kernel
theorem dX10_copyTo_14 : decode cX10_copyTo 14 = .ok (.iload_n 2, 1) := by decide +kernel
theorem dX10_copyTo_15 : decode cX10_copyTo 15 = .ok (.imul, 1) := by decide +kernel
theorem dX10_copyTo_16 : decode cX10_copyTo 16 = .ok (.iload_n 3, 1) := by decide +kernel
theorem dX10_copyTo_17 : decode cX10_copyTo 17 = .ok (.iadd, 1) := by decide +kernel
theorem dX10_copyTo_18 : decode cX10_copyTo 18 = .ok (.aload_n 0, 1) := by decide +kernel
theorem dX10_copyTo_19 : decode cX10_copyTo 19 = .ok (.getfield 57, 3) := by decide +kernel
theorem dX10_copyTo_22 : decode cX10_copyTo 22 = .ok (.bipush 31, 2) := by decide +kernel
theorem dX10_copyTo_24 : decode cX10_copyTo 24 = .ok (.iload_n 1, 1) := by decide +kernel
theorem dX10_copyTo_25 : decode cX10_copyTo 25 = .ok (.imul, 1) := by decide +kernel
theorem dX10_copyTo_26 : decode cX10_copyTo 26 = .ok (.iload_n 3, 1) := by decide +kernel
theorem dX10_copyTo_27 : decode cX10_copyTo 27 = .ok (.iadd, 1) := by decide +kernel
theorem dX10_copyTo_28 : decode cX10_copyTo 28 = .ok (.iaload, 1) := by decide +kernel
theorem dX10_copyTo_29 : decode cX10_copyTo 29 = .ok (.iastore, 1) := by decide +kernel
theorem dX10_copyTo_30 : decode cX10_copyTo 30 = .ok (.iinc 3 1, 3) := by decide +kernel
theorem dX10_copyTo_33 : decode cX10_copyTo 33 = .ok (.goto (-31), 3) := by decide +kernel
theorem dX10_copyTo_36 : decode cX10_copyTo 36 = .ok (.return_, 1) := by decide +kernel
theorem dX10_isOpen_0 : decode cX10_isOpen 0 = .ok (.aload_n 0, 1) := by decide +kernel
theorem dX10_isOpen_1 : decode cX10_isOpen 1 = .ok (.getfield 57, 3) := by decide +kernel
theorem dX10_isOpen_4 : decode cX10_isOpen 4 = .ok (.bipush 31, 2) := by decide +kernel
theorem dX10_isOpen_6 : decode cX10_isOpen 6 = .ok (.iload_n 1, 1) := by decide +kernel
theorem dX10_isOpen_7 : decode cX10_isOpen 7 = .ok (.imul, 1) := by decide +kernel
theorem dX10_isOpen_8 : decode cX10_isOpen 8 = .ok (.iload_n 2, 1) := by decide +kernel
theorem dX10_isOpen_9 : decode cX10_isOpen 9 = .ok (.iadd, 1) := by decide +kernel
theorem dX10_isOpen_10 : decode cX10_isOpen 10 = .ok (.iaload, 1) := by decide +kernel
theorem dX10_isOpen_11 : decode cX10_isOpen 11 = .ok (.iconst 1, 1) := by decide +kernel
theorem dX10_isOpen_12 : decode cX10_isOpen 12 = .ok (.if_icmp .ne 7, 3) := by decide +kernel
theorem dX10_isOpen_15 : decode cX10_isOpen 15 = .ok (.iconst 1, 1) := by decide +kernel
theorem dX10_isOpen_16 : decode cX10_isOpen 16 = .ok (.goto 4, 3) := by decide +kernel
theorem dX10_isOpen_19 : decode cX10_isOpen 19 = .ok (.iconst 0, 1) := by decide +kernel
theorem dX10_isOpen_20 : decode cX10_isOpen 20 = .ok (.ireturn, 1) := by decide +kernel
theorem dX10_isBarge_0 : decode cX10_isBarge 0 = .ok (.aload_n 0, 1) := by decide +kernel
theorem dX10_isBarge_1 : decode cX10_isBarge 1 = .ok (.getfield 57, 3) := by decide +kernel
theorem dX10_isBarge_4 : decode cX10_isBarge 4 = .ok (.bipush 31, 2) := by decide +kernel
theorem dX10_isBarge_6 : decode cX10_isBarge 6 = .ok (.iload_n 1, 1) := by decide +kernel
theorem dX10_isBarge_7 : decode cX10_isBarge 7 = .ok (.imul, 1) := by decide +kernel
theorem dX10_isBarge_8 : decode cX10_isBarge 8 = .ok (.bipush 20, 2) := by decide +kernel
theorem dX10_isBarge_10 : decode cX10_isBarge 10 = .ok (.iadd, 1) := by decide +kernel
theorem dX10_isBarge_11 : decode cX10_isBarge 11 = .ok (.iload_n 2, 1) := by decide +kernel
theorem dX10_isBarge_12 : decode cX10_isBarge 12 = .ok (.iadd, 1) := by decide +kernel
theorem dX10_isBarge_13 : decode cX10_isBarge 13 = .ok (.iaload, 1) := by decide +kernel
theorem dX10_isBarge_14 : decode cX10_isBarge 14 = .ok (.iconst 1, 1) := by decide +kernel
theorem dX10_isBarge_15 : decode cX10_isBarge 15 = .ok (.if_icmp .ne 7, 3) := by decide +kernel
theorem dX10_isBarge_18 : decode cX10_isBarge 18 = .ok (.iconst 1, 1) := by decide +kernel
theorem dX10_isBarge_19 : decode cX10_isBarge 19 = .ok (.goto 4, 3) := by decide +kernel
theorem dX10_isBarge_22 : decode cX10_isBarge 22 = .ok (.iconst 0, 1) := by decide +kernel
theorem dX10_isBarge_23 : decode cX10_isBarge 23 = .ok (.ireturn, 1) := by decide +kernel
theorem dX10_isDead_0 : decode cX10_isDead 0 = .ok (.aload_n 0, 1) := by decide +kernel
theorem dX10_isDead_1 : decode cX10_isDead 1 = .ok (.getfield 57, 3) := by decide +kernel
theorem dX10_isDead_4 : decode cX10_isDead 4 = .ok (.bipush 31, 2) := by decide +kernel
theorem dX10_isDead_6 : decode cX10_isDead 6 = .ok (.iload_n 1, 1) := by decide +kernel
theorem dX10_isDead_7 : decode cX10_isDead 7 = .ok (.imul, 1) := by decide +kernel
theorem dX10_isDead_8 : decode cX10_isDead 8 = .ok (.bipush 25, 2) := by decide +kernel
theorem dX10_isDead_10 : decode cX10_isDead 10 = .ok (.iadd, 1) := by decide +kernel
theorem dX10_isDead_11 : decode cX10_isDead 11 = .ok (.iload_n 2, 1) := by decide +kernel
theorem dX10_isDead_12 : decode cX10_isDead 12 = .ok (.iadd, 1) := by decide +kernel
theorem dX10_isDead_13 : decode cX10_isDead 13 = .ok (.iaload, 1) := by decide +kernel
theorem dX10_isDead_14 : decode cX10_isDead 14 = .ok (.iconst 1, 1) := by decide +kernel
theorem dX10_isDead_15 : decode cX10_isDead 15 = .ok (.if_icmp .ne 7, 3) := by decide +kernel
theorem dX10_isDead_18 : decode cX10_isDead 18 = .ok (.iconst 1, 1) := by decide +kernel
theorem dX10_isDead_19 : decode cX10_isDead 19 = .ok (.goto 4, 3) := by decide +kernel
theorem dX10_isDead_22 : decode cX10_isDead 22 = .ok (.iconst 0, 1) := by decide +kernel
theorem dX10_isDead_23 : decode cX10_isDead 23 = .ok (.ireturn, 1) := by decide +kernel
theorem dX10_openSet_0 : decode cX10_openSet 0 = .ok (.iconst 0, 1) := by decide +kernel
theorem dX10_openSet_1 : decode cX10_openSet 1 = .ok (.istore_n 2, 1) := by decide +kernel
theorem dX10_openSet_2 : decode cX10_openSet 2 = .ok (.iconst 0, 1) := by decide +kernel
theorem dX10_openSet_3 : decode cX10_openSet 3 = .ok (.istore_n 3, 1) := by decide +kernel
theorem dX10_openSet_4 : decode cX10_openSet 4 = .ok (.iload_n 3, 1) := by decide +kernel
theorem dX10_openSet_5 : decode cX10_openSet 5 = .ok (.aload_n 0, 1) := by decide +kernel
theorem dX10_openSet_6 : decode cX10_openSet 6 = .ok (.getfield 172, 3) := by decide +kernel
theorem dX10_openSet_9 : decode cX10_openSet 9 = .ok (.if_icmp .ge 28, 3) := by decide +kernel
theorem dX10_openSet_12 : decode cX10_openSet 12 = .ok (.iload_n 2, 1) := by decide +kernel
theorem dX10_openSet_13 : decode cX10_openSet 13 = .ok (.aload_n 0, 1) := by decide +kernel
theorem dX10_openSet_14 : decode cX10_openSet 14 = .ok (.iload_n 1, 1) := by decide +kernel
theorem dX10_openSet_15 : decode cX10_openSet 15 = .ok (.iload_n 3, 1) := by decide +kernel
theorem dX10_openSet_16 : decode cX10_openSet 16 = .ok (.invokevirtual 181, 3) := by decide +kernel
theorem dX10_openSet_19 : decode cX10_openSet 19 = .ok (.ifCond .eq 9, 3) := by decide +kernel
theorem dX10_openSet_22 : decode cX10_openSet 22 = .ok (.iconst 1, 1) := by decide +kernel
theorem dX10_openSet_23 : decode cX10_openSet 23 = .ok (.iload_n 3, 1) := by decide +kernel
theorem dX10_openSet_24 : decode cX10_openSet 24 = .ok (.ishl, 1) := by decide +kernel
theorem dX10_openSet_25 : decode cX10_openSet 25 = .ok (.goto 4, 3) := by decide +kernel
theorem dX10_openSet_28 : decode cX10_openSet 28 = .ok (.iconst 0, 1) := by decide +kernel
theorem dX10_openSet_29 : decode cX10_openSet 29 = .ok (.ior, 1) := by decide +kernel
theorem dX10_openSet_30 : decode cX10_openSet 30 = .ok (.istore_n 2, 1) := by decide +kernel
theorem dX10_openSet_31 : decode cX10_openSet 31 = .ok (.iinc 3 1, 3) := by decide +kernel
theorem dX10_openSet_34 : decode cX10_openSet 34 = .ok (.goto (-30), 3) := by decide +kernel
theorem dX10_openSet_37 : decode cX10_openSet 37 = .ok (.iload_n 2, 1) := by decide +kernel
theorem dX10_openSet_38 : decode cX10_openSet 38 = .ok (.ireturn, 1) := by decide +kernel
theorem dX10_mayBe_0 : decode cX10_mayBe 0 = .ok (.aload_n 0, 1) := by decide +kernel
theorem dX10_mayBe_1 : decode cX10_mayBe 1 = .ok (.getfield 57, 3) := by decide +kernel
theorem dX10_mayBe_4 : decode cX10_mayBe 4 = .ok (.bipush 31, 2) := by decide +kernel
theorem dX10_mayBe_6 : decode cX10_mayBe 6 = .ok (.iload_n 1, 1) := by decide +kernel
theorem dX10_mayBe_7 : decode cX10_mayBe 7 = .ok (.imul, 1) := by decide +kernel
theorem dX10_mayBe_8 : decode cX10_mayBe 8 = .ok (.bipush 30, 2) := by decide +kernel
theorem dX10_mayBe_10 : decode cX10_mayBe 10 = .ok (.iadd, 1) := by decide +kernel
theorem dX10_mayBe_11 : decode cX10_mayBe 11 = .ok (.iaload, 1) := by decide +kernel
theorem dX10_mayBe_12 : decode cX10_mayBe 12 = .ok (.aload_n 0, 1) := by decide +kernel
theorem dX10_mayBe_13 : decode cX10_mayBe 13 = .ok (.getfield 42, 3) := by decide +kernel
theorem dX10_mayBe_16 : decode cX10_mayBe 16 = .ok (.iload_n 2, 1) := by decide +kernel
theorem dX10_mayBe_17 : decode cX10_mayBe 17 = .ok (.iaload, 1) := by decide +kernel
theorem dX10_mayBe_18 : decode cX10_mayBe 18 = .ok (.irem, 1) := by decide +kernel
theorem dX10_mayBe_19 : decode cX10_mayBe 19 = .ok (.aload_n 0, 1) := by decide +kernel
theorem dX10_mayBe_20 : decode cX10_mayBe 20 = .ok (.getfield 45, 3) := by decide +kernel
theorem dX10_mayBe_23 : decode cX10_mayBe 23 = .ok (.iload_n 2, 1) := by decide +kernel
theorem dX10_mayBe_24 : decode cX10_mayBe 24 = .ok (.iaload, 1) := by decide +kernel
theorem dX10_mayBe_25 : decode cX10_mayBe 25 = .ok (.if_icmp .ne 51, 3) := by decide +kernel
theorem dX10_mayBe_28 : decode cX10_mayBe 28 = .ok (.aload_n 0, 1) := by decide +kernel
theorem dX10_mayBe_29 : decode cX10_mayBe 29 = .ok (.iload_n 1, 1) := by decide +kernel
theorem dX10_mayBe_30 : decode cX10_mayBe 30 = .ok (.iload_n 2, 1) := by decide +kernel
theorem dX10_mayBe_31 : decode cX10_mayBe 31 = .ok (.invokevirtual 184, 3) := by decide +kernel
theorem dX10_mayBe_34 : decode cX10_mayBe 34 = .ok (.ifCond .ne 42, 3) := by decide +kernel
theorem dX10_mayBe_37 : decode cX10_mayBe 37 = .ok (.aload_n 0, 1) := by decide +kernel
theorem dX10_mayBe_38 : decode cX10_mayBe 38 = .ok (.iload_n 1, 1) := by decide +kernel
theorem dX10_mayBe_39 : decode cX10_mayBe 39 = .ok (.iload_n 2, 1) := by decide +kernel
theorem dX10_mayBe_40 : decode cX10_mayBe 40 = .ok (.invokevirtual 181, 3) := by decide +kernel
theorem dX10_mayBe_43 : decode cX10_mayBe 43 = .ok (.ifCond .eq 12, 3) := by decide +kernel
theorem dX10_mayBe_46 : decode cX10_mayBe 46 = .ok (.aload_n 0, 1) := by decide +kernel
theorem dX10_mayBe_47 : decode cX10_mayBe 47 = .ok (.iload_n 1, 1) := by decide +kernel
theorem dX10_mayBe_48 : decode cX10_mayBe 48 = .ok (.iload_n 2, 1) := by decide +kernel
theorem dX10_mayBe_49 : decode cX10_mayBe 49 = .ok (.invokevirtual 187, 3) := by decide +kernel
theorem dX10_mayBe_52 : decode cX10_mayBe 52 = .ok (.ifCond .ne 24, 3) := by decide +kernel
theorem dX10_mayBe_55 : decode cX10_mayBe 55 = .ok (.aload_n 0, 1) := by decide +kernel
theorem dX10_mayBe_56 : decode cX10_mayBe 56 = .ok (.getfield 48, 3) := by decide +kernel
theorem dX10_mayBe_59 : decode cX10_mayBe 59 = .ok (.iload_n 2, 1) := by decide +kernel
theorem dX10_mayBe_60 : decode cX10_mayBe 60 = .ok (.iaload, 1) := by decide +kernel
theorem dX10_mayBe_61 : decode cX10_mayBe 61 = .ok (.aload_n 0, 1) := by decide +kernel
theorem dX10_mayBe_62 : decode cX10_mayBe 62 = .ok (.iload_n 1, 1) := by decide +kernel
theorem dX10_mayBe_63 : decode cX10_mayBe 63 = .ok (.invokevirtual 190, 3) := by decide +kernel
theorem dX10_mayBe_66 : decode cX10_mayBe 66 = .ok (.iconst (-1), 1) := by decide +kernel
theorem dX10_mayBe_67 : decode cX10_mayBe 67 = .ok (.ixor, 1) := by decide +kernel
theorem dX10_mayBe_68 : decode cX10_mayBe 68 = .ok (.iand, 1) := by decide +kernel
theorem dX10_mayBe_69 : decode cX10_mayBe 69 = .ok (.ifCond .ne 7, 3) := by decide +kernel
theorem dX10_mayBe_72 : decode cX10_mayBe 72 = .ok (.iconst 1, 1) := by decide +kernel
theorem dX10_mayBe_73 : decode cX10_mayBe 73 = .ok (.goto 4, 3) := by decide +kernel
theorem dX10_mayBe_76 : decode cX10_mayBe 76 = .ok (.iconst 0, 1) := by decide +kernel
theorem dX10_mayBe_77 : decode cX10_mayBe 77 = .ok (.ireturn, 1) := by decide +kernel
theorem dX10_married_0 : decode cX10_married 0 = .ok (.aload_n 0, 1) := by decide +kernel
theorem dX10_married_1 : decode cX10_married 1 = .ok (.getfield 33, 3) := by decide +kernel
theorem dX10_married_4 : decode cX10_married 4 = .ok (.iload_n 2, 1) := by decide +kernel
theorem dX10_married_5 : decode cX10_married 5 = .ok (.iaload, 1) := by decide +kernel
theorem dX10_married_6 : decode cX10_married 6 = .ok (.iconst 5, 1) := by decide +kernel
theorem dX10_married_7 : decode cX10_married 7 = .ok (.if_icmp .ne 39, 3) := by decide +kernel
theorem dX10_married_10 : decode cX10_married 10 = .ok (.iload_n 2, 1) := by decide +kernel
theorem dX10_married_11 : decode cX10_married 11 = .ok (.iconst 1, 1) := by decide +kernel
theorem dX10_married_12 : decode cX10_married 12 = .ok (.iadd, 1) := by decide +kernel
theorem dX10_married_13 : decode cX10_married 13 = .ok (.aload_n 0, 1) := by decide +kernel
theorem dX10_married_14 : decode cX10_married 14 = .ok (.getfield 172, 3) := by decide +kernel
theorem dX10_married_17 : decode cX10_married 17 = .ok (.if_icmp .ge 29, 3) := by decide +kernel
theorem dX10_married_20 : decode cX10_married 20 = .ok (.aload_n 0, 1) := by decide +kernel
theorem dX10_married_21 : decode cX10_married 21 = .ok (.iload_n 1, 1) := by decide +kernel
theorem dX10_married_22 : decode cX10_married 22 = .ok (.iload_n 2, 1) := by decide +kernel
theorem dX10_married_23 : decode cX10_married 23 = .ok (.iconst 1, 1) := by decide +kernel
theorem dX10_married_24 : decode cX10_married 24 = .ok (.iadd, 1) := by decide +kernel
theorem dX10_married_25 : decode cX10_married 25 = .ok (.invokevirtual 184, 3) := by decide +kernel
theorem dX10_married_28 : decode cX10_married 28 = .ok (.ifCond .ne 18, 3) := by decide +kernel
theorem dX10_married_31 : decode cX10_married 31 = .ok (.aload_n 0, 1) := by decide +kernel
theorem dX10_married_32 : decode cX10_married 32 = .ok (.iload_n 1, 1) := by decide +kernel
theorem dX10_married_33 : decode cX10_married 33 = .ok (.iload_n 2, 1) := by decide +kernel
theorem dX10_married_34 : decode cX10_married 34 = .ok (.iconst 1, 1) := by decide +kernel
theorem dX10_married_35 : decode cX10_married 35 = .ok (.iadd, 1) := by decide +kernel
theorem dX10_married_36 : decode cX10_married 36 = .ok (.invokevirtual 187, 3) := by decide +kernel
theorem dX10_married_39 : decode cX10_married 39 = .ok (.ifCond .ne 7, 3) := by decide +kernel
theorem dX10_married_42 : decode cX10_married 42 = .ok (.iconst 1, 1) := by decide +kernel
theorem dX10_married_43 : decode cX10_married 43 = .ok (.goto 4, 3) := by decide +kernel
theorem dX10_married_46 : decode cX10_married 46 = .ok (.iconst 0, 1) := by decide +kernel
theorem dX10_married_47 : decode cX10_married 47 = .ok (.istore_n 3, 1) := by decide +kernel
theorem dX10_married_48 : decode cX10_married 48 = .ok (.iload_n 3, 1) := by decide +kernel
theorem dX10_married_49 : decode cX10_married 49 = .ok (.ifCond .eq 9, 3) := by decide +kernel
theorem dX10_married_52 : decode cX10_married 52 = .ok (.iload_n 2, 1) := by decide +kernel
theorem dX10_married_53 : decode cX10_married 53 = .ok (.iconst 1, 1) := by decide +kernel
theorem dX10_married_54 : decode cX10_married 54 = .ok (.iadd, 1) := by decide +kernel
theorem dX10_married_55 : decode cX10_married 55 = .ok (.goto 5, 3) := by decide +kernel
theorem dX10_married_58 : decode cX10_married 58 = .ok (.bipush (-9), 2) := by decide +kernel
theorem dX10_married_60 : decode cX10_married 60 = .ok (.ireturn, 1) := by decide +kernel
theorem dX10_stamps_0 : decode cX10_stamps 0 = .ok (.aload_n 0, 1) := by decide +kernel
theorem dX10_stamps_1 : decode cX10_stamps 1 = .ok (.iload_n 1, 1) := by decide +kernel
theorem dX10_stamps_2 : decode cX10_stamps 2 = .ok (.iload_n 2, 1) := by decide +kernel
theorem dX10_stamps_3 : decode cX10_stamps 3 = .ok (.invokevirtual 181, 3) := by decide +kernel
theorem dX10_stamps_6 : decode cX10_stamps 6 = .ok (.ifCond .eq 7, 3) := by decide +kernel
theorem dX10_stamps_9 : decode cX10_stamps 9 = .ok (.iconst 0, 1) := by decide +kernel
theorem dX10_stamps_10 : decode cX10_stamps 10 = .ok (.goto 4, 3) := by decide +kernel
theorem dX10_stamps_13 : decode cX10_stamps 13 = .ok (.iconst 1, 1) := by decide +kernel
theorem dX10_stamps_14 : decode cX10_stamps 14 = .ok (.istore_n 3, 1) := by decide +kernel
theorem dX10_stamps_15 : decode cX10_stamps 15 = .ok (.aload_n 0, 1) := by decide +kernel
theorem dX10_stamps_16 : decode cX10_stamps 16 = .ok (.iload_n 1, 1) := by decide +kernel
theorem dX10_stamps_17 : decode cX10_stamps 17 = .ok (.iload_n 2, 1) := by decide +kernel
theorem dX10_stamps_18 : decode cX10_stamps 18 = .ok (.invokevirtual 193, 3) := by decide +kernel
theorem dX10_stamps_21 : decode cX10_stamps 21 = .ok (.istore 4, 2) := by decide +kernel
theorem dX10_stamps_23 : decode cX10_stamps 23 = .ok (.aload_n 0, 1) := by decide +kernel
theorem dX10_stamps_24 : decode cX10_stamps 24 = .ok (.getfield 57, 3) := by decide +kernel
theorem dX10_stamps_27 : decode cX10_stamps 27 = .ok (.bipush 31, 2) := by decide +kernel
theorem dX10_stamps_29 : decode cX10_stamps 29 = .ok (.iload_n 1, 1) := by decide +kernel
theorem dX10_stamps_30 : decode cX10_stamps 30 = .ok (.imul, 1) := by decide +kernel
theorem dX10_stamps_31 : decode cX10_stamps 31 = .ok (.iload_n 2, 1) := by decide +kernel
theorem dX10_stamps_32 : decode cX10_stamps 32 = .ok (.iadd, 1) := by decide +kernel
theorem dX10_stamps_33 : decode cX10_stamps 33 = .ok (.iload_n 3, 1) := by decide +kernel
theorem dX10_stamps_34 : decode cX10_stamps 34 = .ok (.iastore, 1) := by decide +kernel
theorem dX10_stamps_35 : decode cX10_stamps 35 = .ok (.iload 4, 2) := by decide +kernel
theorem dX10_stamps_37 : decode cX10_stamps 37 = .ok (.bipush (-9), 2) := by decide +kernel
theorem dX10_stamps_39 : decode cX10_stamps 39 = .ok (.if_icmp .eq 16, 3) := by decide +kernel
theorem dX10_stamps_42 : decode cX10_stamps 42 = .ok (.aload_n 0, 1) := by decide +kernel
theorem dX10_stamps_43 : decode cX10_stamps 43 = .ok (.getfield 57, 3) := by decide +kernel
theorem dX10_stamps_46 : decode cX10_stamps 46 = .ok (.bipush 31, 2) := by decide +kernel
theorem dX10_stamps_48 : decode cX10_stamps 48 = .ok (.iload_n 1, 1) := by decide +kernel
theorem dX10_stamps_49 : decode cX10_stamps 49 = .ok (.imul, 1) := by decide +kernel
theorem dX10_stamps_50 : decode cX10_stamps 50 = .ok (.iload 4, 2) := by decide +kernel
theorem dX10_stamps_52 : decode cX10_stamps 52 = .ok (.iadd, 1) := by decide +kernel
theorem dX10_stamps_53 : decode cX10_stamps 53 = .ok (.iload_n 3, 1) := by decide +kernel
theorem dX10_stamps_54 : decode cX10_stamps 54 = .ok (.iastore, 1) := by decide +kernel
theorem dX10_stamps_55 : decode cX10_stamps 55 = .ok (.return_, 1) := by decide +kernel
theorem dX10_wideOpen_0 : decode cX10_wideOpen 0 = .ok (.iconst 0, 1) := by decide +kernel
theorem dX10_wideOpen_1 : decode cX10_wideOpen 1 = .ok (.istore_n 2, 1) := by decide +kernel
theorem dX10_wideOpen_2 : decode cX10_wideOpen 2 = .ok (.iconst 0, 1) := by decide +kernel
theorem dX10_wideOpen_3 : decode cX10_wideOpen 3 = .ok (.istore_n 3, 1) := by decide +kernel
theorem dX10_wideOpen_4 : decode cX10_wideOpen 4 = .ok (.iload_n 3, 1) := by decide +kernel
theorem dX10_wideOpen_5 : decode cX10_wideOpen 5 = .ok (.aload_n 0, 1) := by decide +kernel
theorem dX10_wideOpen_6 : decode cX10_wideOpen 6 = .ok (.getfield 172, 3) := by decide +kernel
theorem dX10_wideOpen_9 : decode cX10_wideOpen 9 = .ok (.if_icmp .ge 31, 3) := by decide +kernel
theorem dX10_wideOpen_12 : decode cX10_wideOpen 12 = .ok (.iload_n 2, 1) := by decide +kernel
theorem dX10_wideOpen_13 : decode cX10_wideOpen 13 = .ok (.aload_n 0, 1) := by decide +kernel
theorem dX10_wideOpen_14 : decode cX10_wideOpen 14 = .ok (.iload_n 1, 1) := by decide +kernel
theorem dX10_wideOpen_15 : decode cX10_wideOpen 15 = .ok (.iload_n 3, 1) := by decide +kernel
theorem dX10_wideOpen_16 : decode cX10_wideOpen 16 = .ok (.invokevirtual 181, 3) := by decide +kernel
theorem dX10_wideOpen_19 : decode cX10_wideOpen 19 = .ok (.ifCond .eq 12, 3) := by decide +kernel
theorem dX10_wideOpen_22 : decode cX10_wideOpen 22 = .ok (.aload_n 0, 1) := by decide +kernel
theorem dX10_wideOpen_23 : decode cX10_wideOpen 23 = .ok (.getfield 36, 3) := by decide +kernel
theorem dX10_wideOpen_26 : decode cX10_wideOpen 26 = .ok (.iload_n 3, 1) := by decide +kernel
theorem dX10_wideOpen_27 : decode cX10_wideOpen 27 = .ok (.iaload, 1) := by decide +kernel
theorem dX10_wideOpen_28 : decode cX10_wideOpen 28 = .ok (.goto 4, 3) := by decide +kernel
theorem dX10_wideOpen_31 : decode cX10_wideOpen 31 = .ok (.iconst 0, 1) := by decide +kernel
theorem dX10_wideOpen_32 : decode cX10_wideOpen 32 = .ok (.iadd, 1) := by decide +kernel
theorem dX10_wideOpen_33 : decode cX10_wideOpen 33 = .ok (.istore_n 2, 1) := by decide +kernel
theorem dX10_wideOpen_34 : decode cX10_wideOpen 34 = .ok (.iinc 3 1, 3) := by decide +kernel
theorem dX10_wideOpen_37 : decode cX10_wideOpen 37 = .ok (.goto (-33), 3) := by decide +kernel
theorem dX10_wideOpen_40 : decode cX10_wideOpen 40 = .ok (.iload_n 2, 1) := by decide +kernel
theorem dX10_wideOpen_41 : decode cX10_wideOpen 41 = .ok (.ireturn, 1) := by decide +kernel
theorem dX10_waterOf_0 : decode cX10_waterOf 0 = .ok (.aload_n 0, 1) := by decide +kernel
theorem dX10_waterOf_1 : decode cX10_waterOf 1 = .ok (.iload_n 1, 1) := by decide +kernel
theorem dX10_waterOf_2 : decode cX10_waterOf 2 = .ok (.iload_n 2, 1) := by decide +kernel
theorem dX10_waterOf_3 : decode cX10_waterOf 3 = .ok (.invokevirtual 181, 3) := by decide +kernel
theorem dX10_waterOf_6 : decode cX10_waterOf 6 = .ok (.ifCond .ne 19, 3) := by decide +kernel
theorem dX10_waterOf_9 : decode cX10_waterOf 9 = .ok (.aload_n 0, 1) := by decide +kernel
theorem dX10_waterOf_10 : decode cX10_waterOf 10 = .ok (.getfield 33, 3) := by decide +kernel
theorem dX10_waterOf_13 : decode cX10_waterOf 13 = .ok (.iload_n 2, 1) := by decide +kernel
theorem dX10_waterOf_14 : decode cX10_waterOf 14 = .ok (.iaload, 1) := by decide +kernel
theorem dX10_waterOf_15 : decode cX10_waterOf 15 = .ok (.iconst 4, 1) := by decide +kernel
theorem dX10_waterOf_16 : decode cX10_waterOf 16 = .ok (.if_icmp .ne 7, 3) := by decide +kernel
theorem dX10_waterOf_19 : decode cX10_waterOf 19 = .ok (.iconst 1, 1) := by decide +kernel
theorem dX10_waterOf_20 : decode cX10_waterOf 20 = .ok (.goto 4, 3) := by decide +kernel
theorem dX10_waterOf_23 : decode cX10_waterOf 23 = .ok (.iconst 0, 1) := by decide +kernel
theorem dX10_waterOf_24 : decode cX10_waterOf 24 = .ok (.ireturn, 1) := by decide +kernel
theorem dX10_waterOf_25 : decode cX10_waterOf 25 = .ok (.aload_n 0, 1) := by decide +kernel
theorem dX10_waterOf_26 : decode cX10_waterOf 26 = .ok (.iload_n 1, 1) := by decide +kernel
theorem dX10_waterOf_27 : decode cX10_waterOf 27 = .ok (.invokevirtual 196, 3) := by decide +kernel
theorem dX10_waterOf_30 : decode cX10_waterOf 30 = .ok (.istore_n 3, 1) := by decide +kernel
theorem dX10_waterOf_31 : decode cX10_waterOf 31 = .ok (.aload_n 0, 1) := by decide +kernel
theorem dX10_waterOf_32 : decode cX10_waterOf 32 = .ok (.getfield 175, 3) := by decide +kernel
theorem dX10_waterOf_35 : decode cX10_waterOf 35 = .ok (.istore 4, 2) := by decide +kernel
theorem dX10_waterOf_37 : decode cX10_waterOf 37 = .ok (.iconst 0, 1) := by decide +kernel
theorem dX10_waterOf_38 : decode cX10_waterOf 38 = .ok (.istore 5, 2) := by decide +kernel
theorem dX10_waterOf_40 : decode cX10_waterOf 40 = .ok (.iconst 0, 1) := by decide +kernel
theorem dX10_waterOf_41 : decode cX10_waterOf 41 = .ok (.istore 6, 2) := by decide +kernel
theorem dX10_waterOf_43 : decode cX10_waterOf 43 = .ok (.iload 6, 2) := by decide +kernel
theorem dX10_waterOf_45 : decode cX10_waterOf 45 = .ok (.aload_n 0, 1) := by decide +kernel
theorem dX10_waterOf_46 : decode cX10_waterOf 46 = .ok (.getfield 172, 3) := by decide +kernel
theorem dX10_waterOf_49 : decode cX10_waterOf 49 = .ok (.if_icmp .ge 68, 3) := by decide +kernel
theorem dX10_waterOf_52 : decode cX10_waterOf 52 = .ok (.iload 4, 2) := by decide +kernel
theorem dX10_waterOf_54 : decode cX10_waterOf 54 = .ok (.aload_n 0, 1) := by decide +kernel
theorem dX10_waterOf_55 : decode cX10_waterOf 55 = .ok (.iload_n 1, 1) := by decide +kernel
theorem dX10_waterOf_56 : decode cX10_waterOf 56 = .ok (.iload 6, 2) := by decide +kernel
theorem dX10_waterOf_58 : decode cX10_waterOf 58 = .ok (.invokevirtual 181, 3) := by decide +kernel
theorem dX10_waterOf_61 : decode cX10_waterOf 61 = .ok (.ifCond .eq 20, 3) := by decide +kernel
theorem dX10_waterOf_64 : decode cX10_waterOf 64 = .ok (.aload_n 0, 1) := by decide +kernel
theorem dX10_waterOf_65 : decode cX10_waterOf 65 = .ok (.getfield 175, 3) := by decide +kernel
theorem dX10_waterOf_68 : decode cX10_waterOf 68 = .ok (.aload_n 0, 1) := by decide +kernel
theorem dX10_waterOf_69 : decode cX10_waterOf 69 = .ok (.getfield 36, 3) := by decide +kernel
theorem dX10_waterOf_72 : decode cX10_waterOf 72 = .ok (.iload 6, 2) := by decide +kernel
theorem dX10_waterOf_74 : decode cX10_waterOf 74 = .ok (.iaload, 1) := by decide +kernel
theorem dX10_waterOf_75 : decode cX10_waterOf 75 = .ok (.imul, 1) := by decide +kernel
theorem dX10_waterOf_76 : decode cX10_waterOf 76 = .ok (.iload_n 3, 1) := by decide +kernel
theorem dX10_waterOf_77 : decode cX10_waterOf 77 = .ok (.idiv, 1) := by decide +kernel
theorem dX10_waterOf_78 : decode cX10_waterOf 78 = .ok (.goto 4, 3) := by decide +kernel
theorem dX10_waterOf_81 : decode cX10_waterOf 81 = .ok (.iconst 0, 1) := by decide +kernel
theorem dX10_waterOf_82 : decode cX10_waterOf 82 = .ok (.isub, 1) := by decide +kernel
theorem dX10_waterOf_83 : decode cX10_waterOf 83 = .ok (.istore 4, 2) := by decide +kernel
theorem dX10_waterOf_85 : decode cX10_waterOf 85 = .ok (.iload 5, 2) := by decide +kernel
theorem dX10_waterOf_87 : decode cX10_waterOf 87 = .ok (.iload 6, 2) := by decide +kernel
theorem dX10_waterOf_89 : decode cX10_waterOf 89 = .ok (.iload_n 2, 1) := by decide +kernel
theorem dX10_waterOf_90 : decode cX10_waterOf 90 = .ok (.if_icmp .ge 17, 3) := by decide +kernel
theorem dX10_waterOf_93 : decode cX10_waterOf 93 = .ok (.aload_n 0, 1) := by decide +kernel
theorem dX10_waterOf_94 : decode cX10_waterOf 94 = .ok (.iload_n 1, 1) := by decide +kernel
theorem dX10_waterOf_95 : decode cX10_waterOf 95 = .ok (.iload 6, 2) := by decide +kernel
theorem dX10_waterOf_97 : decode cX10_waterOf 97 = .ok (.invokevirtual 181, 3) := by decide +kernel
theorem dX10_waterOf_100 : decode cX10_waterOf 100 = .ok (.ifCond .eq 7, 3) := by decide +kernel
theorem dX10_waterOf_103 : decode cX10_waterOf 103 = .ok (.iconst 1, 1) := by decide +kernel
theorem dX10_waterOf_104 : decode cX10_waterOf 104 = .ok (.goto 4, 3) := by decide +kernel
theorem dX10_waterOf_107 : decode cX10_waterOf 107 = .ok (.iconst 0, 1) := by decide +kernel
theorem dX10_waterOf_108 : decode cX10_waterOf 108 = .ok (.iadd, 1) := by decide +kernel
theorem dX10_waterOf_109 : decode cX10_waterOf 109 = .ok (.istore 5, 2) := by decide +kernel
theorem dX10_waterOf_111 : decode cX10_waterOf 111 = .ok (.iinc 6 1, 3) := by decide +kernel
theorem dX10_waterOf_114 : decode cX10_waterOf 114 = .ok (.goto (-71), 3) := by decide +kernel
theorem dX10_waterOf_117 : decode cX10_waterOf 117 = .ok (.aload_n 0, 1) := by decide +kernel
theorem dX10_waterOf_118 : decode cX10_waterOf 118 = .ok (.getfield 175, 3) := by decide +kernel
theorem dX10_waterOf_121 : decode cX10_waterOf 121 = .ok (.aload_n 0, 1) := by decide +kernel
theorem dX10_waterOf_122 : decode cX10_waterOf 122 = .ok (.getfield 36, 3) := by decide +kernel
theorem dX10_waterOf_125 : decode cX10_waterOf 125 = .ok (.iload_n 2, 1) := by decide +kernel
theorem dX10_waterOf_126 : decode cX10_waterOf 126 = .ok (.iaload, 1) := by decide +kernel
theorem dX10_waterOf_127 : decode cX10_waterOf 127 = .ok (.imul, 1) := by decide +kernel
theorem dX10_waterOf_128 : decode cX10_waterOf 128 = .ok (.iload_n 3, 1) := by decide +kernel
theorem dX10_waterOf_129 : decode cX10_waterOf 129 = .ok (.idiv, 1) := by decide +kernel
theorem dX10_waterOf_130 : decode cX10_waterOf 130 = .ok (.iload 5, 2) := by decide +kernel
theorem dX10_waterOf_132 : decode cX10_waterOf 132 = .ok (.iload 4, 2) := by decide +kernel
theorem dX10_waterOf_134 : decode cX10_waterOf 134 = .ok (.if_icmp .ge 7, 3) := by decide +kernel
theorem dX10_waterOf_137 : decode cX10_waterOf 137 = .ok (.iconst 1, 1) := by decide +kernel
theorem dX10_waterOf_138 : decode cX10_waterOf 138 = .ok (.goto 4, 3) := by decide +kernel
theorem dX10_waterOf_141 : decode cX10_waterOf 141 = .ok (.iconst 0, 1) := by decide +kernel
theorem dX10_waterOf_142 : decode cX10_waterOf 142 = .ok (.iadd, 1) := by decide +kernel
theorem dX10_waterOf_143 : decode cX10_waterOf 143 = .ok (.ireturn, 1) := by decide +kernel
theorem dX10_passes_0 : decode cX10_passes 0 = .ok (.bipush 31, 2) := by decide +kernel
theorem dX10_passes_2 : decode cX10_passes 2 = .ok (.iload_n 1, 1) := by decide +kernel
theorem dX10_passes_3 : decode cX10_passes 3 = .ok (.imul, 1) := by decide +kernel
theorem dX10_passes_4 : decode cX10_passes 4 = .ok (.istore_n 2, 1) := by decide +kernel
theorem dX10_passes_5 : decode cX10_passes 5 = .ok (.aload_n 0, 1) := by decide +kernel
theorem dX10_passes_6 : decode cX10_passes 6 = .ok (.iconst 0, 1) := by decide +kernel
theorem dX10_passes_7 : decode cX10_passes 7 = .ok (.putfield 199, 3) := by decide +kernel
theorem dX10_passes_10 : decode cX10_passes 10 = .ok (.iconst 0, 1) := by decide +kernel
theorem dX10_passes_11 : decode cX10_passes 11 = .ok (.istore_n 3, 1) := by decide +kernel
theorem dX10_passes_12 : decode cX10_passes 12 = .ok (.iload_n 3, 1) := by decide +kernel
theorem dX10_passes_13 : decode cX10_passes 13 = .ok (.aload_n 0, 1) := by decide +kernel
theorem dX10_passes_14 : decode cX10_passes 14 = .ok (.getfield 172, 3) := by decide +kernel
theorem dX10_passes_17 : decode cX10_passes 17 = .ok (.if_icmp .ge 21, 3) := by decide +kernel
theorem dX10_passes_20 : decode cX10_passes 20 = .ok (.aload_n 0, 1) := by decide +kernel
theorem dX10_passes_21 : decode cX10_passes 21 = .ok (.getfield 60, 3) := by decide +kernel
theorem dX10_passes_24 : decode cX10_passes 24 = .ok (.iload_n 3, 1) := by decide +kernel
theorem dX10_passes_25 : decode cX10_passes 25 = .ok (.aload_n 0, 1) := by decide +kernel
theorem dX10_passes_26 : decode cX10_passes 26 = .ok (.iload_n 1, 1) := by decide +kernel
theorem dX10_passes_27 : decode cX10_passes 27 = .ok (.iload_n 3, 1) := by decide +kernel
theorem dX10_passes_28 : decode cX10_passes 28 = .ok (.invokevirtual 202, 3) := by decide +kernel
theorem dX10_passes_31 : decode cX10_passes 31 = .ok (.iastore, 1) := by decide +kernel
theorem dX10_passes_32 : decode cX10_passes 32 = .ok (.iinc 3 1, 3) := by decide +kernel
theorem dX10_passes_35 : decode cX10_passes 35 = .ok (.goto (-23), 3) := by decide +kernel
theorem dX10_passes_38 : decode cX10_passes 38 = .ok (.iconst 0, 1) := by decide +kernel
theorem dX10_passes_39 : decode cX10_passes 39 = .ok (.istore_n 3, 1) := by decide +kernel
theorem dX10_passes_40 : decode cX10_passes 40 = .ok (.iload_n 3, 1) := by decide +kernel
theorem dX10_passes_41 : decode cX10_passes 41 = .ok (.aload_n 0, 1) := by decide +kernel
theorem dX10_passes_42 : decode cX10_passes 42 = .ok (.getfield 172, 3) := by decide +kernel
theorem dX10_passes_45 : decode cX10_passes 45 = .ok (.if_icmp .ge 248, 3) := by decide +kernel
theorem dX10_passes_48 : decode cX10_passes 48 = .ok (.aload_n 0, 1) := by decide +kernel
theorem dX10_passes_49 : decode cX10_passes 49 = .ok (.getfield 60, 3) := by decide +kernel
theorem dX10_passes_52 : decode cX10_passes 52 = .ok (.iload_n 3, 1) := by decide +kernel
theorem dX10_passes_53 : decode cX10_passes 53 = .ok (.iaload, 1) := by decide +kernel
theorem dX10_passes_54 : decode cX10_passes 54 = .ok (.aload_n 0, 1) := by decide +kernel
theorem dX10_passes_55 : decode cX10_passes 55 = .ok (.getfield 39, 3) := by decide +kernel
theorem dX10_passes_58 : decode cX10_passes 58 = .ok (.iload_n 3, 1) := by decide +kernel
theorem dX10_passes_59 : decode cX10_passes 59 = .ok (.iaload, 1) := by decide +kernel
theorem dX10_passes_60 : decode cX10_passes 60 = .ok (.if_icmp .lt 7, 3) := by decide +kernel
theorem dX10_passes_63 : decode cX10_passes 63 = .ok (.iconst 1, 1) := by decide +kernel
theorem dX10_passes_64 : decode cX10_passes 64 = .ok (.goto 4, 3) := by decide +kernel
theorem dX10_passes_67 : decode cX10_passes 67 = .ok (.iconst 0, 1) := by decide +kernel
theorem dX10_passes_68 : decode cX10_passes 68 = .ok (.istore 4, 2) := by decide +kernel
theorem dX10_passes_70 : decode cX10_passes 70 = .ok (.aload_n 0, 1) := by decide +kernel
theorem dX10_passes_71 : decode cX10_passes 71 = .ok (.getfield 57, 3) := by decide +kernel
theorem dX10_passes_74 : decode cX10_passes 74 = .ok (.iload_n 2, 1) := by decide +kernel
theorem dX10_passes_75 : decode cX10_passes 75 = .ok (.iconst 5, 1) := by decide +kernel
theorem dX10_passes_76 : decode cX10_passes 76 = .ok (.iadd, 1) := by decide +kernel
theorem dX10_passes_77 : decode cX10_passes 77 = .ok (.iload_n 3, 1) := by decide +kernel
theorem dX10_passes_78 : decode cX10_passes 78 = .ok (.iadd, 1) := by decide +kernel
theorem dX10_passes_79 : decode cX10_passes 79 = .ok (.iaload, 1) := by decide +kernel
theorem dX10_passes_80 : decode cX10_passes 80 = .ok (.istore 5, 2) := by decide +kernel
theorem dX10_passes_82 : decode cX10_passes 82 = .ok (.iload 4, 2) := by decide +kernel
theorem dX10_passes_84 : decode cX10_passes 84 = .ok (.ifCond .eq 45, 3) := by decide +kernel
theorem dX10_passes_87 : decode cX10_passes 87 = .ok (.aload_n 0, 1) := by decide +kernel
theorem dX10_passes_88 : decode cX10_passes 88 = .ok (.iload_n 1, 1) := by decide +kernel
theorem dX10_passes_89 : decode cX10_passes 89 = .ok (.iload_n 3, 1) := by decide +kernel
theorem dX10_passes_90 : decode cX10_passes 90 = .ok (.invokevirtual 184, 3) := by decide +kernel
theorem dX10_passes_93 : decode cX10_passes 93 = .ok (.ifCond .ne 36, 3) := by decide +kernel
theorem dX10_passes_96 : decode cX10_passes 96 = .ok (.iload 5, 2) := by decide +kernel
theorem dX10_passes_98 : decode cX10_passes 98 = .ok (.iconst 4, 1) := by decide +kernel
theorem dX10_passes_99 : decode cX10_passes 99 = .ok (.if_icmp .gt 30, 3) := by decide +kernel
theorem dX10_passes_102 : decode cX10_passes 102 = .ok (.aload_n 0, 1) := by decide +kernel
theorem dX10_passes_103 : decode cX10_passes 103 = .ok (.dup, 1) := by decide +kernel
theorem dX10_passes_104 : decode cX10_passes 104 = .ok (.getfield 199, 3) := by decide +kernel
theorem dX10_passes_107 : decode cX10_passes 107 = .ok (.iconst 1, 1) := by decide +kernel
theorem dX10_passes_108 : decode cX10_passes 108 = .ok (.iload_n 3, 1) := by decide +kernel
theorem dX10_passes_109 : decode cX10_passes 109 = .ok (.ishl, 1) := by decide +kernel
theorem dX10_passes_110 : decode cX10_passes 110 = .ok (.ior, 1) := by decide +kernel
theorem dX10_passes_111 : decode cX10_passes 111 = .ok (.putfield 199, 3) := by decide +kernel
theorem dX10_passes_114 : decode cX10_passes 114 = .ok (.aload_n 0, 1) := by decide +kernel
theorem dX10_passes_115 : decode cX10_passes 115 = .ok (.getfield 57, 3) := by decide +kernel
theorem dX10_passes_118 : decode cX10_passes 118 = .ok (.iload_n 2, 1) := by decide +kernel
theorem dX10_passes_119 : decode cX10_passes 119 = .ok (.bipush 15, 2) := by decide +kernel
theorem dX10_passes_121 : decode cX10_passes 121 = .ok (.iadd, 1) := by decide +kernel
theorem dX10_passes_122 : decode cX10_passes 122 = .ok (.iload_n 3, 1) := by decide +kernel
theorem dX10_passes_123 : decode cX10_passes 123 = .ok (.iadd, 1) := by decide +kernel
theorem dX10_passes_124 : decode cX10_passes 124 = .ok (.dup2, 1) := by decide +kernel
theorem dX10_passes_125 : decode cX10_passes 125 = .ok (.iaload, 1) := by decide +kernel
theorem dX10_passes_126 : decode cX10_passes 126 = .ok (.iconst 1, 1) := by decide +kernel
theorem dX10_passes_127 : decode cX10_passes 127 = .ok (.iadd, 1) := by decide +kernel
theorem dX10_passes_128 : decode cX10_passes 128 = .ok (.iastore, 1) := by decide +kernel
theorem dX10_passes_129 : decode cX10_passes 129 = .ok (.aload_n 0, 1) := by decide +kernel
theorem dX10_passes_130 : decode cX10_passes 130 = .ok (.getfield 57, 3) := by decide +kernel
theorem dX10_passes_133 : decode cX10_passes 133 = .ok (.iload_n 2, 1) := by decide +kernel
theorem dX10_passes_134 : decode cX10_passes 134 = .ok (.iconst 5, 1) := by decide +kernel
theorem dX10_passes_135 : decode cX10_passes 135 = .ok (.iadd, 1) := by decide +kernel
theorem dX10_passes_136 : decode cX10_passes 136 = .ok (.iload_n 3, 1) := by decide +kernel
theorem dX10_passes_137 : decode cX10_passes 137 = .ok (.iadd, 1) := by decide +kernel
theorem dX10_passes_138 : decode cX10_passes 138 = .ok (.iload 4, 2) := by decide +kernel
theorem dX10_passes_140 : decode cX10_passes 140 = .ok (.ifCond .eq 14, 3) := by decide +kernel
theorem dX10_passes_143 : decode cX10_passes 143 = .ok (.iconst 0, 1) := by decide +kernel
theorem dX10_passes_144 : decode cX10_passes 144 = .ok (.iload 5, 2) := by decide +kernel
theorem dX10_passes_146 : decode cX10_passes 146 = .ok (.iconst 1, 1) := by decide +kernel
theorem dX10_passes_147 : decode cX10_passes 147 = .ok (.isub, 1) := by decide +kernel
theorem dX10_passes_148 : decode cX10_passes 148 = .ok (.invokestatic 205, 3) := by decide +kernel
theorem dX10_passes_151 : decode cX10_passes 151 = .ok (.goto 26, 3) := by decide +kernel
theorem dX10_passes_154 : decode cX10_passes 154 = .ok (.bipush 9, 2) := by decide +kernel
theorem dX10_passes_156 : decode cX10_passes 156 = .ok (.iload 5, 2) := by decide +kernel
theorem dX10_passes_158 : decode cX10_passes 158 = .ok (.aload_n 0, 1) := by decide +kernel
theorem dX10_passes_159 : decode cX10_passes 159 = .ok (.getfield 33, 3) := by decide +kernel
theorem dX10_passes_162 : decode cX10_passes 162 = .ok (.iload_n 3, 1) := by decide +kernel
theorem dX10_passes_163 : decode cX10_passes 163 = .ok (.iaload, 1) := by decide +kernel
theorem dX10_passes_164 : decode cX10_passes 164 = .ok (.iconst 1, 1) := by decide +kernel
theorem dX10_passes_165 : decode cX10_passes 165 = .ok (.if_icmp .ne 7, 3) := by decide +kernel
theorem dX10_passes_168 : decode cX10_passes 168 = .ok (.iconst 2, 1) := by decide +kernel
theorem dX10_passes_169 : decode cX10_passes 169 = .ok (.goto 4, 3) := by decide +kernel
theorem dX10_passes_172 : decode cX10_passes 172 = .ok (.iconst 1, 1) := by decide +kernel
theorem dX10_passes_173 : decode cX10_passes 173 = .ok (.iadd, 1) := by decide +kernel
theorem dX10_passes_174 : decode cX10_passes 174 = .ok (.invokestatic 208, 3) := by decide +kernel
theorem dX10_passes_177 : decode cX10_passes 177 = .ok (.iastore, 1) := by decide +kernel
theorem dX10_passes_178 : decode cX10_passes 178 = .ok (.aload_n 0, 1) := by decide +kernel
theorem dX10_passes_179 : decode cX10_passes 179 = .ok (.getfield 57, 3) := by decide +kernel
theorem dX10_passes_182 : decode cX10_passes 182 = .ok (.iload_n 2, 1) := by decide +kernel
theorem dX10_passes_183 : decode cX10_passes 183 = .ok (.bipush 10, 2) := by decide +kernel
theorem dX10_passes_185 : decode cX10_passes 185 = .ok (.iadd, 1) := by decide +kernel
theorem dX10_passes_186 : decode cX10_passes 186 = .ok (.iload_n 3, 1) := by decide +kernel
theorem dX10_passes_187 : decode cX10_passes 187 = .ok (.iadd, 1) := by decide +kernel
theorem dX10_passes_188 : decode cX10_passes 188 = .ok (.iaload, 1) := by decide +kernel
theorem dX10_passes_189 : decode cX10_passes 189 = .ok (.istore 6, 2) := by decide +kernel
theorem dX10_passes_191 : decode cX10_passes 191 = .ok (.aload_n 0, 1) := by decide +kernel
theorem dX10_passes_192 : decode cX10_passes 192 = .ok (.iload_n 1, 1) := by decide +kernel
theorem dX10_passes_193 : decode cX10_passes 193 = .ok (.iload_n 3, 1) := by decide +kernel
theorem dX10_passes_194 : decode cX10_passes 194 = .ok (.invokevirtual 181, 3) := by decide +kernel
theorem dX10_passes_197 : decode cX10_passes 197 = .ok (.ifCond .eq 14, 3) := by decide +kernel
theorem dX10_passes_200 : decode cX10_passes 200 = .ok (.iconst 0, 1) := by decide +kernel
theorem dX10_passes_201 : decode cX10_passes 201 = .ok (.iload 6, 2) := by decide +kernel
theorem dX10_passes_203 : decode cX10_passes 203 = .ok (.iconst 1, 1) := by decide +kernel
theorem dX10_passes_204 : decode cX10_passes 204 = .ok (.isub, 1) := by decide +kernel
theorem dX10_passes_205 : decode cX10_passes 205 = .ok (.invokestatic 205, 3) := by decide +kernel
theorem dX10_passes_208 : decode cX10_passes 208 = .ok (.goto 19, 3) := by decide +kernel
theorem dX10_passes_211 : decode cX10_passes 211 = .ok (.iload 6, 2) := by decide +kernel
theorem dX10_passes_213 : decode cX10_passes 213 = .ok (.aload_n 0, 1) := by decide +kernel
theorem dX10_passes_214 : decode cX10_passes 214 = .ok (.iload_n 3, 1) := by decide +kernel
theorem dX10_passes_215 : decode cX10_passes 215 = .ok (.invokevirtual 211, 3) := by decide +kernel
theorem dX10_passes_218 : decode cX10_passes 218 = .ok (.ifCond .eq 7, 3) := by decide +kernel
theorem dX10_passes_221 : decode cX10_passes 221 = .ok (.iconst 2, 1) := by decide +kernel
theorem dX10_passes_222 : decode cX10_passes 222 = .ok (.goto 4, 3) := by decide +kernel
theorem dX10_passes_225 : decode cX10_passes 225 = .ok (.iconst 1, 1) := by decide +kernel
theorem dX10_passes_226 : decode cX10_passes 226 = .ok (.iadd, 1) := by decide +kernel
theorem dX10_passes_227 : decode cX10_passes 227 = .ok (.istore 6, 2) := by decide +kernel
theorem dX10_passes_229 : decode cX10_passes 229 = .ok (.aload_n 0, 1) := by decide +kernel
theorem dX10_passes_230 : decode cX10_passes 230 = .ok (.getfield 57, 3) := by decide +kernel
theorem dX10_passes_233 : decode cX10_passes 233 = .ok (.iload_n 2, 1) := by decide +kernel
theorem dX10_passes_234 : decode cX10_passes 234 = .ok (.bipush 10, 2) := by decide +kernel
theorem dX10_passes_236 : decode cX10_passes 236 = .ok (.iadd, 1) := by decide +kernel
theorem dX10_passes_237 : decode cX10_passes 237 = .ok (.iload_n 3, 1) := by decide +kernel
theorem dX10_passes_238 : decode cX10_passes 238 = .ok (.iadd, 1) := by decide +kernel
theorem dX10_passes_239 : decode cX10_passes 239 = .ok (.bipush 9, 2) := by decide +kernel
theorem dX10_passes_241 : decode cX10_passes 241 = .ok (.iload 6, 2) := by decide +kernel
theorem dX10_passes_243 : decode cX10_passes 243 = .ok (.invokestatic 208, 3) := by decide +kernel
theorem dX10_passes_246 : decode cX10_passes 246 = .ok (.iastore, 1) := by decide +kernel
theorem dX10_passes_247 : decode cX10_passes 247 = .ok (.iload 6, 2) := by decide +kernel
theorem dX10_passes_249 : decode cX10_passes 249 = .ok (.bipush 9, 2) := by decide +kernel
theorem dX10_passes_251 : decode cX10_passes 251 = .ok (.if_icmp .lt 36, 3) := by decide +kernel
theorem dX10_passes_254 : decode cX10_passes 254 = .ok (.aload_n 0, 1) := by decide +kernel
theorem dX10_passes_255 : decode cX10_passes 255 = .ok (.getfield 57, 3) := by decide +kernel
theorem dX10_passes_258 : decode cX10_passes 258 = .ok (.iload_n 2, 1) := by decide +kernel
theorem dX10_passes_259 : decode cX10_passes 259 = .ok (.bipush 25, 2) := by decide +kernel
theorem dX10_passes_261 : decode cX10_passes 261 = .ok (.iadd, 1) := by decide +kernel
theorem dX10_passes_262 : decode cX10_passes 262 = .ok (.iload_n 3, 1) := by decide +kernel
theorem dX10_passes_263 : decode cX10_passes 263 = .ok (.iadd, 1) := by decide +kernel
theorem dX10_passes_264 : decode cX10_passes 264 = .ok (.iconst 1, 1) := by decide +kernel
theorem dX10_passes_265 : decode cX10_passes 265 = .ok (.iastore, 1) := by decide +kernel
theorem dX10_passes_266 : decode cX10_passes 266 = .ok (.aload_n 0, 1) := by decide +kernel
theorem dX10_passes_267 : decode cX10_passes 267 = .ok (.getfield 57, 3) := by decide +kernel
theorem dX10_passes_270 : decode cX10_passes 270 = .ok (.iload_n 2, 1) := by decide +kernel
theorem dX10_passes_271 : decode cX10_passes 271 = .ok (.bipush 20, 2) := by decide +kernel
theorem dX10_passes_273 : decode cX10_passes 273 = .ok (.iadd, 1) := by decide +kernel
theorem dX10_passes_274 : decode cX10_passes 274 = .ok (.iload_n 3, 1) := by decide +kernel
theorem dX10_passes_275 : decode cX10_passes 275 = .ok (.iadd, 1) := by decide +kernel
theorem dX10_passes_276 : decode cX10_passes 276 = .ok (.iconst 0, 1) := by decide +kernel
theorem dX10_passes_277 : decode cX10_passes 277 = .ok (.iastore, 1) := by decide +kernel
theorem dX10_passes_278 : decode cX10_passes 278 = .ok (.aload_n 0, 1) := by decide +kernel
theorem dX10_passes_279 : decode cX10_passes 279 = .ok (.getfield 57, 3) := by decide +kernel
theorem dX10_passes_282 : decode cX10_passes 282 = .ok (.iload_n 2, 1) := by decide +kernel
theorem dX10_passes_283 : decode cX10_passes 283 = .ok (.iload_n 3, 1) := by decide +kernel
theorem dX10_passes_284 : decode cX10_passes 284 = .ok (.iadd, 1) := by decide +kernel
theorem dX10_passes_285 : decode cX10_passes 285 = .ok (.iconst 0, 1) := by decide +kernel
theorem dX10_passes_286 : decode cX10_passes 286 = .ok (.iastore, 1) := by decide +kernel
theorem dX10_passes_287 : decode cX10_passes 287 = .ok (.iinc 3 1, 3) := by decide +kernel
theorem dX10_passes_290 : decode cX10_passes 290 = .ok (.goto (-250), 3) := by decide +kernel
theorem dX10_passes_293 : decode cX10_passes 293 = .ok (.aload_n 0, 1) := by decide +kernel
theorem dX10_passes_294 : decode cX10_passes 294 = .ok (.getfield 57, 3) := by decide +kernel
theorem dX10_passes_297 : decode cX10_passes 297 = .ok (.iload_n 2, 1) := by decide +kernel
theorem dX10_passes_298 : decode cX10_passes 298 = .ok (.bipush 30, 2) := by decide +kernel
theorem dX10_passes_300 : decode cX10_passes 300 = .ok (.iadd, 1) := by decide +kernel
theorem dX10_passes_301 : decode cX10_passes 301 = .ok (.dup2, 1) := by decide +kernel
theorem dX10_passes_302 : decode cX10_passes 302 = .ok (.iaload, 1) := by decide +kernel
theorem dX10_passes_303 : decode cX10_passes 303 = .ok (.iconst 1, 1) := by decide +kernel
theorem dX10_passes_304 : decode cX10_passes 304 = .ok (.iadd, 1) := by decide +kernel
theorem dX10_passes_305 : decode cX10_passes 305 = .ok (.iastore, 1) := by decide +kernel
theorem dX10_passes_306 : decode cX10_passes 306 = .ok (.aload_n 0, 1) := by decide +kernel
theorem dX10_passes_307 : decode cX10_passes 307 = .ok (.getfield 199, 3) := by decide +kernel
theorem dX10_passes_310 : decode cX10_passes 310 = .ok (.invokestatic 214, 3) := by decide +kernel
theorem dX10_passes_313 : decode cX10_passes 313 = .ok (.ireturn, 1) := by decide +kernel
theorem dX10_armTells_0 : decode cX10_armTells 0 = .ok (.iload_n 2, 1) := by decide +kernel
theorem dX10_armTells_1 : decode cX10_armTells 1 = .ok (.tableswitch 100 0 6 #[43, 50, 57, 64, 71, 80, 90], 43) := by decide +kernel
theorem dX10_armTells_44 : decode cX10_armTells 44 = .ok (.aload_n 0, 1) := by decide +kernel
theorem dX10_armTells_45 : decode cX10_armTells 45 = .ok (.getfield 33, 3) := by decide +kernel
theorem dX10_armTells_48 : decode cX10_armTells 48 = .ok (.iload_n 1, 1) := by decide +kernel
theorem dX10_armTells_49 : decode cX10_armTells 49 = .ok (.iaload, 1) := by decide +kernel
theorem dX10_armTells_50 : decode cX10_armTells 50 = .ok (.ireturn, 1) := by decide +kernel
theorem dX10_armTells_51 : decode cX10_armTells 51 = .ok (.aload_n 0, 1) := by decide +kernel
theorem dX10_armTells_52 : decode cX10_armTells 52 = .ok (.getfield 36, 3) := by decide +kernel
theorem dX10_armTells_55 : decode cX10_armTells 55 = .ok (.iload_n 1, 1) := by decide +kernel
theorem dX10_armTells_56 : decode cX10_armTells 56 = .ok (.iaload, 1) := by decide +kernel
theorem dX10_armTells_57 : decode cX10_armTells 57 = .ok (.ireturn, 1) := by decide +kernel
theorem dX10_armTells_58 : decode cX10_armTells 58 = .ok (.aload_n 0, 1) := by decide +kernel
theorem dX10_armTells_59 : decode cX10_armTells 59 = .ok (.getfield 39, 3) := by decide +kernel
theorem dX10_armTells_62 : decode cX10_armTells 62 = .ok (.iload_n 1, 1) := by decide +kernel
theorem dX10_armTells_63 : decode cX10_armTells 63 = .ok (.iaload, 1) := by decide +kernel
theorem dX10_armTells_64 : decode cX10_armTells 64 = .ok (.ireturn, 1) := by decide +kernel
theorem dX10_armTells_65 : decode cX10_armTells 65 = .ok (.aload_n 0, 1) := by decide +kernel
theorem dX10_armTells_66 : decode cX10_armTells 66 = .ok (.getfield 57, 3) := by decide +kernel
theorem dX10_armTells_69 : decode cX10_armTells 69 = .ok (.iload_n 1, 1) := by decide +kernel
theorem dX10_armTells_70 : decode cX10_armTells 70 = .ok (.iaload, 1) := by decide +kernel
theorem dX10_armTells_71 : decode cX10_armTells 71 = .ok (.ireturn, 1) := by decide +kernel
theorem dX10_armTells_72 : decode cX10_armTells 72 = .ok (.aload_n 0, 1) := by decide +kernel
theorem dX10_armTells_73 : decode cX10_armTells 73 = .ok (.getfield 57, 3) := by decide +kernel
theorem dX10_armTells_76 : decode cX10_armTells 76 = .ok (.iconst 5, 1) := by decide +kernel
theorem dX10_armTells_77 : decode cX10_armTells 77 = .ok (.iload_n 1, 1) := by decide +kernel
theorem dX10_armTells_78 : decode cX10_armTells 78 = .ok (.iadd, 1) := by decide +kernel
theorem dX10_armTells_79 : decode cX10_armTells 79 = .ok (.iaload, 1) := by decide +kernel
theorem dX10_armTells_80 : decode cX10_armTells 80 = .ok (.ireturn, 1) := by decide +kernel
theorem dX10_armTells_81 : decode cX10_armTells 81 = .ok (.aload_n 0, 1) := by decide +kernel
theorem dX10_armTells_82 : decode cX10_armTells 82 = .ok (.getfield 57, 3) := by decide +kernel
theorem dX10_armTells_85 : decode cX10_armTells 85 = .ok (.bipush 10, 2) := by decide +kernel
theorem dX10_armTells_87 : decode cX10_armTells 87 = .ok (.iload_n 1, 1) := by decide +kernel
theorem dX10_armTells_88 : decode cX10_armTells 88 = .ok (.iadd, 1) := by decide +kernel
theorem dX10_armTells_89 : decode cX10_armTells 89 = .ok (.iaload, 1) := by decide +kernel
theorem dX10_armTells_90 : decode cX10_armTells 90 = .ok (.ireturn, 1) := by decide +kernel
theorem dX10_armTells_91 : decode cX10_armTells 91 = .ok (.aload_n 0, 1) := by decide +kernel
theorem dX10_armTells_92 : decode cX10_armTells 92 = .ok (.getfield 57, 3) := by decide +kernel
theorem dX10_armTells_95 : decode cX10_armTells 95 = .ok (.bipush 15, 2) := by decide +kernel
theorem dX10_armTells_97 : decode cX10_armTells 97 = .ok (.iload_n 1, 1) := by decide +kernel
theorem dX10_armTells_98 : decode cX10_armTells 98 = .ok (.iadd, 1) := by decide +kernel
theorem dX10_armTells_99 : decode cX10_armTells 99 = .ok (.iaload, 1) := by decide +kernel
theorem dX10_armTells_100 : decode cX10_armTells 100 = .ok (.ireturn, 1) := by decide +kernel
theorem dX10_armTells_101 : decode cX10_armTells 101 = .ok (.aload_n 0, 1) := by decide +kernel
theorem dX10_armTells_102 : decode cX10_armTells 102 = .ok (.iconst 0, 1) := by decide +kernel
theorem dX10_armTells_103 : decode cX10_armTells 103 = .ok (.iload_n 1, 1) := by decide +kernel
theorem dX10_armTells_104 : decode cX10_armTells 104 = .ok (.invokevirtual 217, 3) := by decide +kernel
theorem dX10_armTells_107 : decode cX10_armTells 107 = .ok (.ifCond .eq 7, 3) := by decide +kernel
theorem dX10_armTells_110 : decode cX10_armTells 110 = .ok (.iconst 1, 1) := by decide +kernel
theorem dX10_armTells_111 : decode cX10_armTells 111 = .ok (.goto 4, 3) := by decide +kernel
theorem dX10_armTells_114 : decode cX10_armTells 114 = .ok (.iconst 0, 1) := by decide +kernel
theorem dX10_armTells_115 : decode cX10_armTells 115 = .ok (.ireturn, 1) := by decide +kernel
theorem dX10_arm_0 : decode cX10_arm 0 = .ok (.aload_n 0, 1) := by decide +kernel
theorem dX10_arm_1 : decode cX10_arm 1 = .ok (.iload_n 1, 1) := by decide +kernel
theorem dX10_arm_2 : decode cX10_arm 2 = .ok (.invokevirtual 220, 3) := by decide +kernel
theorem dX10_arm_5 : decode cX10_arm 5 = .ok (.ifCond .eq 27, 3) := by decide +kernel
theorem dX10_arm_8 : decode cX10_arm 8 = .ok (.iload_n 2, 1) := by decide +kernel
theorem dX10_arm_9 : decode cX10_arm 9 = .ok (.iconst 0, 1) := by decide +kernel
theorem dX10_arm_10 : decode cX10_arm 10 = .ok (.bipush 7, 2) := by decide +kernel
theorem dX10_arm_12 : decode cX10_arm 12 = .ok (.invokestatic 101, 3) := by decide +kernel
theorem dX10_arm_15 : decode cX10_arm 15 = .ok (.ifCond .eq 17, 3) := by decide +kernel
theorem dX10_arm_18 : decode cX10_arm 18 = .ok (.aload_n 0, 1) := by decide +kernel
theorem dX10_arm_19 : decode cX10_arm 19 = .ok (.aload_n 0, 1) := by decide +kernel
theorem dX10_arm_20 : decode cX10_arm 20 = .ok (.iload_n 1, 1) := by decide +kernel
theorem dX10_arm_21 : decode cX10_arm 21 = .ok (.iload_n 2, 1) := by decide +kernel
theorem dX10_arm_22 : decode cX10_arm 22 = .ok (.invokevirtual 223, 3) := by decide +kernel
theorem dX10_arm_25 : decode cX10_arm 25 = .ok (.iconst 1, 1) := by decide +kernel
theorem dX10_arm_26 : decode cX10_arm 26 = .ok (.invokevirtual 123, 3) := by decide +kernel
theorem dX10_arm_29 : decode cX10_arm 29 = .ok (.goto 4, 3) := by decide +kernel
theorem dX10_arm_32 : decode cX10_arm 32 = .ok (.iconst (-1), 1) := by decide +kernel
theorem dX10_arm_33 : decode cX10_arm 33 = .ok (.ireturn, 1) := by decide +kernel
theorem dX10_mark_0 : decode cX10_mark 0 = .ok (.aload_n 0, 1) := by decide +kernel
theorem dX10_mark_1 : decode cX10_mark 1 = .ok (.iload_n 1, 1) := by decide +kernel
theorem dX10_mark_2 : decode cX10_mark 2 = .ok (.invokevirtual 220, 3) := by decide +kernel
theorem dX10_mark_5 : decode cX10_mark 5 = .ok (.ifCond .eq 12, 3) := by decide +kernel
theorem dX10_mark_8 : decode cX10_mark 8 = .ok (.iload_n 2, 1) := by decide +kernel
theorem dX10_mark_9 : decode cX10_mark 9 = .ok (.iconst 1, 1) := by decide +kernel
theorem dX10_mark_10 : decode cX10_mark 10 = .ok (.iconst 5, 1) := by decide +kernel
theorem dX10_mark_11 : decode cX10_mark 11 = .ok (.invokestatic 101, 3) := by decide +kernel
theorem dX10_mark_14 : decode cX10_mark 14 = .ok (.ifCond .ne 5, 3) := by decide +kernel
theorem dX10_mark_17 : decode cX10_mark 17 = .ok (.iconst (-1), 1) := by decide +kernel
theorem dX10_mark_18 : decode cX10_mark 18 = .ok (.ireturn, 1) := by decide +kernel
theorem dX10_mark_19 : decode cX10_mark 19 = .ok (.aload_n 0, 1) := by decide +kernel
theorem dX10_mark_20 : decode cX10_mark 20 = .ok (.getfield 33, 3) := by decide +kernel
theorem dX10_mark_23 : decode cX10_mark 23 = .ok (.iload_n 1, 1) := by decide +kernel
theorem dX10_mark_24 : decode cX10_mark 24 = .ok (.iaload, 1) := by decide +kernel
theorem dX10_mark_25 : decode cX10_mark 25 = .ok (.istore_n 3, 1) := by decide +kernel
theorem dX10_mark_26 : decode cX10_mark 26 = .ok (.iload_n 3, 1) := by decide +kernel
theorem dX10_mark_27 : decode cX10_mark 27 = .ok (.iload_n 2, 1) := by decide +kernel
theorem dX10_mark_28 : decode cX10_mark 28 = .ok (.if_icmp .eq 29, 3) := by decide +kernel
theorem dX10_mark_31 : decode cX10_mark 31 = .ok (.iload_n 2, 1) := by decide +kernel
theorem dX10_mark_32 : decode cX10_mark 32 = .ok (.iconst 2, 1) := by decide +kernel
theorem dX10_mark_33 : decode cX10_mark 33 = .ok (.if_icmp .ne 8, 3) := by decide +kernel
theorem dX10_mark_36 : decode cX10_mark 36 = .ok (.iload_n 3, 1) := by decide +kernel
theorem dX10_mark_37 : decode cX10_mark 37 = .ok (.iconst 4, 1) := by decide +kernel
theorem dX10_mark_38 : decode cX10_mark 38 = .ok (.if_icmp .eq 19, 3) := by decide +kernel
theorem dX10_mark_41 : decode cX10_mark 41 = .ok (.iload_n 2, 1) := by decide +kernel
theorem dX10_mark_42 : decode cX10_mark 42 = .ok (.iconst 3, 1) := by decide +kernel
theorem dX10_mark_43 : decode cX10_mark 43 = .ok (.if_icmp .ne 8, 3) := by decide +kernel
theorem dX10_mark_46 : decode cX10_mark 46 = .ok (.iload_n 3, 1) := by decide +kernel
theorem dX10_mark_47 : decode cX10_mark 47 = .ok (.iconst 5, 1) := by decide +kernel
theorem dX10_mark_48 : decode cX10_mark 48 = .ok (.if_icmp .eq 9, 3) := by decide +kernel
theorem dX10_mark_51 : decode cX10_mark 51 = .ok (.aload_n 0, 1) := by decide +kernel
theorem dX10_mark_52 : decode cX10_mark 52 = .ok (.iconst 3, 1) := by decide +kernel
theorem dX10_mark_53 : decode cX10_mark 53 = .ok (.invokevirtual 115, 3) := by decide +kernel
theorem dX10_mark_56 : decode cX10_mark 56 = .ok (.ireturn, 1) := by decide +kernel
theorem dX10_mark_57 : decode cX10_mark 57 = .ok (.iload_n 2, 1) := by decide +kernel
theorem dX10_mark_58 : decode cX10_mark 58 = .ok (.tableswitch 80 1 4 #[30, 48, 63, 73], 30) := by decide +kernel
theorem dX10_mark_88 : decode cX10_mark 88 = .ok (.iconst 0, 1) := by decide +kernel
theorem dX10_mark_89 : decode cX10_mark 89 = .ok (.bipush 6, 2) := by decide +kernel
theorem dX10_mark_91 : decode cX10_mark 91 = .ok (.aload_n 0, 1) := by decide +kernel
theorem dX10_mark_92 : decode cX10_mark 92 = .ok (.getfield 57, 3) := by decide +kernel
theorem dX10_mark_95 : decode cX10_mark 95 = .ok (.iconst 5, 1) := by decide +kernel
theorem dX10_mark_96 : decode cX10_mark 96 = .ok (.iload_n 1, 1) := by decide +kernel
theorem dX10_mark_97 : decode cX10_mark 97 = .ok (.iadd, 1) := by decide +kernel
theorem dX10_mark_98 : decode cX10_mark 98 = .ok (.iaload, 1) := by decide +kernel
theorem dX10_mark_99 : decode cX10_mark 99 = .ok (.isub, 1) := by decide +kernel
theorem dX10_mark_100 : decode cX10_mark 100 = .ok (.iconst 2, 1) := by decide +kernel
theorem dX10_mark_101 : decode cX10_mark 101 = .ok (.idiv, 1) := by decide +kernel
theorem dX10_mark_102 : decode cX10_mark 102 = .ok (.invokestatic 205, 3) := by decide +kernel
theorem dX10_mark_105 : decode cX10_mark 105 = .ok (.ireturn, 1) := by decide +kernel
theorem dX10_mark_106 : decode cX10_mark 106 = .ok (.bipush 10, 2) := by decide +kernel
theorem dX10_mark_108 : decode cX10_mark 108 = .ok (.aload_n 0, 1) := by decide +kernel
theorem dX10_mark_109 : decode cX10_mark 109 = .ok (.getfield 57, 3) := by decide +kernel
theorem dX10_mark_112 : decode cX10_mark 112 = .ok (.bipush 10, 2) := by decide +kernel
theorem dX10_mark_114 : decode cX10_mark 114 = .ok (.iload_n 1, 1) := by decide +kernel
theorem dX10_mark_115 : decode cX10_mark 115 = .ok (.iadd, 1) := by decide +kernel
theorem dX10_mark_116 : decode cX10_mark 116 = .ok (.iaload, 1) := by decide +kernel
theorem dX10_mark_117 : decode cX10_mark 117 = .ok (.isub, 1) := by decide +kernel
theorem dX10_mark_118 : decode cX10_mark 118 = .ok (.iconst 2, 1) := by decide +kernel
theorem dX10_mark_119 : decode cX10_mark 119 = .ok (.idiv, 1) := by decide +kernel
theorem dX10_mark_120 : decode cX10_mark 120 = .ok (.ireturn, 1) := by decide +kernel
theorem dX10_mark_121 : decode cX10_mark 121 = .ok (.aload_n 0, 1) := by decide +kernel
theorem dX10_mark_122 : decode cX10_mark 122 = .ok (.getfield 57, 3) := by decide +kernel
theorem dX10_mark_125 : decode cX10_mark 125 = .ok (.bipush 20, 2) := by decide +kernel
theorem dX10_mark_127 : decode cX10_mark 127 = .ok (.iload_n 1, 1) := by decide +kernel
theorem dX10_mark_128 : decode cX10_mark 128 = .ok (.iadd, 1) := by decide +kernel
theorem dX10_mark_129 : decode cX10_mark 129 = .ok (.iaload, 1) := by decide +kernel
theorem dX10_mark_130 : decode cX10_mark 130 = .ok (.ireturn, 1) := by decide +kernel
theorem dX10_mark_131 : decode cX10_mark 131 = .ok (.aload_n 0, 1) := by decide +kernel
theorem dX10_mark_132 : decode cX10_mark 132 = .ok (.iconst 0, 1) := by decide +kernel
theorem dX10_mark_133 : decode cX10_mark 133 = .ok (.iload_n 1, 1) := by decide +kernel
theorem dX10_mark_134 : decode cX10_mark 134 = .ok (.invokevirtual 202, 3) := by decide +kernel
theorem dX10_mark_137 : decode cX10_mark 137 = .ok (.ireturn, 1) := by decide +kernel
theorem dX10_mark_138 : decode cX10_mark 138 = .ok (.aload_n 0, 1) := by decide +kernel
theorem dX10_mark_139 : decode cX10_mark 139 = .ok (.iconst 0, 1) := by decide +kernel
theorem dX10_mark_140 : decode cX10_mark 140 = .ok (.iload_n 1, 1) := by decide +kernel
theorem dX10_mark_141 : decode cX10_mark 141 = .ok (.invokevirtual 193, 3) := by decide +kernel
theorem dX10_mark_144 : decode cX10_mark 144 = .ok (.ireturn, 1) := by decide +kernel
theorem dX10_need_0 : decode cX10_need 0 = .ok (.aload_n 0, 1) := by decide +kernel
theorem dX10_need_1 : decode cX10_need 1 = .ok (.iload_n 1, 1) := by decide +kernel
theorem dX10_need_2 : decode cX10_need 2 = .ok (.invokevirtual 220, 3) := by decide +kernel
theorem dX10_need_5 : decode cX10_need 5 = .ok (.ifCond .eq 13, 3) := by decide +kernel
theorem dX10_need_8 : decode cX10_need 8 = .ok (.iload_n 2, 1) := by decide +kernel
theorem dX10_need_9 : decode cX10_need 9 = .ok (.iconst 0, 1) := by decide +kernel
theorem dX10_need_10 : decode cX10_need 10 = .ok (.bipush 9, 2) := by decide +kernel
theorem dX10_need_12 : decode cX10_need 12 = .ok (.invokestatic 101, 3) := by decide +kernel
theorem dX10_need_15 : decode cX10_need 15 = .ok (.ifCond .ne 5, 3) := by decide +kernel
theorem dX10_need_18 : decode cX10_need 18 = .ok (.iconst (-1), 1) := by decide +kernel
theorem dX10_need_19 : decode cX10_need 19 = .ok (.ireturn, 1) := by decide +kernel
theorem dX10_need_20 : decode cX10_need 20 = .ok (.aload_n 0, 1) := by decide +kernel
theorem dX10_need_21 : decode cX10_need 21 = .ok (.getfield 39, 3) := by decide +kernel
theorem dX10_need_24 : decode cX10_need 24 = .ok (.iload_n 1, 1) := by decide +kernel
theorem dX10_need_25 : decode cX10_need 25 = .ok (.iaload, 1) := by decide +kernel
theorem dX10_need_26 : decode cX10_need 26 = .ok (.istore_n 3, 1) := by decide +kernel
theorem dX10_need_27 : decode cX10_need 27 = .ok (.aload_n 0, 1) := by decide +kernel
theorem dX10_need_28 : decode cX10_need 28 = .ok (.getfield 39, 3) := by decide +kernel
theorem dX10_need_31 : decode cX10_need 31 = .ok (.iload_n 1, 1) := by decide +kernel
theorem dX10_need_32 : decode cX10_need 32 = .ok (.iload_n 2, 1) := by decide +kernel
theorem dX10_need_33 : decode cX10_need 33 = .ok (.iastore, 1) := by decide +kernel
theorem dX10_need_34 : decode cX10_need 34 = .ok (.iload_n 3, 1) := by decide +kernel
theorem dX10_need_35 : decode cX10_need 35 = .ok (.ireturn, 1) := by decide +kernel
theorem dX10_awaits_0 : decode cX10_awaits 0 = .ok (.aload_n 0, 1) := by decide +kernel
theorem dX10_awaits_1 : decode cX10_awaits 1 = .ok (.iload_n 1, 1) := by decide +kernel
theorem dX10_awaits_2 : decode cX10_awaits 2 = .ok (.invokevirtual 220, 3) := by decide +kernel
theorem dX10_awaits_5 : decode cX10_awaits 5 = .ok (.ifCond .eq 25, 3) := by decide +kernel
theorem dX10_awaits_8 : decode cX10_awaits 8 = .ok (.aload_n 0, 1) := by decide +kernel
theorem dX10_awaits_9 : decode cX10_awaits 9 = .ok (.iload_n 2, 1) := by decide +kernel
theorem dX10_awaits_10 : decode cX10_awaits 10 = .ok (.invokevirtual 220, 3) := by decide +kernel
theorem dX10_awaits_13 : decode cX10_awaits 13 = .ok (.ifCond .eq 17, 3) := by decide +kernel
theorem dX10_awaits_16 : decode cX10_awaits 16 = .ok (.iload_n 1, 1) := by decide +kernel
theorem dX10_awaits_17 : decode cX10_awaits 17 = .ok (.iload_n 2, 1) := by decide +kernel
theorem dX10_awaits_18 : decode cX10_awaits 18 = .ok (.if_icmp .eq 12, 3) := by decide +kernel
theorem dX10_awaits_21 : decode cX10_awaits 21 = .ok (.iload_n 3, 1) := by decide +kernel
theorem dX10_awaits_22 : decode cX10_awaits 22 = .ok (.iconst 0, 1) := by decide +kernel
theorem dX10_awaits_23 : decode cX10_awaits 23 = .ok (.iconst 1, 1) := by decide +kernel
theorem dX10_awaits_24 : decode cX10_awaits 24 = .ok (.invokestatic 101, 3) := by decide +kernel
theorem dX10_awaits_27 : decode cX10_awaits 27 = .ok (.ifCond .ne 5, 3) := by decide +kernel
theorem dX10_awaits_30 : decode cX10_awaits 30 = .ok (.iconst (-1), 1) := by decide +kernel
theorem dX10_awaits_31 : decode cX10_awaits 31 = .ok (.ireturn, 1) := by decide +kernel
theorem dX10_awaits_32 : decode cX10_awaits 32 = .ok (.aload_n 0, 1) := by decide +kernel
theorem dX10_awaits_33 : decode cX10_awaits 33 = .ok (.getfield 48, 3) := by decide +kernel
theorem dX10_awaits_36 : decode cX10_awaits 36 = .ok (.iload_n 1, 1) := by decide +kernel
theorem dX10_awaits_37 : decode cX10_awaits 37 = .ok (.iaload, 1) := by decide +kernel
theorem dX10_awaits_38 : decode cX10_awaits 38 = .ok (.iload_n 2, 1) := by decide +kernel
theorem dX10_awaits_39 : decode cX10_awaits 39 = .ok (.invokestatic 153, 3) := by decide +kernel
theorem dX10_awaits_42 : decode cX10_awaits 42 = .ok (.ifCond .eq 7, 3) := by decide +kernel
theorem dX10_awaits_45 : decode cX10_awaits 45 = .ok (.iconst 1, 1) := by decide +kernel
theorem dX10_awaits_46 : decode cX10_awaits 46 = .ok (.goto 4, 3) := by decide +kernel
theorem dX10_awaits_49 : decode cX10_awaits 49 = .ok (.iconst 0, 1) := by decide +kernel
theorem dX10_awaits_50 : decode cX10_awaits 50 = .ok (.istore 4, 2) := by decide +kernel
theorem dX10_awaits_52 : decode cX10_awaits 52 = .ok (.aload_n 0, 1) := by decide +kernel
theorem dX10_awaits_53 : decode cX10_awaits 53 = .ok (.getfield 48, 3) := by decide +kernel
theorem dX10_awaits_56 : decode cX10_awaits 56 = .ok (.iload_n 1, 1) := by decide +kernel
theorem dX10_awaits_57 : decode cX10_awaits 57 = .ok (.iload_n 3, 1) := by decide +kernel
theorem dX10_awaits_58 : decode cX10_awaits 58 = .ok (.iconst 1, 1) := by decide +kernel
theorem dX10_awaits_59 : decode cX10_awaits 59 = .ok (.if_icmp .ne 16, 3) := by decide +kernel
theorem dX10_awaits_62 : decode cX10_awaits 62 = .ok (.aload_n 0, 1) := by decide +kernel
theorem dX10_awaits_63 : decode cX10_awaits 63 = .ok (.getfield 48, 3) := by decide +kernel
theorem dX10_awaits_66 : decode cX10_awaits 66 = .ok (.iload_n 1, 1) := by decide +kernel
theorem dX10_awaits_67 : decode cX10_awaits 67 = .ok (.iaload, 1) := by decide +kernel
theorem dX10_awaits_68 : decode cX10_awaits 68 = .ok (.iconst 1, 1) := by decide +kernel
theorem dX10_awaits_69 : decode cX10_awaits 69 = .ok (.iload_n 2, 1) := by decide +kernel
theorem dX10_awaits_70 : decode cX10_awaits 70 = .ok (.ishl, 1) := by decide +kernel
theorem dX10_awaits_71 : decode cX10_awaits 71 = .ok (.ior, 1) := by decide +kernel
theorem dX10_awaits_72 : decode cX10_awaits 72 = .ok (.goto 15, 3) := by decide +kernel
theorem dX10_awaits_75 : decode cX10_awaits 75 = .ok (.aload_n 0, 1) := by decide +kernel
theorem dX10_awaits_76 : decode cX10_awaits 76 = .ok (.getfield 48, 3) := by decide +kernel
theorem dX10_awaits_79 : decode cX10_awaits 79 = .ok (.iload_n 1, 1) := by decide +kernel
theorem dX10_awaits_80 : decode cX10_awaits 80 = .ok (.iaload, 1) := by decide +kernel
theorem dX10_awaits_81 : decode cX10_awaits 81 = .ok (.iconst 1, 1) := by decide +kernel
theorem dX10_awaits_82 : decode cX10_awaits 82 = .ok (.iload_n 2, 1) := by decide +kernel
theorem dX10_awaits_83 : decode cX10_awaits 83 = .ok (.ishl, 1) := by decide +kernel
theorem dX10_awaits_84 : decode cX10_awaits 84 = .ok (.iconst (-1), 1) := by decide +kernel
theorem dX10_awaits_85 : decode cX10_awaits 85 = .ok (.ixor, 1) := by decide +kernel
theorem dX10_awaits_86 : decode cX10_awaits 86 = .ok (.iand, 1) := by decide +kernel
theorem dX10_awaits_87 : decode cX10_awaits 87 = .ok (.iastore, 1) := by decide +kernel
theorem dX10_awaits_88 : decode cX10_awaits 88 = .ok (.iload 4, 2) := by decide +kernel
theorem dX10_awaits_90 : decode cX10_awaits 90 = .ok (.ireturn, 1) := by decide +kernel
theorem dX10_remember_0 : decode cX10_remember 0 = .ok (.iconst 0, 1) := by decide +kernel
theorem dX10_remember_1 : decode cX10_remember 1 = .ok (.istore_n 1, 1) := by decide +kernel
theorem dX10_remember_2 : decode cX10_remember 2 = .ok (.iload_n 1, 1) := by decide +kernel
theorem dX10_remember_3 : decode cX10_remember 3 = .ok (.bipush 31, 2) := by decide +kernel
theorem dX10_remember_5 : decode cX10_remember 5 = .ok (.if_icmp .ge 29, 3) := by decide +kernel
theorem dX10_remember_8 : decode cX10_remember 8 = .ok (.aload_n 0, 1) := by decide +kernel
theorem dX10_remember_9 : decode cX10_remember 9 = .ok (.getfield 63, 3) := by decide +kernel
theorem dX10_remember_12 : decode cX10_remember 12 = .ok (.bipush 31, 2) := by decide +kernel
theorem dX10_remember_14 : decode cX10_remember 14 = .ok (.aload_n 0, 1) := by decide +kernel
theorem dX10_remember_15 : decode cX10_remember 15 = .ok (.getfield 178, 3) := by decide +kernel
theorem dX10_remember_18 : decode cX10_remember 18 = .ok (.imul, 1) := by decide +kernel
theorem dX10_remember_19 : decode cX10_remember 19 = .ok (.iload_n 1, 1) := by decide +kernel
theorem dX10_remember_20 : decode cX10_remember 20 = .ok (.iadd, 1) := by decide +kernel
theorem dX10_remember_21 : decode cX10_remember 21 = .ok (.aload_n 0, 1) := by decide +kernel
theorem dX10_remember_22 : decode cX10_remember 22 = .ok (.getfield 57, 3) := by decide +kernel
theorem dX10_remember_25 : decode cX10_remember 25 = .ok (.iload_n 1, 1) := by decide +kernel
theorem dX10_remember_26 : decode cX10_remember 26 = .ok (.iaload, 1) := by decide +kernel
theorem dX10_remember_27 : decode cX10_remember 27 = .ok (.iastore, 1) := by decide +kernel
theorem dX10_remember_28 : decode cX10_remember 28 = .ok (.iinc 1 1, 3) := by decide +kernel
theorem dX10_remember_31 : decode cX10_remember 31 = .ok (.goto (-29), 3) := by decide +kernel
theorem dX10_remember_34 : decode cX10_remember 34 = .ok (.aload_n 0, 1) := by decide +kernel
theorem dX10_remember_35 : decode cX10_remember 35 = .ok (.dup, 1) := by decide +kernel
theorem dX10_remember_36 : decode cX10_remember 36 = .ok (.getfield 178, 3) := by decide +kernel
theorem dX10_remember_39 : decode cX10_remember 39 = .ok (.iconst 1, 1) := by decide +kernel
theorem dX10_remember_40 : decode cX10_remember 40 = .ok (.iadd, 1) := by decide +kernel
theorem dX10_remember_41 : decode cX10_remember 41 = .ok (.putfield 178, 3) := by decide +kernel
theorem dX10_remember_44 : decode cX10_remember 44 = .ok (.return_, 1) := by decide +kernel
theorem dX10_stamp_0 : decode cX10_stamp 0 = .ok (.aload_n 0, 1) := by decide +kernel
theorem dX10_stamp_1 : decode cX10_stamp 1 = .ok (.iload_n 1, 1) := by decide +kernel
theorem dX10_stamp_2 : decode cX10_stamp 2 = .ok (.invokevirtual 220, 3) := by decide +kernel
theorem dX10_stamp_5 : decode cX10_stamp 5 = .ok (.ifCond .ne 5, 3) := by decide +kernel
theorem dX10_stamp_8 : decode cX10_stamp 8 = .ok (.iconst (-1), 1) := by decide +kernel
theorem dX10_stamp_9 : decode cX10_stamp 9 = .ok (.ireturn, 1) := by decide +kernel
theorem dX10_stamp_10 : decode cX10_stamp 10 = .ok (.aload_n 0, 1) := by decide +kernel
theorem dX10_stamp_11 : decode cX10_stamp 11 = .ok (.iconst 0, 1) := by decide +kernel
theorem dX10_stamp_12 : decode cX10_stamp 12 = .ok (.iload_n 1, 1) := by decide +kernel
theorem dX10_stamp_13 : decode cX10_stamp 13 = .ok (.invokevirtual 217, 3) := by decide +kernel
theorem dX10_stamp_16 : decode cX10_stamp 16 = .ok (.ifCond .ne 6, 3) := by decide +kernel
theorem dX10_stamp_19 : decode cX10_stamp 19 = .ok (.bipush (-4), 2) := by decide +kernel
theorem dX10_stamp_21 : decode cX10_stamp 21 = .ok (.ireturn, 1) := by decide +kernel
theorem dX10_stamp_22 : decode cX10_stamp 22 = .ok (.aload_n 0, 1) := by decide +kernel
theorem dX10_stamp_23 : decode cX10_stamp 23 = .ok (.getfield 178, 3) := by decide +kernel
theorem dX10_stamp_26 : decode cX10_stamp 26 = .ok (.bipush 60, 2) := by decide +kernel
theorem dX10_stamp_28 : decode cX10_stamp 28 = .ok (.if_icmp .ne 6, 3) := by decide +kernel
theorem dX10_stamp_31 : decode cX10_stamp 31 = .ok (.bipush (-2), 2) := by decide +kernel
theorem dX10_stamp_33 : decode cX10_stamp 33 = .ok (.ireturn, 1) := by decide +kernel
theorem dX10_stamp_34 : decode cX10_stamp 34 = .ok (.aload_n 0, 1) := by decide +kernel
theorem dX10_stamp_35 : decode cX10_stamp 35 = .ok (.invokevirtual 226, 3) := by decide +kernel
theorem dX10_stamp_38 : decode cX10_stamp 38 = .ok (.aload_n 0, 1) := by decide +kernel
theorem dX10_stamp_39 : decode cX10_stamp 39 = .ok (.iconst 0, 1) := by decide +kernel
theorem dX10_stamp_40 : decode cX10_stamp 40 = .ok (.iload_n 1, 1) := by decide +kernel
theorem dX10_stamp_41 : decode cX10_stamp 41 = .ok (.invokevirtual 229, 3) := by decide +kernel
theorem dX10_stamp_44 : decode cX10_stamp 44 = .ok (.aload_n 0, 1) := by decide +kernel
theorem dX10_stamp_45 : decode cX10_stamp 45 = .ok (.iconst 0, 1) := by decide +kernel
theorem dX10_stamp_46 : decode cX10_stamp 46 = .ok (.invokevirtual 190, 3) := by decide +kernel
theorem dX10_stamp_49 : decode cX10_stamp 49 = .ok (.ireturn, 1) := by decide +kernel
theorem dX10_season_0 : decode cX10_season 0 = .ok (.aload_n 0, 1) := by decide +kernel
theorem dX10_season_1 : decode cX10_season 1 = .ok (.getfield 172, 3) := by decide +kernel
theorem dX10_season_4 : decode cX10_season 4 = .ok (.ifCond .ne 6, 3) := by decide +kernel
theorem dX10_season_7 : decode cX10_season 7 = .ok (.bipush (-4), 2) := by decide +kernel
theorem dX10_season_9 : decode cX10_season 9 = .ok (.ireturn, 1) := by decide +kernel
theorem dX10_season_10 : decode cX10_season 10 = .ok (.aload_n 0, 1) := by decide +kernel
theorem dX10_season_11 : decode cX10_season 11 = .ok (.getfield 178, 3) := by decide +kernel
theorem dX10_season_14 : decode cX10_season 14 = .ok (.bipush 60, 2) := by decide +kernel
theorem dX10_season_16 : decode cX10_season 16 = .ok (.if_icmp .ne 6, 3) := by decide +kernel
theorem dX10_season_19 : decode cX10_season 19 = .ok (.bipush (-2), 2) := by decide +kernel
theorem dX10_season_21 : decode cX10_season 21 = .ok (.ireturn, 1) := by decide +kernel
theorem dX10_season_22 : decode cX10_season 22 = .ok (.aload_n 0, 1) := by decide +kernel
theorem dX10_season_23 : decode cX10_season 23 = .ok (.invokevirtual 226, 3) := by decide +kernel
theorem dX10_season_26 : decode cX10_season 26 = .ok (.aload_n 0, 1) := by decide +kernel
theorem dX10_season_27 : decode cX10_season 27 = .ok (.iconst 0, 1) := by decide +kernel
theorem dX10_season_28 : decode cX10_season 28 = .ok (.invokevirtual 233, 3) := by decide +kernel
theorem dX10_season_31 : decode cX10_season 31 = .ok (.istore_n 1, 1) := by decide +kernel
theorem dX10_season_32 : decode cX10_season 32 = .ok (.aload_n 0, 1) := by decide +kernel
theorem dX10_season_33 : decode cX10_season 33 = .ok (.aload_n 0, 1) := by decide +kernel
theorem dX10_season_34 : decode cX10_season 34 = .ok (.getfield 199, 3) := by decide +kernel
theorem dX10_season_37 : decode cX10_season 37 = .ok (.iload_n 1, 1) := by decide +kernel
theorem dX10_season_38 : decode cX10_season 38 = .ok (.invokevirtual 123, 3) := by decide +kernel
theorem dX10_season_41 : decode cX10_season 41 = .ok (.ireturn, 1) := by decide +kernel
theorem dX10_leaves_0 : decode cX10_leaves 0 = .ok (.aload_n 0, 1) := by decide +kernel
theorem dX10_leaves_1 : decode cX10_leaves 1 = .ok (.getfield 57, 3) := by decide +kernel
theorem dX10_leaves_4 : decode cX10_leaves 4 = .ok (.bipush 31, 2) := by decide +kernel
theorem dX10_leaves_6 : decode cX10_leaves 6 = .ok (.iload_n 1, 1) := by decide +kernel
theorem dX10_leaves_7 : decode cX10_leaves 7 = .ok (.imul, 1) := by decide +kernel
theorem dX10_leaves_8 : decode cX10_leaves 8 = .ok (.bipush 20, 2) := by decide +kernel
theorem dX10_leaves_10 : decode cX10_leaves 10 = .ok (.iadd, 1) := by decide +kernel
theorem dX10_leaves_11 : decode cX10_leaves 11 = .ok (.iload_n 2, 1) := by decide +kernel
theorem dX10_leaves_12 : decode cX10_leaves 12 = .ok (.iadd, 1) := by decide +kernel
theorem dX10_leaves_13 : decode cX10_leaves 13 = .ok (.iconst 0, 1) := by decide +kernel
theorem dX10_leaves_14 : decode cX10_leaves 14 = .ok (.iastore, 1) := by decide +kernel
theorem dX10_leaves_15 : decode cX10_leaves 15 = .ok (.aload_n 0, 1) := by decide +kernel
theorem dX10_leaves_16 : decode cX10_leaves 16 = .ok (.getfield 57, 3) := by decide +kernel
theorem dX10_leaves_19 : decode cX10_leaves 19 = .ok (.bipush 31, 2) := by decide +kernel
theorem dX10_leaves_21 : decode cX10_leaves 21 = .ok (.iload_n 1, 1) := by decide +kernel
theorem dX10_leaves_22 : decode cX10_leaves 22 = .ok (.imul, 1) := by decide +kernel
theorem dX10_leaves_23 : decode cX10_leaves 23 = .ok (.iload_n 2, 1) := by decide +kernel
theorem dX10_leaves_24 : decode cX10_leaves 24 = .ok (.iadd, 1) := by decide +kernel
theorem dX10_leaves_25 : decode cX10_leaves 25 = .ok (.iconst 0, 1) := by decide +kernel
theorem dX10_leaves_26 : decode cX10_leaves 26 = .ok (.iastore, 1) := by decide +kernel
theorem dX10_leaves_27 : decode cX10_leaves 27 = .ok (.return_, 1) := by decide +kernel
theorem dX10_leave_0 : decode cX10_leave 0 = .ok (.aload_n 0, 1) := by decide +kernel
theorem dX10_leave_1 : decode cX10_leave 1 = .ok (.iload_n 1, 1) := by decide +kernel
theorem dX10_leave_2 : decode cX10_leave 2 = .ok (.invokevirtual 220, 3) := by decide +kernel
theorem dX10_leave_5 : decode cX10_leave 5 = .ok (.ifCond .ne 5, 3) := by decide +kernel
theorem dX10_leave_8 : decode cX10_leave 8 = .ok (.iconst (-1), 1) := by decide +kernel
theorem dX10_leave_9 : decode cX10_leave 9 = .ok (.ireturn, 1) := by decide +kernel
theorem dX10_leave_10 : decode cX10_leave 10 = .ok (.aload_n 0, 1) := by decide +kernel
theorem dX10_leave_11 : decode cX10_leave 11 = .ok (.iconst 0, 1) := by decide +kernel
theorem dX10_leave_12 : decode cX10_leave 12 = .ok (.iload_n 1, 1) := by decide +kernel
theorem dX10_leave_13 : decode cX10_leave 13 = .ok (.invokevirtual 187, 3) := by decide +kernel
theorem dX10_leave_16 : decode cX10_leave 16 = .ok (.ifCond .ne 6, 3) := by decide +kernel
theorem dX10_leave_19 : decode cX10_leave 19 = .ok (.bipush (-4), 2) := by decide +kernel
theorem dX10_leave_21 : decode cX10_leave 21 = .ok (.ireturn, 1) := by decide +kernel
theorem dX10_leave_22 : decode cX10_leave 22 = .ok (.aload_n 0, 1) := by decide +kernel
theorem dX10_leave_23 : decode cX10_leave 23 = .ok (.getfield 178, 3) := by decide +kernel
theorem dX10_leave_26 : decode cX10_leave 26 = .ok (.bipush 60, 2) := by decide +kernel
theorem dX10_leave_28 : decode cX10_leave 28 = .ok (.if_icmp .ne 6, 3) := by decide +kernel
theorem dX10_leave_31 : decode cX10_leave 31 = .ok (.bipush (-2), 2) := by decide +kernel
theorem dX10_leave_33 : decode cX10_leave 33 = .ok (.ireturn, 1) := by decide +kernel
theorem dX10_leave_34 : decode cX10_leave 34 = .ok (.aload_n 0, 1) := by decide +kernel
theorem dX10_leave_35 : decode cX10_leave 35 = .ok (.invokevirtual 226, 3) := by decide +kernel
theorem dX10_leave_38 : decode cX10_leave 38 = .ok (.aload_n 0, 1) := by decide +kernel
theorem dX10_leave_39 : decode cX10_leave 39 = .ok (.iconst 0, 1) := by decide +kernel
theorem dX10_leave_40 : decode cX10_leave 40 = .ok (.iload_n 1, 1) := by decide +kernel
theorem dX10_leave_41 : decode cX10_leave 41 = .ok (.invokevirtual 236, 3) := by decide +kernel
theorem dX10_leave_44 : decode cX10_leave 44 = .ok (.iconst 1, 1) := by decide +kernel
theorem dX10_leave_45 : decode cX10_leave 45 = .ok (.ireturn, 1) := by decide +kernel
theorem dX10_undo_0 : decode cX10_undo 0 = .ok (.iload_n 1, 1) := by decide +kernel
theorem dX10_undo_1 : decode cX10_undo 1 = .ok (.iconst 0, 1) := by decide +kernel
theorem dX10_undo_2 : decode cX10_undo 2 = .ok (.aload_n 0, 1) := by decide +kernel
theorem dX10_undo_3 : decode cX10_undo 3 = .ok (.getfield 178, 3) := by decide +kernel
theorem dX10_undo_6 : decode cX10_undo 6 = .ok (.invokestatic 101, 3) := by decide +kernel
theorem dX10_undo_9 : decode cX10_undo 9 = .ok (.ifCond .ne 5, 3) := by decide +kernel
theorem dX10_undo_12 : decode cX10_undo 12 = .ok (.iconst (-1), 1) := by decide +kernel
theorem dX10_undo_13 : decode cX10_undo 13 = .ok (.ireturn, 1) := by decide +kernel
theorem dX10_undo_14 : decode cX10_undo 14 = .ok (.aload_n 0, 1) := by decide +kernel
theorem dX10_undo_15 : decode cX10_undo 15 = .ok (.getfield 178, 3) := by decide +kernel
theorem dX10_undo_18 : decode cX10_undo 18 = .ok (.iload_n 1, 1) := by decide +kernel
theorem dX10_undo_19 : decode cX10_undo 19 = .ok (.isub, 1) := by decide +kernel
theorem dX10_undo_20 : decode cX10_undo 20 = .ok (.istore_n 2, 1) := by decide +kernel
theorem dX10_undo_21 : decode cX10_undo 21 = .ok (.iconst 0, 1) := by decide +kernel
theorem dX10_undo_22 : decode cX10_undo 22 = .ok (.istore_n 3, 1) := by decide +kernel
theorem dX10_undo_23 : decode cX10_undo 23 = .ok (.iload_n 3, 1) := by decide +kernel
theorem dX10_undo_24 : decode cX10_undo 24 = .ok (.bipush 31, 2) := by decide +kernel
theorem dX10_undo_26 : decode cX10_undo 26 = .ok (.if_icmp .ge 30, 3) := by decide +kernel
theorem dX10_undo_29 : decode cX10_undo 29 = .ok (.iload_n 2, 1) := by decide +kernel
theorem dX10_undo_30 : decode cX10_undo 30 = .ok (.ifCond .le 26, 3) := by decide +kernel
theorem dX10_undo_33 : decode cX10_undo 33 = .ok (.aload_n 0, 1) := by decide +kernel
theorem dX10_undo_34 : decode cX10_undo 34 = .ok (.getfield 57, 3) := by decide +kernel
theorem dX10_undo_37 : decode cX10_undo 37 = .ok (.iload_n 3, 1) := by decide +kernel
theorem dX10_undo_38 : decode cX10_undo 38 = .ok (.aload_n 0, 1) := by decide +kernel
theorem dX10_undo_39 : decode cX10_undo 39 = .ok (.getfield 63, 3) := by decide +kernel
theorem dX10_undo_42 : decode cX10_undo 42 = .ok (.bipush 31, 2) := by decide +kernel
theorem dX10_undo_44 : decode cX10_undo 44 = .ok (.iload_n 1, 1) := by decide +kernel
theorem dX10_undo_45 : decode cX10_undo 45 = .ok (.imul, 1) := by decide +kernel
theorem dX10_undo_46 : decode cX10_undo 46 = .ok (.iload_n 3, 1) := by decide +kernel
theorem dX10_undo_47 : decode cX10_undo 47 = .ok (.iadd, 1) := by decide +kernel
theorem dX10_undo_48 : decode cX10_undo 48 = .ok (.iaload, 1) := by decide +kernel
theorem dX10_undo_49 : decode cX10_undo 49 = .ok (.iastore, 1) := by decide +kernel
theorem dX10_undo_50 : decode cX10_undo 50 = .ok (.iinc 3 1, 3) := by decide +kernel
theorem dX10_undo_53 : decode cX10_undo 53 = .ok (.goto (-30), 3) := by decide +kernel
theorem dX10_undo_56 : decode cX10_undo 56 = .ok (.aload_n 0, 1) := by decide +kernel
theorem dX10_undo_57 : decode cX10_undo 57 = .ok (.iload_n 1, 1) := by decide +kernel
theorem dX10_undo_58 : decode cX10_undo 58 = .ok (.putfield 178, 3) := by decide +kernel
theorem dX10_undo_61 : decode cX10_undo 61 = .ok (.iload_n 2, 1) := by decide +kernel
theorem dX10_undo_62 : decode cX10_undo 62 = .ok (.ireturn, 1) := by decide +kernel
theorem dX10_now_0 : decode cX10_now 0 = .ok (.aload_n 0, 1) := by decide +kernel
theorem dX10_now_1 : decode cX10_now 1 = .ok (.getfield 172, 3) := by decide +kernel
theorem dX10_now_4 : decode cX10_now 4 = .ok (.ifCond .ne 8, 3) := by decide +kernel
theorem dX10_now_7 : decode cX10_now 7 = .ok (.bipush (-4), 2) := by decide +kernel
theorem dX10_now_9 : decode cX10_now 9 = .ok (.goto 19, 3) := by decide +kernel
theorem dX10_now_12 : decode cX10_now 12 = .ok (.aload_n 0, 1) := by decide +kernel
theorem dX10_now_13 : decode cX10_now 13 = .ok (.aload_n 0, 1) := by decide +kernel
theorem dX10_now_14 : decode cX10_now 14 = .ok (.iconst 0, 1) := by decide +kernel
theorem dX10_now_15 : decode cX10_now 15 = .ok (.invokevirtual 190, 3) := by decide +kernel
theorem dX10_now_18 : decode cX10_now 18 = .ok (.aload_n 0, 1) := by decide +kernel
theorem dX10_now_19 : decode cX10_now 19 = .ok (.getfield 57, 3) := by decide +kernel
theorem dX10_now_22 : decode cX10_now 22 = .ok (.bipush 30, 2) := by decide +kernel
theorem dX10_now_24 : decode cX10_now 24 = .ok (.iaload, 1) := by decide +kernel
theorem dX10_now_25 : decode cX10_now 25 = .ok (.invokevirtual 123, 3) := by decide +kernel
theorem dX10_now_28 : decode cX10_now 28 = .ok (.ireturn, 1) := by decide +kernel
theorem dX10_water_0 : decode cX10_water 0 = .ok (.aload_n 0, 1) := by decide +kernel
theorem dX10_water_1 : decode cX10_water 1 = .ok (.iload_n 1, 1) := by decide +kernel
theorem dX10_water_2 : decode cX10_water 2 = .ok (.invokevirtual 220, 3) := by decide +kernel
theorem dX10_water_5 : decode cX10_water 5 = .ok (.ifCond .eq 12, 3) := by decide +kernel
theorem dX10_water_8 : decode cX10_water 8 = .ok (.aload_n 0, 1) := by decide +kernel
theorem dX10_water_9 : decode cX10_water 9 = .ok (.iconst 0, 1) := by decide +kernel
theorem dX10_water_10 : decode cX10_water 10 = .ok (.iload_n 1, 1) := by decide +kernel
theorem dX10_water_11 : decode cX10_water 11 = .ok (.invokevirtual 202, 3) := by decide +kernel
theorem dX10_water_14 : decode cX10_water 14 = .ok (.goto 4, 3) := by decide +kernel
theorem dX10_water_17 : decode cX10_water 17 = .ok (.iconst (-1), 1) := by decide +kernel
theorem dX10_water_18 : decode cX10_water 18 = .ok (.ireturn, 1) := by decide +kernel
theorem dX10_keep_0 : decode cX10_keep 0 = .ok (.iload_n 1, 1) := by decide +kernel
theorem dX10_keep_1 : decode cX10_keep 1 = .ok (.iconst 0, 1) := by decide +kernel
theorem dX10_keep_2 : decode cX10_keep 2 = .ok (.iconst 2, 1) := by decide +kernel
theorem dX10_keep_3 : decode cX10_keep 3 = .ok (.invokestatic 101, 3) := by decide +kernel
theorem dX10_keep_6 : decode cX10_keep 6 = .ok (.ifCond .ne 5, 3) := by decide +kernel
theorem dX10_keep_9 : decode cX10_keep 9 = .ok (.iconst (-1), 1) := by decide +kernel
theorem dX10_keep_10 : decode cX10_keep 10 = .ok (.ireturn, 1) := by decide +kernel
theorem dX10_keep_11 : decode cX10_keep 11 = .ok (.aload_n 0, 1) := by decide +kernel
theorem dX10_keep_12 : decode cX10_keep 12 = .ok (.getfield 172, 3) := by decide +kernel
theorem dX10_keep_15 : decode cX10_keep 15 = .ok (.ifCond .ne 6, 3) := by decide +kernel
theorem dX10_keep_18 : decode cX10_keep 18 = .ok (.bipush (-4), 2) := by decide +kernel
theorem dX10_keep_20 : decode cX10_keep 20 = .ok (.ireturn, 1) := by decide +kernel
theorem dX10_keep_21 : decode cX10_keep 21 = .ok (.aload_n 0, 1) := by decide +kernel
theorem dX10_keep_22 : decode cX10_keep 22 = .ok (.getfield 66, 3) := by decide +kernel
theorem dX10_keep_25 : decode cX10_keep 25 = .ok (.iload_n 1, 1) := by decide +kernel
theorem dX10_keep_26 : decode cX10_keep 26 = .ok (.iconst 1, 1) := by decide +kernel
theorem dX10_keep_27 : decode cX10_keep 27 = .ok (.bastore, 1) := by decide +kernel
theorem dX10_keep_28 : decode cX10_keep 28 = .ok (.aload_n 0, 1) := by decide +kernel
theorem dX10_keep_29 : decode cX10_keep 29 = .ok (.getfield 70, 3) := by decide +kernel
theorem dX10_keep_32 : decode cX10_keep 32 = .ok (.iload_n 1, 1) := by decide +kernel
theorem dX10_keep_33 : decode cX10_keep 33 = .ok (.aload_n 0, 1) := by decide +kernel
theorem dX10_keep_34 : decode cX10_keep 34 = .ok (.getfield 178, 3) := by decide +kernel
theorem dX10_keep_37 : decode cX10_keep 37 = .ok (.iastore, 1) := by decide +kernel
theorem dX10_keep_38 : decode cX10_keep 38 = .ok (.iconst 0, 1) := by decide +kernel
theorem dX10_keep_39 : decode cX10_keep 39 = .ok (.istore_n 2, 1) := by decide +kernel
theorem dX10_keep_40 : decode cX10_keep 40 = .ok (.iload_n 2, 1) := by decide +kernel
theorem dX10_keep_41 : decode cX10_keep 41 = .ok (.bipush 31, 2) := by decide +kernel
theorem dX10_keep_43 : decode cX10_keep 43 = .ok (.if_icmp .ge 26, 3) := by decide +kernel
theorem dX10_keep_46 : decode cX10_keep 46 = .ok (.aload_n 0, 1) := by decide +kernel
theorem dX10_keep_47 : decode cX10_keep 47 = .ok (.getfield 73, 3) := by decide +kernel
theorem dX10_keep_50 : decode cX10_keep 50 = .ok (.bipush 31, 2) := by decide +kernel
theorem dX10_keep_52 : decode cX10_keep 52 = .ok (.iload_n 1, 1) := by decide +kernel
theorem dX10_keep_53 : decode cX10_keep 53 = .ok (.imul, 1) := by decide +kernel
theorem dX10_keep_54 : decode cX10_keep 54 = .ok (.iload_n 2, 1) := by decide +kernel
theorem dX10_keep_55 : decode cX10_keep 55 = .ok (.iadd, 1) := by decide +kernel
theorem dX10_keep_56 : decode cX10_keep 56 = .ok (.aload_n 0, 1) := by decide +kernel
theorem dX10_keep_57 : decode cX10_keep 57 = .ok (.getfield 57, 3) := by decide +kernel
theorem dX10_keep_60 : decode cX10_keep 60 = .ok (.iload_n 2, 1) := by decide +kernel
theorem dX10_keep_61 : decode cX10_keep 61 = .ok (.iaload, 1) := by decide +kernel
theorem dX10_keep_62 : decode cX10_keep 62 = .ok (.iastore, 1) := by decide +kernel
theorem dX10_keep_63 : decode cX10_keep 63 = .ok (.iinc 2 1, 3) := by decide +kernel
theorem dX10_keep_66 : decode cX10_keep 66 = .ok (.goto (-26), 3) := by decide +kernel
theorem dX10_keep_69 : decode cX10_keep 69 = .ok (.iconst 0, 1) := by decide +kernel
theorem dX10_keep_70 : decode cX10_keep 70 = .ok (.istore_n 2, 1) := by decide +kernel
theorem dX10_keep_71 : decode cX10_keep 71 = .ok (.iload_n 2, 1) := by decide +kernel
theorem dX10_keep_72 : decode cX10_keep 72 = .ok (.iconst 5, 1) := by decide +kernel
theorem dX10_keep_73 : decode cX10_keep 73 = .ok (.if_icmp .ge 25, 3) := by decide +kernel
theorem dX10_keep_76 : decode cX10_keep 76 = .ok (.aload_n 0, 1) := by decide +kernel
theorem dX10_keep_77 : decode cX10_keep 77 = .ok (.getfield 76, 3) := by decide +kernel
theorem dX10_keep_80 : decode cX10_keep 80 = .ok (.iconst 5, 1) := by decide +kernel
theorem dX10_keep_81 : decode cX10_keep 81 = .ok (.iload_n 1, 1) := by decide +kernel
theorem dX10_keep_82 : decode cX10_keep 82 = .ok (.imul, 1) := by decide +kernel
theorem dX10_keep_83 : decode cX10_keep 83 = .ok (.iload_n 2, 1) := by decide +kernel
theorem dX10_keep_84 : decode cX10_keep 84 = .ok (.iadd, 1) := by decide +kernel
theorem dX10_keep_85 : decode cX10_keep 85 = .ok (.aload_n 0, 1) := by decide +kernel
theorem dX10_keep_86 : decode cX10_keep 86 = .ok (.getfield 39, 3) := by decide +kernel
theorem dX10_keep_89 : decode cX10_keep 89 = .ok (.iload_n 2, 1) := by decide +kernel
theorem dX10_keep_90 : decode cX10_keep 90 = .ok (.iaload, 1) := by decide +kernel
theorem dX10_keep_91 : decode cX10_keep 91 = .ok (.iastore, 1) := by decide +kernel
theorem dX10_keep_92 : decode cX10_keep 92 = .ok (.iinc 2 1, 3) := by decide +kernel
theorem dX10_keep_95 : decode cX10_keep 95 = .ok (.goto (-24), 3) := by decide +kernel
theorem dX10_keep_98 : decode cX10_keep 98 = .ok (.iconst 0, 1) := by decide +kernel
theorem dX10_keep_99 : decode cX10_keep 99 = .ok (.istore_n 2, 1) := by decide +kernel
theorem dX10_keep_100 : decode cX10_keep 100 = .ok (.iload_n 2, 1) := by decide +kernel
theorem dX10_keep_101 : decode cX10_keep 101 = .ok (.bipush 31, 2) := by decide +kernel
theorem dX10_keep_103 : decode cX10_keep 103 = .ok (.aload_n 0, 1) := by decide +kernel
theorem dX10_keep_104 : decode cX10_keep 104 = .ok (.getfield 178, 3) := by decide +kernel
theorem dX10_keep_107 : decode cX10_keep 107 = .ok (.imul, 1) := by decide +kernel
theorem dX10_keep_108 : decode cX10_keep 108 = .ok (.if_icmp .ge 27, 3) := by decide +kernel
theorem dX10_keep_111 : decode cX10_keep 111 = .ok (.aload_n 0, 1) := by decide +kernel
theorem dX10_keep_112 : decode cX10_keep 112 = .ok (.getfield 79, 3) := by decide +kernel
theorem dX10_keep_115 : decode cX10_keep 115 = .ok (.sipush 1860, 3) := by decide +kernel
theorem dX10_keep_118 : decode cX10_keep 118 = .ok (.iload_n 1, 1) := by decide +kernel
theorem dX10_keep_119 : decode cX10_keep 119 = .ok (.imul, 1) := by decide +kernel
theorem dX10_keep_120 : decode cX10_keep 120 = .ok (.iload_n 2, 1) := by decide +kernel
theorem dX10_keep_121 : decode cX10_keep 121 = .ok (.iadd, 1) := by decide +kernel
theorem dX10_keep_122 : decode cX10_keep 122 = .ok (.aload_n 0, 1) := by decide +kernel
theorem dX10_keep_123 : decode cX10_keep 123 = .ok (.getfield 63, 3) := by decide +kernel
theorem dX10_keep_126 : decode cX10_keep 126 = .ok (.iload_n 2, 1) := by decide +kernel
theorem dX10_keep_127 : decode cX10_keep 127 = .ok (.iaload, 1) := by decide +kernel
theorem dX10_keep_128 : decode cX10_keep 128 = .ok (.iastore, 1) := by decide +kernel
theorem dX10_keep_129 : decode cX10_keep 129 = .ok (.iinc 2 1, 3) := by decide +kernel
theorem dX10_keep_132 : decode cX10_keep 132 = .ok (.goto (-32), 3) := by decide +kernel
theorem dX10_keep_135 : decode cX10_keep 135 = .ok (.aload_n 0, 1) := by decide +kernel
theorem dX10_keep_136 : decode cX10_keep 136 = .ok (.getfield 178, 3) := by decide +kernel
theorem dX10_keep_139 : decode cX10_keep 139 = .ok (.ireturn, 1) := by decide +kernel
theorem dX10_on_0 : decode cX10_on 0 = .ok (.iload_n 1, 1) := by decide +kernel
theorem dX10_on_1 : decode cX10_on 1 = .ok (.iconst 0, 1) := by decide +kernel
theorem dX10_on_2 : decode cX10_on 2 = .ok (.iconst 2, 1) := by decide +kernel
theorem dX10_on_3 : decode cX10_on 3 = .ok (.invokestatic 101, 3) := by decide +kernel
theorem dX10_on_6 : decode cX10_on 6 = .ok (.ifCond .ne 5, 3) := by decide +kernel
theorem dX10_on_9 : decode cX10_on 9 = .ok (.iconst (-1), 1) := by decide +kernel
theorem dX10_on_10 : decode cX10_on 10 = .ok (.ireturn, 1) := by decide +kernel
theorem dX10_on_11 : decode cX10_on 11 = .ok (.aload_n 0, 1) := by decide +kernel
theorem dX10_on_12 : decode cX10_on 12 = .ok (.getfield 66, 3) := by decide +kernel
theorem dX10_on_15 : decode cX10_on 15 = .ok (.iload_n 1, 1) := by decide +kernel
theorem dX10_on_16 : decode cX10_on 16 = .ok (.baload, 1) := by decide +kernel
theorem dX10_on_17 : decode cX10_on 17 = .ok (.ifCond .ne 9, 3) := by decide +kernel
theorem dX10_on_20 : decode cX10_on 20 = .ok (.aload_n 0, 1) := by decide +kernel
theorem dX10_on_21 : decode cX10_on 21 = .ok (.iconst 1, 1) := by decide +kernel
theorem dX10_on_22 : decode cX10_on 22 = .ok (.invokevirtual 115, 3) := by decide +kernel
theorem dX10_on_25 : decode cX10_on 25 = .ok (.ireturn, 1) := by decide +kernel
theorem dX10_on_26 : decode cX10_on 26 = .ok (.aload_n 0, 1) := by decide +kernel
theorem dX10_on_27 : decode cX10_on 27 = .ok (.aload_n 0, 1) := by decide +kernel
theorem dX10_on_28 : decode cX10_on 28 = .ok (.getfield 70, 3) := by decide +kernel
theorem dX10_on_31 : decode cX10_on 31 = .ok (.iload_n 1, 1) := by decide +kernel
theorem dX10_on_32 : decode cX10_on 32 = .ok (.iaload, 1) := by decide +kernel
theorem dX10_on_33 : decode cX10_on 33 = .ok (.putfield 178, 3) := by decide +kernel
theorem dX10_on_36 : decode cX10_on 36 = .ok (.iconst 0, 1) := by decide +kernel
theorem dX10_on_37 : decode cX10_on 37 = .ok (.istore_n 2, 1) := by decide +kernel
theorem dX10_on_38 : decode cX10_on 38 = .ok (.iload_n 2, 1) := by decide +kernel
theorem dX10_on_39 : decode cX10_on 39 = .ok (.bipush 31, 2) := by decide +kernel
theorem dX10_on_41 : decode cX10_on 41 = .ok (.if_icmp .ge 26, 3) := by decide +kernel
theorem dX10_on_44 : decode cX10_on 44 = .ok (.aload_n 0, 1) := by decide +kernel
theorem dX10_on_45 : decode cX10_on 45 = .ok (.getfield 57, 3) := by decide +kernel
theorem dX10_on_48 : decode cX10_on 48 = .ok (.iload_n 2, 1) := by decide +kernel
theorem dX10_on_49 : decode cX10_on 49 = .ok (.aload_n 0, 1) := by decide +kernel
theorem dX10_on_50 : decode cX10_on 50 = .ok (.getfield 73, 3) := by decide +kernel
theorem dX10_on_53 : decode cX10_on 53 = .ok (.bipush 31, 2) := by decide +kernel
theorem dX10_on_55 : decode cX10_on 55 = .ok (.iload_n 1, 1) := by decide +kernel
theorem dX10_on_56 : decode cX10_on 56 = .ok (.imul, 1) := by decide +kernel
theorem dX10_on_57 : decode cX10_on 57 = .ok (.iload_n 2, 1) := by decide +kernel
theorem dX10_on_58 : decode cX10_on 58 = .ok (.iadd, 1) := by decide +kernel
theorem dX10_on_59 : decode cX10_on 59 = .ok (.iaload, 1) := by decide +kernel
theorem dX10_on_60 : decode cX10_on 60 = .ok (.iastore, 1) := by decide +kernel
theorem dX10_on_61 : decode cX10_on 61 = .ok (.iinc 2 1, 3) := by decide +kernel
theorem dX10_on_64 : decode cX10_on 64 = .ok (.goto (-26), 3) := by decide +kernel
theorem dX10_on_67 : decode cX10_on 67 = .ok (.iconst 0, 1) := by decide +kernel
theorem dX10_on_68 : decode cX10_on 68 = .ok (.istore_n 2, 1) := by decide +kernel
theorem dX10_on_69 : decode cX10_on 69 = .ok (.iload_n 2, 1) := by decide +kernel
theorem dX10_on_70 : decode cX10_on 70 = .ok (.iconst 5, 1) := by decide +kernel
theorem dX10_on_71 : decode cX10_on 71 = .ok (.if_icmp .ge 25, 3) := by decide +kernel
theorem dX10_on_74 : decode cX10_on 74 = .ok (.aload_n 0, 1) := by decide +kernel
theorem dX10_on_75 : decode cX10_on 75 = .ok (.getfield 39, 3) := by decide +kernel
theorem dX10_on_78 : decode cX10_on 78 = .ok (.iload_n 2, 1) := by decide +kernel
theorem dX10_on_79 : decode cX10_on 79 = .ok (.aload_n 0, 1) := by decide +kernel
theorem dX10_on_80 : decode cX10_on 80 = .ok (.getfield 76, 3) := by decide +kernel
theorem dX10_on_83 : decode cX10_on 83 = .ok (.iconst 5, 1) := by decide +kernel
theorem dX10_on_84 : decode cX10_on 84 = .ok (.iload_n 1, 1) := by decide +kernel
theorem dX10_on_85 : decode cX10_on 85 = .ok (.imul, 1) := by decide +kernel
theorem dX10_on_86 : decode cX10_on 86 = .ok (.iload_n 2, 1) := by decide +kernel
theorem dX10_on_87 : decode cX10_on 87 = .ok (.iadd, 1) := by decide +kernel
theorem dX10_on_88 : decode cX10_on 88 = .ok (.iaload, 1) := by decide +kernel
theorem dX10_on_89 : decode cX10_on 89 = .ok (.iastore, 1) := by decide +kernel
theorem dX10_on_90 : decode cX10_on 90 = .ok (.iinc 2 1, 3) := by decide +kernel
theorem dX10_on_93 : decode cX10_on 93 = .ok (.goto (-24), 3) := by decide +kernel
theorem dX10_on_96 : decode cX10_on 96 = .ok (.iconst 0, 1) := by decide +kernel
theorem dX10_on_97 : decode cX10_on 97 = .ok (.istore_n 2, 1) := by decide +kernel
theorem dX10_on_98 : decode cX10_on 98 = .ok (.iload_n 2, 1) := by decide +kernel
theorem dX10_on_99 : decode cX10_on 99 = .ok (.bipush 31, 2) := by decide +kernel
theorem dX10_on_101 : decode cX10_on 101 = .ok (.aload_n 0, 1) := by decide +kernel
theorem dX10_on_102 : decode cX10_on 102 = .ok (.getfield 178, 3) := by decide +kernel
theorem dX10_on_105 : decode cX10_on 105 = .ok (.imul, 1) := by decide +kernel
theorem dX10_on_106 : decode cX10_on 106 = .ok (.if_icmp .ge 27, 3) := by decide +kernel
theorem dX10_on_109 : decode cX10_on 109 = .ok (.aload_n 0, 1) := by decide +kernel
theorem dX10_on_110 : decode cX10_on 110 = .ok (.getfield 63, 3) := by decide +kernel
theorem dX10_on_113 : decode cX10_on 113 = .ok (.iload_n 2, 1) := by decide +kernel
theorem dX10_on_114 : decode cX10_on 114 = .ok (.aload_n 0, 1) := by decide +kernel
theorem dX10_on_115 : decode cX10_on 115 = .ok (.getfield 79, 3) := by decide +kernel
theorem dX10_on_118 : decode cX10_on 118 = .ok (.sipush 1860, 3) := by decide +kernel
theorem dX10_on_121 : decode cX10_on 121 = .ok (.iload_n 1, 1) := by decide +kernel
theorem dX10_on_122 : decode cX10_on 122 = .ok (.imul, 1) := by decide +kernel
theorem dX10_on_123 : decode cX10_on 123 = .ok (.iload_n 2, 1) := by decide +kernel
theorem dX10_on_124 : decode cX10_on 124 = .ok (.iadd, 1) := by decide +kernel
theorem dX10_on_125 : decode cX10_on 125 = .ok (.iaload, 1) := by decide +kernel
theorem dX10_on_126 : decode cX10_on 126 = .ok (.iastore, 1) := by decide +kernel
theorem dX10_on_127 : decode cX10_on 127 = .ok (.iinc 2 1, 3) := by decide +kernel
theorem dX10_on_130 : decode cX10_on 130 = .ok (.goto (-32), 3) := by decide +kernel
theorem dX10_on_133 : decode cX10_on 133 = .ok (.aload_n 0, 1) := by decide +kernel
theorem dX10_on_134 : decode cX10_on 134 = .ok (.getfield 178, 3) := by decide +kernel
theorem dX10_on_137 : decode cX10_on 137 = .ok (.ireturn, 1) := by decide +kernel
theorem dX10_setMany_0 : decode cX10_setMany 0 = .ok (.iconst 1, 1) := by decide +kernel
theorem dX10_setMany_1 : decode cX10_setMany 1 = .ok (.aload_n 0, 1) := by decide +kernel
theorem dX10_setMany_2 : decode cX10_setMany 2 = .ok (.getfield 172, 3) := by decide +kernel
theorem dX10_setMany_5 : decode cX10_setMany 5 = .ok (.ishl, 1) := by decide +kernel
theorem dX10_setMany_6 : decode cX10_setMany 6 = .ok (.ireturn, 1) := by decide +kernel
theorem dX10_stampsOf_0 : decode cX10_stampsOf 0 = .ok (.iconst 0, 1) := by decide +kernel
theorem dX10_stampsOf_1 : decode cX10_stampsOf 1 = .ok (.istore_n 3, 1) := by decide +kernel
theorem dX10_stampsOf_2 : decode cX10_stampsOf 2 = .ok (.iconst 0, 1) := by decide +kernel
theorem dX10_stampsOf_3 : decode cX10_stampsOf 3 = .ok (.istore 4, 2) := by decide +kernel
theorem dX10_stampsOf_5 : decode cX10_stampsOf 5 = .ok (.iload 4, 2) := by decide +kernel
theorem dX10_stampsOf_7 : decode cX10_stampsOf 7 = .ok (.aload_n 0, 1) := by decide +kernel
theorem dX10_stampsOf_8 : decode cX10_stampsOf 8 = .ok (.getfield 172, 3) := by decide +kernel
theorem dX10_stampsOf_11 : decode cX10_stampsOf 11 = .ok (.if_icmp .ge 42, 3) := by decide +kernel
theorem dX10_stampsOf_14 : decode cX10_stampsOf 14 = .ok (.iload_n 2, 1) := by decide +kernel
theorem dX10_stampsOf_15 : decode cX10_stampsOf 15 = .ok (.iload 4, 2) := by decide +kernel
theorem dX10_stampsOf_17 : decode cX10_stampsOf 17 = .ok (.invokestatic 153, 3) := by decide +kernel
theorem dX10_stampsOf_20 : decode cX10_stampsOf 20 = .ok (.ifCond .eq 27, 3) := by decide +kernel
theorem dX10_stampsOf_23 : decode cX10_stampsOf 23 = .ok (.aload_n 0, 1) := by decide +kernel
theorem dX10_stampsOf_24 : decode cX10_stampsOf 24 = .ok (.iload_n 1, 1) := by decide +kernel
theorem dX10_stampsOf_25 : decode cX10_stampsOf 25 = .ok (.iload 4, 2) := by decide +kernel
theorem dX10_stampsOf_27 : decode cX10_stampsOf 27 = .ok (.invokevirtual 217, 3) := by decide +kernel
theorem dX10_stampsOf_30 : decode cX10_stampsOf 30 = .ok (.ifCond .eq 17, 3) := by decide +kernel
theorem dX10_stampsOf_33 : decode cX10_stampsOf 33 = .ok (.aload_n 0, 1) := by decide +kernel
theorem dX10_stampsOf_34 : decode cX10_stampsOf 34 = .ok (.iload_n 1, 1) := by decide +kernel
theorem dX10_stampsOf_35 : decode cX10_stampsOf 35 = .ok (.iload 4, 2) := by decide +kernel
theorem dX10_stampsOf_37 : decode cX10_stampsOf 37 = .ok (.invokevirtual 229, 3) := by decide +kernel
theorem dX10_stampsOf_40 : decode cX10_stampsOf 40 = .ok (.iload_n 3, 1) := by decide +kernel
theorem dX10_stampsOf_41 : decode cX10_stampsOf 41 = .ok (.iconst 1, 1) := by decide +kernel
theorem dX10_stampsOf_42 : decode cX10_stampsOf 42 = .ok (.iload 4, 2) := by decide +kernel
theorem dX10_stampsOf_44 : decode cX10_stampsOf 44 = .ok (.ishl, 1) := by decide +kernel
theorem dX10_stampsOf_45 : decode cX10_stampsOf 45 = .ok (.ior, 1) := by decide +kernel
theorem dX10_stampsOf_46 : decode cX10_stampsOf 46 = .ok (.istore_n 3, 1) := by decide +kernel
theorem dX10_stampsOf_47 : decode cX10_stampsOf 47 = .ok (.iinc 4 1, 3) := by decide +kernel
theorem dX10_stampsOf_50 : decode cX10_stampsOf 50 = .ok (.goto (-45), 3) := by decide +kernel
theorem dX10_stampsOf_53 : decode cX10_stampsOf 53 = .ok (.iload_n 3, 1) := by decide +kernel
theorem dX10_stampsOf_54 : decode cX10_stampsOf 54 = .ok (.ireturn, 1) := by decide +kernel
theorem dX10_run_0 : decode cX10_run 0 = .ok (.iload_n 1, 1) := by decide +kernel
theorem dX10_run_1 : decode cX10_run 1 = .ok (.invokestatic 111, 3) := by decide +kernel
theorem dX10_run_4 : decode cX10_run 4 = .ok (.ifCond .ne 5, 3) := by decide +kernel
theorem dX10_run_7 : decode cX10_run 7 = .ok (.iconst (-1), 1) := by decide +kernel
theorem dX10_run_8 : decode cX10_run 8 = .ok (.ireturn, 1) := by decide +kernel
theorem dX10_run_9 : decode cX10_run 9 = .ok (.aload_n 0, 1) := by decide +kernel
theorem dX10_run_10 : decode cX10_run 10 = .ok (.getfield 172, 3) := by decide +kernel
theorem dX10_run_13 : decode cX10_run 13 = .ok (.ifCond .ne 6, 3) := by decide +kernel
theorem dX10_run_16 : decode cX10_run 16 = .ok (.bipush (-4), 2) := by decide +kernel
theorem dX10_run_18 : decode cX10_run 18 = .ok (.ireturn, 1) := by decide +kernel
theorem dX10_run_19 : decode cX10_run 19 = .ok (.aload_n 0, 1) := by decide +kernel
theorem dX10_run_20 : decode cX10_run 20 = .ok (.getfield 17, 3) := by decide +kernel
theorem dX10_run_23 : decode cX10_run 23 = .ok (.iload_n 1, 1) := by decide +kernel
theorem dX10_run_24 : decode cX10_run 24 = .ok (.iaload, 1) := by decide +kernel
theorem dX10_run_25 : decode cX10_run 25 = .ok (.ifCond .ge 9, 3) := by decide +kernel
theorem dX10_run_28 : decode cX10_run 28 = .ok (.aload_n 0, 1) := by decide +kernel
theorem dX10_run_29 : decode cX10_run 29 = .ok (.iconst 1, 1) := by decide +kernel
theorem dX10_run_30 : decode cX10_run 30 = .ok (.invokevirtual 115, 3) := by decide +kernel
theorem dX10_run_33 : decode cX10_run 33 = .ok (.ireturn, 1) := by decide +kernel
theorem dX10_run_34 : decode cX10_run 34 = .ok (.aload_n 0, 1) := by decide +kernel
theorem dX10_run_35 : decode cX10_run 35 = .ok (.getfield 17, 3) := by decide +kernel
theorem dX10_run_38 : decode cX10_run 38 = .ok (.iload_n 1, 1) := by decide +kernel
theorem dX10_run_39 : decode cX10_run 39 = .ok (.iaload, 1) := by decide +kernel
theorem dX10_run_40 : decode cX10_run 40 = .ok (.bipush 12, 2) := by decide +kernel
theorem dX10_run_42 : decode cX10_run 42 = .ok (.if_icmp .le 9, 3) := by decide +kernel
theorem dX10_run_45 : decode cX10_run 45 = .ok (.aload_n 0, 1) := by decide +kernel
theorem dX10_run_46 : decode cX10_run 46 = .ok (.iconst 5, 1) := by decide +kernel
theorem dX10_run_47 : decode cX10_run 47 = .ok (.invokevirtual 115, 3) := by decide +kernel
theorem dX10_run_50 : decode cX10_run 50 = .ok (.ireturn, 1) := by decide +kernel
theorem dX10_run_51 : decode cX10_run 51 = .ok (.iconst 1, 1) := by decide +kernel
theorem dX10_run_52 : decode cX10_run 52 = .ok (.istore_n 2, 1) := by decide +kernel
theorem dX10_run_53 : decode cX10_run 53 = .ok (.iconst 0, 1) := by decide +kernel
theorem dX10_run_54 : decode cX10_run 54 = .ok (.istore_n 3, 1) := by decide +kernel
theorem dX10_run_55 : decode cX10_run 55 = .ok (.iload_n 3, 1) := by decide +kernel
theorem dX10_run_56 : decode cX10_run 56 = .ok (.aload_n 0, 1) := by decide +kernel
theorem dX10_run_57 : decode cX10_run 57 = .ok (.getfield 17, 3) := by decide +kernel
theorem dX10_run_60 : decode cX10_run 60 = .ok (.iload_n 1, 1) := by decide +kernel
theorem dX10_run_61 : decode cX10_run 61 = .ok (.iaload, 1) := by decide +kernel
theorem dX10_run_62 : decode cX10_run 62 = .ok (.if_icmp .ge 38, 3) := by decide +kernel
theorem dX10_run_65 : decode cX10_run 65 = .ok (.iload_n 2, 1) := by decide +kernel
theorem dX10_run_66 : decode cX10_run 66 = .ok (.ifCond .eq 26, 3) := by decide +kernel
theorem dX10_run_69 : decode cX10_run 69 = .ok (.aload_n 0, 1) := by decide +kernel
theorem dX10_run_70 : decode cX10_run 70 = .ok (.iload_n 1, 1) := by decide +kernel
theorem dX10_run_71 : decode cX10_run 71 = .ok (.iload_n 3, 1) := by decide +kernel
theorem dX10_run_72 : decode cX10_run 72 = .ok (.invokevirtual 119, 3) := by decide +kernel
theorem dX10_run_75 : decode cX10_run 75 = .ok (.iconst 0, 1) := by decide +kernel
theorem dX10_run_76 : decode cX10_run 76 = .ok (.aload_n 0, 1) := by decide +kernel
theorem dX10_run_77 : decode cX10_run 77 = .ok (.invokevirtual 239, 3) := by decide +kernel
theorem dX10_run_80 : decode cX10_run 80 = .ok (.iconst 1, 1) := by decide +kernel
theorem dX10_run_81 : decode cX10_run 81 = .ok (.isub, 1) := by decide +kernel
theorem dX10_run_82 : decode cX10_run 82 = .ok (.invokestatic 101, 3) := by decide +kernel
theorem dX10_run_85 : decode cX10_run 85 = .ok (.ifCond .eq 7, 3) := by decide +kernel
theorem dX10_run_88 : decode cX10_run 88 = .ok (.iconst 1, 1) := by decide +kernel
theorem dX10_run_89 : decode cX10_run 89 = .ok (.goto 4, 3) := by decide +kernel
theorem dX10_run_92 : decode cX10_run 92 = .ok (.iconst 0, 1) := by decide +kernel
theorem dX10_run_93 : decode cX10_run 93 = .ok (.istore_n 2, 1) := by decide +kernel
theorem dX10_run_94 : decode cX10_run 94 = .ok (.iinc 3 1, 3) := by decide +kernel
theorem dX10_run_97 : decode cX10_run 97 = .ok (.goto (-42), 3) := by decide +kernel
theorem dX10_run_100 : decode cX10_run 100 = .ok (.iload_n 2, 1) := by decide +kernel
theorem dX10_run_101 : decode cX10_run 101 = .ok (.ifCond .ne 9, 3) := by decide +kernel
theorem dX10_run_104 : decode cX10_run 104 = .ok (.aload_n 0, 1) := by decide +kernel
theorem dX10_run_105 : decode cX10_run 105 = .ok (.iconst 3, 1) := by decide +kernel
theorem dX10_run_106 : decode cX10_run 106 = .ok (.invokevirtual 115, 3) := by decide +kernel
theorem dX10_run_109 : decode cX10_run 109 = .ok (.ireturn, 1) := by decide +kernel
theorem dX10_run_110 : decode cX10_run 110 = .ok (.aload_n 0, 1) := by decide +kernel
theorem dX10_run_111 : decode cX10_run 111 = .ok (.iconst 0, 1) := by decide +kernel
theorem dX10_run_112 : decode cX10_run 112 = .ok (.iconst 1, 1) := by decide +kernel
theorem dX10_run_113 : decode cX10_run 113 = .ok (.invokevirtual 243, 3) := by decide +kernel
theorem dX10_run_116 : decode cX10_run 116 = .ok (.iconst 0, 1) := by decide +kernel
theorem dX10_run_117 : decode cX10_run 117 = .ok (.istore_n 3, 1) := by decide +kernel
theorem dX10_run_118 : decode cX10_run 118 = .ok (.iconst 0, 1) := by decide +kernel
theorem dX10_run_119 : decode cX10_run 119 = .ok (.istore 4, 2) := by decide +kernel
theorem dX10_run_121 : decode cX10_run 121 = .ok (.iconst 0, 1) := by decide +kernel
theorem dX10_run_122 : decode cX10_run 122 = .ok (.istore 5, 2) := by decide +kernel
theorem dX10_run_124 : decode cX10_run 124 = .ok (.iload 5, 2) := by decide +kernel
theorem dX10_run_126 : decode cX10_run 126 = .ok (.aload_n 0, 1) := by decide +kernel
theorem dX10_run_127 : decode cX10_run 127 = .ok (.getfield 17, 3) := by decide +kernel
theorem dX10_run_130 : decode cX10_run 130 = .ok (.iload_n 1, 1) := by decide +kernel
theorem dX10_run_131 : decode cX10_run 131 = .ok (.iaload, 1) := by decide +kernel
theorem dX10_run_132 : decode cX10_run 132 = .ok (.if_icmp .ge 37, 3) := by decide +kernel
theorem dX10_run_135 : decode cX10_run 135 = .ok (.iload_n 3, 1) := by decide +kernel
theorem dX10_run_136 : decode cX10_run 136 = .ok (.aload_n 0, 1) := by decide +kernel
theorem dX10_run_137 : decode cX10_run 137 = .ok (.iconst 1, 1) := by decide +kernel
theorem dX10_run_138 : decode cX10_run 138 = .ok (.aload_n 0, 1) := by decide +kernel
theorem dX10_run_139 : decode cX10_run 139 = .ok (.iload_n 1, 1) := by decide +kernel
theorem dX10_run_140 : decode cX10_run 140 = .ok (.iload 5, 2) := by decide +kernel
theorem dX10_run_142 : decode cX10_run 142 = .ok (.invokevirtual 119, 3) := by decide +kernel
theorem dX10_run_145 : decode cX10_run 145 = .ok (.invokevirtual 246, 3) := by decide +kernel
theorem dX10_run_148 : decode cX10_run 148 = .ok (.invokestatic 214, 3) := by decide +kernel
theorem dX10_run_151 : decode cX10_run 151 = .ok (.iadd, 1) := by decide +kernel
theorem dX10_run_152 : decode cX10_run 152 = .ok (.istore_n 3, 1) := by decide +kernel
theorem dX10_run_153 : decode cX10_run 153 = .ok (.iload 4, 2) := by decide +kernel
theorem dX10_run_155 : decode cX10_run 155 = .ok (.aload_n 0, 1) := by decide +kernel
theorem dX10_run_156 : decode cX10_run 156 = .ok (.iconst 1, 1) := by decide +kernel
theorem dX10_run_157 : decode cX10_run 157 = .ok (.invokevirtual 233, 3) := by decide +kernel
theorem dX10_run_160 : decode cX10_run 160 = .ok (.iadd, 1) := by decide +kernel
theorem dX10_run_161 : decode cX10_run 161 = .ok (.istore 4, 2) := by decide +kernel
theorem dX10_run_163 : decode cX10_run 163 = .ok (.iinc 5 1, 3) := by decide +kernel
theorem dX10_run_166 : decode cX10_run 166 = .ok (.goto (-42), 3) := by decide +kernel
theorem dX10_run_169 : decode cX10_run 169 = .ok (.aload_n 0, 1) := by decide +kernel
theorem dX10_run_170 : decode cX10_run 170 = .ok (.iload_n 3, 1) := by decide +kernel
theorem dX10_run_171 : decode cX10_run 171 = .ok (.iload 4, 2) := by decide +kernel
theorem dX10_run_173 : decode cX10_run 173 = .ok (.invokevirtual 123, 3) := by decide +kernel
theorem dX10_run_176 : decode cX10_run 176 = .ok (.ireturn, 1) := by decide +kernel
theorem dX10_takes_0 : decode cX10_takes 0 = .ok (.aload_n 0, 1) := by decide +kernel
theorem dX10_takes_1 : decode cX10_takes 1 = .ok (.iload_n 2, 1) := by decide +kernel
theorem dX10_takes_2 : decode cX10_takes 2 = .ok (.putfield 249, 3) := by decide +kernel
theorem dX10_takes_5 : decode cX10_takes 5 = .ok (.aload_n 0, 1) := by decide +kernel
theorem dX10_takes_6 : decode cX10_takes 6 = .ok (.iload_n 3, 1) := by decide +kernel
theorem dX10_takes_7 : decode cX10_takes 7 = .ok (.putfield 252, 3) := by decide +kernel
theorem dX10_takes_10 : decode cX10_takes 10 = .ok (.iconst 0, 1) := by decide +kernel
theorem dX10_takes_11 : decode cX10_takes 11 = .ok (.istore 4, 2) := by decide +kernel
theorem dX10_takes_13 : decode cX10_takes 13 = .ok (.iload 4, 2) := by decide +kernel
theorem dX10_takes_15 : decode cX10_takes 15 = .ok (.iload_n 1, 1) := by decide +kernel
theorem dX10_takes_16 : decode cX10_takes 16 = .ok (.if_icmp .ge 23, 3) := by decide +kernel
theorem dX10_takes_19 : decode cX10_takes 19 = .ok (.aload_n 0, 1) := by decide +kernel
theorem dX10_takes_20 : decode cX10_takes 20 = .ok (.getfield 85, 3) := by decide +kernel
theorem dX10_takes_23 : decode cX10_takes 23 = .ok (.iload 4, 2) := by decide +kernel
theorem dX10_takes_25 : decode cX10_takes 25 = .ok (.aload_n 0, 1) := by decide +kernel
theorem dX10_takes_26 : decode cX10_takes 26 = .ok (.getfield 82, 3) := by decide +kernel
theorem dX10_takes_29 : decode cX10_takes 29 = .ok (.iload 4, 2) := by decide +kernel
theorem dX10_takes_31 : decode cX10_takes 31 = .ok (.iaload, 1) := by decide +kernel
theorem dX10_takes_32 : decode cX10_takes 32 = .ok (.iastore, 1) := by decide +kernel
theorem dX10_takes_33 : decode cX10_takes 33 = .ok (.iinc 4 1, 3) := by decide +kernel
theorem dX10_takes_36 : decode cX10_takes 36 = .ok (.goto (-23), 3) := by decide +kernel
theorem dX10_takes_39 : decode cX10_takes 39 = .ok (.return_, 1) := by decide +kernel
theorem dX10_layPlans_0 : decode cX10_layPlans 0 = .ok (.iload_n 1, 1) := by decide +kernel
theorem dX10_layPlans_1 : decode cX10_layPlans 1 = .ok (.iload_n 2, 1) := by decide +kernel
theorem dX10_layPlans_2 : decode cX10_layPlans 2 = .ok (.if_icmp .ne 98, 3) := by decide +kernel
theorem dX10_layPlans_5 : decode cX10_layPlans 5 = .ok (.iload 4, 2) := by decide +kernel
theorem dX10_layPlans_7 : decode cX10_layPlans 7 = .ok (.aload_n 0, 1) := by decide +kernel
theorem dX10_layPlans_8 : decode cX10_layPlans 8 = .ok (.getfield 249, 3) := by decide +kernel
theorem dX10_layPlans_11 : decode cX10_layPlans 11 = .ok (.if_icmp .gt 21, 3) := by decide +kernel
theorem dX10_layPlans_14 : decode cX10_layPlans 14 = .ok (.iload 4, 2) := by decide +kernel
theorem dX10_layPlans_16 : decode cX10_layPlans 16 = .ok (.aload_n 0, 1) := by decide +kernel
theorem dX10_layPlans_17 : decode cX10_layPlans 17 = .ok (.getfield 249, 3) := by decide +kernel
theorem dX10_layPlans_20 : decode cX10_layPlans 20 = .ok (.if_icmp .ne 16, 3) := by decide +kernel
theorem dX10_layPlans_23 : decode cX10_layPlans 23 = .ok (.iload 5, 2) := by decide +kernel
theorem dX10_layPlans_25 : decode cX10_layPlans 25 = .ok (.aload_n 0, 1) := by decide +kernel
theorem dX10_layPlans_26 : decode cX10_layPlans 26 = .ok (.getfield 252, 3) := by decide +kernel
theorem dX10_layPlans_29 : decode cX10_layPlans 29 = .ok (.if_icmp .ge 7, 3) := by decide +kernel
theorem dX10_layPlans_32 : decode cX10_layPlans 32 = .ok (.iconst 1, 1) := by decide +kernel
theorem dX10_layPlans_33 : decode cX10_layPlans 33 = .ok (.goto 4, 3) := by decide +kernel
theorem dX10_layPlans_36 : decode cX10_layPlans 36 = .ok (.iconst 0, 1) := by decide +kernel
theorem dX10_layPlans_37 : decode cX10_layPlans 37 = .ok (.istore 6, 2) := by decide +kernel
theorem dX10_layPlans_39 : decode cX10_layPlans 39 = .ok (.iload_n 3, 1) := by decide +kernel
theorem dX10_layPlans_40 : decode cX10_layPlans 40 = .ok (.bipush (-9), 2) := by decide +kernel
theorem dX10_layPlans_42 : decode cX10_layPlans 42 = .ok (.if_icmp .ne 11, 3) := by decide +kernel
theorem dX10_layPlans_45 : decode cX10_layPlans 45 = .ok (.iload 6, 2) := by decide +kernel
theorem dX10_layPlans_47 : decode cX10_layPlans 47 = .ok (.ifCond .eq 52, 3) := by decide +kernel
theorem dX10_layPlans_50 : decode cX10_layPlans 50 = .ok (.goto 30, 3) := by decide +kernel
theorem dX10_layPlans_53 : decode cX10_layPlans 53 = .ok (.aload_n 0, 1) := by decide +kernel
theorem dX10_layPlans_54 : decode cX10_layPlans 54 = .ok (.getfield 199, 3) := by decide +kernel
theorem dX10_layPlans_57 : decode cX10_layPlans 57 = .ok (.iload_n 3, 1) := by decide +kernel
theorem dX10_layPlans_58 : decode cX10_layPlans 58 = .ok (.invokestatic 153, 3) := by decide +kernel
theorem dX10_layPlans_61 : decode cX10_layPlans 61 = .ok (.ifCond .eq 38, 3) := by decide +kernel
theorem dX10_layPlans_64 : decode cX10_layPlans 64 = .ok (.aload_n 0, 1) := by decide +kernel
theorem dX10_layPlans_65 : decode cX10_layPlans 65 = .ok (.getfield 249, 3) := by decide +kernel
theorem dX10_layPlans_68 : decode cX10_layPlans 68 = .ok (.ifCond .lt 12, 3) := by decide +kernel
theorem dX10_layPlans_71 : decode cX10_layPlans 71 = .ok (.iload 5, 2) := by decide +kernel
theorem dX10_layPlans_73 : decode cX10_layPlans 73 = .ok (.aload_n 0, 1) := by decide +kernel
theorem dX10_layPlans_74 : decode cX10_layPlans 74 = .ok (.getfield 252, 3) := by decide +kernel
theorem dX10_layPlans_77 : decode cX10_layPlans 77 = .ok (.if_icmp .ge 22, 3) := by decide +kernel
theorem dX10_layPlans_80 : decode cX10_layPlans 80 = .ok (.aload_n 0, 1) := by decide +kernel
theorem dX10_layPlans_81 : decode cX10_layPlans 81 = .ok (.iload_n 2, 1) := by decide +kernel
theorem dX10_layPlans_82 : decode cX10_layPlans 82 = .ok (.iload_n 3, 1) := by decide +kernel
theorem dX10_layPlans_83 : decode cX10_layPlans 83 = .ok (.bipush (-9), 2) := by decide +kernel
theorem dX10_layPlans_85 : decode cX10_layPlans 85 = .ok (.if_icmp .ne 8, 3) := by decide +kernel
theorem dX10_layPlans_88 : decode cX10_layPlans 88 = .ok (.iload 4, 2) := by decide +kernel
theorem dX10_layPlans_90 : decode cX10_layPlans 90 = .ok (.goto 4, 3) := by decide +kernel
theorem dX10_layPlans_93 : decode cX10_layPlans 93 = .ok (.iconst 0, 1) := by decide +kernel
theorem dX10_layPlans_94 : decode cX10_layPlans 94 = .ok (.iload 5, 2) := by decide +kernel
theorem dX10_layPlans_96 : decode cX10_layPlans 96 = .ok (.invokevirtual 255, 3) := by decide +kernel
theorem dX10_layPlans_99 : decode cX10_layPlans 99 = .ok (.return_, 1) := by decide +kernel
theorem dX10_layPlans_100 : decode cX10_layPlans 100 = .ok (.iconst 0, 1) := by decide +kernel
theorem dX10_layPlans_101 : decode cX10_layPlans 101 = .ok (.istore 6, 2) := by decide +kernel
theorem dX10_layPlans_103 : decode cX10_layPlans 103 = .ok (.iload 6, 2) := by decide +kernel
theorem dX10_layPlans_105 : decode cX10_layPlans 105 = .ok (.aload_n 0, 1) := by decide +kernel
theorem dX10_layPlans_106 : decode cX10_layPlans 106 = .ok (.invokevirtual 239, 3) := by decide +kernel
theorem dX10_layPlans_109 : decode cX10_layPlans 109 = .ok (.if_icmp .ge 69, 3) := by decide +kernel
theorem dX10_layPlans_112 : decode cX10_layPlans 112 = .ok (.aload_n 0, 1) := by decide +kernel
theorem dX10_layPlans_113 : decode cX10_layPlans 113 = .ok (.iconst 1, 1) := by decide +kernel
theorem dX10_layPlans_114 : decode cX10_layPlans 114 = .ok (.iload_n 1, 1) := by decide +kernel
theorem dX10_layPlans_115 : decode cX10_layPlans 115 = .ok (.iadd, 1) := by decide +kernel
theorem dX10_layPlans_116 : decode cX10_layPlans 116 = .ok (.iconst 2, 1) := by decide +kernel
theorem dX10_layPlans_117 : decode cX10_layPlans 117 = .ok (.iload_n 1, 1) := by decide +kernel
theorem dX10_layPlans_118 : decode cX10_layPlans 118 = .ok (.iadd, 1) := by decide +kernel
theorem dX10_layPlans_119 : decode cX10_layPlans 119 = .ok (.invokevirtual 243, 3) := by decide +kernel
theorem dX10_layPlans_122 : decode cX10_layPlans 122 = .ok (.aload_n 0, 1) := by decide +kernel
theorem dX10_layPlans_123 : decode cX10_layPlans 123 = .ok (.getfield 82, 3) := by decide +kernel
theorem dX10_layPlans_126 : decode cX10_layPlans 126 = .ok (.iload_n 1, 1) := by decide +kernel
theorem dX10_layPlans_127 : decode cX10_layPlans 127 = .ok (.iload 6, 2) := by decide +kernel
theorem dX10_layPlans_129 : decode cX10_layPlans 129 = .ok (.iastore, 1) := by decide +kernel
theorem dX10_layPlans_130 : decode cX10_layPlans 130 = .ok (.aload_n 0, 1) := by decide +kernel
theorem dX10_layPlans_131 : decode cX10_layPlans 131 = .ok (.iconst 2, 1) := by decide +kernel
theorem dX10_layPlans_132 : decode cX10_layPlans 132 = .ok (.iload_n 1, 1) := by decide +kernel
theorem dX10_layPlans_133 : decode cX10_layPlans 133 = .ok (.iadd, 1) := by decide +kernel
theorem dX10_layPlans_134 : decode cX10_layPlans 134 = .ok (.iload 6, 2) := by decide +kernel
theorem dX10_layPlans_136 : decode cX10_layPlans 136 = .ok (.invokevirtual 246, 3) := by decide +kernel
theorem dX10_layPlans_139 : decode cX10_layPlans 139 = .ok (.invokestatic 214, 3) := by decide +kernel
theorem dX10_layPlans_142 : decode cX10_layPlans 142 = .ok (.istore 7, 2) := by decide +kernel
theorem dX10_layPlans_144 : decode cX10_layPlans 144 = .ok (.aload_n 0, 1) := by decide +kernel
theorem dX10_layPlans_145 : decode cX10_layPlans 145 = .ok (.iconst 2, 1) := by decide +kernel
theorem dX10_layPlans_146 : decode cX10_layPlans 146 = .ok (.iload_n 1, 1) := by decide +kernel
theorem dX10_layPlans_147 : decode cX10_layPlans 147 = .ok (.iadd, 1) := by decide +kernel
theorem dX10_layPlans_148 : decode cX10_layPlans 148 = .ok (.invokevirtual 233, 3) := by decide +kernel
theorem dX10_layPlans_151 : decode cX10_layPlans 151 = .ok (.istore 8, 2) := by decide +kernel
theorem dX10_layPlans_153 : decode cX10_layPlans 153 = .ok (.aload_n 0, 1) := by decide +kernel
theorem dX10_layPlans_154 : decode cX10_layPlans 154 = .ok (.iload_n 1, 1) := by decide +kernel
theorem dX10_layPlans_155 : decode cX10_layPlans 155 = .ok (.iconst 1, 1) := by decide +kernel
theorem dX10_layPlans_156 : decode cX10_layPlans 156 = .ok (.iadd, 1) := by decide +kernel
theorem dX10_layPlans_157 : decode cX10_layPlans 157 = .ok (.iload_n 2, 1) := by decide +kernel
theorem dX10_layPlans_158 : decode cX10_layPlans 158 = .ok (.iload_n 3, 1) := by decide +kernel
theorem dX10_layPlans_159 : decode cX10_layPlans 159 = .ok (.iload 4, 2) := by decide +kernel
theorem dX10_layPlans_161 : decode cX10_layPlans 161 = .ok (.iload 8, 2) := by decide +kernel
theorem dX10_layPlans_163 : decode cX10_layPlans 163 = .ok (.iadd, 1) := by decide +kernel
theorem dX10_layPlans_164 : decode cX10_layPlans 164 = .ok (.iload 5, 2) := by decide +kernel
theorem dX10_layPlans_166 : decode cX10_layPlans 166 = .ok (.iload 7, 2) := by decide +kernel
theorem dX10_layPlans_168 : decode cX10_layPlans 168 = .ok (.iadd, 1) := by decide +kernel
theorem dX10_layPlans_169 : decode cX10_layPlans 169 = .ok (.invokevirtual 259, 3) := by decide +kernel
theorem dX10_layPlans_172 : decode cX10_layPlans 172 = .ok (.iinc 6 1, 3) := by decide +kernel
theorem dX10_layPlans_175 : decode cX10_layPlans 175 = .ok (.goto (-72), 3) := by decide +kernel
theorem dX10_layPlans_178 : decode cX10_layPlans 178 = .ok (.return_, 1) := by decide +kernel
theorem dX10_allPlans_0 : decode cX10_allPlans 0 = .ok (.aload_n 0, 1) := by decide +kernel
theorem dX10_allPlans_1 : decode cX10_allPlans 1 = .ok (.iconst (-1), 1) := by decide +kernel
theorem dX10_allPlans_2 : decode cX10_allPlans 2 = .ok (.putfield 249, 3) := by decide +kernel
theorem dX10_allPlans_5 : decode cX10_allPlans 5 = .ok (.aload_n 0, 1) := by decide +kernel
theorem dX10_allPlans_6 : decode cX10_allPlans 6 = .ok (.iconst 0, 1) := by decide +kernel
theorem dX10_allPlans_7 : decode cX10_allPlans 7 = .ok (.putfield 252, 3) := by decide +kernel
theorem dX10_allPlans_10 : decode cX10_allPlans 10 = .ok (.aload_n 0, 1) := by decide +kernel
theorem dX10_allPlans_11 : decode cX10_allPlans 11 = .ok (.iconst 0, 1) := by decide +kernel
theorem dX10_allPlans_12 : decode cX10_allPlans 12 = .ok (.putfield 199, 3) := by decide +kernel
theorem dX10_allPlans_15 : decode cX10_allPlans 15 = .ok (.aload_n 0, 1) := by decide +kernel
theorem dX10_allPlans_16 : decode cX10_allPlans 16 = .ok (.iconst 0, 1) := by decide +kernel
theorem dX10_allPlans_17 : decode cX10_allPlans 17 = .ok (.iconst 1, 1) := by decide +kernel
theorem dX10_allPlans_18 : decode cX10_allPlans 18 = .ok (.invokevirtual 243, 3) := by decide +kernel
theorem dX10_allPlans_21 : decode cX10_allPlans 21 = .ok (.aload_n 0, 1) := by decide +kernel
theorem dX10_allPlans_22 : decode cX10_allPlans 22 = .ok (.iconst 0, 1) := by decide +kernel
theorem dX10_allPlans_23 : decode cX10_allPlans 23 = .ok (.iload_n 1, 1) := by decide +kernel
theorem dX10_allPlans_24 : decode cX10_allPlans 24 = .ok (.iload_n 2, 1) := by decide +kernel
theorem dX10_allPlans_25 : decode cX10_allPlans 25 = .ok (.iconst 0, 1) := by decide +kernel
theorem dX10_allPlans_26 : decode cX10_allPlans 26 = .ok (.iconst 0, 1) := by decide +kernel
theorem dX10_allPlans_27 : decode cX10_allPlans 27 = .ok (.invokevirtual 259, 3) := by decide +kernel
theorem dX10_allPlans_30 : decode cX10_allPlans 30 = .ok (.return_, 1) := by decide +kernel
theorem dX10_best_0 : decode cX10_best 0 = .ok (.iload_n 1, 1) := by decide +kernel
theorem dX10_best_1 : decode cX10_best 1 = .ok (.iconst 0, 1) := by decide +kernel
theorem dX10_best_2 : decode cX10_best 2 = .ok (.iconst 3, 1) := by decide +kernel
theorem dX10_best_3 : decode cX10_best 3 = .ok (.invokestatic 101, 3) := by decide +kernel
theorem dX10_best_6 : decode cX10_best 6 = .ok (.ifCond .eq 10, 3) := by decide +kernel
theorem dX10_best_9 : decode cX10_best 9 = .ok (.iload_n 2, 1) := by decide +kernel
theorem dX10_best_10 : decode cX10_best 10 = .ok (.invokestatic 111, 3) := by decide +kernel
theorem dX10_best_13 : decode cX10_best 13 = .ok (.ifCond .ne 5, 3) := by decide +kernel
theorem dX10_best_16 : decode cX10_best 16 = .ok (.iconst (-1), 1) := by decide +kernel
theorem dX10_best_17 : decode cX10_best 17 = .ok (.ireturn, 1) := by decide +kernel
theorem dX10_best_18 : decode cX10_best 18 = .ok (.aload_n 0, 1) := by decide +kernel
theorem dX10_best_19 : decode cX10_best 19 = .ok (.getfield 172, 3) := by decide +kernel
theorem dX10_best_22 : decode cX10_best 22 = .ok (.ifCond .ne 6, 3) := by decide +kernel
theorem dX10_best_25 : decode cX10_best 25 = .ok (.bipush (-4), 2) := by decide +kernel
theorem dX10_best_27 : decode cX10_best 27 = .ok (.ireturn, 1) := by decide +kernel
theorem dX10_best_28 : decode cX10_best 28 = .ok (.aload_n 0, 1) := by decide +kernel
theorem dX10_best_29 : decode cX10_best 29 = .ok (.iload_n 1, 1) := by decide +kernel
theorem dX10_best_30 : decode cX10_best 30 = .ok (.bipush (-9), 2) := by decide +kernel
theorem dX10_best_32 : decode cX10_best 32 = .ok (.invokevirtual 263, 3) := by decide +kernel
theorem dX10_best_35 : decode cX10_best 35 = .ok (.aload_n 0, 1) := by decide +kernel
theorem dX10_best_36 : decode cX10_best 36 = .ok (.iload_n 2, 1) := by decide +kernel
theorem dX10_best_37 : decode cX10_best 37 = .ok (.aload_n 0, 1) := by decide +kernel
theorem dX10_best_38 : decode cX10_best 38 = .ok (.getfield 85, 3) := by decide +kernel
theorem dX10_best_41 : decode cX10_best 41 = .ok (.iload_n 1, 1) := by decide +kernel
theorem dX10_best_42 : decode cX10_best 42 = .ok (.invokevirtual 266, 3) := by decide +kernel
theorem dX10_best_45 : decode cX10_best 45 = .ok (.aload_n 0, 1) := by decide +kernel
theorem dX10_best_46 : decode cX10_best 46 = .ok (.aload_n 0, 1) := by decide +kernel
theorem dX10_best_47 : decode cX10_best 47 = .ok (.getfield 252, 3) := by decide +kernel
theorem dX10_best_50 : decode cX10_best 50 = .ok (.aload_n 0, 1) := by decide +kernel
theorem dX10_best_51 : decode cX10_best 51 = .ok (.getfield 249, 3) := by decide +kernel
theorem dX10_best_54 : decode cX10_best 54 = .ok (.invokevirtual 123, 3) := by decide +kernel
theorem dX10_best_57 : decode cX10_best 57 = .ok (.ireturn, 1) := by decide +kernel
theorem dX10_fewest_0 : decode cX10_fewest 0 = .ok (.aload_n 0, 1) := by decide +kernel
theorem dX10_fewest_1 : decode cX10_fewest 1 = .ok (.iload_n 1, 1) := by decide +kernel
theorem dX10_fewest_2 : decode cX10_fewest 2 = .ok (.invokevirtual 220, 3) := by decide +kernel
theorem dX10_fewest_5 : decode cX10_fewest 5 = .ok (.ifCond .eq 19, 3) := by decide +kernel
theorem dX10_fewest_8 : decode cX10_fewest 8 = .ok (.iload_n 2, 1) := by decide +kernel
theorem dX10_fewest_9 : decode cX10_fewest 9 = .ok (.iconst 0, 1) := by decide +kernel
theorem dX10_fewest_10 : decode cX10_fewest 10 = .ok (.iconst 3, 1) := by decide +kernel
theorem dX10_fewest_11 : decode cX10_fewest 11 = .ok (.invokestatic 101, 3) := by decide +kernel
theorem dX10_fewest_14 : decode cX10_fewest 14 = .ok (.ifCond .eq 10, 3) := by decide +kernel
theorem dX10_fewest_17 : decode cX10_fewest 17 = .ok (.iload_n 3, 1) := by decide +kernel
theorem dX10_fewest_18 : decode cX10_fewest 18 = .ok (.invokestatic 111, 3) := by decide +kernel
theorem dX10_fewest_21 : decode cX10_fewest 21 = .ok (.ifCond .ne 5, 3) := by decide +kernel
theorem dX10_fewest_24 : decode cX10_fewest 24 = .ok (.iconst (-1), 1) := by decide +kernel
theorem dX10_fewest_25 : decode cX10_fewest 25 = .ok (.ireturn, 1) := by decide +kernel
theorem dX10_fewest_26 : decode cX10_fewest 26 = .ok (.aload_n 0, 1) := by decide +kernel
theorem dX10_fewest_27 : decode cX10_fewest 27 = .ok (.iload_n 2, 1) := by decide +kernel
theorem dX10_fewest_28 : decode cX10_fewest 28 = .ok (.iload_n 1, 1) := by decide +kernel
theorem dX10_fewest_29 : decode cX10_fewest 29 = .ok (.invokevirtual 263, 3) := by decide +kernel
theorem dX10_fewest_32 : decode cX10_fewest 32 = .ok (.aload_n 0, 1) := by decide +kernel
theorem dX10_fewest_33 : decode cX10_fewest 33 = .ok (.getfield 249, 3) := by decide +kernel
theorem dX10_fewest_36 : decode cX10_fewest 36 = .ok (.ifCond .ge 6, 3) := by decide +kernel
theorem dX10_fewest_39 : decode cX10_fewest 39 = .ok (.bipush (-9), 2) := by decide +kernel
theorem dX10_fewest_41 : decode cX10_fewest 41 = .ok (.ireturn, 1) := by decide +kernel
theorem dX10_fewest_42 : decode cX10_fewest 42 = .ok (.aload_n 0, 1) := by decide +kernel
theorem dX10_fewest_43 : decode cX10_fewest 43 = .ok (.iload_n 3, 1) := by decide +kernel
theorem dX10_fewest_44 : decode cX10_fewest 44 = .ok (.aload_n 0, 1) := by decide +kernel
theorem dX10_fewest_45 : decode cX10_fewest 45 = .ok (.getfield 85, 3) := by decide +kernel
theorem dX10_fewest_48 : decode cX10_fewest 48 = .ok (.iload_n 2, 1) := by decide +kernel
theorem dX10_fewest_49 : decode cX10_fewest 49 = .ok (.invokevirtual 266, 3) := by decide +kernel
theorem dX10_fewest_52 : decode cX10_fewest 52 = .ok (.aload_n 0, 1) := by decide +kernel
theorem dX10_fewest_53 : decode cX10_fewest 53 = .ok (.getfield 252, 3) := by decide +kernel
theorem dX10_fewest_56 : decode cX10_fewest 56 = .ok (.ireturn, 1) := by decide +kernel
theorem dX10_dies_0 : decode cX10_dies 0 = .ok (.aload_n 0, 1) := by decide +kernel
theorem dX10_dies_1 : decode cX10_dies 1 = .ok (.getfield 172, 3) := by decide +kernel
theorem dX10_dies_4 : decode cX10_dies 4 = .ok (.ifCond .ne 6, 3) := by decide +kernel
theorem dX10_dies_7 : decode cX10_dies 7 = .ok (.bipush (-4), 2) := by decide +kernel
theorem dX10_dies_9 : decode cX10_dies 9 = .ok (.ireturn, 1) := by decide +kernel
theorem dX10_dies_10 : decode cX10_dies 10 = .ok (.aload_n 0, 1) := by decide +kernel
theorem dX10_dies_11 : decode cX10_dies 11 = .ok (.iconst 0, 1) := by decide +kernel
theorem dX10_dies_12 : decode cX10_dies 12 = .ok (.iconst 1, 1) := by decide +kernel
theorem dX10_dies_13 : decode cX10_dies 13 = .ok (.invokevirtual 243, 3) := by decide +kernel
theorem dX10_dies_16 : decode cX10_dies 16 = .ok (.iconst 1, 1) := by decide +kernel
theorem dX10_dies_17 : decode cX10_dies 17 = .ok (.istore_n 1, 1) := by decide +kernel
theorem dX10_dies_18 : decode cX10_dies 18 = .ok (.iload_n 1, 1) := by decide +kernel
theorem dX10_dies_19 : decode cX10_dies 19 = .ok (.bipush 40, 2) := by decide +kernel
theorem dX10_dies_21 : decode cX10_dies 21 = .ok (.if_icmp .gt 56, 3) := by decide +kernel
theorem dX10_dies_24 : decode cX10_dies 24 = .ok (.aload_n 0, 1) := by decide +kernel
theorem dX10_dies_25 : decode cX10_dies 25 = .ok (.iconst 1, 1) := by decide +kernel
theorem dX10_dies_26 : decode cX10_dies 26 = .ok (.invokevirtual 233, 3) := by decide +kernel
theorem dX10_dies_29 : decode cX10_dies 29 = .ok (.pop, 1) := by decide +kernel
theorem dX10_dies_30 : decode cX10_dies 30 = .ok (.iconst 0, 1) := by decide +kernel
theorem dX10_dies_31 : decode cX10_dies 31 = .ok (.istore_n 2, 1) := by decide +kernel
theorem dX10_dies_32 : decode cX10_dies 32 = .ok (.iload_n 2, 1) := by decide +kernel
theorem dX10_dies_33 : decode cX10_dies 33 = .ok (.aload_n 0, 1) := by decide +kernel
theorem dX10_dies_34 : decode cX10_dies 34 = .ok (.getfield 172, 3) := by decide +kernel
theorem dX10_dies_37 : decode cX10_dies 37 = .ok (.if_icmp .ge 34, 3) := by decide +kernel
theorem dX10_dies_40 : decode cX10_dies 40 = .ok (.aload_n 0, 1) := by decide +kernel
theorem dX10_dies_41 : decode cX10_dies 41 = .ok (.iconst 1, 1) := by decide +kernel
theorem dX10_dies_42 : decode cX10_dies 42 = .ok (.iload_n 2, 1) := by decide +kernel
theorem dX10_dies_43 : decode cX10_dies 43 = .ok (.invokevirtual 184, 3) := by decide +kernel
theorem dX10_dies_46 : decode cX10_dies 46 = .ok (.ifCond .eq 19, 3) := by decide +kernel
theorem dX10_dies_49 : decode cX10_dies 49 = .ok (.aload_n 0, 1) := by decide +kernel
theorem dX10_dies_50 : decode cX10_dies 50 = .ok (.iconst 0, 1) := by decide +kernel
theorem dX10_dies_51 : decode cX10_dies 51 = .ok (.iload_n 2, 1) := by decide +kernel
theorem dX10_dies_52 : decode cX10_dies 52 = .ok (.invokevirtual 184, 3) := by decide +kernel
theorem dX10_dies_55 : decode cX10_dies 55 = .ok (.ifCond .ne 10, 3) := by decide +kernel
theorem dX10_dies_58 : decode cX10_dies 58 = .ok (.aload_n 0, 1) := by decide +kernel
theorem dX10_dies_59 : decode cX10_dies 59 = .ok (.iload_n 1, 1) := by decide +kernel
theorem dX10_dies_60 : decode cX10_dies 60 = .ok (.iload_n 2, 1) := by decide +kernel
theorem dX10_dies_61 : decode cX10_dies 61 = .ok (.invokevirtual 123, 3) := by decide +kernel
theorem dX10_dies_64 : decode cX10_dies 64 = .ok (.ireturn, 1) := by decide +kernel
theorem dX10_dies_65 : decode cX10_dies 65 = .ok (.iinc 2 1, 3) := by decide +kernel
theorem dX10_dies_68 : decode cX10_dies 68 = .ok (.goto (-36), 3) := by decide +kernel
theorem dX10_dies_71 : decode cX10_dies 71 = .ok (.iinc 1 1, 3) := by decide +kernel
theorem dX10_dies_74 : decode cX10_dies 74 = .ok (.goto (-56), 3) := by decide +kernel
theorem dX10_dies_77 : decode cX10_dies 77 = .ok (.bipush (-9), 2) := by decide +kernel
theorem dX10_dies_79 : decode cX10_dies 79 = .ok (.ireturn, 1) := by decide +kernel
theorem dX10_passesOf_0 : decode cX10_passesOf 0 = .ok (.iconst 0, 1) := by decide +kernel
theorem dX10_passesOf_1 : decode cX10_passesOf 1 = .ok (.istore_n 3, 1) := by decide +kernel
theorem dX10_passesOf_2 : decode cX10_passesOf 2 = .ok (.iconst 0, 1) := by decide +kernel
theorem dX10_passesOf_3 : decode cX10_passesOf 3 = .ok (.istore 4, 2) := by decide +kernel
theorem dX10_passesOf_5 : decode cX10_passesOf 5 = .ok (.iload 4, 2) := by decide +kernel
theorem dX10_passesOf_7 : decode cX10_passesOf 7 = .ok (.iload_n 2, 1) := by decide +kernel
theorem dX10_passesOf_8 : decode cX10_passesOf 8 = .ok (.if_icmp .ge 17, 3) := by decide +kernel
theorem dX10_passesOf_11 : decode cX10_passesOf 11 = .ok (.iload_n 3, 1) := by decide +kernel
theorem dX10_passesOf_12 : decode cX10_passesOf 12 = .ok (.aload_n 0, 1) := by decide +kernel
theorem dX10_passesOf_13 : decode cX10_passesOf 13 = .ok (.iload_n 1, 1) := by decide +kernel
theorem dX10_passesOf_14 : decode cX10_passesOf 14 = .ok (.invokevirtual 233, 3) := by decide +kernel
theorem dX10_passesOf_17 : decode cX10_passesOf 17 = .ok (.iadd, 1) := by decide +kernel
theorem dX10_passesOf_18 : decode cX10_passesOf 18 = .ok (.istore_n 3, 1) := by decide +kernel
theorem dX10_passesOf_19 : decode cX10_passesOf 19 = .ok (.iinc 4 1, 3) := by decide +kernel
theorem dX10_passesOf_22 : decode cX10_passesOf 22 = .ok (.goto (-17), 3) := by decide +kernel
theorem dX10_passesOf_25 : decode cX10_passesOf 25 = .ok (.iload_n 3, 1) := by decide +kernel
theorem dX10_passesOf_26 : decode cX10_passesOf 26 = .ok (.ireturn, 1) := by decide +kernel
theorem dX10_barge_0 : decode cX10_barge 0 = .ok (.aload_n 0, 1) := by decide +kernel
theorem dX10_barge_1 : decode cX10_barge 1 = .ok (.iload_n 1, 1) := by decide +kernel
theorem dX10_barge_2 : decode cX10_barge 2 = .ok (.invokevirtual 220, 3) := by decide +kernel
theorem dX10_barge_5 : decode cX10_barge 5 = .ok (.ifCond .eq 13, 3) := by decide +kernel
theorem dX10_barge_8 : decode cX10_barge 8 = .ok (.iload_n 2, 1) := by decide +kernel
theorem dX10_barge_9 : decode cX10_barge 9 = .ok (.iconst 0, 1) := by decide +kernel
theorem dX10_barge_10 : decode cX10_barge 10 = .ok (.bipush 12, 2) := by decide +kernel
theorem dX10_barge_12 : decode cX10_barge 12 = .ok (.invokestatic 101, 3) := by decide +kernel
theorem dX10_barge_15 : decode cX10_barge 15 = .ok (.ifCond .ne 5, 3) := by decide +kernel
theorem dX10_barge_18 : decode cX10_barge 18 = .ok (.iconst (-1), 1) := by decide +kernel
theorem dX10_barge_19 : decode cX10_barge 19 = .ok (.ireturn, 1) := by decide +kernel
theorem dX10_barge_20 : decode cX10_barge 20 = .ok (.aload_n 0, 1) := by decide +kernel
theorem dX10_barge_21 : decode cX10_barge 21 = .ok (.iconst 0, 1) := by decide +kernel
theorem dX10_barge_22 : decode cX10_barge 22 = .ok (.iload_n 1, 1) := by decide +kernel
theorem dX10_barge_23 : decode cX10_barge 23 = .ok (.invokevirtual 187, 3) := by decide +kernel
theorem dX10_barge_26 : decode cX10_barge 26 = .ok (.ifCond .ne 6, 3) := by decide +kernel
theorem dX10_barge_29 : decode cX10_barge 29 = .ok (.bipush 100, 2) := by decide +kernel
theorem dX10_barge_31 : decode cX10_barge 31 = .ok (.ireturn, 1) := by decide +kernel
theorem dX10_barge_32 : decode cX10_barge 32 = .ok (.aload_n 0, 1) := by decide +kernel
theorem dX10_barge_33 : decode cX10_barge 33 = .ok (.iconst 0, 1) := by decide +kernel
theorem dX10_barge_34 : decode cX10_barge 34 = .ok (.iconst 1, 1) := by decide +kernel
theorem dX10_barge_35 : decode cX10_barge 35 = .ok (.invokevirtual 243, 3) := by decide +kernel
theorem dX10_barge_38 : decode cX10_barge 38 = .ok (.aload_n 0, 1) := by decide +kernel
theorem dX10_barge_39 : decode cX10_barge 39 = .ok (.iconst 0, 1) := by decide +kernel
theorem dX10_barge_40 : decode cX10_barge 40 = .ok (.iconst 2, 1) := by decide +kernel
theorem dX10_barge_41 : decode cX10_barge 41 = .ok (.invokevirtual 243, 3) := by decide +kernel
theorem dX10_barge_44 : decode cX10_barge 44 = .ok (.aload_n 0, 1) := by decide +kernel
theorem dX10_barge_45 : decode cX10_barge 45 = .ok (.iconst 2, 1) := by decide +kernel
theorem dX10_barge_46 : decode cX10_barge 46 = .ok (.iload_n 1, 1) := by decide +kernel
theorem dX10_barge_47 : decode cX10_barge 47 = .ok (.invokevirtual 236, 3) := by decide +kernel
theorem dX10_barge_50 : decode cX10_barge 50 = .ok (.bipush 100, 2) := by decide +kernel
theorem dX10_barge_52 : decode cX10_barge 52 = .ok (.aload_n 0, 1) := by decide +kernel
theorem dX10_barge_53 : decode cX10_barge 53 = .ok (.iconst 2, 1) := by decide +kernel
theorem dX10_barge_54 : decode cX10_barge 54 = .ok (.iload_n 2, 1) := by decide +kernel
theorem dX10_barge_55 : decode cX10_barge 55 = .ok (.invokevirtual 270, 3) := by decide +kernel
theorem dX10_barge_58 : decode cX10_barge 58 = .ok (.iadd, 1) := by decide +kernel
theorem dX10_barge_59 : decode cX10_barge 59 = .ok (.aload_n 0, 1) := by decide +kernel
theorem dX10_barge_60 : decode cX10_barge 60 = .ok (.iconst 1, 1) := by decide +kernel
theorem dX10_barge_61 : decode cX10_barge 61 = .ok (.iload_n 2, 1) := by decide +kernel
theorem dX10_barge_62 : decode cX10_barge 62 = .ok (.invokevirtual 270, 3) := by decide +kernel
theorem dX10_barge_65 : decode cX10_barge 65 = .ok (.isub, 1) := by decide +kernel
theorem dX10_barge_66 : decode cX10_barge 66 = .ok (.ireturn, 1) := by decide +kernel
theorem dX10_needArms_0 : decode cX10_needArms 0 = .ok (.iload_n 1, 1) := by decide +kernel
theorem dX10_needArms_1 : decode cX10_needArms 1 = .ok (.invokestatic 111, 3) := by decide +kernel
theorem dX10_needArms_4 : decode cX10_needArms 4 = .ok (.ifCond .ne 5, 3) := by decide +kernel
theorem dX10_needArms_7 : decode cX10_needArms 7 = .ok (.iconst (-1), 1) := by decide +kernel
theorem dX10_needArms_8 : decode cX10_needArms 8 = .ok (.ireturn, 1) := by decide +kernel
theorem dX10_needArms_9 : decode cX10_needArms 9 = .ok (.aload_n 0, 1) := by decide +kernel
theorem dX10_needArms_10 : decode cX10_needArms 10 = .ok (.getfield 172, 3) := by decide +kernel
theorem dX10_needArms_13 : decode cX10_needArms 13 = .ok (.ifCond .ne 6, 3) := by decide +kernel
theorem dX10_needArms_16 : decode cX10_needArms 16 = .ok (.bipush (-4), 2) := by decide +kernel
theorem dX10_needArms_18 : decode cX10_needArms 18 = .ok (.ireturn, 1) := by decide +kernel
theorem dX10_needArms_19 : decode cX10_needArms 19 = .ok (.aload_n 0, 1) := by decide +kernel
theorem dX10_needArms_20 : decode cX10_needArms 20 = .ok (.getfield 17, 3) := by decide +kernel
theorem dX10_needArms_23 : decode cX10_needArms 23 = .ok (.iload_n 1, 1) := by decide +kernel
theorem dX10_needArms_24 : decode cX10_needArms 24 = .ok (.iaload, 1) := by decide +kernel
theorem dX10_needArms_25 : decode cX10_needArms 25 = .ok (.ifCond .ge 9, 3) := by decide +kernel
theorem dX10_needArms_28 : decode cX10_needArms 28 = .ok (.aload_n 0, 1) := by decide +kernel
theorem dX10_needArms_29 : decode cX10_needArms 29 = .ok (.iconst 1, 1) := by decide +kernel
theorem dX10_needArms_30 : decode cX10_needArms 30 = .ok (.invokevirtual 115, 3) := by decide +kernel
theorem dX10_needArms_33 : decode cX10_needArms 33 = .ok (.ireturn, 1) := by decide +kernel
theorem dX10_needArms_34 : decode cX10_needArms 34 = .ok (.aload_n 0, 1) := by decide +kernel
theorem dX10_needArms_35 : decode cX10_needArms 35 = .ok (.getfield 17, 3) := by decide +kernel
theorem dX10_needArms_38 : decode cX10_needArms 38 = .ok (.iload_n 1, 1) := by decide +kernel
theorem dX10_needArms_39 : decode cX10_needArms 39 = .ok (.iaload, 1) := by decide +kernel
theorem dX10_needArms_40 : decode cX10_needArms 40 = .ok (.aload_n 0, 1) := by decide +kernel
theorem dX10_needArms_41 : decode cX10_needArms 41 = .ok (.getfield 172, 3) := by decide +kernel
theorem dX10_needArms_44 : decode cX10_needArms 44 = .ok (.if_icmp .eq 11, 3) := by decide +kernel
theorem dX10_needArms_47 : decode cX10_needArms 47 = .ok (.aload_n 0, 1) := by decide +kernel
theorem dX10_needArms_48 : decode cX10_needArms 48 = .ok (.iconst 5, 1) := by decide +kernel
theorem dX10_needArms_49 : decode cX10_needArms 49 = .ok (.invokevirtual 115, 3) := by decide +kernel
theorem dX10_needArms_52 : decode cX10_needArms 52 = .ok (.goto 4, 3) := by decide +kernel
theorem dX10_needArms_55 : decode cX10_needArms 55 = .ok (.iconst 0, 1) := by decide +kernel
theorem dX10_needArms_56 : decode cX10_needArms 56 = .ok (.ireturn, 1) := by decide +kernel
theorem dX10_saltBy_0 : decode cX10_saltBy 0 = .ok (.aload_n 0, 1) := by decide +kernel
theorem dX10_saltBy_1 : decode cX10_saltBy 1 = .ok (.iconst 0, 1) := by decide +kernel
theorem dX10_saltBy_2 : decode cX10_saltBy 2 = .ok (.iconst 1, 1) := by decide +kernel
theorem dX10_saltBy_3 : decode cX10_saltBy 3 = .ok (.invokevirtual 243, 3) := by decide +kernel
theorem dX10_saltBy_6 : decode cX10_saltBy 6 = .ok (.aload_n 0, 1) := by decide +kernel
theorem dX10_saltBy_7 : decode cX10_saltBy 7 = .ok (.iconst 1, 1) := by decide +kernel
theorem dX10_saltBy_8 : decode cX10_saltBy 8 = .ok (.iload_n 2, 1) := by decide +kernel
theorem dX10_saltBy_9 : decode cX10_saltBy 9 = .ok (.invokevirtual 246, 3) := by decide +kernel
theorem dX10_saltBy_12 : decode cX10_saltBy 12 = .ok (.istore_n 3, 1) := by decide +kernel
theorem dX10_saltBy_13 : decode cX10_saltBy 13 = .ok (.aload_n 0, 1) := by decide +kernel
theorem dX10_saltBy_14 : decode cX10_saltBy 14 = .ok (.iconst 1, 1) := by decide +kernel
theorem dX10_saltBy_15 : decode cX10_saltBy 15 = .ok (.invokevirtual 233, 3) := by decide +kernel
theorem dX10_saltBy_18 : decode cX10_saltBy 18 = .ok (.pop, 1) := by decide +kernel
theorem dX10_saltBy_19 : decode cX10_saltBy 19 = .ok (.iconst 1, 1) := by decide +kernel
theorem dX10_saltBy_20 : decode cX10_saltBy 20 = .ok (.istore 4, 2) := by decide +kernel
theorem dX10_saltBy_22 : decode cX10_saltBy 22 = .ok (.iconst 0, 1) := by decide +kernel
theorem dX10_saltBy_23 : decode cX10_saltBy 23 = .ok (.istore 5, 2) := by decide +kernel
theorem dX10_saltBy_25 : decode cX10_saltBy 25 = .ok (.iload 5, 2) := by decide +kernel
theorem dX10_saltBy_27 : decode cX10_saltBy 27 = .ok (.aload_n 0, 1) := by decide +kernel
theorem dX10_saltBy_28 : decode cX10_saltBy 28 = .ok (.getfield 172, 3) := by decide +kernel
theorem dX10_saltBy_31 : decode cX10_saltBy 31 = .ok (.if_icmp .ge 41, 3) := by decide +kernel
theorem dX10_saltBy_34 : decode cX10_saltBy 34 = .ok (.iload 4, 2) := by decide +kernel
theorem dX10_saltBy_36 : decode cX10_saltBy 36 = .ok (.ifCond .eq 27, 3) := by decide +kernel
theorem dX10_saltBy_39 : decode cX10_saltBy 39 = .ok (.aload_n 0, 1) := by decide +kernel
theorem dX10_saltBy_40 : decode cX10_saltBy 40 = .ok (.getfield 57, 3) := by decide +kernel
theorem dX10_saltBy_43 : decode cX10_saltBy 43 = .ok (.bipush 36, 2) := by decide +kernel
theorem dX10_saltBy_45 : decode cX10_saltBy 45 = .ok (.iload 5, 2) := by decide +kernel
theorem dX10_saltBy_47 : decode cX10_saltBy 47 = .ok (.iadd, 1) := by decide +kernel
theorem dX10_saltBy_48 : decode cX10_saltBy 48 = .ok (.iaload, 1) := by decide +kernel
theorem dX10_saltBy_49 : decode cX10_saltBy 49 = .ok (.aload_n 0, 1) := by decide +kernel
theorem dX10_saltBy_50 : decode cX10_saltBy 50 = .ok (.iload_n 1, 1) := by decide +kernel
theorem dX10_saltBy_51 : decode cX10_saltBy 51 = .ok (.iload 5, 2) := by decide +kernel
theorem dX10_saltBy_53 : decode cX10_saltBy 53 = .ok (.invokevirtual 119, 3) := by decide +kernel
theorem dX10_saltBy_56 : decode cX10_saltBy 56 = .ok (.if_icmp .ne 7, 3) := by decide +kernel
theorem dX10_saltBy_59 : decode cX10_saltBy 59 = .ok (.iconst 1, 1) := by decide +kernel
theorem dX10_saltBy_60 : decode cX10_saltBy 60 = .ok (.goto 4, 3) := by decide +kernel
theorem dX10_saltBy_63 : decode cX10_saltBy 63 = .ok (.iconst 0, 1) := by decide +kernel
theorem dX10_saltBy_64 : decode cX10_saltBy 64 = .ok (.istore 4, 2) := by decide +kernel
theorem dX10_saltBy_66 : decode cX10_saltBy 66 = .ok (.iinc 5 1, 3) := by decide +kernel
theorem dX10_saltBy_69 : decode cX10_saltBy 69 = .ok (.goto (-44), 3) := by decide +kernel
theorem dX10_saltBy_72 : decode cX10_saltBy 72 = .ok (.iload 4, 2) := by decide +kernel
theorem dX10_saltBy_74 : decode cX10_saltBy 74 = .ok (.ifCond .eq 7, 3) := by decide +kernel
theorem dX10_saltBy_77 : decode cX10_saltBy 77 = .ok (.iload_n 3, 1) := by decide +kernel
theorem dX10_saltBy_78 : decode cX10_saltBy 78 = .ok (.goto 5, 3) := by decide +kernel
theorem dX10_saltBy_81 : decode cX10_saltBy 81 = .ok (.bipush (-9), 2) := by decide +kernel
theorem dX10_saltBy_83 : decode cX10_saltBy 83 = .ok (.ireturn, 1) := by decide +kernel
theorem dX10_fits_0 : decode cX10_fits 0 = .ok (.aload_n 0, 1) := by decide +kernel
theorem dX10_fits_1 : decode cX10_fits 1 = .ok (.iload_n 1, 1) := by decide +kernel
theorem dX10_fits_2 : decode cX10_fits 2 = .ok (.invokevirtual 273, 3) := by decide +kernel
theorem dX10_fits_5 : decode cX10_fits 5 = .ok (.istore_n 2, 1) := by decide +kernel
theorem dX10_fits_6 : decode cX10_fits 6 = .ok (.iload_n 2, 1) := by decide +kernel
theorem dX10_fits_7 : decode cX10_fits 7 = .ok (.ifCond .ge 5, 3) := by decide +kernel
theorem dX10_fits_10 : decode cX10_fits 10 = .ok (.iload_n 2, 1) := by decide +kernel
theorem dX10_fits_11 : decode cX10_fits 11 = .ok (.ireturn, 1) := by decide +kernel
theorem dX10_fits_12 : decode cX10_fits 12 = .ok (.iconst 0, 1) := by decide +kernel
theorem dX10_fits_13 : decode cX10_fits 13 = .ok (.istore_n 3, 1) := by decide +kernel
theorem dX10_fits_14 : decode cX10_fits 14 = .ok (.bipush (-9), 2) := by decide +kernel
theorem dX10_fits_16 : decode cX10_fits 16 = .ok (.istore 4, 2) := by decide +kernel
theorem dX10_fits_18 : decode cX10_fits 18 = .ok (.iconst 0, 1) := by decide +kernel
theorem dX10_fits_19 : decode cX10_fits 19 = .ok (.istore 5, 2) := by decide +kernel
theorem dX10_fits_21 : decode cX10_fits 21 = .ok (.iload 5, 2) := by decide +kernel
theorem dX10_fits_23 : decode cX10_fits 23 = .ok (.aload_n 0, 1) := by decide +kernel
theorem dX10_fits_24 : decode cX10_fits 24 = .ok (.invokevirtual 239, 3) := by decide +kernel
theorem dX10_fits_27 : decode cX10_fits 27 = .ok (.if_icmp .ge 59, 3) := by decide +kernel
theorem dX10_fits_30 : decode cX10_fits 30 = .ok (.aload_n 0, 1) := by decide +kernel
theorem dX10_fits_31 : decode cX10_fits 31 = .ok (.iload_n 1, 1) := by decide +kernel
theorem dX10_fits_32 : decode cX10_fits 32 = .ok (.iload 5, 2) := by decide +kernel
theorem dX10_fits_34 : decode cX10_fits 34 = .ok (.invokevirtual 276, 3) := by decide +kernel
theorem dX10_fits_37 : decode cX10_fits 37 = .ok (.bipush (-9), 2) := by decide +kernel
theorem dX10_fits_39 : decode cX10_fits 39 = .ok (.if_icmp .eq 7, 3) := by decide +kernel
theorem dX10_fits_42 : decode cX10_fits 42 = .ok (.iconst 1, 1) := by decide +kernel
theorem dX10_fits_43 : decode cX10_fits 43 = .ok (.goto 4, 3) := by decide +kernel
theorem dX10_fits_46 : decode cX10_fits 46 = .ok (.iconst 0, 1) := by decide +kernel
theorem dX10_fits_47 : decode cX10_fits 47 = .ok (.istore 6, 2) := by decide +kernel
theorem dX10_fits_49 : decode cX10_fits 49 = .ok (.iload 6, 2) := by decide +kernel
theorem dX10_fits_51 : decode cX10_fits 51 = .ok (.ifCond .eq 12, 3) := by decide +kernel
theorem dX10_fits_54 : decode cX10_fits 54 = .ok (.iload_n 3, 1) := by decide +kernel
theorem dX10_fits_55 : decode cX10_fits 55 = .ok (.ifCond .ne 8, 3) := by decide +kernel
theorem dX10_fits_58 : decode cX10_fits 58 = .ok (.iload 5, 2) := by decide +kernel
theorem dX10_fits_60 : decode cX10_fits 60 = .ok (.goto 5, 3) := by decide +kernel
theorem dX10_fits_63 : decode cX10_fits 63 = .ok (.iload 4, 2) := by decide +kernel
theorem dX10_fits_65 : decode cX10_fits 65 = .ok (.istore 4, 2) := by decide +kernel
theorem dX10_fits_67 : decode cX10_fits 67 = .ok (.iload_n 3, 1) := by decide +kernel
theorem dX10_fits_68 : decode cX10_fits 68 = .ok (.iload 6, 2) := by decide +kernel
theorem dX10_fits_70 : decode cX10_fits 70 = .ok (.ifCond .eq 7, 3) := by decide +kernel
theorem dX10_fits_73 : decode cX10_fits 73 = .ok (.iconst 1, 1) := by decide +kernel
theorem dX10_fits_74 : decode cX10_fits 74 = .ok (.goto 4, 3) := by decide +kernel
theorem dX10_fits_77 : decode cX10_fits 77 = .ok (.iconst 0, 1) := by decide +kernel
theorem dX10_fits_78 : decode cX10_fits 78 = .ok (.iadd, 1) := by decide +kernel
theorem dX10_fits_79 : decode cX10_fits 79 = .ok (.istore_n 3, 1) := by decide +kernel
theorem dX10_fits_80 : decode cX10_fits 80 = .ok (.iinc 5 1, 3) := by decide +kernel
theorem dX10_fits_83 : decode cX10_fits 83 = .ok (.goto (-62), 3) := by decide +kernel
theorem dX10_fits_86 : decode cX10_fits 86 = .ok (.aload_n 0, 1) := by decide +kernel
theorem dX10_fits_87 : decode cX10_fits 87 = .ok (.iload 4, 2) := by decide +kernel
theorem dX10_fits_89 : decode cX10_fits 89 = .ok (.iload_n 3, 1) := by decide +kernel
theorem dX10_fits_90 : decode cX10_fits 90 = .ok (.invokevirtual 123, 3) := by decide +kernel
theorem dX10_fits_93 : decode cX10_fits 93 = .ok (.ireturn, 1) := by decide +kernel
theorem dX10_opened_0 : decode cX10_opened 0 = .ok (.aload_n 0, 1) := by decide +kernel
theorem dX10_opened_1 : decode cX10_opened 1 = .ok (.iload_n 1, 1) := by decide +kernel
theorem dX10_opened_2 : decode cX10_opened 2 = .ok (.invokevirtual 273, 3) := by decide +kernel
theorem dX10_opened_5 : decode cX10_opened 5 = .ok (.istore_n 2, 1) := by decide +kernel
theorem dX10_opened_6 : decode cX10_opened 6 = .ok (.iload_n 2, 1) := by decide +kernel
theorem dX10_opened_7 : decode cX10_opened 7 = .ok (.ifCond .ge 5, 3) := by decide +kernel
theorem dX10_opened_10 : decode cX10_opened 10 = .ok (.iload_n 2, 1) := by decide +kernel
theorem dX10_opened_11 : decode cX10_opened 11 = .ok (.ireturn, 1) := by decide +kernel
theorem dX10_opened_12 : decode cX10_opened 12 = .ok (.aload_n 0, 1) := by decide +kernel
theorem dX10_opened_13 : decode cX10_opened 13 = .ok (.invokevirtual 239, 3) := by decide +kernel
theorem dX10_opened_16 : decode cX10_opened 16 = .ok (.iconst 1, 1) := by decide +kernel
theorem dX10_opened_17 : decode cX10_opened 17 = .ok (.isub, 1) := by decide +kernel
theorem dX10_opened_18 : decode cX10_opened 18 = .ok (.istore_n 3, 1) := by decide +kernel
theorem dX10_opened_19 : decode cX10_opened 19 = .ok (.iconst 0, 1) := by decide +kernel
theorem dX10_opened_20 : decode cX10_opened 20 = .ok (.istore 4, 2) := by decide +kernel
theorem dX10_opened_22 : decode cX10_opened 22 = .ok (.iconst 0, 1) := by decide +kernel
theorem dX10_opened_23 : decode cX10_opened 23 = .ok (.istore 5, 2) := by decide +kernel
theorem dX10_opened_25 : decode cX10_opened 25 = .ok (.iload 5, 2) := by decide +kernel
theorem dX10_opened_27 : decode cX10_opened 27 = .ok (.aload_n 0, 1) := by decide +kernel
theorem dX10_opened_28 : decode cX10_opened 28 = .ok (.invokevirtual 239, 3) := by decide +kernel
theorem dX10_opened_31 : decode cX10_opened 31 = .ok (.if_icmp .ge 53, 3) := by decide +kernel
theorem dX10_opened_34 : decode cX10_opened 34 = .ok (.aload_n 0, 1) := by decide +kernel
theorem dX10_opened_35 : decode cX10_opened 35 = .ok (.iload_n 1, 1) := by decide +kernel
theorem dX10_opened_36 : decode cX10_opened 36 = .ok (.iload 5, 2) := by decide +kernel
theorem dX10_opened_38 : decode cX10_opened 38 = .ok (.invokevirtual 276, 3) := by decide +kernel
theorem dX10_opened_41 : decode cX10_opened 41 = .ok (.istore 6, 2) := by decide +kernel
theorem dX10_opened_43 : decode cX10_opened 43 = .ok (.iload 4, 2) := by decide +kernel
theorem dX10_opened_45 : decode cX10_opened 45 = .ok (.ifCond .ne 10, 3) := by decide +kernel
theorem dX10_opened_48 : decode cX10_opened 48 = .ok (.iload 6, 2) := by decide +kernel
theorem dX10_opened_50 : decode cX10_opened 50 = .ok (.bipush (-9), 2) := by decide +kernel
theorem dX10_opened_52 : decode cX10_opened 52 = .ok (.if_icmp .eq 7, 3) := by decide +kernel
theorem dX10_opened_55 : decode cX10_opened 55 = .ok (.iconst 1, 1) := by decide +kernel
theorem dX10_opened_56 : decode cX10_opened 56 = .ok (.goto 4, 3) := by decide +kernel
theorem dX10_opened_59 : decode cX10_opened 59 = .ok (.iconst 0, 1) := by decide +kernel
theorem dX10_opened_60 : decode cX10_opened 60 = .ok (.istore 4, 2) := by decide +kernel
theorem dX10_opened_62 : decode cX10_opened 62 = .ok (.iload_n 3, 1) := by decide +kernel
theorem dX10_opened_63 : decode cX10_opened 63 = .ok (.iload 6, 2) := by decide +kernel
theorem dX10_opened_65 : decode cX10_opened 65 = .ok (.bipush (-9), 2) := by decide +kernel
theorem dX10_opened_67 : decode cX10_opened 67 = .ok (.if_icmp .eq 8, 3) := by decide +kernel
theorem dX10_opened_70 : decode cX10_opened 70 = .ok (.iload 6, 2) := by decide +kernel
theorem dX10_opened_72 : decode cX10_opened 72 = .ok (.goto 4, 3) := by decide +kernel
theorem dX10_opened_75 : decode cX10_opened 75 = .ok (.iconst (-1), 1) := by decide +kernel
theorem dX10_opened_76 : decode cX10_opened 76 = .ok (.iand, 1) := by decide +kernel
theorem dX10_opened_77 : decode cX10_opened 77 = .ok (.istore_n 3, 1) := by decide +kernel
theorem dX10_opened_78 : decode cX10_opened 78 = .ok (.iinc 5 1, 3) := by decide +kernel
theorem dX10_opened_81 : decode cX10_opened 81 = .ok (.goto (-56), 3) := by decide +kernel
theorem dX10_opened_84 : decode cX10_opened 84 = .ok (.iload 4, 2) := by decide +kernel
theorem dX10_opened_86 : decode cX10_opened 86 = .ok (.ifCond .eq 7, 3) := by decide +kernel
theorem dX10_opened_89 : decode cX10_opened 89 = .ok (.iload_n 3, 1) := by decide +kernel
theorem dX10_opened_90 : decode cX10_opened 90 = .ok (.goto 4, 3) := by decide +kernel
theorem dX10_opened_93 : decode cX10_opened 93 = .ok (.iconst 0, 1) := by decide +kernel
theorem dX10_opened_94 : decode cX10_opened 94 = .ok (.ireturn, 1) := by decide +kernel
theorem dX10_owedBy_0 : decode cX10_owedBy 0 = .ok (.lconst 0, 1) := by decide +kernel
theorem dX10_owedBy_1 : decode cX10_owedBy 1 = .ok (.lstore_n 3, 1) := by decide +kernel
theorem dX10_owedBy_2 : decode cX10_owedBy 2 = .ok (.iconst 0, 1) := by decide +kernel
theorem dX10_owedBy_3 : decode cX10_owedBy 3 = .ok (.istore 5, 2) := by decide +kernel
theorem dX10_owedBy_5 : decode cX10_owedBy 5 = .ok (.iload 5, 2) := by decide +kernel
theorem dX10_owedBy_7 : decode cX10_owedBy 7 = .ok (.aload_n 0, 1) := by decide +kernel
theorem dX10_owedBy_8 : decode cX10_owedBy 8 = .ok (.getfield 172, 3) := by decide +kernel
theorem dX10_owedBy_11 : decode cX10_owedBy 11 = .ok (.if_icmp .ge 33, 3) := by decide +kernel
theorem dX10_owedBy_14 : decode cX10_owedBy 14 = .ok (.lload_n 3, 1) := by decide +kernel
theorem dX10_owedBy_15 : decode cX10_owedBy 15 = .ok (.iload_n 2, 1) := by decide +kernel
theorem dX10_owedBy_16 : decode cX10_owedBy 16 = .ok (.iload 5, 2) := by decide +kernel
theorem dX10_owedBy_18 : decode cX10_owedBy 18 = .ok (.invokestatic 153, 3) := by decide +kernel
theorem dX10_owedBy_21 : decode cX10_owedBy 21 = .ok (.ifCond .eq 14, 3) := by decide +kernel
theorem dX10_owedBy_24 : decode cX10_owedBy 24 = .ok (.aload_n 0, 1) := by decide +kernel
theorem dX10_owedBy_25 : decode cX10_owedBy 25 = .ok (.iload_n 1, 1) := by decide +kernel
theorem dX10_owedBy_26 : decode cX10_owedBy 26 = .ok (.iload 5, 2) := by decide +kernel
theorem dX10_owedBy_28 : decode cX10_owedBy 28 = .ok (.invokevirtual 119, 3) := by decide +kernel
theorem dX10_owedBy_31 : decode cX10_owedBy 31 = .ok (.i2l, 1) := by decide +kernel
theorem dX10_owedBy_32 : decode cX10_owedBy 32 = .ok (.goto 4, 3) := by decide +kernel
theorem dX10_owedBy_35 : decode cX10_owedBy 35 = .ok (.lconst 0, 1) := by decide +kernel
theorem dX10_owedBy_36 : decode cX10_owedBy 36 = .ok (.ladd, 1) := by decide +kernel
theorem dX10_owedBy_37 : decode cX10_owedBy 37 = .ok (.lstore_n 3, 1) := by decide +kernel
theorem dX10_owedBy_38 : decode cX10_owedBy 38 = .ok (.iinc 5 1, 3) := by decide +kernel
theorem dX10_owedBy_41 : decode cX10_owedBy 41 = .ok (.goto (-36), 3) := by decide +kernel
theorem dX10_owedBy_44 : decode cX10_owedBy 44 = .ok (.lload_n 3, 1) := by decide +kernel
theorem dX10_owedBy_45 : decode cX10_owedBy 45 = .ok (.lreturn, 1) := by decide +kernel
theorem dX10_parts_0 : decode cX10_parts 0 = .ok (.iconst 0, 1) := by decide +kernel
theorem dX10_parts_1 : decode cX10_parts 1 = .ok (.istore_n 3, 1) := by decide +kernel
theorem dX10_parts_2 : decode cX10_parts 2 = .ok (.iload_n 2, 1) := by decide +kernel
theorem dX10_parts_3 : decode cX10_parts 3 = .ok (.istore 4, 2) := by decide +kernel
theorem dX10_parts_5 : decode cX10_parts 5 = .ok (.iload 4, 2) := by decide +kernel
theorem dX10_parts_7 : decode cX10_parts 7 = .ok (.ifCond .le 44, 3) := by decide +kernel
theorem dX10_parts_10 : decode cX10_parts 10 = .ok (.aload_n 0, 1) := by decide +kernel
theorem dX10_parts_11 : decode cX10_parts 11 = .ok (.iload_n 1, 1) := by decide +kernel
theorem dX10_parts_12 : decode cX10_parts 12 = .ok (.iload 4, 2) := by decide +kernel
theorem dX10_parts_14 : decode cX10_parts 14 = .ok (.invokevirtual 279, 3) := by decide +kernel
theorem dX10_parts_17 : decode cX10_parts 17 = .ok (.lconst 0, 1) := by decide +kernel
theorem dX10_parts_18 : decode cX10_parts 18 = .ok (.lcmp, 1) := by decide +kernel
theorem dX10_parts_19 : decode cX10_parts 19 = .ok (.ifCond .ne 21, 3) := by decide +kernel
theorem dX10_parts_22 : decode cX10_parts 22 = .ok (.iload_n 3, 1) := by decide +kernel
theorem dX10_parts_23 : decode cX10_parts 23 = .ok (.iconst 1, 1) := by decide +kernel
theorem dX10_parts_24 : decode cX10_parts 24 = .ok (.aload_n 0, 1) := by decide +kernel
theorem dX10_parts_25 : decode cX10_parts 25 = .ok (.iload_n 1, 1) := by decide +kernel
theorem dX10_parts_26 : decode cX10_parts 26 = .ok (.iload_n 2, 1) := by decide +kernel
theorem dX10_parts_27 : decode cX10_parts 27 = .ok (.iload 4, 2) := by decide +kernel
theorem dX10_parts_29 : decode cX10_parts 29 = .ok (.iconst (-1), 1) := by decide +kernel
theorem dX10_parts_30 : decode cX10_parts 30 = .ok (.ixor, 1) := by decide +kernel
theorem dX10_parts_31 : decode cX10_parts 31 = .ok (.iand, 1) := by decide +kernel
theorem dX10_parts_32 : decode cX10_parts 32 = .ok (.invokevirtual 283, 3) := by decide +kernel
theorem dX10_parts_35 : decode cX10_parts 35 = .ok (.iadd, 1) := by decide +kernel
theorem dX10_parts_36 : decode cX10_parts 36 = .ok (.invokestatic 205, 3) := by decide +kernel
theorem dX10_parts_39 : decode cX10_parts 39 = .ok (.istore_n 3, 1) := by decide +kernel
theorem dX10_parts_40 : decode cX10_parts 40 = .ok (.iload 4, 2) := by decide +kernel
theorem dX10_parts_42 : decode cX10_parts 42 = .ok (.iconst 1, 1) := by decide +kernel
theorem dX10_parts_43 : decode cX10_parts 43 = .ok (.isub, 1) := by decide +kernel
theorem dX10_parts_44 : decode cX10_parts 44 = .ok (.iload_n 2, 1) := by decide +kernel
theorem dX10_parts_45 : decode cX10_parts 45 = .ok (.iand, 1) := by decide +kernel
theorem dX10_parts_46 : decode cX10_parts 46 = .ok (.istore 4, 2) := by decide +kernel
theorem dX10_parts_48 : decode cX10_parts 48 = .ok (.goto (-43), 3) := by decide +kernel
theorem dX10_parts_51 : decode cX10_parts 51 = .ok (.iload_n 3, 1) := by decide +kernel
theorem dX10_parts_52 : decode cX10_parts 52 = .ok (.ireturn, 1) := by decide +kernel
theorem dX10_settle_0 : decode cX10_settle 0 = .ok (.aload_n 0, 1) := by decide +kernel
theorem dX10_settle_1 : decode cX10_settle 1 = .ok (.iload_n 1, 1) := by decide +kernel
theorem dX10_settle_2 : decode cX10_settle 2 = .ok (.invokevirtual 273, 3) := by decide +kernel
theorem dX10_settle_5 : decode cX10_settle 5 = .ok (.istore_n 2, 1) := by decide +kernel
theorem dX10_settle_6 : decode cX10_settle 6 = .ok (.iload_n 2, 1) := by decide +kernel
theorem dX10_settle_7 : decode cX10_settle 7 = .ok (.ifCond .ge 5, 3) := by decide +kernel
theorem dX10_settle_10 : decode cX10_settle 10 = .ok (.iload_n 2, 1) := by decide +kernel
theorem dX10_settle_11 : decode cX10_settle 11 = .ok (.ireturn, 1) := by decide +kernel
theorem dX10_settle_12 : decode cX10_settle 12 = .ok (.aload_n 0, 1) := by decide +kernel
theorem dX10_settle_13 : decode cX10_settle 13 = .ok (.iload_n 1, 1) := by decide +kernel
theorem dX10_settle_14 : decode cX10_settle 14 = .ok (.aload_n 0, 1) := by decide +kernel
theorem dX10_settle_15 : decode cX10_settle 15 = .ok (.invokevirtual 239, 3) := by decide +kernel
theorem dX10_settle_18 : decode cX10_settle 18 = .ok (.iconst 1, 1) := by decide +kernel
theorem dX10_settle_19 : decode cX10_settle 19 = .ok (.isub, 1) := by decide +kernel
theorem dX10_settle_20 : decode cX10_settle 20 = .ok (.invokevirtual 279, 3) := by decide +kernel
theorem dX10_settle_23 : decode cX10_settle 23 = .ok (.lconst 0, 1) := by decide +kernel
theorem dX10_settle_24 : decode cX10_settle 24 = .ok (.lcmp, 1) := by decide +kernel
theorem dX10_settle_25 : decode cX10_settle 25 = .ok (.ifCond .eq 9, 3) := by decide +kernel
theorem dX10_settle_28 : decode cX10_settle 28 = .ok (.aload_n 0, 1) := by decide +kernel
theorem dX10_settle_29 : decode cX10_settle 29 = .ok (.iconst 4, 1) := by decide +kernel
theorem dX10_settle_30 : decode cX10_settle 30 = .ok (.invokevirtual 115, 3) := by decide +kernel
theorem dX10_settle_33 : decode cX10_settle 33 = .ok (.ireturn, 1) := by decide +kernel
theorem dX10_settle_34 : decode cX10_settle 34 = .ok (.iconst 0, 1) := by decide +kernel
theorem dX10_settle_35 : decode cX10_settle 35 = .ok (.istore_n 3, 1) := by decide +kernel
theorem dX10_settle_36 : decode cX10_settle 36 = .ok (.iconst 0, 1) := by decide +kernel
theorem dX10_settle_37 : decode cX10_settle 37 = .ok (.istore 4, 2) := by decide +kernel
theorem dX10_settle_39 : decode cX10_settle 39 = .ok (.iload 4, 2) := by decide +kernel
theorem dX10_settle_41 : decode cX10_settle 41 = .ok (.aload_n 0, 1) := by decide +kernel
theorem dX10_settle_42 : decode cX10_settle 42 = .ok (.getfield 172, 3) := by decide +kernel
theorem dX10_settle_45 : decode cX10_settle 45 = .ok (.if_icmp .ge 30, 3) := by decide +kernel
theorem dX10_settle_48 : decode cX10_settle 48 = .ok (.iload_n 3, 1) := by decide +kernel
theorem dX10_settle_49 : decode cX10_settle 49 = .ok (.aload_n 0, 1) := by decide +kernel
theorem dX10_settle_50 : decode cX10_settle 50 = .ok (.iload_n 1, 1) := by decide +kernel
theorem dX10_settle_51 : decode cX10_settle 51 = .ok (.iload 4, 2) := by decide +kernel
theorem dX10_settle_53 : decode cX10_settle 53 = .ok (.invokevirtual 119, 3) := by decide +kernel
theorem dX10_settle_56 : decode cX10_settle 56 = .ok (.ifCond .eq 10, 3) := by decide +kernel
theorem dX10_settle_59 : decode cX10_settle 59 = .ok (.iconst 1, 1) := by decide +kernel
theorem dX10_settle_60 : decode cX10_settle 60 = .ok (.iload 4, 2) := by decide +kernel
theorem dX10_settle_62 : decode cX10_settle 62 = .ok (.ishl, 1) := by decide +kernel
theorem dX10_settle_63 : decode cX10_settle 63 = .ok (.goto 4, 3) := by decide +kernel
theorem dX10_settle_66 : decode cX10_settle 66 = .ok (.iconst 0, 1) := by decide +kernel
theorem dX10_settle_67 : decode cX10_settle 67 = .ok (.ior, 1) := by decide +kernel
theorem dX10_settle_68 : decode cX10_settle 68 = .ok (.istore_n 3, 1) := by decide +kernel
theorem dX10_settle_69 : decode cX10_settle 69 = .ok (.iinc 4 1, 3) := by decide +kernel
theorem dX10_settle_72 : decode cX10_settle 72 = .ok (.goto (-33), 3) := by decide +kernel
theorem dX10_settle_75 : decode cX10_settle 75 = .ok (.iload_n 3, 1) := by decide +kernel
theorem dX10_settle_76 : decode cX10_settle 76 = .ok (.invokestatic 214, 3) := by decide +kernel
theorem dX10_settle_79 : decode cX10_settle 79 = .ok (.aload_n 0, 1) := by decide +kernel
theorem dX10_settle_80 : decode cX10_settle 80 = .ok (.iload_n 1, 1) := by decide +kernel
theorem dX10_settle_81 : decode cX10_settle 81 = .ok (.iload_n 3, 1) := by decide +kernel
theorem dX10_settle_82 : decode cX10_settle 82 = .ok (.invokevirtual 283, 3) := by decide +kernel
theorem dX10_settle_85 : decode cX10_settle 85 = .ok (.isub, 1) := by decide +kernel
theorem dX10_settle_86 : decode cX10_settle 86 = .ok (.ireturn, 1) := by decide +kernel
theorem dX10_waitMany_0 : decode cX10_waitMany 0 = .ok (.iconst 0, 1) := by decide +kernel
theorem dX10_waitMany_1 : decode cX10_waitMany 1 = .ok (.istore_n 1, 1) := by decide +kernel
theorem dX10_waitMany_2 : decode cX10_waitMany 2 = .ok (.iconst 0, 1) := by decide +kernel
theorem dX10_waitMany_3 : decode cX10_waitMany 3 = .ok (.istore_n 2, 1) := by decide +kernel
theorem dX10_waitMany_4 : decode cX10_waitMany 4 = .ok (.iload_n 2, 1) := by decide +kernel
theorem dX10_waitMany_5 : decode cX10_waitMany 5 = .ok (.aload_n 0, 1) := by decide +kernel
theorem dX10_waitMany_6 : decode cX10_waitMany 6 = .ok (.getfield 172, 3) := by decide +kernel
theorem dX10_waitMany_9 : decode cX10_waitMany 9 = .ok (.if_icmp .ge 21, 3) := by decide +kernel
theorem dX10_waitMany_12 : decode cX10_waitMany 12 = .ok (.iload_n 1, 1) := by decide +kernel
theorem dX10_waitMany_13 : decode cX10_waitMany 13 = .ok (.aload_n 0, 1) := by decide +kernel
theorem dX10_waitMany_14 : decode cX10_waitMany 14 = .ok (.getfield 48, 3) := by decide +kernel
theorem dX10_waitMany_17 : decode cX10_waitMany 17 = .ok (.iload_n 2, 1) := by decide +kernel
theorem dX10_waitMany_18 : decode cX10_waitMany 18 = .ok (.iaload, 1) := by decide +kernel
theorem dX10_waitMany_19 : decode cX10_waitMany 19 = .ok (.invokestatic 214, 3) := by decide +kernel
theorem dX10_waitMany_22 : decode cX10_waitMany 22 = .ok (.iadd, 1) := by decide +kernel
theorem dX10_waitMany_23 : decode cX10_waitMany 23 = .ok (.istore_n 1, 1) := by decide +kernel
theorem dX10_waitMany_24 : decode cX10_waitMany 24 = .ok (.iinc 2 1, 3) := by decide +kernel
theorem dX10_waitMany_27 : decode cX10_waitMany 27 = .ok (.goto (-23), 3) := by decide +kernel
theorem dX10_waitMany_30 : decode cX10_waitMany 30 = .ok (.iload_n 1, 1) := by decide +kernel
theorem dX10_waitMany_31 : decode cX10_waitMany 31 = .ok (.ireturn, 1) := by decide +kernel
theorem dX10_stalled_0 : decode cX10_stalled 0 = .ok (.iconst 0, 1) := by decide +kernel
theorem dX10_stalled_1 : decode cX10_stalled 1 = .ok (.istore_n 1, 1) := by decide +kernel
theorem dX10_stalled_2 : decode cX10_stalled 2 = .ok (.iconst 0, 1) := by decide +kernel
theorem dX10_stalled_3 : decode cX10_stalled 3 = .ok (.istore_n 2, 1) := by decide +kernel
theorem dX10_stalled_4 : decode cX10_stalled 4 = .ok (.iload_n 2, 1) := by decide +kernel
theorem dX10_stalled_5 : decode cX10_stalled 5 = .ok (.aload_n 0, 1) := by decide +kernel
theorem dX10_stalled_6 : decode cX10_stalled 6 = .ok (.getfield 172, 3) := by decide +kernel
theorem dX10_stalled_9 : decode cX10_stalled 9 = .ok (.if_icmp .ge 93, 3) := by decide +kernel
theorem dX10_stalled_12 : decode cX10_stalled 12 = .ok (.aload_n 0, 1) := by decide +kernel
theorem dX10_stalled_13 : decode cX10_stalled 13 = .ok (.getfield 48, 3) := by decide +kernel
theorem dX10_stalled_16 : decode cX10_stalled 16 = .ok (.iload_n 2, 1) := by decide +kernel
theorem dX10_stalled_17 : decode cX10_stalled 17 = .ok (.iaload, 1) := by decide +kernel
theorem dX10_stalled_18 : decode cX10_stalled 18 = .ok (.istore_n 3, 1) := by decide +kernel
theorem dX10_stalled_19 : decode cX10_stalled 19 = .ok (.iconst 0, 1) := by decide +kernel
theorem dX10_stalled_20 : decode cX10_stalled 20 = .ok (.istore 4, 2) := by decide +kernel
theorem dX10_stalled_22 : decode cX10_stalled 22 = .ok (.iload 4, 2) := by decide +kernel
theorem dX10_stalled_24 : decode cX10_stalled 24 = .ok (.aload_n 0, 1) := by decide +kernel
theorem dX10_stalled_25 : decode cX10_stalled 25 = .ok (.getfield 172, 3) := by decide +kernel
theorem dX10_stalled_28 : decode cX10_stalled 28 = .ok (.if_icmp .ge 50, 3) := by decide +kernel
theorem dX10_stalled_31 : decode cX10_stalled 31 = .ok (.iconst 0, 1) := by decide +kernel
theorem dX10_stalled_32 : decode cX10_stalled 32 = .ok (.istore 5, 2) := by decide +kernel
theorem dX10_stalled_34 : decode cX10_stalled 34 = .ok (.iload 5, 2) := by decide +kernel
theorem dX10_stalled_36 : decode cX10_stalled 36 = .ok (.aload_n 0, 1) := by decide +kernel
theorem dX10_stalled_37 : decode cX10_stalled 37 = .ok (.getfield 172, 3) := by decide +kernel
theorem dX10_stalled_40 : decode cX10_stalled 40 = .ok (.if_icmp .ge 32, 3) := by decide +kernel
theorem dX10_stalled_43 : decode cX10_stalled 43 = .ok (.iload_n 3, 1) := by decide +kernel
theorem dX10_stalled_44 : decode cX10_stalled 44 = .ok (.iload_n 3, 1) := by decide +kernel
theorem dX10_stalled_45 : decode cX10_stalled 45 = .ok (.iload 5, 2) := by decide +kernel
theorem dX10_stalled_47 : decode cX10_stalled 47 = .ok (.invokestatic 153, 3) := by decide +kernel
theorem dX10_stalled_50 : decode cX10_stalled 50 = .ok (.ifCond .eq 13, 3) := by decide +kernel
theorem dX10_stalled_53 : decode cX10_stalled 53 = .ok (.aload_n 0, 1) := by decide +kernel
theorem dX10_stalled_54 : decode cX10_stalled 54 = .ok (.getfield 48, 3) := by decide +kernel
theorem dX10_stalled_57 : decode cX10_stalled 57 = .ok (.iload 5, 2) := by decide +kernel
theorem dX10_stalled_59 : decode cX10_stalled 59 = .ok (.iaload, 1) := by decide +kernel
theorem dX10_stalled_60 : decode cX10_stalled 60 = .ok (.goto 4, 3) := by decide +kernel
theorem dX10_stalled_63 : decode cX10_stalled 63 = .ok (.iconst 0, 1) := by decide +kernel
theorem dX10_stalled_64 : decode cX10_stalled 64 = .ok (.ior, 1) := by decide +kernel
theorem dX10_stalled_65 : decode cX10_stalled 65 = .ok (.istore_n 3, 1) := by decide +kernel
theorem dX10_stalled_66 : decode cX10_stalled 66 = .ok (.iinc 5 1, 3) := by decide +kernel
theorem dX10_stalled_69 : decode cX10_stalled 69 = .ok (.goto (-35), 3) := by decide +kernel
theorem dX10_stalled_72 : decode cX10_stalled 72 = .ok (.iinc 4 1, 3) := by decide +kernel
theorem dX10_stalled_75 : decode cX10_stalled 75 = .ok (.goto (-53), 3) := by decide +kernel
theorem dX10_stalled_78 : decode cX10_stalled 78 = .ok (.iload_n 1, 1) := by decide +kernel
theorem dX10_stalled_79 : decode cX10_stalled 79 = .ok (.iload_n 3, 1) := by decide +kernel
theorem dX10_stalled_80 : decode cX10_stalled 80 = .ok (.iload_n 2, 1) := by decide +kernel
theorem dX10_stalled_81 : decode cX10_stalled 81 = .ok (.invokestatic 153, 3) := by decide +kernel
theorem dX10_stalled_84 : decode cX10_stalled 84 = .ok (.ifCond .eq 9, 3) := by decide +kernel
theorem dX10_stalled_87 : decode cX10_stalled 87 = .ok (.iconst 1, 1) := by decide +kernel
theorem dX10_stalled_88 : decode cX10_stalled 88 = .ok (.iload_n 2, 1) := by decide +kernel
theorem dX10_stalled_89 : decode cX10_stalled 89 = .ok (.ishl, 1) := by decide +kernel
theorem dX10_stalled_90 : decode cX10_stalled 90 = .ok (.goto 4, 3) := by decide +kernel
theorem dX10_stalled_93 : decode cX10_stalled 93 = .ok (.iconst 0, 1) := by decide +kernel
theorem dX10_stalled_94 : decode cX10_stalled 94 = .ok (.ior, 1) := by decide +kernel
theorem dX10_stalled_95 : decode cX10_stalled 95 = .ok (.istore_n 1, 1) := by decide +kernel
theorem dX10_stalled_96 : decode cX10_stalled 96 = .ok (.iinc 2 1, 3) := by decide +kernel
theorem dX10_stalled_99 : decode cX10_stalled 99 = .ok (.goto (-95), 3) := by decide +kernel
theorem dX10_stalled_102 : decode cX10_stalled 102 = .ok (.aload_n 0, 1) := by decide +kernel
theorem dX10_stalled_103 : decode cX10_stalled 103 = .ok (.aload_n 0, 1) := by decide +kernel
theorem dX10_stalled_104 : decode cX10_stalled 104 = .ok (.invokevirtual 286, 3) := by decide +kernel
theorem dX10_stalled_107 : decode cX10_stalled 107 = .ok (.iload_n 1, 1) := by decide +kernel
theorem dX10_stalled_108 : decode cX10_stalled 108 = .ok (.invokevirtual 123, 3) := by decide +kernel
theorem dX10_stalled_111 : decode cX10_stalled 111 = .ok (.ireturn, 1) := by decide +kernel
theorem dX10_layBack_0 : decode cX10_layBack 0 = .ok (.iconst 0, 1) := by decide +kernel
theorem dX10_layBack_1 : decode cX10_layBack 1 = .ok (.istore_n 1, 1) := by decide +kernel
theorem dX10_layBack_2 : decode cX10_layBack 2 = .ok (.iconst 0, 1) := by decide +kernel
theorem dX10_layBack_3 : decode cX10_layBack 3 = .ok (.istore_n 2, 1) := by decide +kernel
theorem dX10_layBack_4 : decode cX10_layBack 4 = .ok (.iload_n 2, 1) := by decide +kernel
theorem dX10_layBack_5 : decode cX10_layBack 5 = .ok (.bipush 8, 2) := by decide +kernel
theorem dX10_layBack_7 : decode cX10_layBack 7 = .ok (.aload_n 0, 1) := by decide +kernel
theorem dX10_layBack_8 : decode cX10_layBack 8 = .ok (.getfield 172, 3) := by decide +kernel
theorem dX10_layBack_11 : decode cX10_layBack 11 = .ok (.imul, 1) := by decide +kernel
theorem dX10_layBack_12 : decode cX10_layBack 12 = .ok (.if_icmp .ge 69, 3) := by decide +kernel
theorem dX10_layBack_15 : decode cX10_layBack 15 = .ok (.iload_n 2, 1) := by decide +kernel
theorem dX10_layBack_16 : decode cX10_layBack 16 = .ok (.bipush 8, 2) := by decide +kernel
theorem dX10_layBack_18 : decode cX10_layBack 18 = .ok (.idiv, 1) := by decide +kernel
theorem dX10_layBack_19 : decode cX10_layBack 19 = .ok (.istore_n 3, 1) := by decide +kernel
theorem dX10_layBack_20 : decode cX10_layBack 20 = .ok (.iload_n 2, 1) := by decide +kernel
theorem dX10_layBack_21 : decode cX10_layBack 21 = .ok (.bipush 8, 2) := by decide +kernel
theorem dX10_layBack_23 : decode cX10_layBack 23 = .ok (.irem, 1) := by decide +kernel
theorem dX10_layBack_24 : decode cX10_layBack 24 = .ok (.istore 4, 2) := by decide +kernel
theorem dX10_layBack_26 : decode cX10_layBack 26 = .ok (.iload 4, 2) := by decide +kernel
theorem dX10_layBack_28 : decode cX10_layBack 28 = .ok (.aload_n 0, 1) := by decide +kernel
theorem dX10_layBack_29 : decode cX10_layBack 29 = .ok (.getfield 172, 3) := by decide +kernel
theorem dX10_layBack_32 : decode cX10_layBack 32 = .ok (.if_icmp .ge 43, 3) := by decide +kernel
theorem dX10_layBack_35 : decode cX10_layBack 35 = .ok (.aload_n 0, 1) := by decide +kernel
theorem dX10_layBack_36 : decode cX10_layBack 36 = .ok (.getfield 48, 3) := by decide +kernel
theorem dX10_layBack_39 : decode cX10_layBack 39 = .ok (.iload_n 3, 1) := by decide +kernel
theorem dX10_layBack_40 : decode cX10_layBack 40 = .ok (.iaload, 1) := by decide +kernel
theorem dX10_layBack_41 : decode cX10_layBack 41 = .ok (.iload 4, 2) := by decide +kernel
theorem dX10_layBack_43 : decode cX10_layBack 43 = .ok (.invokestatic 153, 3) := by decide +kernel
theorem dX10_layBack_46 : decode cX10_layBack 46 = .ok (.ifCond .eq 29, 3) := by decide +kernel
theorem dX10_layBack_49 : decode cX10_layBack 49 = .ok (.aload_n 0, 1) := by decide +kernel
theorem dX10_layBack_50 : decode cX10_layBack 50 = .ok (.getfield 94, 3) := by decide +kernel
theorem dX10_layBack_53 : decode cX10_layBack 53 = .ok (.iload_n 3, 1) := by decide +kernel
theorem dX10_layBack_54 : decode cX10_layBack 54 = .ok (.iaload, 1) := by decide +kernel
theorem dX10_layBack_55 : decode cX10_layBack 55 = .ok (.aload_n 0, 1) := by decide +kernel
theorem dX10_layBack_56 : decode cX10_layBack 56 = .ok (.getfield 94, 3) := by decide +kernel
theorem dX10_layBack_59 : decode cX10_layBack 59 = .ok (.iload 4, 2) := by decide +kernel
theorem dX10_layBack_61 : decode cX10_layBack 61 = .ok (.iaload, 1) := by decide +kernel
theorem dX10_layBack_62 : decode cX10_layBack 62 = .ok (.if_icmp .ge 13, 3) := by decide +kernel
theorem dX10_layBack_65 : decode cX10_layBack 65 = .ok (.aload_n 0, 1) := by decide +kernel
theorem dX10_layBack_66 : decode cX10_layBack 66 = .ok (.getfield 88, 3) := by decide +kernel
theorem dX10_layBack_69 : decode cX10_layBack 69 = .ok (.iload_n 1, 1) := by decide +kernel
theorem dX10_layBack_70 : decode cX10_layBack 70 = .ok (.iload_n 2, 1) := by decide +kernel
theorem dX10_layBack_71 : decode cX10_layBack 71 = .ok (.iastore, 1) := by decide +kernel
theorem dX10_layBack_72 : decode cX10_layBack 72 = .ok (.iinc 1 1, 3) := by decide +kernel
theorem dX10_layBack_75 : decode cX10_layBack 75 = .ok (.iinc 2 1, 3) := by decide +kernel
theorem dX10_layBack_78 : decode cX10_layBack 78 = .ok (.goto (-74), 3) := by decide +kernel
theorem dX10_layBack_81 : decode cX10_layBack 81 = .ok (.iload_n 1, 1) := by decide +kernel
theorem dX10_layBack_82 : decode cX10_layBack 82 = .ok (.ireturn, 1) := by decide +kernel
theorem dX10_isAhead_0 : decode cX10_isAhead 0 = .ok (.iconst 0, 1) := by decide +kernel
theorem dX10_isAhead_1 : decode cX10_isAhead 1 = .ok (.istore_n 2, 1) := by decide +kernel
theorem dX10_isAhead_2 : decode cX10_isAhead 2 = .ok (.iload_n 2, 1) := by decide +kernel
theorem dX10_isAhead_3 : decode cX10_isAhead 3 = .ok (.iload_n 1, 1) := by decide +kernel
theorem dX10_isAhead_4 : decode cX10_isAhead 4 = .ok (.if_icmp .ge 24, 3) := by decide +kernel
theorem dX10_isAhead_7 : decode cX10_isAhead 7 = .ok (.aload_n 0, 1) := by decide +kernel
theorem dX10_isAhead_8 : decode cX10_isAhead 8 = .ok (.getfield 88, 3) := by decide +kernel
theorem dX10_isAhead_11 : decode cX10_isAhead 11 = .ok (.iload_n 2, 1) := by decide +kernel
theorem dX10_isAhead_12 : decode cX10_isAhead 12 = .ok (.iaload, 1) := by decide +kernel
theorem dX10_isAhead_13 : decode cX10_isAhead 13 = .ok (.aload_n 0, 1) := by decide +kernel
theorem dX10_isAhead_14 : decode cX10_isAhead 14 = .ok (.getfield 91, 3) := by decide +kernel
theorem dX10_isAhead_17 : decode cX10_isAhead 17 = .ok (.iload_n 2, 1) := by decide +kernel
theorem dX10_isAhead_18 : decode cX10_isAhead 18 = .ok (.iaload, 1) := by decide +kernel
theorem dX10_isAhead_19 : decode cX10_isAhead 19 = .ok (.if_icmp .ne 9, 3) := by decide +kernel
theorem dX10_isAhead_22 : decode cX10_isAhead 22 = .ok (.iinc 2 1, 3) := by decide +kernel
theorem dX10_isAhead_25 : decode cX10_isAhead 25 = .ok (.goto (-23), 3) := by decide +kernel
theorem dX10_isAhead_28 : decode cX10_isAhead 28 = .ok (.iload_n 2, 1) := by decide +kernel
theorem dX10_isAhead_29 : decode cX10_isAhead 29 = .ok (.iload_n 1, 1) := by decide +kernel
theorem dX10_isAhead_30 : decode cX10_isAhead 30 = .ok (.if_icmp .ge 22, 3) := by decide +kernel
theorem dX10_isAhead_33 : decode cX10_isAhead 33 = .ok (.aload_n 0, 1) := by decide +kernel
theorem dX10_isAhead_34 : decode cX10_isAhead 34 = .ok (.getfield 88, 3) := by decide +kernel
theorem dX10_isAhead_37 : decode cX10_isAhead 37 = .ok (.iload_n 2, 1) := by decide +kernel
theorem dX10_isAhead_38 : decode cX10_isAhead 38 = .ok (.iaload, 1) := by decide +kernel
theorem dX10_isAhead_39 : decode cX10_isAhead 39 = .ok (.aload_n 0, 1) := by decide +kernel
theorem dX10_isAhead_40 : decode cX10_isAhead 40 = .ok (.getfield 91, 3) := by decide +kernel
theorem dX10_isAhead_43 : decode cX10_isAhead 43 = .ok (.iload_n 2, 1) := by decide +kernel
theorem dX10_isAhead_44 : decode cX10_isAhead 44 = .ok (.iaload, 1) := by decide +kernel
theorem dX10_isAhead_45 : decode cX10_isAhead 45 = .ok (.if_icmp .ge 7, 3) := by decide +kernel
theorem dX10_isAhead_48 : decode cX10_isAhead 48 = .ok (.iconst 1, 1) := by decide +kernel
theorem dX10_isAhead_49 : decode cX10_isAhead 49 = .ok (.goto 4, 3) := by decide +kernel
theorem dX10_isAhead_52 : decode cX10_isAhead 52 = .ok (.iconst 0, 1) := by decide +kernel
theorem dX10_isAhead_53 : decode cX10_isAhead 53 = .ok (.ireturn, 1) := by decide +kernel
theorem dX10_layOrders_0 : decode cX10_layOrders 0 = .ok (.iload_n 1, 1) := by decide +kernel
theorem dX10_layOrders_1 : decode cX10_layOrders 1 = .ok (.aload_n 0, 1) := by decide +kernel
theorem dX10_layOrders_2 : decode cX10_layOrders 2 = .ok (.getfield 172, 3) := by decide +kernel
theorem dX10_layOrders_5 : decode cX10_layOrders 5 = .ok (.if_icmp .ne 67, 3) := by decide +kernel
theorem dX10_layOrders_8 : decode cX10_layOrders 8 = .ok (.aload_n 0, 1) := by decide +kernel
theorem dX10_layOrders_9 : decode cX10_layOrders 9 = .ok (.invokevirtual 289, 3) := by decide +kernel
theorem dX10_layOrders_12 : decode cX10_layOrders 12 = .ok (.istore_n 3, 1) := by decide +kernel
theorem dX10_layOrders_13 : decode cX10_layOrders 13 = .ok (.iload_n 3, 1) := by decide +kernel
theorem dX10_layOrders_14 : decode cX10_layOrders 14 = .ok (.aload_n 0, 1) := by decide +kernel
theorem dX10_layOrders_15 : decode cX10_layOrders 15 = .ok (.getfield 292, 3) := by decide +kernel
theorem dX10_layOrders_18 : decode cX10_layOrders 18 = .ok (.if_icmp .lt 19, 3) := by decide +kernel
theorem dX10_layOrders_21 : decode cX10_layOrders 21 = .ok (.iload_n 3, 1) := by decide +kernel
theorem dX10_layOrders_22 : decode cX10_layOrders 22 = .ok (.aload_n 0, 1) := by decide +kernel
theorem dX10_layOrders_23 : decode cX10_layOrders 23 = .ok (.getfield 292, 3) := by decide +kernel
theorem dX10_layOrders_26 : decode cX10_layOrders 26 = .ok (.if_icmp .ne 45, 3) := by decide +kernel
theorem dX10_layOrders_29 : decode cX10_layOrders 29 = .ok (.aload_n 0, 1) := by decide +kernel
theorem dX10_layOrders_30 : decode cX10_layOrders 30 = .ok (.iload_n 3, 1) := by decide +kernel
theorem dX10_layOrders_31 : decode cX10_layOrders 31 = .ok (.invokevirtual 295, 3) := by decide +kernel
theorem dX10_layOrders_34 : decode cX10_layOrders 34 = .ok (.ifCond .eq 37, 3) := by decide +kernel
theorem dX10_layOrders_37 : decode cX10_layOrders 37 = .ok (.aload_n 0, 1) := by decide +kernel
theorem dX10_layOrders_38 : decode cX10_layOrders 38 = .ok (.iload_n 3, 1) := by decide +kernel
theorem dX10_layOrders_39 : decode cX10_layOrders 39 = .ok (.putfield 292, 3) := by decide +kernel
theorem dX10_layOrders_42 : decode cX10_layOrders 42 = .ok (.iconst 0, 1) := by decide +kernel
theorem dX10_layOrders_43 : decode cX10_layOrders 43 = .ok (.istore 4, 2) := by decide +kernel
theorem dX10_layOrders_45 : decode cX10_layOrders 45 = .ok (.iload 4, 2) := by decide +kernel
theorem dX10_layOrders_47 : decode cX10_layOrders 47 = .ok (.iload_n 3, 1) := by decide +kernel
theorem dX10_layOrders_48 : decode cX10_layOrders 48 = .ok (.if_icmp .ge 23, 3) := by decide +kernel
theorem dX10_layOrders_51 : decode cX10_layOrders 51 = .ok (.aload_n 0, 1) := by decide +kernel
theorem dX10_layOrders_52 : decode cX10_layOrders 52 = .ok (.getfield 91, 3) := by decide +kernel
theorem dX10_layOrders_55 : decode cX10_layOrders 55 = .ok (.iload 4, 2) := by decide +kernel
theorem dX10_layOrders_57 : decode cX10_layOrders 57 = .ok (.aload_n 0, 1) := by decide +kernel
theorem dX10_layOrders_58 : decode cX10_layOrders 58 = .ok (.getfield 88, 3) := by decide +kernel
theorem dX10_layOrders_61 : decode cX10_layOrders 61 = .ok (.iload 4, 2) := by decide +kernel
theorem dX10_layOrders_63 : decode cX10_layOrders 63 = .ok (.iaload, 1) := by decide +kernel
theorem dX10_layOrders_64 : decode cX10_layOrders 64 = .ok (.iastore, 1) := by decide +kernel
theorem dX10_layOrders_65 : decode cX10_layOrders 65 = .ok (.iinc 4 1, 3) := by decide +kernel
theorem dX10_layOrders_68 : decode cX10_layOrders 68 = .ok (.goto (-23), 3) := by decide +kernel
theorem dX10_layOrders_71 : decode cX10_layOrders 71 = .ok (.return_, 1) := by decide +kernel
theorem dX10_layOrders_72 : decode cX10_layOrders 72 = .ok (.iconst 0, 1) := by decide +kernel
theorem dX10_layOrders_73 : decode cX10_layOrders 73 = .ok (.istore_n 3, 1) := by decide +kernel
theorem dX10_layOrders_74 : decode cX10_layOrders 74 = .ok (.iload_n 3, 1) := by decide +kernel
theorem dX10_layOrders_75 : decode cX10_layOrders 75 = .ok (.aload_n 0, 1) := by decide +kernel
theorem dX10_layOrders_76 : decode cX10_layOrders 76 = .ok (.getfield 172, 3) := by decide +kernel
theorem dX10_layOrders_79 : decode cX10_layOrders 79 = .ok (.if_icmp .ge 36, 3) := by decide +kernel
theorem dX10_layOrders_82 : decode cX10_layOrders 82 = .ok (.iload_n 2, 1) := by decide +kernel
theorem dX10_layOrders_83 : decode cX10_layOrders 83 = .ok (.iload_n 3, 1) := by decide +kernel
theorem dX10_layOrders_84 : decode cX10_layOrders 84 = .ok (.invokestatic 153, 3) := by decide +kernel
theorem dX10_layOrders_87 : decode cX10_layOrders 87 = .ok (.ifCond .ne 22, 3) := by decide +kernel
theorem dX10_layOrders_90 : decode cX10_layOrders 90 = .ok (.aload_n 0, 1) := by decide +kernel
theorem dX10_layOrders_91 : decode cX10_layOrders 91 = .ok (.getfield 94, 3) := by decide +kernel
theorem dX10_layOrders_94 : decode cX10_layOrders 94 = .ok (.iload_n 1, 1) := by decide +kernel
theorem dX10_layOrders_95 : decode cX10_layOrders 95 = .ok (.iload_n 3, 1) := by decide +kernel
theorem dX10_layOrders_96 : decode cX10_layOrders 96 = .ok (.iastore, 1) := by decide +kernel
theorem dX10_layOrders_97 : decode cX10_layOrders 97 = .ok (.aload_n 0, 1) := by decide +kernel
theorem dX10_layOrders_98 : decode cX10_layOrders 98 = .ok (.iload_n 1, 1) := by decide +kernel
theorem dX10_layOrders_99 : decode cX10_layOrders 99 = .ok (.iconst 1, 1) := by decide +kernel
theorem dX10_layOrders_100 : decode cX10_layOrders 100 = .ok (.iadd, 1) := by decide +kernel
theorem dX10_layOrders_101 : decode cX10_layOrders 101 = .ok (.iload_n 2, 1) := by decide +kernel
theorem dX10_layOrders_102 : decode cX10_layOrders 102 = .ok (.iconst 1, 1) := by decide +kernel
theorem dX10_layOrders_103 : decode cX10_layOrders 103 = .ok (.iload_n 3, 1) := by decide +kernel
theorem dX10_layOrders_104 : decode cX10_layOrders 104 = .ok (.ishl, 1) := by decide +kernel
theorem dX10_layOrders_105 : decode cX10_layOrders 105 = .ok (.ior, 1) := by decide +kernel
theorem dX10_layOrders_106 : decode cX10_layOrders 106 = .ok (.invokevirtual 298, 3) := by decide +kernel
theorem dX10_layOrders_109 : decode cX10_layOrders 109 = .ok (.iinc 3 1, 3) := by decide +kernel
theorem dX10_layOrders_112 : decode cX10_layOrders 112 = .ok (.goto (-38), 3) := by decide +kernel
theorem dX10_layOrders_115 : decode cX10_layOrders 115 = .ok (.return_, 1) := by decide +kernel
theorem dX10_loosen_0 : decode cX10_loosen 0 = .ok (.iload_n 1, 1) := by decide +kernel
theorem dX10_loosen_1 : decode cX10_loosen 1 = .ok (.invokestatic 111, 3) := by decide +kernel
theorem dX10_loosen_4 : decode cX10_loosen 4 = .ok (.ifCond .ne 5, 3) := by decide +kernel
theorem dX10_loosen_7 : decode cX10_loosen 7 = .ok (.iconst (-1), 1) := by decide +kernel
theorem dX10_loosen_8 : decode cX10_loosen 8 = .ok (.ireturn, 1) := by decide +kernel
theorem dX10_loosen_9 : decode cX10_loosen 9 = .ok (.aload_n 0, 1) := by decide +kernel
theorem dX10_loosen_10 : decode cX10_loosen 10 = .ok (.bipush 100, 2) := by decide +kernel
theorem dX10_loosen_12 : decode cX10_loosen 12 = .ok (.putfield 292, 3) := by decide +kernel
theorem dX10_loosen_15 : decode cX10_loosen 15 = .ok (.aload_n 0, 1) := by decide +kernel
theorem dX10_loosen_16 : decode cX10_loosen 16 = .ok (.iconst 0, 1) := by decide +kernel
theorem dX10_loosen_17 : decode cX10_loosen 17 = .ok (.iconst 0, 1) := by decide +kernel
theorem dX10_loosen_18 : decode cX10_loosen 18 = .ok (.invokevirtual 298, 3) := by decide +kernel
theorem dX10_loosen_21 : decode cX10_loosen 21 = .ok (.aload_n 0, 1) := by decide +kernel
theorem dX10_loosen_22 : decode cX10_loosen 22 = .ok (.iload_n 1, 1) := by decide +kernel
theorem dX10_loosen_23 : decode cX10_loosen 23 = .ok (.aload_n 0, 1) := by decide +kernel
theorem dX10_loosen_24 : decode cX10_loosen 24 = .ok (.getfield 91, 3) := by decide +kernel
theorem dX10_loosen_27 : decode cX10_loosen 27 = .ok (.aload_n 0, 1) := by decide +kernel
theorem dX10_loosen_28 : decode cX10_loosen 28 = .ok (.getfield 292, 3) := by decide +kernel
theorem dX10_loosen_31 : decode cX10_loosen 31 = .ok (.invokevirtual 266, 3) := by decide +kernel
theorem dX10_loosen_34 : decode cX10_loosen 34 = .ok (.aload_n 0, 1) := by decide +kernel
theorem dX10_loosen_35 : decode cX10_loosen 35 = .ok (.getfield 292, 3) := by decide +kernel
theorem dX10_loosen_38 : decode cX10_loosen 38 = .ok (.ireturn, 1) := by decide +kernel
theorem dX10_eels_0 : decode cX10_eels 0 = .ok (.aload_n 0, 1) := by decide +kernel
theorem dX10_eels_1 : decode cX10_eels 1 = .ok (.iload_n 1, 1) := by decide +kernel
theorem dX10_eels_2 : decode cX10_eels 2 = .ok (.invokevirtual 220, 3) := by decide +kernel
theorem dX10_eels_5 : decode cX10_eels 5 = .ok (.ifCond .eq 16, 3) := by decide +kernel
theorem dX10_eels_8 : decode cX10_eels 8 = .ok (.aload_n 0, 1) := by decide +kernel
theorem dX10_eels_9 : decode cX10_eels 9 = .ok (.iload_n 2, 1) := by decide +kernel
theorem dX10_eels_10 : decode cX10_eels 10 = .ok (.invokevirtual 220, 3) := by decide +kernel
theorem dX10_eels_13 : decode cX10_eels 13 = .ok (.ifCond .eq 8, 3) := by decide +kernel
theorem dX10_eels_16 : decode cX10_eels 16 = .ok (.iload_n 1, 1) := by decide +kernel
theorem dX10_eels_17 : decode cX10_eels 17 = .ok (.iload_n 2, 1) := by decide +kernel
theorem dX10_eels_18 : decode cX10_eels 18 = .ok (.if_icmp .ne 5, 3) := by decide +kernel
theorem dX10_eels_21 : decode cX10_eels 21 = .ok (.iconst (-1), 1) := by decide +kernel
theorem dX10_eels_22 : decode cX10_eels 22 = .ok (.ireturn, 1) := by decide +kernel
theorem dX10_eels_23 : decode cX10_eels 23 = .ok (.iconst 1, 1) := by decide +kernel
theorem dX10_eels_24 : decode cX10_eels 24 = .ok (.istore_n 3, 1) := by decide +kernel
theorem dX10_eels_25 : decode cX10_eels 25 = .ok (.iload_n 1, 1) := by decide +kernel
theorem dX10_eels_26 : decode cX10_eels 26 = .ok (.iload_n 2, 1) := by decide +kernel
theorem dX10_eels_27 : decode cX10_eels 27 = .ok (.invokestatic 208, 3) := by decide +kernel
theorem dX10_eels_30 : decode cX10_eels 30 = .ok (.istore 4, 2) := by decide +kernel
theorem dX10_eels_32 : decode cX10_eels 32 = .ok (.iload 4, 2) := by decide +kernel
theorem dX10_eels_34 : decode cX10_eels 34 = .ok (.iload_n 1, 1) := by decide +kernel
theorem dX10_eels_35 : decode cX10_eels 35 = .ok (.iload_n 2, 1) := by decide +kernel
theorem dX10_eels_36 : decode cX10_eels 36 = .ok (.invokestatic 205, 3) := by decide +kernel
theorem dX10_eels_39 : decode cX10_eels 39 = .ok (.if_icmp .gt 29, 3) := by decide +kernel
theorem dX10_eels_42 : decode cX10_eels 42 = .ok (.iload_n 3, 1) := by decide +kernel
theorem dX10_eels_43 : decode cX10_eels 43 = .ok (.ifCond .eq 17, 3) := by decide +kernel
theorem dX10_eels_46 : decode cX10_eels 46 = .ok (.aload_n 0, 1) := by decide +kernel
theorem dX10_eels_47 : decode cX10_eels 47 = .ok (.iconst 0, 1) := by decide +kernel
theorem dX10_eels_48 : decode cX10_eels 48 = .ok (.iload 4, 2) := by decide +kernel
theorem dX10_eels_50 : decode cX10_eels 50 = .ok (.invokevirtual 181, 3) := by decide +kernel
theorem dX10_eels_53 : decode cX10_eels 53 = .ok (.ifCond .eq 7, 3) := by decide +kernel
theorem dX10_eels_56 : decode cX10_eels 56 = .ok (.iconst 1, 1) := by decide +kernel
theorem dX10_eels_57 : decode cX10_eels 57 = .ok (.goto 4, 3) := by decide +kernel
theorem dX10_eels_60 : decode cX10_eels 60 = .ok (.iconst 0, 1) := by decide +kernel
theorem dX10_eels_61 : decode cX10_eels 61 = .ok (.istore_n 3, 1) := by decide +kernel
theorem dX10_eels_62 : decode cX10_eels 62 = .ok (.iinc 4 1, 3) := by decide +kernel
theorem dX10_eels_65 : decode cX10_eels 65 = .ok (.goto (-33), 3) := by decide +kernel
theorem dX10_eels_68 : decode cX10_eels 68 = .ok (.iload_n 3, 1) := by decide +kernel
theorem dX10_eels_69 : decode cX10_eels 69 = .ok (.ifCond .eq 19, 3) := by decide +kernel
theorem dX10_eels_72 : decode cX10_eels 72 = .ok (.iload_n 1, 1) := by decide +kernel
theorem dX10_eels_73 : decode cX10_eels 73 = .ok (.iload_n 2, 1) := by decide +kernel
theorem dX10_eels_74 : decode cX10_eels 74 = .ok (.invokestatic 205, 3) := by decide +kernel
theorem dX10_eels_77 : decode cX10_eels 77 = .ok (.iload_n 1, 1) := by decide +kernel
theorem dX10_eels_78 : decode cX10_eels 78 = .ok (.iload_n 2, 1) := by decide +kernel
theorem dX10_eels_79 : decode cX10_eels 79 = .ok (.invokestatic 208, 3) := by decide +kernel
theorem dX10_eels_82 : decode cX10_eels 82 = .ok (.isub, 1) := by decide +kernel
theorem dX10_eels_83 : decode cX10_eels 83 = .ok (.iconst 1, 1) := by decide +kernel
theorem dX10_eels_84 : decode cX10_eels 84 = .ok (.isub, 1) := by decide +kernel
theorem dX10_eels_85 : decode cX10_eels 85 = .ok (.goto 5, 3) := by decide +kernel
theorem dX10_eels_88 : decode cX10_eels 88 = .ok (.bipush (-9), 2) := by decide +kernel
theorem dX10_eels_90 : decode cX10_eels 90 = .ok (.ireturn, 1) := by decide +kernel
theorem dX10_odds_0 : decode cX10_odds 0 = .ok (.aload_n 0, 1) := by decide +kernel
theorem dX10_odds_1 : decode cX10_odds 1 = .ok (.iload_n 1, 1) := by decide +kernel
theorem dX10_odds_2 : decode cX10_odds 2 = .ok (.invokevirtual 220, 3) := by decide +kernel
theorem dX10_odds_5 : decode cX10_odds 5 = .ok (.ifCond .ne 5, 3) := by decide +kernel
theorem dX10_odds_8 : decode cX10_odds 8 = .ok (.iconst (-1), 1) := by decide +kernel
theorem dX10_odds_9 : decode cX10_odds 9 = .ok (.ireturn, 1) := by decide +kernel
theorem dX10_odds_10 : decode cX10_odds 10 = .ok (.iconst 0, 1) := by decide +kernel
theorem dX10_odds_11 : decode cX10_odds 11 = .ok (.istore_n 2, 1) := by decide +kernel
theorem dX10_odds_12 : decode cX10_odds 12 = .ok (.iconst 0, 1) := by decide +kernel
theorem dX10_odds_13 : decode cX10_odds 13 = .ok (.istore_n 3, 1) := by decide +kernel
theorem dX10_odds_14 : decode cX10_odds 14 = .ok (.iload_n 3, 1) := by decide +kernel
theorem dX10_odds_15 : decode cX10_odds 15 = .ok (.aload_n 0, 1) := by decide +kernel
theorem dX10_odds_16 : decode cX10_odds 16 = .ok (.getfield 172, 3) := by decide +kernel
theorem dX10_odds_19 : decode cX10_odds 19 = .ok (.if_icmp .ge 28, 3) := by decide +kernel
theorem dX10_odds_22 : decode cX10_odds 22 = .ok (.iload_n 2, 1) := by decide +kernel
theorem dX10_odds_23 : decode cX10_odds 23 = .ok (.aload_n 0, 1) := by decide +kernel
theorem dX10_odds_24 : decode cX10_odds 24 = .ok (.iconst 0, 1) := by decide +kernel
theorem dX10_odds_25 : decode cX10_odds 25 = .ok (.iload_n 3, 1) := by decide +kernel
theorem dX10_odds_26 : decode cX10_odds 26 = .ok (.invokevirtual 217, 3) := by decide +kernel
theorem dX10_odds_29 : decode cX10_odds 29 = .ok (.ifCond .eq 9, 3) := by decide +kernel
theorem dX10_odds_32 : decode cX10_odds 32 = .ok (.iconst 1, 1) := by decide +kernel
theorem dX10_odds_33 : decode cX10_odds 33 = .ok (.iload_n 3, 1) := by decide +kernel
theorem dX10_odds_34 : decode cX10_odds 34 = .ok (.ishl, 1) := by decide +kernel
theorem dX10_odds_35 : decode cX10_odds 35 = .ok (.goto 4, 3) := by decide +kernel
theorem dX10_odds_38 : decode cX10_odds 38 = .ok (.iconst 0, 1) := by decide +kernel
theorem dX10_odds_39 : decode cX10_odds 39 = .ok (.ior, 1) := by decide +kernel
theorem dX10_odds_40 : decode cX10_odds 40 = .ok (.istore_n 2, 1) := by decide +kernel
theorem dX10_odds_41 : decode cX10_odds 41 = .ok (.iinc 3 1, 3) := by decide +kernel
theorem dX10_odds_44 : decode cX10_odds 44 = .ok (.goto (-30), 3) := by decide +kernel
theorem dX10_odds_47 : decode cX10_odds 47 = .ok (.iconst 0, 1) := by decide +kernel
theorem dX10_odds_48 : decode cX10_odds 48 = .ok (.istore_n 3, 1) := by decide +kernel
theorem dX10_odds_49 : decode cX10_odds 49 = .ok (.iconst 0, 1) := by decide +kernel
theorem dX10_odds_50 : decode cX10_odds 50 = .ok (.istore 4, 2) := by decide +kernel
theorem dX10_odds_52 : decode cX10_odds 52 = .ok (.iconst 0, 1) := by decide +kernel
theorem dX10_odds_53 : decode cX10_odds 53 = .ok (.istore 5, 2) := by decide +kernel
theorem dX10_odds_55 : decode cX10_odds 55 = .ok (.iload 5, 2) := by decide +kernel
theorem dX10_odds_57 : decode cX10_odds 57 = .ok (.aload_n 0, 1) := by decide +kernel
theorem dX10_odds_58 : decode cX10_odds 58 = .ok (.invokevirtual 239, 3) := by decide +kernel
theorem dX10_odds_61 : decode cX10_odds 61 = .ok (.if_icmp .ge 62, 3) := by decide +kernel
theorem dX10_odds_64 : decode cX10_odds 64 = .ok (.iload 5, 2) := by decide +kernel
theorem dX10_odds_66 : decode cX10_odds 66 = .ok (.iload_n 2, 1) := by decide +kernel
theorem dX10_odds_67 : decode cX10_odds 67 = .ok (.iconst (-1), 1) := by decide +kernel
theorem dX10_odds_68 : decode cX10_odds 68 = .ok (.ixor, 1) := by decide +kernel
theorem dX10_odds_69 : decode cX10_odds 69 = .ok (.iand, 1) := by decide +kernel
theorem dX10_odds_70 : decode cX10_odds 70 = .ok (.ifCond .ne 47, 3) := by decide +kernel
theorem dX10_odds_73 : decode cX10_odds 73 = .ok (.aload_n 0, 1) := by decide +kernel
theorem dX10_odds_74 : decode cX10_odds 74 = .ok (.iconst 0, 1) := by decide +kernel
theorem dX10_odds_75 : decode cX10_odds 75 = .ok (.iconst 1, 1) := by decide +kernel
theorem dX10_odds_76 : decode cX10_odds 76 = .ok (.invokevirtual 243, 3) := by decide +kernel
theorem dX10_odds_79 : decode cX10_odds 79 = .ok (.aload_n 0, 1) := by decide +kernel
theorem dX10_odds_80 : decode cX10_odds 80 = .ok (.iconst 1, 1) := by decide +kernel
theorem dX10_odds_81 : decode cX10_odds 81 = .ok (.iload 5, 2) := by decide +kernel
theorem dX10_odds_83 : decode cX10_odds 83 = .ok (.invokevirtual 246, 3) := by decide +kernel
theorem dX10_odds_86 : decode cX10_odds 86 = .ok (.pop, 1) := by decide +kernel
theorem dX10_odds_87 : decode cX10_odds 87 = .ok (.aload_n 0, 1) := by decide +kernel
theorem dX10_odds_88 : decode cX10_odds 88 = .ok (.iconst 1, 1) := by decide +kernel
theorem dX10_odds_89 : decode cX10_odds 89 = .ok (.invokevirtual 233, 3) := by decide +kernel
theorem dX10_odds_92 : decode cX10_odds 92 = .ok (.pop, 1) := by decide +kernel
theorem dX10_odds_93 : decode cX10_odds 93 = .ok (.iinc 3 1, 3) := by decide +kernel
theorem dX10_odds_96 : decode cX10_odds 96 = .ok (.iload 4, 2) := by decide +kernel
theorem dX10_odds_98 : decode cX10_odds 98 = .ok (.aload_n 0, 1) := by decide +kernel
theorem dX10_odds_99 : decode cX10_odds 99 = .ok (.getfield 199, 3) := by decide +kernel
theorem dX10_odds_102 : decode cX10_odds 102 = .ok (.iload_n 1, 1) := by decide +kernel
theorem dX10_odds_103 : decode cX10_odds 103 = .ok (.invokestatic 153, 3) := by decide +kernel
theorem dX10_odds_106 : decode cX10_odds 106 = .ok (.ifCond .eq 7, 3) := by decide +kernel
theorem dX10_odds_109 : decode cX10_odds 109 = .ok (.iconst 1, 1) := by decide +kernel
theorem dX10_odds_110 : decode cX10_odds 110 = .ok (.goto 4, 3) := by decide +kernel
theorem dX10_odds_113 : decode cX10_odds 113 = .ok (.iconst 0, 1) := by decide +kernel
theorem dX10_odds_114 : decode cX10_odds 114 = .ok (.iadd, 1) := by decide +kernel
theorem dX10_odds_115 : decode cX10_odds 115 = .ok (.istore 4, 2) := by decide +kernel
theorem dX10_odds_117 : decode cX10_odds 117 = .ok (.iinc 5 1, 3) := by decide +kernel
theorem dX10_odds_120 : decode cX10_odds 120 = .ok (.goto (-65), 3) := by decide +kernel
theorem dX10_odds_123 : decode cX10_odds 123 = .ok (.aload_n 0, 1) := by decide +kernel
theorem dX10_odds_124 : decode cX10_odds 124 = .ok (.iload 4, 2) := by decide +kernel
theorem dX10_odds_126 : decode cX10_odds 126 = .ok (.iload_n 3, 1) := by decide +kernel
theorem dX10_odds_127 : decode cX10_odds 127 = .ok (.invokevirtual 301, 3) := by decide +kernel
theorem dX10_odds_130 : decode cX10_odds 130 = .ok (.ireturn, 1) := by decide +kernel
theorem dX10_lots_0 : decode cX10_lots 0 = .ok (.iload_n 1, 1) := by decide +kernel
theorem dX10_lots_1 : decode cX10_lots 1 = .ok (.iconst 1, 1) := by decide +kernel
theorem dX10_lots_2 : decode cX10_lots 2 = .ok (.bipush 20, 2) := by decide +kernel
theorem dX10_lots_4 : decode cX10_lots 4 = .ok (.invokestatic 101, 3) := by decide +kernel
theorem dX10_lots_7 : decode cX10_lots 7 = .ok (.ifCond .eq 14, 3) := by decide +kernel
theorem dX10_lots_10 : decode cX10_lots 10 = .ok (.iload_n 2, 1) := by decide +kernel
theorem dX10_lots_11 : decode cX10_lots 11 = .ok (.iconst 1, 1) := by decide +kernel
theorem dX10_lots_12 : decode cX10_lots 12 = .ok (.ldc_w 304, 3) := by decide +kernel
theorem dX10_lots_15 : decode cX10_lots 15 = .ok (.invokestatic 101, 3) := by decide +kernel
theorem dX10_lots_18 : decode cX10_lots 18 = .ok (.ifCond .ne 5, 3) := by decide +kernel
theorem dX10_lots_21 : decode cX10_lots 21 = .ok (.iconst (-1), 1) := by decide +kernel
theorem dX10_lots_22 : decode cX10_lots 22 = .ok (.ireturn, 1) := by decide +kernel
theorem dX10_lots_23 : decode cX10_lots 23 = .ok (.aload_n 0, 1) := by decide +kernel
theorem dX10_lots_24 : decode cX10_lots 24 = .ok (.getfield 172, 3) := by decide +kernel
theorem dX10_lots_27 : decode cX10_lots 27 = .ok (.ifCond .ne 6, 3) := by decide +kernel
theorem dX10_lots_30 : decode cX10_lots 30 = .ok (.bipush (-4), 2) := by decide +kernel
theorem dX10_lots_32 : decode cX10_lots 32 = .ok (.ireturn, 1) := by decide +kernel
theorem dX10_lots_33 : decode cX10_lots 33 = .ok (.iload_n 2, 1) := by decide +kernel
theorem dX10_lots_34 : decode cX10_lots 34 = .ok (.i2l, 1) := by decide +kernel
theorem dX10_lots_35 : decode cX10_lots 35 = .ok (.lstore_n 3, 1) := by decide +kernel
theorem dX10_lots_36 : decode cX10_lots 36 = .ok (.iconst 0, 1) := by decide +kernel
theorem dX10_lots_37 : decode cX10_lots 37 = .ok (.istore 5, 2) := by decide +kernel
theorem dX10_lots_39 : decode cX10_lots 39 = .ok (.iconst 0, 1) := by decide +kernel
theorem dX10_lots_40 : decode cX10_lots 40 = .ok (.istore 6, 2) := by decide +kernel
theorem dX10_lots_42 : decode cX10_lots 42 = .ok (.iload 6, 2) := by decide +kernel
theorem dX10_lots_44 : decode cX10_lots 44 = .ok (.iload_n 1, 1) := by decide +kernel
theorem dX10_lots_45 : decode cX10_lots 45 = .ok (.if_icmp .ge 94, 3) := by decide +kernel
theorem dX10_lots_48 : decode cX10_lots 48 = .ok (.aload_n 0, 1) := by decide +kernel
theorem dX10_lots_49 : decode cX10_lots 49 = .ok (.getfield 178, 3) := by decide +kernel
theorem dX10_lots_52 : decode cX10_lots 52 = .ok (.bipush 6, 2) := by decide +kernel
theorem dX10_lots_54 : decode cX10_lots 54 = .ok (.iadd, 1) := by decide +kernel
theorem dX10_lots_55 : decode cX10_lots 55 = .ok (.bipush 60, 2) := by decide +kernel
theorem dX10_lots_57 : decode cX10_lots 57 = .ok (.if_icmp .gt 82, 3) := by decide +kernel
theorem dX10_lots_60 : decode cX10_lots 60 = .ok (.ldc2_w 305, 3) := by decide +kernel
theorem dX10_lots_63 : decode cX10_lots 63 = .ok (.lload_n 3, 1) := by decide +kernel
theorem dX10_lots_64 : decode cX10_lots 64 = .ok (.lmul, 1) := by decide +kernel
theorem dX10_lots_65 : decode cX10_lots 65 = .ok (.ldc2_w 307, 3) := by decide +kernel
theorem dX10_lots_68 : decode cX10_lots 68 = .ok (.lrem, 1) := by decide +kernel
theorem dX10_lots_69 : decode cX10_lots 69 = .ok (.lstore_n 3, 1) := by decide +kernel
theorem dX10_lots_70 : decode cX10_lots 70 = .ok (.lload_n 3, 1) := by decide +kernel
theorem dX10_lots_71 : decode cX10_lots 71 = .ok (.ldc2_w 309, 3) := by decide +kernel
theorem dX10_lots_74 : decode cX10_lots 74 = .ok (.ldiv, 1) := by decide +kernel
theorem dX10_lots_75 : decode cX10_lots 75 = .ok (.aload_n 0, 1) := by decide +kernel
theorem dX10_lots_76 : decode cX10_lots 76 = .ok (.invokevirtual 239, 3) := by decide +kernel
theorem dX10_lots_79 : decode cX10_lots 79 = .ok (.i2l, 1) := by decide +kernel
theorem dX10_lots_80 : decode cX10_lots 80 = .ok (.lrem, 1) := by decide +kernel
theorem dX10_lots_81 : decode cX10_lots 81 = .ok (.l2i, 1) := by decide +kernel
theorem dX10_lots_82 : decode cX10_lots 82 = .ok (.istore 7, 2) := by decide +kernel
theorem dX10_lots_84 : decode cX10_lots 84 = .ok (.iconst 0, 1) := by decide +kernel
theorem dX10_lots_85 : decode cX10_lots 85 = .ok (.istore 8, 2) := by decide +kernel
theorem dX10_lots_87 : decode cX10_lots 87 = .ok (.iload 8, 2) := by decide +kernel
theorem dX10_lots_89 : decode cX10_lots 89 = .ok (.aload_n 0, 1) := by decide +kernel
theorem dX10_lots_90 : decode cX10_lots 90 = .ok (.getfield 172, 3) := by decide +kernel
theorem dX10_lots_93 : decode cX10_lots 93 = .ok (.if_icmp .ge 26, 3) := by decide +kernel
theorem dX10_lots_96 : decode cX10_lots 96 = .ok (.iload 7, 2) := by decide +kernel
theorem dX10_lots_98 : decode cX10_lots 98 = .ok (.iload 8, 2) := by decide +kernel
theorem dX10_lots_100 : decode cX10_lots 100 = .ok (.invokestatic 153, 3) := by decide +kernel
theorem dX10_lots_103 : decode cX10_lots 103 = .ok (.ifCond .eq 10, 3) := by decide +kernel
theorem dX10_lots_106 : decode cX10_lots 106 = .ok (.aload_n 0, 1) := by decide +kernel
theorem dX10_lots_107 : decode cX10_lots 107 = .ok (.iload 8, 2) := by decide +kernel
theorem dX10_lots_109 : decode cX10_lots 109 = .ok (.invokevirtual 311, 3) := by decide +kernel
theorem dX10_lots_112 : decode cX10_lots 112 = .ok (.pop, 1) := by decide +kernel
theorem dX10_lots_113 : decode cX10_lots 113 = .ok (.iinc 8 1, 3) := by decide +kernel
theorem dX10_lots_116 : decode cX10_lots 116 = .ok (.goto (-29), 3) := by decide +kernel
theorem dX10_lots_119 : decode cX10_lots 119 = .ok (.aload_n 0, 1) := by decide +kernel
theorem dX10_lots_120 : decode cX10_lots 120 = .ok (.invokevirtual 226, 3) := by decide +kernel
theorem dX10_lots_123 : decode cX10_lots 123 = .ok (.iload 5, 2) := by decide +kernel
theorem dX10_lots_125 : decode cX10_lots 125 = .ok (.aload_n 0, 1) := by decide +kernel
theorem dX10_lots_126 : decode cX10_lots 126 = .ok (.iconst 0, 1) := by decide +kernel
theorem dX10_lots_127 : decode cX10_lots 127 = .ok (.invokevirtual 233, 3) := by decide +kernel
theorem dX10_lots_130 : decode cX10_lots 130 = .ok (.iadd, 1) := by decide +kernel
theorem dX10_lots_131 : decode cX10_lots 131 = .ok (.istore 5, 2) := by decide +kernel
theorem dX10_lots_133 : decode cX10_lots 133 = .ok (.iinc 6 1, 3) := by decide +kernel
theorem dX10_lots_136 : decode cX10_lots 136 = .ok (.goto (-94), 3) := by decide +kernel
theorem dX10_lots_139 : decode cX10_lots 139 = .ok (.iload 5, 2) := by decide +kernel
theorem dX10_lots_141 : decode cX10_lots 141 = .ok (.ireturn, 1) := by decide +kernel
theorem dX10_counted_0 : decode cX10_counted 0 = .ok (.iconst 0, 1) := by decide +kernel
theorem dX10_counted_1 : decode cX10_counted 1 = .ok (.istore_n 2, 1) := by decide +kernel
theorem dX10_counted_2 : decode cX10_counted 2 = .ok (.iconst 0, 1) := by decide +kernel
theorem dX10_counted_3 : decode cX10_counted 3 = .ok (.istore_n 3, 1) := by decide +kernel
theorem dX10_counted_4 : decode cX10_counted 4 = .ok (.iload_n 3, 1) := by decide +kernel
theorem dX10_counted_5 : decode cX10_counted 5 = .ok (.aload_n 0, 1) := by decide +kernel
theorem dX10_counted_6 : decode cX10_counted 6 = .ok (.getfield 172, 3) := by decide +kernel
theorem dX10_counted_9 : decode cX10_counted 9 = .ok (.if_icmp .ge 82, 3) := by decide +kernel
theorem dX10_counted_12 : decode cX10_counted 12 = .ok (.iload_n 2, 1) := by decide +kernel
theorem dX10_counted_13 : decode cX10_counted 13 = .ok (.iload_n 1, 1) := by decide +kernel
theorem dX10_counted_14 : decode cX10_counted 14 = .ok (.iconst 3, 1) := by decide +kernel
theorem dX10_counted_15 : decode cX10_counted 15 = .ok (.if_icmp .ne 15, 3) := by decide +kernel
theorem dX10_counted_18 : decode cX10_counted 18 = .ok (.aload_n 0, 1) := by decide +kernel
theorem dX10_counted_19 : decode cX10_counted 19 = .ok (.getfield 57, 3) := by decide +kernel
theorem dX10_counted_22 : decode cX10_counted 22 = .ok (.bipush 25, 2) := by decide +kernel
theorem dX10_counted_24 : decode cX10_counted 24 = .ok (.iload_n 3, 1) := by decide +kernel
theorem dX10_counted_25 : decode cX10_counted 25 = .ok (.iadd, 1) := by decide +kernel
theorem dX10_counted_26 : decode cX10_counted 26 = .ok (.iaload, 1) := by decide +kernel
theorem dX10_counted_27 : decode cX10_counted 27 = .ok (.goto 56, 3) := by decide +kernel
theorem dX10_counted_30 : decode cX10_counted 30 = .ok (.iload_n 1, 1) := by decide +kernel
theorem dX10_counted_31 : decode cX10_counted 31 = .ok (.iconst 4, 1) := by decide +kernel
theorem dX10_counted_32 : decode cX10_counted 32 = .ok (.if_icmp .ne 15, 3) := by decide +kernel
theorem dX10_counted_35 : decode cX10_counted 35 = .ok (.aload_n 0, 1) := by decide +kernel
theorem dX10_counted_36 : decode cX10_counted 36 = .ok (.getfield 57, 3) := by decide +kernel
theorem dX10_counted_39 : decode cX10_counted 39 = .ok (.bipush 20, 2) := by decide +kernel
theorem dX10_counted_41 : decode cX10_counted 41 = .ok (.iload_n 3, 1) := by decide +kernel
theorem dX10_counted_42 : decode cX10_counted 42 = .ok (.iadd, 1) := by decide +kernel
theorem dX10_counted_43 : decode cX10_counted 43 = .ok (.iaload, 1) := by decide +kernel
theorem dX10_counted_44 : decode cX10_counted 44 = .ok (.goto 39, 3) := by decide +kernel
theorem dX10_counted_47 : decode cX10_counted 47 = .ok (.iload_n 1, 1) := by decide +kernel
theorem dX10_counted_48 : decode cX10_counted 48 = .ok (.iconst 5, 1) := by decide +kernel
theorem dX10_counted_49 : decode cX10_counted 49 = .ok (.if_icmp .ne 15, 3) := by decide +kernel
theorem dX10_counted_52 : decode cX10_counted 52 = .ok (.aload_n 0, 1) := by decide +kernel
theorem dX10_counted_53 : decode cX10_counted 53 = .ok (.iload_n 3, 1) := by decide +kernel
theorem dX10_counted_54 : decode cX10_counted 54 = .ok (.invokevirtual 211, 3) := by decide +kernel
theorem dX10_counted_57 : decode cX10_counted 57 = .ok (.ifCond .eq 7, 3) := by decide +kernel
theorem dX10_counted_60 : decode cX10_counted 60 = .ok (.iconst 1, 1) := by decide +kernel
theorem dX10_counted_61 : decode cX10_counted 61 = .ok (.goto 22, 3) := by decide +kernel
theorem dX10_counted_64 : decode cX10_counted 64 = .ok (.iload_n 1, 1) := by decide +kernel
theorem dX10_counted_65 : decode cX10_counted 65 = .ok (.bipush 9, 2) := by decide +kernel
theorem dX10_counted_67 : decode cX10_counted 67 = .ok (.if_icmp .ne 15, 3) := by decide +kernel
theorem dX10_counted_70 : decode cX10_counted 70 = .ok (.aload_n 0, 1) := by decide +kernel
theorem dX10_counted_71 : decode cX10_counted 71 = .ok (.getfield 57, 3) := by decide +kernel
theorem dX10_counted_74 : decode cX10_counted 74 = .ok (.bipush 15, 2) := by decide +kernel
theorem dX10_counted_76 : decode cX10_counted 76 = .ok (.iload_n 3, 1) := by decide +kernel
theorem dX10_counted_77 : decode cX10_counted 77 = .ok (.iadd, 1) := by decide +kernel
theorem dX10_counted_78 : decode cX10_counted 78 = .ok (.iaload, 1) := by decide +kernel
theorem dX10_counted_79 : decode cX10_counted 79 = .ok (.goto 4, 3) := by decide +kernel
theorem dX10_counted_82 : decode cX10_counted 82 = .ok (.iconst 0, 1) := by decide +kernel
theorem dX10_counted_83 : decode cX10_counted 83 = .ok (.iadd, 1) := by decide +kernel
theorem dX10_counted_84 : decode cX10_counted 84 = .ok (.istore_n 2, 1) := by decide +kernel
theorem dX10_counted_85 : decode cX10_counted 85 = .ok (.iinc 3 1, 3) := by decide +kernel
theorem dX10_counted_88 : decode cX10_counted 88 = .ok (.goto (-84), 3) := by decide +kernel
theorem dX10_counted_91 : decode cX10_counted 91 = .ok (.iconst 0, 1) := by decide +kernel
theorem dX10_counted_92 : decode cX10_counted 92 = .ok (.istore_n 3, 1) := by decide +kernel
theorem dX10_counted_93 : decode cX10_counted 93 = .ok (.iload_n 3, 1) := by decide +kernel
theorem dX10_counted_94 : decode cX10_counted 94 = .ok (.bipush 6, 2) := by decide +kernel
theorem dX10_counted_96 : decode cX10_counted 96 = .ok (.if_icmp .ge 32, 3) := by decide +kernel
theorem dX10_counted_99 : decode cX10_counted 99 = .ok (.iload_n 2, 1) := by decide +kernel
theorem dX10_counted_100 : decode cX10_counted 100 = .ok (.iload_n 1, 1) := by decide +kernel
theorem dX10_counted_101 : decode cX10_counted 101 = .ok (.bipush 6, 2) := by decide +kernel
theorem dX10_counted_103 : decode cX10_counted 103 = .ok (.if_icmp .ne 16, 3) := by decide +kernel
theorem dX10_counted_106 : decode cX10_counted 106 = .ok (.aload_n 0, 1) := by decide +kernel
theorem dX10_counted_107 : decode cX10_counted 107 = .ok (.getfield 17, 3) := by decide +kernel
theorem dX10_counted_110 : decode cX10_counted 110 = .ok (.iload_n 3, 1) := by decide +kernel
theorem dX10_counted_111 : decode cX10_counted 111 = .ok (.iaload, 1) := by decide +kernel
theorem dX10_counted_112 : decode cX10_counted 112 = .ok (.ifCond .lt 7, 3) := by decide +kernel
theorem dX10_counted_115 : decode cX10_counted 115 = .ok (.iconst 1, 1) := by decide +kernel
theorem dX10_counted_116 : decode cX10_counted 116 = .ok (.goto 4, 3) := by decide +kernel
theorem dX10_counted_119 : decode cX10_counted 119 = .ok (.iconst 0, 1) := by decide +kernel
theorem dX10_counted_120 : decode cX10_counted 120 = .ok (.iadd, 1) := by decide +kernel
theorem dX10_counted_121 : decode cX10_counted 121 = .ok (.istore_n 2, 1) := by decide +kernel
theorem dX10_counted_122 : decode cX10_counted 122 = .ok (.iinc 3 1, 3) := by decide +kernel
theorem dX10_counted_125 : decode cX10_counted 125 = .ok (.goto (-32), 3) := by decide +kernel
theorem dX10_counted_128 : decode cX10_counted 128 = .ok (.iconst 0, 1) := by decide +kernel
theorem dX10_counted_129 : decode cX10_counted 129 = .ok (.istore_n 3, 1) := by decide +kernel
theorem dX10_counted_130 : decode cX10_counted 130 = .ok (.iload_n 3, 1) := by decide +kernel
theorem dX10_counted_131 : decode cX10_counted 131 = .ok (.iconst 4, 1) := by decide +kernel
theorem dX10_counted_132 : decode cX10_counted 132 = .ok (.if_icmp .ge 32, 3) := by decide +kernel
theorem dX10_counted_135 : decode cX10_counted 135 = .ok (.iload_n 2, 1) := by decide +kernel
theorem dX10_counted_136 : decode cX10_counted 136 = .ok (.iload_n 1, 1) := by decide +kernel
theorem dX10_counted_137 : decode cX10_counted 137 = .ok (.bipush 7, 2) := by decide +kernel
theorem dX10_counted_139 : decode cX10_counted 139 = .ok (.if_icmp .ne 16, 3) := by decide +kernel
theorem dX10_counted_142 : decode cX10_counted 142 = .ok (.aload_n 0, 1) := by decide +kernel
theorem dX10_counted_143 : decode cX10_counted 143 = .ok (.getfield 26, 3) := by decide +kernel
theorem dX10_counted_146 : decode cX10_counted 146 = .ok (.iload_n 3, 1) := by decide +kernel
theorem dX10_counted_147 : decode cX10_counted 147 = .ok (.iaload, 1) := by decide +kernel
theorem dX10_counted_148 : decode cX10_counted 148 = .ok (.ifCond .lt 7, 3) := by decide +kernel
theorem dX10_counted_151 : decode cX10_counted 151 = .ok (.iconst 1, 1) := by decide +kernel
theorem dX10_counted_152 : decode cX10_counted 152 = .ok (.goto 4, 3) := by decide +kernel
theorem dX10_counted_155 : decode cX10_counted 155 = .ok (.iconst 0, 1) := by decide +kernel
theorem dX10_counted_156 : decode cX10_counted 156 = .ok (.iadd, 1) := by decide +kernel
theorem dX10_counted_157 : decode cX10_counted 157 = .ok (.istore_n 2, 1) := by decide +kernel
theorem dX10_counted_158 : decode cX10_counted 158 = .ok (.iinc 3 1, 3) := by decide +kernel
theorem dX10_counted_161 : decode cX10_counted 161 = .ok (.goto (-31), 3) := by decide +kernel
theorem dX10_counted_164 : decode cX10_counted 164 = .ok (.iconst 0, 1) := by decide +kernel
theorem dX10_counted_165 : decode cX10_counted 165 = .ok (.istore_n 3, 1) := by decide +kernel
theorem dX10_counted_166 : decode cX10_counted 166 = .ok (.iload_n 3, 1) := by decide +kernel
theorem dX10_counted_167 : decode cX10_counted 167 = .ok (.iconst 3, 1) := by decide +kernel
theorem dX10_counted_168 : decode cX10_counted 168 = .ok (.if_icmp .ge 32, 3) := by decide +kernel
theorem dX10_counted_171 : decode cX10_counted 171 = .ok (.iload_n 2, 1) := by decide +kernel
theorem dX10_counted_172 : decode cX10_counted 172 = .ok (.iload_n 1, 1) := by decide +kernel
theorem dX10_counted_173 : decode cX10_counted 173 = .ok (.bipush 8, 2) := by decide +kernel
theorem dX10_counted_175 : decode cX10_counted 175 = .ok (.if_icmp .ne 16, 3) := by decide +kernel
theorem dX10_counted_178 : decode cX10_counted 178 = .ok (.aload_n 0, 1) := by decide +kernel
theorem dX10_counted_179 : decode cX10_counted 179 = .ok (.getfield 66, 3) := by decide +kernel
theorem dX10_counted_182 : decode cX10_counted 182 = .ok (.iload_n 3, 1) := by decide +kernel
theorem dX10_counted_183 : decode cX10_counted 183 = .ok (.baload, 1) := by decide +kernel
theorem dX10_counted_184 : decode cX10_counted 184 = .ok (.ifCond .eq 7, 3) := by decide +kernel
theorem dX10_counted_187 : decode cX10_counted 187 = .ok (.iconst 1, 1) := by decide +kernel
theorem dX10_counted_188 : decode cX10_counted 188 = .ok (.goto 4, 3) := by decide +kernel
theorem dX10_counted_191 : decode cX10_counted 191 = .ok (.iconst 0, 1) := by decide +kernel
theorem dX10_counted_192 : decode cX10_counted 192 = .ok (.iadd, 1) := by decide +kernel
theorem dX10_counted_193 : decode cX10_counted 193 = .ok (.istore_n 2, 1) := by decide +kernel
theorem dX10_counted_194 : decode cX10_counted 194 = .ok (.iinc 3 1, 3) := by decide +kernel
theorem dX10_counted_197 : decode cX10_counted 197 = .ok (.goto (-31), 3) := by decide +kernel
theorem dX10_counted_200 : decode cX10_counted 200 = .ok (.iload_n 1, 1) := by decide +kernel
theorem dX10_counted_201 : decode cX10_counted 201 = .ok (.ifCond .ne 10, 3) := by decide +kernel
theorem dX10_counted_204 : decode cX10_counted 204 = .ok (.aload_n 0, 1) := by decide +kernel
theorem dX10_counted_205 : decode cX10_counted 205 = .ok (.getfield 172, 3) := by decide +kernel
theorem dX10_counted_208 : decode cX10_counted 208 = .ok (.goto 28, 3) := by decide +kernel
theorem dX10_counted_211 : decode cX10_counted 211 = .ok (.iload_n 1, 1) := by decide +kernel
theorem dX10_counted_212 : decode cX10_counted 212 = .ok (.iconst 1, 1) := by decide +kernel
theorem dX10_counted_213 : decode cX10_counted 213 = .ok (.if_icmp .ne 10, 3) := by decide +kernel
theorem dX10_counted_216 : decode cX10_counted 216 = .ok (.aload_n 0, 1) := by decide +kernel
theorem dX10_counted_217 : decode cX10_counted 217 = .ok (.getfield 175, 3) := by decide +kernel
theorem dX10_counted_220 : decode cX10_counted 220 = .ok (.goto 16, 3) := by decide +kernel
theorem dX10_counted_223 : decode cX10_counted 223 = .ok (.iload_n 1, 1) := by decide +kernel
theorem dX10_counted_224 : decode cX10_counted 224 = .ok (.iconst 2, 1) := by decide +kernel
theorem dX10_counted_225 : decode cX10_counted 225 = .ok (.if_icmp .ne 10, 3) := by decide +kernel
theorem dX10_counted_228 : decode cX10_counted 228 = .ok (.aload_n 0, 1) := by decide +kernel
theorem dX10_counted_229 : decode cX10_counted 229 = .ok (.getfield 178, 3) := by decide +kernel
theorem dX10_counted_232 : decode cX10_counted 232 = .ok (.goto 4, 3) := by decide +kernel
theorem dX10_counted_235 : decode cX10_counted 235 = .ok (.iload_n 2, 1) := by decide +kernel
theorem dX10_counted_236 : decode cX10_counted 236 = .ok (.ireturn, 1) := by decide +kernel
theorem dX10_count_0 : decode cX10_count 0 = .ok (.iload_n 1, 1) := by decide +kernel
theorem dX10_count_1 : decode cX10_count 1 = .ok (.iconst 0, 1) := by decide +kernel
theorem dX10_count_2 : decode cX10_count 2 = .ok (.bipush 9, 2) := by decide +kernel
theorem dX10_count_4 : decode cX10_count 4 = .ok (.invokestatic 101, 3) := by decide +kernel
theorem dX10_count_7 : decode cX10_count 7 = .ok (.ifCond .eq 11, 3) := by decide +kernel
theorem dX10_count_10 : decode cX10_count 10 = .ok (.aload_n 0, 1) := by decide +kernel
theorem dX10_count_11 : decode cX10_count 11 = .ok (.iload_n 1, 1) := by decide +kernel
theorem dX10_count_12 : decode cX10_count 12 = .ok (.invokevirtual 314, 3) := by decide +kernel
theorem dX10_count_15 : decode cX10_count 15 = .ok (.goto 4, 3) := by decide +kernel
theorem dX10_count_18 : decode cX10_count 18 = .ok (.iconst (-1), 1) := by decide +kernel
theorem dX10_count_19 : decode cX10_count 19 = .ok (.ireturn, 1) := by decide +kernel
theorem dX10_mix_0 : decode cX10_mix 0 = .ok (.aload_n 0, 1) := by decide +kernel
theorem dX10_mix_1 : decode cX10_mix 1 = .ok (.ldc2_w 317, 3) := by decide +kernel
theorem dX10_mix_4 : decode cX10_mix 4 = .ok (.aload_n 0, 1) := by decide +kernel
theorem dX10_mix_5 : decode cX10_mix 5 = .ok (.getfield 319, 3) := by decide +kernel
theorem dX10_mix_8 : decode cX10_mix 8 = .ok (.lmul, 1) := by decide +kernel
theorem dX10_mix_9 : decode cX10_mix 9 = .ok (.lload_n 1, 1) := by decide +kernel
theorem dX10_mix_10 : decode cX10_mix 10 = .ok (.ladd, 1) := by decide +kernel
theorem dX10_mix_11 : decode cX10_mix 11 = .ok (.putfield 319, 3) := by decide +kernel
theorem dX10_mix_14 : decode cX10_mix 14 = .ok (.return_, 1) := by decide +kernel
theorem dX10_mixDelta_0 : decode cX10_mixDelta 0 = .ok (.aload_n 0, 1) := by decide +kernel
theorem dX10_mixDelta_1 : decode cX10_mixDelta 1 = .ok (.aload_n 0, 1) := by decide +kernel
theorem dX10_mixDelta_2 : decode cX10_mixDelta 2 = .ok (.getfield 57, 3) := by decide +kernel
theorem dX10_mixDelta_5 : decode cX10_mixDelta 5 = .ok (.bipush 30, 2) := by decide +kernel
theorem dX10_mixDelta_7 : decode cX10_mixDelta 7 = .ok (.iaload, 1) := by decide +kernel
theorem dX10_mixDelta_8 : decode cX10_mixDelta 8 = .ok (.i2l, 1) := by decide +kernel
theorem dX10_mixDelta_9 : decode cX10_mixDelta 9 = .ok (.invokevirtual 322, 3) := by decide +kernel
theorem dX10_mixDelta_12 : decode cX10_mixDelta 12 = .ok (.iconst 0, 1) := by decide +kernel
theorem dX10_mixDelta_13 : decode cX10_mixDelta 13 = .ok (.istore_n 1, 1) := by decide +kernel
theorem dX10_mixDelta_14 : decode cX10_mixDelta 14 = .ok (.iload_n 1, 1) := by decide +kernel
theorem dX10_mixDelta_15 : decode cX10_mixDelta 15 = .ok (.aload_n 0, 1) := by decide +kernel
theorem dX10_mixDelta_16 : decode cX10_mixDelta 16 = .ok (.getfield 172, 3) := by decide +kernel
theorem dX10_mixDelta_19 : decode cX10_mixDelta 19 = .ok (.if_icmp .ge 45, 3) := by decide +kernel
theorem dX10_mixDelta_22 : decode cX10_mixDelta 22 = .ok (.iconst 0, 1) := by decide +kernel
theorem dX10_mixDelta_23 : decode cX10_mixDelta 23 = .ok (.istore_n 2, 1) := by decide +kernel
theorem dX10_mixDelta_24 : decode cX10_mixDelta 24 = .ok (.iload_n 2, 1) := by decide +kernel
theorem dX10_mixDelta_25 : decode cX10_mixDelta 25 = .ok (.bipush 8, 2) := by decide +kernel
theorem dX10_mixDelta_27 : decode cX10_mixDelta 27 = .ok (.if_icmp .ge 20, 3) := by decide +kernel
theorem dX10_mixDelta_30 : decode cX10_mixDelta 30 = .ok (.aload_n 0, 1) := by decide +kernel
theorem dX10_mixDelta_31 : decode cX10_mixDelta 31 = .ok (.aload_n 0, 1) := by decide +kernel
theorem dX10_mixDelta_32 : decode cX10_mixDelta 32 = .ok (.iload_n 1, 1) := by decide +kernel
theorem dX10_mixDelta_33 : decode cX10_mixDelta 33 = .ok (.iload_n 2, 1) := by decide +kernel
theorem dX10_mixDelta_34 : decode cX10_mixDelta 34 = .ok (.invokevirtual 223, 3) := by decide +kernel
theorem dX10_mixDelta_37 : decode cX10_mixDelta 37 = .ok (.i2l, 1) := by decide +kernel
theorem dX10_mixDelta_38 : decode cX10_mixDelta 38 = .ok (.invokevirtual 322, 3) := by decide +kernel
theorem dX10_mixDelta_41 : decode cX10_mixDelta 41 = .ok (.iinc 2 1, 3) := by decide +kernel
theorem dX10_mixDelta_44 : decode cX10_mixDelta 44 = .ok (.goto (-20), 3) := by decide +kernel
theorem dX10_mixDelta_47 : decode cX10_mixDelta 47 = .ok (.aload_n 0, 1) := by decide +kernel
theorem dX10_mixDelta_48 : decode cX10_mixDelta 48 = .ok (.aload_n 0, 1) := by decide +kernel
theorem dX10_mixDelta_49 : decode cX10_mixDelta 49 = .ok (.getfield 48, 3) := by decide +kernel
theorem dX10_mixDelta_52 : decode cX10_mixDelta 52 = .ok (.iload_n 1, 1) := by decide +kernel
theorem dX10_mixDelta_53 : decode cX10_mixDelta 53 = .ok (.iaload, 1) := by decide +kernel
theorem dX10_mixDelta_54 : decode cX10_mixDelta 54 = .ok (.i2l, 1) := by decide +kernel
theorem dX10_mixDelta_55 : decode cX10_mixDelta 55 = .ok (.invokevirtual 322, 3) := by decide +kernel
theorem dX10_mixDelta_58 : decode cX10_mixDelta 58 = .ok (.iinc 1 1, 3) := by decide +kernel
theorem dX10_mixDelta_61 : decode cX10_mixDelta 61 = .ok (.goto (-47), 3) := by decide +kernel
theorem dX10_mixDelta_64 : decode cX10_mixDelta 64 = .ok (.iconst 0, 1) := by decide +kernel
theorem dX10_mixDelta_65 : decode cX10_mixDelta 65 = .ok (.istore_n 1, 1) := by decide +kernel
theorem dX10_mixDelta_66 : decode cX10_mixDelta 66 = .ok (.iload_n 1, 1) := by decide +kernel
theorem dX10_mixDelta_67 : decode cX10_mixDelta 67 = .ok (.iconst 3, 1) := by decide +kernel
theorem dX10_mixDelta_68 : decode cX10_mixDelta 68 = .ok (.if_icmp .ge 35, 3) := by decide +kernel
theorem dX10_mixDelta_71 : decode cX10_mixDelta 71 = .ok (.aload_n 0, 1) := by decide +kernel
theorem dX10_mixDelta_72 : decode cX10_mixDelta 72 = .ok (.aload_n 0, 1) := by decide +kernel
theorem dX10_mixDelta_73 : decode cX10_mixDelta 73 = .ok (.getfield 66, 3) := by decide +kernel
theorem dX10_mixDelta_76 : decode cX10_mixDelta 76 = .ok (.iload_n 1, 1) := by decide +kernel
theorem dX10_mixDelta_77 : decode cX10_mixDelta 77 = .ok (.baload, 1) := by decide +kernel
theorem dX10_mixDelta_78 : decode cX10_mixDelta 78 = .ok (.ifCond .eq 13, 3) := by decide +kernel
theorem dX10_mixDelta_81 : decode cX10_mixDelta 81 = .ok (.aload_n 0, 1) := by decide +kernel
theorem dX10_mixDelta_82 : decode cX10_mixDelta 82 = .ok (.getfield 70, 3) := by decide +kernel
theorem dX10_mixDelta_85 : decode cX10_mixDelta 85 = .ok (.iload_n 1, 1) := by decide +kernel
theorem dX10_mixDelta_86 : decode cX10_mixDelta 86 = .ok (.iaload, 1) := by decide +kernel
theorem dX10_mixDelta_87 : decode cX10_mixDelta 87 = .ok (.i2l, 1) := by decide +kernel
theorem dX10_mixDelta_88 : decode cX10_mixDelta 88 = .ok (.goto 6, 3) := by decide +kernel
theorem dX10_mixDelta_91 : decode cX10_mixDelta 91 = .ok (.ldc2_w 326, 3) := by decide +kernel
theorem dX10_mixDelta_94 : decode cX10_mixDelta 94 = .ok (.invokevirtual 322, 3) := by decide +kernel
theorem dX10_mixDelta_97 : decode cX10_mixDelta 97 = .ok (.iinc 1 1, 3) := by decide +kernel
theorem dX10_mixDelta_100 : decode cX10_mixDelta 100 = .ok (.goto (-34), 3) := by decide +kernel
theorem dX10_mixDelta_103 : decode cX10_mixDelta 103 = .ok (.return_, 1) := by decide +kernel
theorem dX10_digest_0 : decode cX10_digest 0 = .ok (.aload_n 0, 1) := by decide +kernel
theorem dX10_digest_1 : decode cX10_digest 1 = .ok (.ldc2_w 328, 3) := by decide +kernel
theorem dX10_digest_4 : decode cX10_digest 4 = .ok (.putfield 319, 3) := by decide +kernel
theorem dX10_digest_7 : decode cX10_digest 7 = .ok (.iconst 0, 1) := by decide +kernel
theorem dX10_digest_8 : decode cX10_digest 8 = .ok (.istore_n 1, 1) := by decide +kernel
theorem dX10_digest_9 : decode cX10_digest 9 = .ok (.iload_n 1, 1) := by decide +kernel
theorem dX10_digest_10 : decode cX10_digest 10 = .ok (.bipush 10, 2) := by decide +kernel
theorem dX10_digest_12 : decode cX10_digest 12 = .ok (.if_icmp .ge 19, 3) := by decide +kernel
theorem dX10_digest_15 : decode cX10_digest 15 = .ok (.aload_n 0, 1) := by decide +kernel
theorem dX10_digest_16 : decode cX10_digest 16 = .ok (.aload_n 0, 1) := by decide +kernel
theorem dX10_digest_17 : decode cX10_digest 17 = .ok (.iload_n 1, 1) := by decide +kernel
theorem dX10_digest_18 : decode cX10_digest 18 = .ok (.invokevirtual 314, 3) := by decide +kernel
theorem dX10_digest_21 : decode cX10_digest 21 = .ok (.i2l, 1) := by decide +kernel
theorem dX10_digest_22 : decode cX10_digest 22 = .ok (.invokevirtual 322, 3) := by decide +kernel
theorem dX10_digest_25 : decode cX10_digest 25 = .ok (.iinc 1 1, 3) := by decide +kernel
theorem dX10_digest_28 : decode cX10_digest 28 = .ok (.goto (-19), 3) := by decide +kernel
theorem dX10_digest_31 : decode cX10_digest 31 = .ok (.aload_n 0, 1) := by decide +kernel
theorem dX10_digest_32 : decode cX10_digest 32 = .ok (.invokevirtual 330, 3) := by decide +kernel
theorem dX10_digest_35 : decode cX10_digest 35 = .ok (.iconst 0, 1) := by decide +kernel
theorem dX10_digest_36 : decode cX10_digest 36 = .ok (.istore_n 1, 1) := by decide +kernel
theorem dX10_digest_37 : decode cX10_digest 37 = .ok (.iload_n 1, 1) := by decide +kernel
theorem dX10_digest_38 : decode cX10_digest 38 = .ok (.bipush 6, 2) := by decide +kernel
theorem dX10_digest_40 : decode cX10_digest 40 = .ok (.if_icmp .ge 49, 3) := by decide +kernel
theorem dX10_digest_43 : decode cX10_digest 43 = .ok (.aload_n 0, 1) := by decide +kernel
theorem dX10_digest_44 : decode cX10_digest 44 = .ok (.aload_n 0, 1) := by decide +kernel
theorem dX10_digest_45 : decode cX10_digest 45 = .ok (.getfield 17, 3) := by decide +kernel
theorem dX10_digest_48 : decode cX10_digest 48 = .ok (.iload_n 1, 1) := by decide +kernel
theorem dX10_digest_49 : decode cX10_digest 49 = .ok (.iaload, 1) := by decide +kernel
theorem dX10_digest_50 : decode cX10_digest 50 = .ok (.i2l, 1) := by decide +kernel
theorem dX10_digest_51 : decode cX10_digest 51 = .ok (.invokevirtual 322, 3) := by decide +kernel
theorem dX10_digest_54 : decode cX10_digest 54 = .ok (.iconst 0, 1) := by decide +kernel
theorem dX10_digest_55 : decode cX10_digest 55 = .ok (.istore_n 2, 1) := by decide +kernel
theorem dX10_digest_56 : decode cX10_digest 56 = .ok (.iload_n 2, 1) := by decide +kernel
theorem dX10_digest_57 : decode cX10_digest 57 = .ok (.aload_n 0, 1) := by decide +kernel
theorem dX10_digest_58 : decode cX10_digest 58 = .ok (.getfield 17, 3) := by decide +kernel
theorem dX10_digest_61 : decode cX10_digest 61 = .ok (.iload_n 1, 1) := by decide +kernel
theorem dX10_digest_62 : decode cX10_digest 62 = .ok (.iaload, 1) := by decide +kernel
theorem dX10_digest_63 : decode cX10_digest 63 = .ok (.if_icmp .ge 20, 3) := by decide +kernel
theorem dX10_digest_66 : decode cX10_digest 66 = .ok (.aload_n 0, 1) := by decide +kernel
theorem dX10_digest_67 : decode cX10_digest 67 = .ok (.aload_n 0, 1) := by decide +kernel
theorem dX10_digest_68 : decode cX10_digest 68 = .ok (.iload_n 1, 1) := by decide +kernel
theorem dX10_digest_69 : decode cX10_digest 69 = .ok (.iload_n 2, 1) := by decide +kernel
theorem dX10_digest_70 : decode cX10_digest 70 = .ok (.invokevirtual 119, 3) := by decide +kernel
theorem dX10_digest_73 : decode cX10_digest 73 = .ok (.i2l, 1) := by decide +kernel
theorem dX10_digest_74 : decode cX10_digest 74 = .ok (.invokevirtual 322, 3) := by decide +kernel
theorem dX10_digest_77 : decode cX10_digest 77 = .ok (.iinc 2 1, 3) := by decide +kernel
theorem dX10_digest_80 : decode cX10_digest 80 = .ok (.goto (-24), 3) := by decide +kernel
theorem dX10_digest_83 : decode cX10_digest 83 = .ok (.iinc 1 1, 3) := by decide +kernel
theorem dX10_digest_86 : decode cX10_digest 86 = .ok (.goto (-49), 3) := by decide +kernel
theorem dX10_digest_89 : decode cX10_digest 89 = .ok (.iconst 0, 1) := by decide +kernel
theorem dX10_digest_90 : decode cX10_digest 90 = .ok (.istore_n 1, 1) := by decide +kernel
theorem dX10_digest_91 : decode cX10_digest 91 = .ok (.iload_n 1, 1) := by decide +kernel
theorem dX10_digest_92 : decode cX10_digest 92 = .ok (.iconst 4, 1) := by decide +kernel
theorem dX10_digest_93 : decode cX10_digest 93 = .ok (.if_icmp .ge 49, 3) := by decide +kernel
theorem dX10_digest_96 : decode cX10_digest 96 = .ok (.aload_n 0, 1) := by decide +kernel
theorem dX10_digest_97 : decode cX10_digest 97 = .ok (.aload_n 0, 1) := by decide +kernel
theorem dX10_digest_98 : decode cX10_digest 98 = .ok (.getfield 26, 3) := by decide +kernel
theorem dX10_digest_101 : decode cX10_digest 101 = .ok (.iload_n 1, 1) := by decide +kernel
theorem dX10_digest_102 : decode cX10_digest 102 = .ok (.iaload, 1) := by decide +kernel
theorem dX10_digest_103 : decode cX10_digest 103 = .ok (.i2l, 1) := by decide +kernel
theorem dX10_digest_104 : decode cX10_digest 104 = .ok (.invokevirtual 322, 3) := by decide +kernel
theorem dX10_digest_107 : decode cX10_digest 107 = .ok (.iconst 0, 1) := by decide +kernel
theorem dX10_digest_108 : decode cX10_digest 108 = .ok (.istore_n 2, 1) := by decide +kernel
theorem dX10_digest_109 : decode cX10_digest 109 = .ok (.iload_n 2, 1) := by decide +kernel
theorem dX10_digest_110 : decode cX10_digest 110 = .ok (.aload_n 0, 1) := by decide +kernel
theorem dX10_digest_111 : decode cX10_digest 111 = .ok (.getfield 26, 3) := by decide +kernel
theorem dX10_digest_114 : decode cX10_digest 114 = .ok (.iload_n 1, 1) := by decide +kernel
theorem dX10_digest_115 : decode cX10_digest 115 = .ok (.iaload, 1) := by decide +kernel
theorem dX10_digest_116 : decode cX10_digest 116 = .ok (.if_icmp .ge 20, 3) := by decide +kernel
theorem dX10_digest_119 : decode cX10_digest 119 = .ok (.aload_n 0, 1) := by decide +kernel
theorem dX10_digest_120 : decode cX10_digest 120 = .ok (.aload_n 0, 1) := by decide +kernel
theorem dX10_digest_121 : decode cX10_digest 121 = .ok (.iload_n 1, 1) := by decide +kernel
theorem dX10_digest_122 : decode cX10_digest 122 = .ok (.iload_n 2, 1) := by decide +kernel
theorem dX10_digest_123 : decode cX10_digest 123 = .ok (.invokevirtual 132, 3) := by decide +kernel
theorem dX10_digest_126 : decode cX10_digest 126 = .ok (.i2l, 1) := by decide +kernel
theorem dX10_digest_127 : decode cX10_digest 127 = .ok (.invokevirtual 322, 3) := by decide +kernel
theorem dX10_digest_130 : decode cX10_digest 130 = .ok (.iinc 2 1, 3) := by decide +kernel
theorem dX10_digest_133 : decode cX10_digest 133 = .ok (.goto (-24), 3) := by decide +kernel
theorem dX10_digest_136 : decode cX10_digest 136 = .ok (.iinc 1 1, 3) := by decide +kernel
theorem dX10_digest_139 : decode cX10_digest 139 = .ok (.goto (-48), 3) := by decide +kernel
theorem dX10_digest_142 : decode cX10_digest 142 = .ok (.aload_n 0, 1) := by decide +kernel
theorem dX10_digest_143 : decode cX10_digest 143 = .ok (.getfield 319, 3) := by decide +kernel
theorem dX10_digest_146 : decode cX10_digest 146 = .ok (.lreturn, 1) := by decide +kernel
theorem dJ6_bitCount_0f7a4_0 : decode cJ6_bitCount_0f7a4 0 = .ok (.iload_n 0, 1) := by decide +kernel
theorem dJ6_bitCount_0f7a4_1 : decode cJ6_bitCount_0f7a4 1 = .ok (.iload_n 0, 1) := by decide +kernel
theorem dJ6_bitCount_0f7a4_2 : decode cJ6_bitCount_0f7a4 2 = .ok (.iconst 1, 1) := by decide +kernel
theorem dJ6_bitCount_0f7a4_3 : decode cJ6_bitCount_0f7a4 3 = .ok (.iushr, 1) := by decide +kernel
theorem dJ6_bitCount_0f7a4_4 : decode cJ6_bitCount_0f7a4 4 = .ok (.ldc_w 265, 3) := by decide +kernel
theorem dJ6_bitCount_0f7a4_7 : decode cJ6_bitCount_0f7a4 7 = .ok (.iand, 1) := by decide +kernel
theorem dJ6_bitCount_0f7a4_8 : decode cJ6_bitCount_0f7a4 8 = .ok (.isub, 1) := by decide +kernel
theorem dJ6_bitCount_0f7a4_9 : decode cJ6_bitCount_0f7a4 9 = .ok (.istore_n 0, 1) := by decide +kernel
theorem dJ6_bitCount_0f7a4_10 : decode cJ6_bitCount_0f7a4 10 = .ok (.iload_n 0, 1) := by decide +kernel
theorem dJ6_bitCount_0f7a4_11 : decode cJ6_bitCount_0f7a4 11 = .ok (.ldc_w 266, 3) := by decide +kernel
theorem dJ6_bitCount_0f7a4_14 : decode cJ6_bitCount_0f7a4 14 = .ok (.iand, 1) := by decide +kernel
theorem dJ6_bitCount_0f7a4_15 : decode cJ6_bitCount_0f7a4 15 = .ok (.iload_n 0, 1) := by decide +kernel
theorem dJ6_bitCount_0f7a4_16 : decode cJ6_bitCount_0f7a4 16 = .ok (.iconst 2, 1) := by decide +kernel
theorem dJ6_bitCount_0f7a4_17 : decode cJ6_bitCount_0f7a4 17 = .ok (.iushr, 1) := by decide +kernel
theorem dJ6_bitCount_0f7a4_18 : decode cJ6_bitCount_0f7a4 18 = .ok (.ldc_w 266, 3) := by decide +kernel
theorem dJ6_bitCount_0f7a4_21 : decode cJ6_bitCount_0f7a4 21 = .ok (.iand, 1) := by decide +kernel
theorem dJ6_bitCount_0f7a4_22 : decode cJ6_bitCount_0f7a4 22 = .ok (.iadd, 1) := by decide +kernel
theorem dJ6_bitCount_0f7a4_23 : decode cJ6_bitCount_0f7a4 23 = .ok (.istore_n 0, 1) := by decide +kernel
theorem dJ6_bitCount_0f7a4_24 : decode cJ6_bitCount_0f7a4 24 = .ok (.iload_n 0, 1) := by decide +kernel
theorem dJ6_bitCount_0f7a4_25 : decode cJ6_bitCount_0f7a4 25 = .ok (.iload_n 0, 1) := by decide +kernel
theorem dJ6_bitCount_0f7a4_26 : decode cJ6_bitCount_0f7a4 26 = .ok (.iconst 4, 1) := by decide +kernel
theorem dJ6_bitCount_0f7a4_27 : decode cJ6_bitCount_0f7a4 27 = .ok (.iushr, 1) := by decide +kernel
theorem dJ6_bitCount_0f7a4_28 : decode cJ6_bitCount_0f7a4 28 = .ok (.iadd, 1) := by decide +kernel
theorem dJ6_bitCount_0f7a4_29 : decode cJ6_bitCount_0f7a4 29 = .ok (.ldc_w 267, 3) := by decide +kernel
theorem dJ6_bitCount_0f7a4_32 : decode cJ6_bitCount_0f7a4 32 = .ok (.iand, 1) := by decide +kernel
theorem dJ6_bitCount_0f7a4_33 : decode cJ6_bitCount_0f7a4 33 = .ok (.istore_n 0, 1) := by decide +kernel
theorem dJ6_bitCount_0f7a4_34 : decode cJ6_bitCount_0f7a4 34 = .ok (.iload_n 0, 1) := by decide +kernel
theorem dJ6_bitCount_0f7a4_35 : decode cJ6_bitCount_0f7a4 35 = .ok (.iload_n 0, 1) := by decide +kernel
theorem dJ6_bitCount_0f7a4_36 : decode cJ6_bitCount_0f7a4 36 = .ok (.bipush 8, 2) := by decide +kernel
theorem dJ6_bitCount_0f7a4_38 : decode cJ6_bitCount_0f7a4 38 = .ok (.iushr, 1) := by decide +kernel
theorem dJ6_bitCount_0f7a4_39 : decode cJ6_bitCount_0f7a4 39 = .ok (.iadd, 1) := by decide +kernel
theorem dJ6_bitCount_0f7a4_40 : decode cJ6_bitCount_0f7a4 40 = .ok (.istore_n 0, 1) := by decide +kernel
theorem dJ6_bitCount_0f7a4_41 : decode cJ6_bitCount_0f7a4 41 = .ok (.iload_n 0, 1) := by decide +kernel
theorem dJ6_bitCount_0f7a4_42 : decode cJ6_bitCount_0f7a4 42 = .ok (.iload_n 0, 1) := by decide +kernel
theorem dJ6_bitCount_0f7a4_43 : decode cJ6_bitCount_0f7a4 43 = .ok (.bipush 16, 2) := by decide +kernel
theorem dJ6_bitCount_0f7a4_45 : decode cJ6_bitCount_0f7a4 45 = .ok (.iushr, 1) := by decide +kernel
theorem dJ6_bitCount_0f7a4_46 : decode cJ6_bitCount_0f7a4 46 = .ok (.iadd, 1) := by decide +kernel
theorem dJ6_bitCount_0f7a4_47 : decode cJ6_bitCount_0f7a4 47 = .ok (.istore_n 0, 1) := by decide +kernel
theorem dJ6_bitCount_0f7a4_48 : decode cJ6_bitCount_0f7a4 48 = .ok (.iload_n 0, 1) := by decide +kernel
theorem dJ6_bitCount_0f7a4_49 : decode cJ6_bitCount_0f7a4 49 = .ok (.bipush 63, 2) := by decide +kernel
theorem dJ6_bitCount_0f7a4_51 : decode cJ6_bitCount_0f7a4 51 = .ok (.iand, 1) := by decide +kernel
theorem dJ6_bitCount_0f7a4_52 : decode cJ6_bitCount_0f7a4 52 = .ok (.ireturn, 1) := by decide +kernel
theorem dJ13_bitCount_95d88_0 : decode cJ13_bitCount_95d88 0 = .ok (.lload_n 0, 1) := by decide +kernel
theorem dJ13_bitCount_95d88_1 : decode cJ13_bitCount_95d88 1 = .ok (.lload_n 0, 1) := by decide +kernel
theorem dJ13_bitCount_95d88_2 : decode cJ13_bitCount_95d88 2 = .ok (.iconst 1, 1) := by decide +kernel
theorem dJ13_bitCount_95d88_3 : decode cJ13_bitCount_95d88 3 = .ok (.lushr, 1) := by decide +kernel
theorem dJ13_bitCount_95d88_4 : decode cJ13_bitCount_95d88 4 = .ok (.ldc2_w 314, 3) := by decide +kernel
theorem dJ13_bitCount_95d88_7 : decode cJ13_bitCount_95d88 7 = .ok (.land, 1) := by decide +kernel
theorem dJ13_bitCount_95d88_8 : decode cJ13_bitCount_95d88 8 = .ok (.lsub, 1) := by decide +kernel
theorem dJ13_bitCount_95d88_9 : decode cJ13_bitCount_95d88 9 = .ok (.lstore_n 0, 1) := by decide +kernel
theorem dJ13_bitCount_95d88_10 : decode cJ13_bitCount_95d88 10 = .ok (.lload_n 0, 1) := by decide +kernel
theorem dJ13_bitCount_95d88_11 : decode cJ13_bitCount_95d88 11 = .ok (.ldc2_w 316, 3) := by decide +kernel
theorem dJ13_bitCount_95d88_14 : decode cJ13_bitCount_95d88 14 = .ok (.land, 1) := by decide +kernel
theorem dJ13_bitCount_95d88_15 : decode cJ13_bitCount_95d88 15 = .ok (.lload_n 0, 1) := by decide +kernel
theorem dJ13_bitCount_95d88_16 : decode cJ13_bitCount_95d88 16 = .ok (.iconst 2, 1) := by decide +kernel
theorem dJ13_bitCount_95d88_17 : decode cJ13_bitCount_95d88 17 = .ok (.lushr, 1) := by decide +kernel
theorem dJ13_bitCount_95d88_18 : decode cJ13_bitCount_95d88 18 = .ok (.ldc2_w 316, 3) := by decide +kernel
theorem dJ13_bitCount_95d88_21 : decode cJ13_bitCount_95d88 21 = .ok (.land, 1) := by decide +kernel
theorem dJ13_bitCount_95d88_22 : decode cJ13_bitCount_95d88 22 = .ok (.ladd, 1) := by decide +kernel
theorem dJ13_bitCount_95d88_23 : decode cJ13_bitCount_95d88 23 = .ok (.lstore_n 0, 1) := by decide +kernel
theorem dJ13_bitCount_95d88_24 : decode cJ13_bitCount_95d88 24 = .ok (.lload_n 0, 1) := by decide +kernel
theorem dJ13_bitCount_95d88_25 : decode cJ13_bitCount_95d88 25 = .ok (.lload_n 0, 1) := by decide +kernel
theorem dJ13_bitCount_95d88_26 : decode cJ13_bitCount_95d88 26 = .ok (.iconst 4, 1) := by decide +kernel
theorem dJ13_bitCount_95d88_27 : decode cJ13_bitCount_95d88 27 = .ok (.lushr, 1) := by decide +kernel
theorem dJ13_bitCount_95d88_28 : decode cJ13_bitCount_95d88 28 = .ok (.ladd, 1) := by decide +kernel
theorem dJ13_bitCount_95d88_29 : decode cJ13_bitCount_95d88 29 = .ok (.ldc2_w 318, 3) := by decide +kernel
theorem dJ13_bitCount_95d88_32 : decode cJ13_bitCount_95d88 32 = .ok (.land, 1) := by decide +kernel
theorem dJ13_bitCount_95d88_33 : decode cJ13_bitCount_95d88 33 = .ok (.lstore_n 0, 1) := by decide +kernel
theorem dJ13_bitCount_95d88_34 : decode cJ13_bitCount_95d88 34 = .ok (.lload_n 0, 1) := by decide +kernel
theorem dJ13_bitCount_95d88_35 : decode cJ13_bitCount_95d88 35 = .ok (.lload_n 0, 1) := by decide +kernel
theorem dJ13_bitCount_95d88_36 : decode cJ13_bitCount_95d88 36 = .ok (.bipush 8, 2) := by decide +kernel
theorem dJ13_bitCount_95d88_38 : decode cJ13_bitCount_95d88 38 = .ok (.lushr, 1) := by decide +kernel
theorem dJ13_bitCount_95d88_39 : decode cJ13_bitCount_95d88 39 = .ok (.ladd, 1) := by decide +kernel
theorem dJ13_bitCount_95d88_40 : decode cJ13_bitCount_95d88 40 = .ok (.lstore_n 0, 1) := by decide +kernel
theorem dJ13_bitCount_95d88_41 : decode cJ13_bitCount_95d88 41 = .ok (.lload_n 0, 1) := by decide +kernel
theorem dJ13_bitCount_95d88_42 : decode cJ13_bitCount_95d88 42 = .ok (.lload_n 0, 1) := by decide +kernel
theorem dJ13_bitCount_95d88_43 : decode cJ13_bitCount_95d88 43 = .ok (.bipush 16, 2) := by decide +kernel
theorem dJ13_bitCount_95d88_45 : decode cJ13_bitCount_95d88 45 = .ok (.lushr, 1) := by decide +kernel
theorem dJ13_bitCount_95d88_46 : decode cJ13_bitCount_95d88 46 = .ok (.ladd, 1) := by decide +kernel
theorem dJ13_bitCount_95d88_47 : decode cJ13_bitCount_95d88 47 = .ok (.lstore_n 0, 1) := by decide +kernel
theorem dJ13_bitCount_95d88_48 : decode cJ13_bitCount_95d88 48 = .ok (.lload_n 0, 1) := by decide +kernel
theorem dJ13_bitCount_95d88_49 : decode cJ13_bitCount_95d88 49 = .ok (.lload_n 0, 1) := by decide +kernel
theorem dJ13_bitCount_95d88_50 : decode cJ13_bitCount_95d88 50 = .ok (.bipush 32, 2) := by decide +kernel
theorem dJ13_bitCount_95d88_52 : decode cJ13_bitCount_95d88 52 = .ok (.lushr, 1) := by decide +kernel
theorem dJ13_bitCount_95d88_53 : decode cJ13_bitCount_95d88 53 = .ok (.ladd, 1) := by decide +kernel
theorem dJ13_bitCount_95d88_54 : decode cJ13_bitCount_95d88 54 = .ok (.lstore_n 0, 1) := by decide +kernel
theorem dJ13_bitCount_95d88_55 : decode cJ13_bitCount_95d88 55 = .ok (.lload_n 0, 1) := by decide +kernel
theorem dJ13_bitCount_95d88_56 : decode cJ13_bitCount_95d88 56 = .ok (.l2i, 1) := by decide +kernel
theorem dJ13_bitCount_95d88_57 : decode cJ13_bitCount_95d88 57 = .ok (.bipush 127, 2) := by decide +kernel
theorem dJ13_bitCount_95d88_59 : decode cJ13_bitCount_95d88 59 = .ok (.iand, 1) := by decide +kernel
theorem dJ13_bitCount_95d88_60 : decode cJ13_bitCount_95d88 60 = .ok (.ireturn, 1) := by decide +kernel
theorem dJ9_max_7cf53_0 : decode cJ9_max_7cf53 0 = .ok (.iload_n 0, 1) := by decide +kernel
theorem dJ9_max_7cf53_1 : decode cJ9_max_7cf53 1 = .ok (.iload_n 1, 1) := by decide +kernel
theorem dJ9_max_7cf53_2 : decode cJ9_max_7cf53 2 = .ok (.if_icmp .lt 7, 3) := by decide +kernel
theorem dJ9_max_7cf53_5 : decode cJ9_max_7cf53 5 = .ok (.iload_n 0, 1) := by decide +kernel
theorem dJ9_max_7cf53_6 : decode cJ9_max_7cf53 6 = .ok (.goto 4, 3) := by decide +kernel
theorem dJ9_max_7cf53_9 : decode cJ9_max_7cf53 9 = .ok (.iload_n 1, 1) := by decide +kernel
theorem dJ9_max_7cf53_10 : decode cJ9_max_7cf53 10 = .ok (.ireturn, 1) := by decide +kernel
theorem dJ9_min_7cf53_0 : decode cJ9_min_7cf53 0 = .ok (.iload_n 0, 1) := by decide +kernel
theorem dJ9_min_7cf53_1 : decode cJ9_min_7cf53 1 = .ok (.iload_n 1, 1) := by decide +kernel
theorem dJ9_min_7cf53_2 : decode cJ9_min_7cf53 2 = .ok (.if_icmp .gt 7, 3) := by decide +kernel
theorem dJ9_min_7cf53_5 : decode cJ9_min_7cf53 5 = .ok (.iload_n 0, 1) := by decide +kernel
theorem dJ9_min_7cf53_6 : decode cJ9_min_7cf53 6 = .ok (.goto 4, 3) := by decide +kernel
theorem dJ9_min_7cf53_9 : decode cJ9_min_7cf53 9 = .ok (.iload_n 1, 1) := by decide +kernel
theorem dJ9_min_7cf53_10 : decode cJ9_min_7cf53 10 = .ok (.ireturn, 1) := by decide +kernel
theorem dJ7_fill_53178_0 : decode cJ7_fill_53178 0 = .ok (.iconst 0, 1) := by decide +kernel
theorem dJ7_fill_53178_1 : decode cJ7_fill_53178 1 = .ok (.istore_n 2, 1) := by decide +kernel
theorem dJ7_fill_53178_2 : decode cJ7_fill_53178 2 = .ok (.aload_n 0, 1) := by decide +kernel
theorem dJ7_fill_53178_3 : decode cJ7_fill_53178 3 = .ok (.arraylength, 1) := by decide +kernel
theorem dJ7_fill_53178_4 : decode cJ7_fill_53178 4 = .ok (.istore_n 3, 1) := by decide +kernel
theorem dJ7_fill_53178_5 : decode cJ7_fill_53178 5 = .ok (.iload_n 2, 1) := by decide +kernel
theorem dJ7_fill_53178_6 : decode cJ7_fill_53178 6 = .ok (.iload_n 3, 1) := by decide +kernel
theorem dJ7_fill_53178_7 : decode cJ7_fill_53178 7 = .ok (.if_icmp .ge 13, 3) := by decide +kernel
theorem dJ7_fill_53178_10 : decode cJ7_fill_53178 10 = .ok (.aload_n 0, 1) := by decide +kernel
theorem dJ7_fill_53178_11 : decode cJ7_fill_53178 11 = .ok (.iload_n 2, 1) := by decide +kernel
theorem dJ7_fill_53178_12 : decode cJ7_fill_53178 12 = .ok (.iload_n 1, 1) := by decide +kernel
theorem dJ7_fill_53178_13 : decode cJ7_fill_53178 13 = .ok (.iastore, 1) := by decide +kernel
theorem dJ7_fill_53178_14 : decode cJ7_fill_53178 14 = .ok (.iinc 2 1, 3) := by decide +kernel
theorem dJ7_fill_53178_17 : decode cJ7_fill_53178 17 = .ok (.goto (-12), 3) := by decide +kernel
theorem dJ7_fill_53178_20 : decode cJ7_fill_53178 20 = .ok (.return_, 1) := by decide +kernel
theorem dL_law_0 : decode cL_law 0 = .ok (.new 7, 3) := by decide +kernel
theorem dL_law_3 : decode cL_law 3 = .ok (.dup, 1) := by decide +kernel
theorem dL_law_4 : decode cL_law 4 = .ok (.invokespecial 9, 3) := by decide +kernel
theorem dL_law_7 : decode cL_law 7 = .ok (.astore_n 1, 1) := by decide +kernel
theorem dL_law_8 : decode cL_law 8 = .ok (.new 10, 3) := by decide +kernel
theorem dL_law_11 : decode cL_law 11 = .ok (.dup, 1) := by decide +kernel
theorem dL_law_12 : decode cL_law 12 = .ok (.invokespecial 12, 3) := by decide +kernel
theorem dL_law_15 : decode cL_law 15 = .ok (.astore_n 2, 1) := by decide +kernel
theorem dL_law_16 : decode cL_law 16 = .ok (.iconst 0, 1) := by decide +kernel
theorem dL_law_17 : decode cL_law 17 = .ok (.istore_n 3, 1) := by decide +kernel
theorem dL_law_18 : decode cL_law 18 = .ok (.iload_n 3, 1) := by decide +kernel
theorem dL_law_19 : decode cL_law 19 = .ok (.aload_n 0, 1) := by decide +kernel
theorem dL_law_20 : decode cL_law 20 = .ok (.arraylength, 1) := by decide +kernel
theorem dL_law_21 : decode cL_law 21 = .ok (.bipush 6, 2) := by decide +kernel
theorem dL_law_23 : decode cL_law 23 = .ok (.isub, 1) := by decide +kernel
theorem dL_law_24 : decode cL_law 24 = .ok (.if_icmp .gt 1297, 3) := by decide +kernel
theorem dL_law_27 : decode cL_law 27 = .ok (.aload_n 0, 1) := by decide +kernel
theorem dL_law_28 : decode cL_law 28 = .ok (.iload_n 3, 1) := by decide +kernel
theorem dL_law_29 : decode cL_law 29 = .ok (.iaload, 1) := by decide +kernel
theorem dL_law_30 : decode cL_law 30 = .ok (.bipush 63, 2) := by decide +kernel
theorem dL_law_32 : decode cL_law 32 = .ok (.iand, 1) := by decide +kernel
theorem dL_law_33 : decode cL_law 33 = .ok (.tableswitch 1282 0 41 #[183, 216, 259, 292, 315, 378, 401, 434, 477, 500, 523, 556, 589, 622, 665, 688, 701, 724, 747, 760, 783, 806, 829, 852, 885, 928, 941, 974, 997, 1020, 1043, 1056, 1079, 1112, 1135, 1168, 1181, 1195, 1209, 1232, 1245, 1268], 183) := by decide +kernel
theorem dL_law_216 : decode cL_law 216 = .ok (.aload_n 1, 1) := by decide +kernel
theorem dL_law_217 : decode cL_law 217 = .ok (.aload_n 0, 1) := by decide +kernel
theorem dL_law_218 : decode cL_law 218 = .ok (.iload_n 3, 1) := by decide +kernel
theorem dL_law_219 : decode cL_law 219 = .ok (.iconst 1, 1) := by decide +kernel
theorem dL_law_220 : decode cL_law 220 = .ok (.iadd, 1) := by decide +kernel
theorem dL_law_221 : decode cL_law 221 = .ok (.iaload, 1) := by decide +kernel
theorem dL_law_222 : decode cL_law 222 = .ok (.aload_n 0, 1) := by decide +kernel
theorem dL_law_223 : decode cL_law 223 = .ok (.iload_n 3, 1) := by decide +kernel
theorem dL_law_224 : decode cL_law 224 = .ok (.iconst 2, 1) := by decide +kernel
theorem dL_law_225 : decode cL_law 225 = .ok (.iadd, 1) := by decide +kernel
theorem dL_law_226 : decode cL_law 226 = .ok (.iaload, 1) := by decide +kernel
theorem dL_law_227 : decode cL_law 227 = .ok (.invokevirtual 13, 3) := by decide +kernel
theorem dL_law_230 : decode cL_law 230 = .ok (.aload_n 2, 1) := by decide +kernel
theorem dL_law_231 : decode cL_law 231 = .ok (.aload_n 0, 1) := by decide +kernel
theorem dL_law_232 : decode cL_law 232 = .ok (.iload_n 3, 1) := by decide +kernel
theorem dL_law_233 : decode cL_law 233 = .ok (.iconst 1, 1) := by decide +kernel
theorem dL_law_234 : decode cL_law 234 = .ok (.iadd, 1) := by decide +kernel
theorem dL_law_235 : decode cL_law 235 = .ok (.iaload, 1) := by decide +kernel
theorem dL_law_236 : decode cL_law 236 = .ok (.aload_n 0, 1) := by decide +kernel
theorem dL_law_237 : decode cL_law 237 = .ok (.iload_n 3, 1) := by decide +kernel
theorem dL_law_238 : decode cL_law 238 = .ok (.iconst 2, 1) := by decide +kernel
theorem dL_law_239 : decode cL_law 239 = .ok (.iadd, 1) := by decide +kernel
theorem dL_law_240 : decode cL_law 240 = .ok (.iaload, 1) := by decide +kernel
theorem dL_law_241 : decode cL_law 241 = .ok (.invokevirtual 17, 3) := by decide +kernel
theorem dL_law_244 : decode cL_law 244 = .ok (.if_icmp .eq 1071, 3) := by decide +kernel
theorem dL_law_247 : decode cL_law 247 = .ok (.iconst 0, 1) := by decide +kernel
theorem dL_law_248 : decode cL_law 248 = .ok (.ireturn, 1) := by decide +kernel
theorem dL_law_249 : decode cL_law 249 = .ok (.aload_n 1, 1) := by decide +kernel
theorem dL_law_250 : decode cL_law 250 = .ok (.aload_n 0, 1) := by decide +kernel
theorem dL_law_251 : decode cL_law 251 = .ok (.iload_n 3, 1) := by decide +kernel
theorem dL_law_252 : decode cL_law 252 = .ok (.iconst 1, 1) := by decide +kernel
theorem dL_law_253 : decode cL_law 253 = .ok (.iadd, 1) := by decide +kernel
theorem dL_law_254 : decode cL_law 254 = .ok (.iaload, 1) := by decide +kernel
theorem dL_law_255 : decode cL_law 255 = .ok (.aload_n 0, 1) := by decide +kernel
theorem dL_law_256 : decode cL_law 256 = .ok (.iload_n 3, 1) := by decide +kernel
theorem dL_law_257 : decode cL_law 257 = .ok (.iconst 2, 1) := by decide +kernel
theorem dL_law_258 : decode cL_law 258 = .ok (.iadd, 1) := by decide +kernel
theorem dL_law_259 : decode cL_law 259 = .ok (.iaload, 1) := by decide +kernel
theorem dL_law_260 : decode cL_law 260 = .ok (.aload_n 0, 1) := by decide +kernel
theorem dL_law_261 : decode cL_law 261 = .ok (.iload_n 3, 1) := by decide +kernel
theorem dL_law_262 : decode cL_law 262 = .ok (.iconst 3, 1) := by decide +kernel
theorem dL_law_263 : decode cL_law 263 = .ok (.iadd, 1) := by decide +kernel
theorem dL_law_264 : decode cL_law 264 = .ok (.iaload, 1) := by decide +kernel
theorem dL_law_265 : decode cL_law 265 = .ok (.invokevirtual 18, 3) := by decide +kernel
theorem dL_law_268 : decode cL_law 268 = .ok (.aload_n 2, 1) := by decide +kernel
theorem dL_law_269 : decode cL_law 269 = .ok (.aload_n 0, 1) := by decide +kernel
theorem dL_law_270 : decode cL_law 270 = .ok (.iload_n 3, 1) := by decide +kernel
theorem dL_law_271 : decode cL_law 271 = .ok (.iconst 1, 1) := by decide +kernel
theorem dL_law_272 : decode cL_law 272 = .ok (.iadd, 1) := by decide +kernel
theorem dL_law_273 : decode cL_law 273 = .ok (.iaload, 1) := by decide +kernel
theorem dL_law_274 : decode cL_law 274 = .ok (.aload_n 0, 1) := by decide +kernel
theorem dL_law_275 : decode cL_law 275 = .ok (.iload_n 3, 1) := by decide +kernel
theorem dL_law_276 : decode cL_law 276 = .ok (.iconst 2, 1) := by decide +kernel
theorem dL_law_277 : decode cL_law 277 = .ok (.iadd, 1) := by decide +kernel
theorem dL_law_278 : decode cL_law 278 = .ok (.iaload, 1) := by decide +kernel
theorem dL_law_279 : decode cL_law 279 = .ok (.aload_n 0, 1) := by decide +kernel
theorem dL_law_280 : decode cL_law 280 = .ok (.iload_n 3, 1) := by decide +kernel
theorem dL_law_281 : decode cL_law 281 = .ok (.iconst 3, 1) := by decide +kernel
theorem dL_law_282 : decode cL_law 282 = .ok (.iadd, 1) := by decide +kernel
theorem dL_law_283 : decode cL_law 283 = .ok (.iaload, 1) := by decide +kernel
theorem dL_law_284 : decode cL_law 284 = .ok (.invokevirtual 22, 3) := by decide +kernel
theorem dL_law_287 : decode cL_law 287 = .ok (.if_icmp .eq 1028, 3) := by decide +kernel
theorem dL_law_290 : decode cL_law 290 = .ok (.iconst 0, 1) := by decide +kernel
theorem dL_law_291 : decode cL_law 291 = .ok (.ireturn, 1) := by decide +kernel
theorem dL_law_292 : decode cL_law 292 = .ok (.aload_n 1, 1) := by decide +kernel
theorem dL_law_293 : decode cL_law 293 = .ok (.aload_n 0, 1) := by decide +kernel
theorem dL_law_294 : decode cL_law 294 = .ok (.iload_n 3, 1) := by decide +kernel
theorem dL_law_295 : decode cL_law 295 = .ok (.iconst 1, 1) := by decide +kernel
theorem dL_law_296 : decode cL_law 296 = .ok (.iadd, 1) := by decide +kernel
theorem dL_law_297 : decode cL_law 297 = .ok (.iaload, 1) := by decide +kernel
theorem dL_law_298 : decode cL_law 298 = .ok (.aload_n 0, 1) := by decide +kernel
theorem dL_law_299 : decode cL_law 299 = .ok (.iload_n 3, 1) := by decide +kernel
theorem dL_law_300 : decode cL_law 300 = .ok (.iconst 2, 1) := by decide +kernel
theorem dL_law_301 : decode cL_law 301 = .ok (.iadd, 1) := by decide +kernel
theorem dL_law_302 : decode cL_law 302 = .ok (.iaload, 1) := by decide +kernel
theorem dL_law_303 : decode cL_law 303 = .ok (.invokevirtual 23, 3) := by decide +kernel
theorem dL_law_306 : decode cL_law 306 = .ok (.aload_n 2, 1) := by decide +kernel
theorem dL_law_307 : decode cL_law 307 = .ok (.aload_n 0, 1) := by decide +kernel
theorem dL_law_308 : decode cL_law 308 = .ok (.iload_n 3, 1) := by decide +kernel
theorem dL_law_309 : decode cL_law 309 = .ok (.iconst 1, 1) := by decide +kernel
theorem dL_law_310 : decode cL_law 310 = .ok (.iadd, 1) := by decide +kernel
theorem dL_law_311 : decode cL_law 311 = .ok (.iaload, 1) := by decide +kernel
theorem dL_law_312 : decode cL_law 312 = .ok (.aload_n 0, 1) := by decide +kernel
theorem dL_law_313 : decode cL_law 313 = .ok (.iload_n 3, 1) := by decide +kernel
theorem dL_law_314 : decode cL_law 314 = .ok (.iconst 2, 1) := by decide +kernel
theorem dL_law_315 : decode cL_law 315 = .ok (.iadd, 1) := by decide +kernel
theorem dL_law_316 : decode cL_law 316 = .ok (.iaload, 1) := by decide +kernel
theorem dL_law_317 : decode cL_law 317 = .ok (.invokevirtual 26, 3) := by decide +kernel
theorem dL_law_320 : decode cL_law 320 = .ok (.if_icmp .eq 995, 3) := by decide +kernel
theorem dL_law_323 : decode cL_law 323 = .ok (.iconst 0, 1) := by decide +kernel
theorem dL_law_324 : decode cL_law 324 = .ok (.ireturn, 1) := by decide +kernel
theorem dL_law_325 : decode cL_law 325 = .ok (.aload_n 1, 1) := by decide +kernel
theorem dL_law_326 : decode cL_law 326 = .ok (.aload_n 0, 1) := by decide +kernel
theorem dL_law_327 : decode cL_law 327 = .ok (.iload_n 3, 1) := by decide +kernel
theorem dL_law_328 : decode cL_law 328 = .ok (.iconst 1, 1) := by decide +kernel
theorem dL_law_329 : decode cL_law 329 = .ok (.iadd, 1) := by decide +kernel
theorem dL_law_330 : decode cL_law 330 = .ok (.iaload, 1) := by decide +kernel
theorem dL_law_331 : decode cL_law 331 = .ok (.invokevirtual 27, 3) := by decide +kernel
theorem dL_law_334 : decode cL_law 334 = .ok (.aload_n 2, 1) := by decide +kernel
theorem dL_law_335 : decode cL_law 335 = .ok (.aload_n 0, 1) := by decide +kernel
theorem dL_law_336 : decode cL_law 336 = .ok (.iload_n 3, 1) := by decide +kernel
theorem dL_law_337 : decode cL_law 337 = .ok (.iconst 1, 1) := by decide +kernel
theorem dL_law_338 : decode cL_law 338 = .ok (.iadd, 1) := by decide +kernel
theorem dL_law_339 : decode cL_law 339 = .ok (.iaload, 1) := by decide +kernel
theorem dL_law_340 : decode cL_law 340 = .ok (.invokevirtual 31, 3) := by decide +kernel
theorem dL_law_343 : decode cL_law 343 = .ok (.if_icmp .eq 972, 3) := by decide +kernel
theorem dL_law_346 : decode cL_law 346 = .ok (.iconst 0, 1) := by decide +kernel
theorem dL_law_347 : decode cL_law 347 = .ok (.ireturn, 1) := by decide +kernel
theorem dL_law_348 : decode cL_law 348 = .ok (.aload_n 1, 1) := by decide +kernel
theorem dL_law_349 : decode cL_law 349 = .ok (.aload_n 0, 1) := by decide +kernel
theorem dL_law_350 : decode cL_law 350 = .ok (.iload_n 3, 1) := by decide +kernel
theorem dL_law_351 : decode cL_law 351 = .ok (.iconst 1, 1) := by decide +kernel
theorem dL_law_352 : decode cL_law 352 = .ok (.iadd, 1) := by decide +kernel
theorem dL_law_353 : decode cL_law 353 = .ok (.iaload, 1) := by decide +kernel
theorem dL_law_354 : decode cL_law 354 = .ok (.aload_n 0, 1) := by decide +kernel
theorem dL_law_355 : decode cL_law 355 = .ok (.iload_n 3, 1) := by decide +kernel
theorem dL_law_356 : decode cL_law 356 = .ok (.iconst 2, 1) := by decide +kernel
theorem dL_law_357 : decode cL_law 357 = .ok (.iadd, 1) := by decide +kernel
theorem dL_law_358 : decode cL_law 358 = .ok (.iaload, 1) := by decide +kernel
theorem dL_law_359 : decode cL_law 359 = .ok (.aload_n 0, 1) := by decide +kernel
theorem dL_law_360 : decode cL_law 360 = .ok (.iload_n 3, 1) := by decide +kernel
theorem dL_law_361 : decode cL_law 361 = .ok (.iconst 3, 1) := by decide +kernel
theorem dL_law_362 : decode cL_law 362 = .ok (.iadd, 1) := by decide +kernel
theorem dL_law_363 : decode cL_law 363 = .ok (.iaload, 1) := by decide +kernel
theorem dL_law_364 : decode cL_law 364 = .ok (.aload_n 0, 1) := by decide +kernel
theorem dL_law_365 : decode cL_law 365 = .ok (.iload_n 3, 1) := by decide +kernel
theorem dL_law_366 : decode cL_law 366 = .ok (.iconst 4, 1) := by decide +kernel
theorem dL_law_367 : decode cL_law 367 = .ok (.iadd, 1) := by decide +kernel
theorem dL_law_368 : decode cL_law 368 = .ok (.iaload, 1) := by decide +kernel
theorem dL_law_369 : decode cL_law 369 = .ok (.aload_n 0, 1) := by decide +kernel
theorem dL_law_370 : decode cL_law 370 = .ok (.iload_n 3, 1) := by decide +kernel
theorem dL_law_371 : decode cL_law 371 = .ok (.iconst 5, 1) := by decide +kernel
theorem dL_law_372 : decode cL_law 372 = .ok (.iadd, 1) := by decide +kernel
theorem dL_law_373 : decode cL_law 373 = .ok (.iaload, 1) := by decide +kernel
theorem dL_law_374 : decode cL_law 374 = .ok (.invokevirtual 32, 3) := by decide +kernel
theorem dL_law_377 : decode cL_law 377 = .ok (.aload_n 2, 1) := by decide +kernel
theorem dL_law_378 : decode cL_law 378 = .ok (.aload_n 0, 1) := by decide +kernel
theorem dL_law_379 : decode cL_law 379 = .ok (.iload_n 3, 1) := by decide +kernel
theorem dL_law_380 : decode cL_law 380 = .ok (.iconst 1, 1) := by decide +kernel
theorem dL_law_381 : decode cL_law 381 = .ok (.iadd, 1) := by decide +kernel
theorem dL_law_382 : decode cL_law 382 = .ok (.iaload, 1) := by decide +kernel
theorem dL_law_383 : decode cL_law 383 = .ok (.aload_n 0, 1) := by decide +kernel
theorem dL_law_384 : decode cL_law 384 = .ok (.iload_n 3, 1) := by decide +kernel
theorem dL_law_385 : decode cL_law 385 = .ok (.iconst 2, 1) := by decide +kernel
theorem dL_law_386 : decode cL_law 386 = .ok (.iadd, 1) := by decide +kernel
theorem dL_law_387 : decode cL_law 387 = .ok (.iaload, 1) := by decide +kernel
theorem dL_law_388 : decode cL_law 388 = .ok (.aload_n 0, 1) := by decide +kernel
theorem dL_law_389 : decode cL_law 389 = .ok (.iload_n 3, 1) := by decide +kernel
theorem dL_law_390 : decode cL_law 390 = .ok (.iconst 3, 1) := by decide +kernel
theorem dL_law_391 : decode cL_law 391 = .ok (.iadd, 1) := by decide +kernel
theorem dL_law_392 : decode cL_law 392 = .ok (.iaload, 1) := by decide +kernel
theorem dL_law_393 : decode cL_law 393 = .ok (.aload_n 0, 1) := by decide +kernel
theorem dL_law_394 : decode cL_law 394 = .ok (.iload_n 3, 1) := by decide +kernel
theorem dL_law_395 : decode cL_law 395 = .ok (.iconst 4, 1) := by decide +kernel
theorem dL_law_396 : decode cL_law 396 = .ok (.iadd, 1) := by decide +kernel
theorem dL_law_397 : decode cL_law 397 = .ok (.iaload, 1) := by decide +kernel
theorem dL_law_398 : decode cL_law 398 = .ok (.aload_n 0, 1) := by decide +kernel
theorem dL_law_399 : decode cL_law 399 = .ok (.iload_n 3, 1) := by decide +kernel
theorem dL_law_400 : decode cL_law 400 = .ok (.iconst 5, 1) := by decide +kernel
theorem dL_law_401 : decode cL_law 401 = .ok (.iadd, 1) := by decide +kernel
theorem dL_law_402 : decode cL_law 402 = .ok (.iaload, 1) := by decide +kernel
theorem dL_law_403 : decode cL_law 403 = .ok (.invokevirtual 36, 3) := by decide +kernel
theorem dL_law_406 : decode cL_law 406 = .ok (.if_icmp .eq 909, 3) := by decide +kernel
theorem dL_law_409 : decode cL_law 409 = .ok (.iconst 0, 1) := by decide +kernel
theorem dL_law_410 : decode cL_law 410 = .ok (.ireturn, 1) := by decide +kernel
theorem dL_law_411 : decode cL_law 411 = .ok (.aload_n 1, 1) := by decide +kernel
theorem dL_law_412 : decode cL_law 412 = .ok (.aload_n 0, 1) := by decide +kernel
theorem dL_law_413 : decode cL_law 413 = .ok (.iload_n 3, 1) := by decide +kernel
theorem dL_law_414 : decode cL_law 414 = .ok (.iconst 1, 1) := by decide +kernel
theorem dL_law_415 : decode cL_law 415 = .ok (.iadd, 1) := by decide +kernel
theorem dL_law_416 : decode cL_law 416 = .ok (.iaload, 1) := by decide +kernel
theorem dL_law_417 : decode cL_law 417 = .ok (.invokevirtual 37, 3) := by decide +kernel
theorem dL_law_420 : decode cL_law 420 = .ok (.aload_n 2, 1) := by decide +kernel
theorem dL_law_421 : decode cL_law 421 = .ok (.aload_n 0, 1) := by decide +kernel
theorem dL_law_422 : decode cL_law 422 = .ok (.iload_n 3, 1) := by decide +kernel
theorem dL_law_423 : decode cL_law 423 = .ok (.iconst 1, 1) := by decide +kernel
theorem dL_law_424 : decode cL_law 424 = .ok (.iadd, 1) := by decide +kernel
theorem dL_law_425 : decode cL_law 425 = .ok (.iaload, 1) := by decide +kernel
theorem dL_law_426 : decode cL_law 426 = .ok (.invokevirtual 40, 3) := by decide +kernel
theorem dL_law_429 : decode cL_law 429 = .ok (.if_icmp .eq 886, 3) := by decide +kernel
theorem dL_law_432 : decode cL_law 432 = .ok (.iconst 0, 1) := by decide +kernel
theorem dL_law_433 : decode cL_law 433 = .ok (.ireturn, 1) := by decide +kernel
theorem dL_law_434 : decode cL_law 434 = .ok (.aload_n 1, 1) := by decide +kernel
theorem dL_law_435 : decode cL_law 435 = .ok (.aload_n 0, 1) := by decide +kernel
theorem dL_law_436 : decode cL_law 436 = .ok (.iload_n 3, 1) := by decide +kernel
theorem dL_law_437 : decode cL_law 437 = .ok (.iconst 1, 1) := by decide +kernel
theorem dL_law_438 : decode cL_law 438 = .ok (.iadd, 1) := by decide +kernel
theorem dL_law_439 : decode cL_law 439 = .ok (.iaload, 1) := by decide +kernel
theorem dL_law_440 : decode cL_law 440 = .ok (.aload_n 0, 1) := by decide +kernel
theorem dL_law_441 : decode cL_law 441 = .ok (.iload_n 3, 1) := by decide +kernel
theorem dL_law_442 : decode cL_law 442 = .ok (.iconst 2, 1) := by decide +kernel
theorem dL_law_443 : decode cL_law 443 = .ok (.iadd, 1) := by decide +kernel
theorem dL_law_444 : decode cL_law 444 = .ok (.iaload, 1) := by decide +kernel
theorem dL_law_445 : decode cL_law 445 = .ok (.invokevirtual 41, 3) := by decide +kernel
theorem dL_law_448 : decode cL_law 448 = .ok (.aload_n 2, 1) := by decide +kernel
theorem dL_law_449 : decode cL_law 449 = .ok (.aload_n 0, 1) := by decide +kernel
theorem dL_law_450 : decode cL_law 450 = .ok (.iload_n 3, 1) := by decide +kernel
theorem dL_law_451 : decode cL_law 451 = .ok (.iconst 1, 1) := by decide +kernel
theorem dL_law_452 : decode cL_law 452 = .ok (.iadd, 1) := by decide +kernel
theorem dL_law_453 : decode cL_law 453 = .ok (.iaload, 1) := by decide +kernel
theorem dL_law_454 : decode cL_law 454 = .ok (.aload_n 0, 1) := by decide +kernel
theorem dL_law_455 : decode cL_law 455 = .ok (.iload_n 3, 1) := by decide +kernel
theorem dL_law_456 : decode cL_law 456 = .ok (.iconst 2, 1) := by decide +kernel
theorem dL_law_457 : decode cL_law 457 = .ok (.iadd, 1) := by decide +kernel
theorem dL_law_458 : decode cL_law 458 = .ok (.iaload, 1) := by decide +kernel
theorem dL_law_459 : decode cL_law 459 = .ok (.invokevirtual 44, 3) := by decide +kernel
theorem dL_law_462 : decode cL_law 462 = .ok (.if_icmp .eq 853, 3) := by decide +kernel
theorem dL_law_465 : decode cL_law 465 = .ok (.iconst 0, 1) := by decide +kernel
theorem dL_law_466 : decode cL_law 466 = .ok (.ireturn, 1) := by decide +kernel
theorem dL_law_467 : decode cL_law 467 = .ok (.aload_n 1, 1) := by decide +kernel
theorem dL_law_468 : decode cL_law 468 = .ok (.aload_n 0, 1) := by decide +kernel
theorem dL_law_469 : decode cL_law 469 = .ok (.iload_n 3, 1) := by decide +kernel
theorem dL_law_470 : decode cL_law 470 = .ok (.iconst 1, 1) := by decide +kernel
theorem dL_law_471 : decode cL_law 471 = .ok (.iadd, 1) := by decide +kernel
theorem dL_law_472 : decode cL_law 472 = .ok (.iaload, 1) := by decide +kernel
theorem dL_law_473 : decode cL_law 473 = .ok (.aload_n 0, 1) := by decide +kernel
theorem dL_law_474 : decode cL_law 474 = .ok (.iload_n 3, 1) := by decide +kernel
theorem dL_law_475 : decode cL_law 475 = .ok (.iconst 2, 1) := by decide +kernel
theorem dL_law_476 : decode cL_law 476 = .ok (.iadd, 1) := by decide +kernel
theorem dL_law_477 : decode cL_law 477 = .ok (.iaload, 1) := by decide +kernel
theorem dL_law_478 : decode cL_law 478 = .ok (.aload_n 0, 1) := by decide +kernel
theorem dL_law_479 : decode cL_law 479 = .ok (.iload_n 3, 1) := by decide +kernel
theorem dL_law_480 : decode cL_law 480 = .ok (.iconst 3, 1) := by decide +kernel
theorem dL_law_481 : decode cL_law 481 = .ok (.iadd, 1) := by decide +kernel
theorem dL_law_482 : decode cL_law 482 = .ok (.iaload, 1) := by decide +kernel
theorem dL_law_483 : decode cL_law 483 = .ok (.invokevirtual 45, 3) := by decide +kernel
theorem dL_law_486 : decode cL_law 486 = .ok (.aload_n 2, 1) := by decide +kernel
theorem dL_law_487 : decode cL_law 487 = .ok (.aload_n 0, 1) := by decide +kernel
theorem dL_law_488 : decode cL_law 488 = .ok (.iload_n 3, 1) := by decide +kernel
theorem dL_law_489 : decode cL_law 489 = .ok (.iconst 1, 1) := by decide +kernel
theorem dL_law_490 : decode cL_law 490 = .ok (.iadd, 1) := by decide +kernel
theorem dL_law_491 : decode cL_law 491 = .ok (.iaload, 1) := by decide +kernel
theorem dL_law_492 : decode cL_law 492 = .ok (.aload_n 0, 1) := by decide +kernel
theorem dL_law_493 : decode cL_law 493 = .ok (.iload_n 3, 1) := by decide +kernel
theorem dL_law_494 : decode cL_law 494 = .ok (.iconst 2, 1) := by decide +kernel
theorem dL_law_495 : decode cL_law 495 = .ok (.iadd, 1) := by decide +kernel
theorem dL_law_496 : decode cL_law 496 = .ok (.iaload, 1) := by decide +kernel
theorem dL_law_497 : decode cL_law 497 = .ok (.aload_n 0, 1) := by decide +kernel
theorem dL_law_498 : decode cL_law 498 = .ok (.iload_n 3, 1) := by decide +kernel
theorem dL_law_499 : decode cL_law 499 = .ok (.iconst 3, 1) := by decide +kernel
theorem dL_law_500 : decode cL_law 500 = .ok (.iadd, 1) := by decide +kernel
theorem dL_law_501 : decode cL_law 501 = .ok (.iaload, 1) := by decide +kernel
theorem dL_law_502 : decode cL_law 502 = .ok (.invokevirtual 48, 3) := by decide +kernel
theorem dL_law_505 : decode cL_law 505 = .ok (.if_icmp .eq 810, 3) := by decide +kernel
theorem dL_law_508 : decode cL_law 508 = .ok (.iconst 0, 1) := by decide +kernel
theorem dL_law_509 : decode cL_law 509 = .ok (.ireturn, 1) := by decide +kernel
theorem dL_law_510 : decode cL_law 510 = .ok (.aload_n 1, 1) := by decide +kernel
theorem dL_law_511 : decode cL_law 511 = .ok (.aload_n 0, 1) := by decide +kernel
theorem dL_law_512 : decode cL_law 512 = .ok (.iload_n 3, 1) := by decide +kernel
theorem dL_law_513 : decode cL_law 513 = .ok (.iconst 1, 1) := by decide +kernel
theorem dL_law_514 : decode cL_law 514 = .ok (.iadd, 1) := by decide +kernel
theorem dL_law_515 : decode cL_law 515 = .ok (.iaload, 1) := by decide +kernel
theorem dL_law_516 : decode cL_law 516 = .ok (.invokevirtual 49, 3) := by decide +kernel
theorem dL_law_519 : decode cL_law 519 = .ok (.aload_n 2, 1) := by decide +kernel
theorem dL_law_520 : decode cL_law 520 = .ok (.aload_n 0, 1) := by decide +kernel
theorem dL_law_521 : decode cL_law 521 = .ok (.iload_n 3, 1) := by decide +kernel
theorem dL_law_522 : decode cL_law 522 = .ok (.iconst 1, 1) := by decide +kernel
theorem dL_law_523 : decode cL_law 523 = .ok (.iadd, 1) := by decide +kernel
theorem dL_law_524 : decode cL_law 524 = .ok (.iaload, 1) := by decide +kernel
theorem dL_law_525 : decode cL_law 525 = .ok (.invokevirtual 52, 3) := by decide +kernel
theorem dL_law_528 : decode cL_law 528 = .ok (.if_icmp .eq 787, 3) := by decide +kernel
theorem dL_law_531 : decode cL_law 531 = .ok (.iconst 0, 1) := by decide +kernel
theorem dL_law_532 : decode cL_law 532 = .ok (.ireturn, 1) := by decide +kernel
theorem dL_law_533 : decode cL_law 533 = .ok (.aload_n 1, 1) := by decide +kernel
theorem dL_law_534 : decode cL_law 534 = .ok (.aload_n 0, 1) := by decide +kernel
theorem dL_law_535 : decode cL_law 535 = .ok (.iload_n 3, 1) := by decide +kernel
theorem dL_law_536 : decode cL_law 536 = .ok (.iconst 1, 1) := by decide +kernel
theorem dL_law_537 : decode cL_law 537 = .ok (.iadd, 1) := by decide +kernel
theorem dL_law_538 : decode cL_law 538 = .ok (.iaload, 1) := by decide +kernel
theorem dL_law_539 : decode cL_law 539 = .ok (.invokevirtual 53, 3) := by decide +kernel
theorem dL_law_542 : decode cL_law 542 = .ok (.aload_n 2, 1) := by decide +kernel
theorem dL_law_543 : decode cL_law 543 = .ok (.aload_n 0, 1) := by decide +kernel
theorem dL_law_544 : decode cL_law 544 = .ok (.iload_n 3, 1) := by decide +kernel
theorem dL_law_545 : decode cL_law 545 = .ok (.iconst 1, 1) := by decide +kernel
theorem dL_law_546 : decode cL_law 546 = .ok (.iadd, 1) := by decide +kernel
theorem dL_law_547 : decode cL_law 547 = .ok (.iaload, 1) := by decide +kernel
theorem dL_law_548 : decode cL_law 548 = .ok (.invokevirtual 56, 3) := by decide +kernel
theorem dL_law_551 : decode cL_law 551 = .ok (.if_icmp .eq 764, 3) := by decide +kernel
theorem dL_law_554 : decode cL_law 554 = .ok (.iconst 0, 1) := by decide +kernel
theorem dL_law_555 : decode cL_law 555 = .ok (.ireturn, 1) := by decide +kernel
theorem dL_law_556 : decode cL_law 556 = .ok (.aload_n 1, 1) := by decide +kernel
theorem dL_law_557 : decode cL_law 557 = .ok (.aload_n 0, 1) := by decide +kernel
theorem dL_law_558 : decode cL_law 558 = .ok (.iload_n 3, 1) := by decide +kernel
theorem dL_law_559 : decode cL_law 559 = .ok (.iconst 1, 1) := by decide +kernel
theorem dL_law_560 : decode cL_law 560 = .ok (.iadd, 1) := by decide +kernel
theorem dL_law_561 : decode cL_law 561 = .ok (.iaload, 1) := by decide +kernel
theorem dL_law_562 : decode cL_law 562 = .ok (.aload_n 0, 1) := by decide +kernel
theorem dL_law_563 : decode cL_law 563 = .ok (.iload_n 3, 1) := by decide +kernel
theorem dL_law_564 : decode cL_law 564 = .ok (.iconst 2, 1) := by decide +kernel
theorem dL_law_565 : decode cL_law 565 = .ok (.iadd, 1) := by decide +kernel
theorem dL_law_566 : decode cL_law 566 = .ok (.iaload, 1) := by decide +kernel
theorem dL_law_567 : decode cL_law 567 = .ok (.invokevirtual 57, 3) := by decide +kernel
theorem dL_law_570 : decode cL_law 570 = .ok (.aload_n 2, 1) := by decide +kernel
theorem dL_law_571 : decode cL_law 571 = .ok (.aload_n 0, 1) := by decide +kernel
theorem dL_law_572 : decode cL_law 572 = .ok (.iload_n 3, 1) := by decide +kernel
theorem dL_law_573 : decode cL_law 573 = .ok (.iconst 1, 1) := by decide +kernel
theorem dL_law_574 : decode cL_law 574 = .ok (.iadd, 1) := by decide +kernel
theorem dL_law_575 : decode cL_law 575 = .ok (.iaload, 1) := by decide +kernel
theorem dL_law_576 : decode cL_law 576 = .ok (.aload_n 0, 1) := by decide +kernel
theorem dL_law_577 : decode cL_law 577 = .ok (.iload_n 3, 1) := by decide +kernel
theorem dL_law_578 : decode cL_law 578 = .ok (.iconst 2, 1) := by decide +kernel
theorem dL_law_579 : decode cL_law 579 = .ok (.iadd, 1) := by decide +kernel
theorem dL_law_580 : decode cL_law 580 = .ok (.iaload, 1) := by decide +kernel
theorem dL_law_581 : decode cL_law 581 = .ok (.invokevirtual 60, 3) := by decide +kernel
theorem dL_law_584 : decode cL_law 584 = .ok (.if_icmp .eq 731, 3) := by decide +kernel
theorem dL_law_587 : decode cL_law 587 = .ok (.iconst 0, 1) := by decide +kernel
theorem dL_law_588 : decode cL_law 588 = .ok (.ireturn, 1) := by decide +kernel
theorem dL_law_589 : decode cL_law 589 = .ok (.aload_n 1, 1) := by decide +kernel
theorem dL_law_590 : decode cL_law 590 = .ok (.aload_n 0, 1) := by decide +kernel
theorem dL_law_591 : decode cL_law 591 = .ok (.iload_n 3, 1) := by decide +kernel
theorem dL_law_592 : decode cL_law 592 = .ok (.iconst 1, 1) := by decide +kernel
theorem dL_law_593 : decode cL_law 593 = .ok (.iadd, 1) := by decide +kernel
theorem dL_law_594 : decode cL_law 594 = .ok (.iaload, 1) := by decide +kernel
theorem dL_law_595 : decode cL_law 595 = .ok (.aload_n 0, 1) := by decide +kernel
theorem dL_law_596 : decode cL_law 596 = .ok (.iload_n 3, 1) := by decide +kernel
theorem dL_law_597 : decode cL_law 597 = .ok (.iconst 2, 1) := by decide +kernel
theorem dL_law_598 : decode cL_law 598 = .ok (.iadd, 1) := by decide +kernel
theorem dL_law_599 : decode cL_law 599 = .ok (.iaload, 1) := by decide +kernel
theorem dL_law_600 : decode cL_law 600 = .ok (.invokevirtual 61, 3) := by decide +kernel
theorem dL_law_603 : decode cL_law 603 = .ok (.aload_n 2, 1) := by decide +kernel
theorem dL_law_604 : decode cL_law 604 = .ok (.aload_n 0, 1) := by decide +kernel
theorem dL_law_605 : decode cL_law 605 = .ok (.iload_n 3, 1) := by decide +kernel
theorem dL_law_606 : decode cL_law 606 = .ok (.iconst 1, 1) := by decide +kernel
theorem dL_law_607 : decode cL_law 607 = .ok (.iadd, 1) := by decide +kernel
theorem dL_law_608 : decode cL_law 608 = .ok (.iaload, 1) := by decide +kernel
theorem dL_law_609 : decode cL_law 609 = .ok (.aload_n 0, 1) := by decide +kernel
theorem dL_law_610 : decode cL_law 610 = .ok (.iload_n 3, 1) := by decide +kernel
theorem dL_law_611 : decode cL_law 611 = .ok (.iconst 2, 1) := by decide +kernel
theorem dL_law_612 : decode cL_law 612 = .ok (.iadd, 1) := by decide +kernel
theorem dL_law_613 : decode cL_law 613 = .ok (.iaload, 1) := by decide +kernel
theorem dL_law_614 : decode cL_law 614 = .ok (.invokevirtual 64, 3) := by decide +kernel
theorem dL_law_617 : decode cL_law 617 = .ok (.if_icmp .eq 698, 3) := by decide +kernel
theorem dL_law_620 : decode cL_law 620 = .ok (.iconst 0, 1) := by decide +kernel
theorem dL_law_621 : decode cL_law 621 = .ok (.ireturn, 1) := by decide +kernel
theorem dL_law_622 : decode cL_law 622 = .ok (.aload_n 1, 1) := by decide +kernel
theorem dL_law_623 : decode cL_law 623 = .ok (.aload_n 0, 1) := by decide +kernel
theorem dL_law_624 : decode cL_law 624 = .ok (.iload_n 3, 1) := by decide +kernel
theorem dL_law_625 : decode cL_law 625 = .ok (.iconst 1, 1) := by decide +kernel
theorem dL_law_626 : decode cL_law 626 = .ok (.iadd, 1) := by decide +kernel
theorem dL_law_627 : decode cL_law 627 = .ok (.iaload, 1) := by decide +kernel
theorem dL_law_628 : decode cL_law 628 = .ok (.aload_n 0, 1) := by decide +kernel
theorem dL_law_629 : decode cL_law 629 = .ok (.iload_n 3, 1) := by decide +kernel
theorem dL_law_630 : decode cL_law 630 = .ok (.iconst 2, 1) := by decide +kernel
theorem dL_law_631 : decode cL_law 631 = .ok (.iadd, 1) := by decide +kernel
theorem dL_law_632 : decode cL_law 632 = .ok (.iaload, 1) := by decide +kernel
theorem dL_law_633 : decode cL_law 633 = .ok (.invokevirtual 65, 3) := by decide +kernel
theorem dL_law_636 : decode cL_law 636 = .ok (.aload_n 2, 1) := by decide +kernel
theorem dL_law_637 : decode cL_law 637 = .ok (.aload_n 0, 1) := by decide +kernel
theorem dL_law_638 : decode cL_law 638 = .ok (.iload_n 3, 1) := by decide +kernel
theorem dL_law_639 : decode cL_law 639 = .ok (.iconst 1, 1) := by decide +kernel
theorem dL_law_640 : decode cL_law 640 = .ok (.iadd, 1) := by decide +kernel
theorem dL_law_641 : decode cL_law 641 = .ok (.iaload, 1) := by decide +kernel
theorem dL_law_642 : decode cL_law 642 = .ok (.aload_n 0, 1) := by decide +kernel
theorem dL_law_643 : decode cL_law 643 = .ok (.iload_n 3, 1) := by decide +kernel
theorem dL_law_644 : decode cL_law 644 = .ok (.iconst 2, 1) := by decide +kernel
theorem dL_law_645 : decode cL_law 645 = .ok (.iadd, 1) := by decide +kernel
theorem dL_law_646 : decode cL_law 646 = .ok (.iaload, 1) := by decide +kernel
theorem dL_law_647 : decode cL_law 647 = .ok (.invokevirtual 68, 3) := by decide +kernel
theorem dL_law_650 : decode cL_law 650 = .ok (.if_icmp .eq 665, 3) := by decide +kernel
theorem dL_law_653 : decode cL_law 653 = .ok (.iconst 0, 1) := by decide +kernel
theorem dL_law_654 : decode cL_law 654 = .ok (.ireturn, 1) := by decide +kernel
theorem dL_law_655 : decode cL_law 655 = .ok (.aload_n 1, 1) := by decide +kernel
theorem dL_law_656 : decode cL_law 656 = .ok (.aload_n 0, 1) := by decide +kernel
theorem dL_law_657 : decode cL_law 657 = .ok (.iload_n 3, 1) := by decide +kernel
theorem dL_law_658 : decode cL_law 658 = .ok (.iconst 1, 1) := by decide +kernel
theorem dL_law_659 : decode cL_law 659 = .ok (.iadd, 1) := by decide +kernel
theorem dL_law_660 : decode cL_law 660 = .ok (.iaload, 1) := by decide +kernel
theorem dL_law_661 : decode cL_law 661 = .ok (.aload_n 0, 1) := by decide +kernel
theorem dL_law_662 : decode cL_law 662 = .ok (.iload_n 3, 1) := by decide +kernel
theorem dL_law_663 : decode cL_law 663 = .ok (.iconst 2, 1) := by decide +kernel
theorem dL_law_664 : decode cL_law 664 = .ok (.iadd, 1) := by decide +kernel
theorem dL_law_665 : decode cL_law 665 = .ok (.iaload, 1) := by decide +kernel
theorem dL_law_666 : decode cL_law 666 = .ok (.aload_n 0, 1) := by decide +kernel
theorem dL_law_667 : decode cL_law 667 = .ok (.iload_n 3, 1) := by decide +kernel
theorem dL_law_668 : decode cL_law 668 = .ok (.iconst 3, 1) := by decide +kernel
theorem dL_law_669 : decode cL_law 669 = .ok (.iadd, 1) := by decide +kernel
theorem dL_law_670 : decode cL_law 670 = .ok (.iaload, 1) := by decide +kernel
theorem dL_law_671 : decode cL_law 671 = .ok (.invokevirtual 69, 3) := by decide +kernel
theorem dL_law_674 : decode cL_law 674 = .ok (.aload_n 2, 1) := by decide +kernel
theorem dL_law_675 : decode cL_law 675 = .ok (.aload_n 0, 1) := by decide +kernel
theorem dL_law_676 : decode cL_law 676 = .ok (.iload_n 3, 1) := by decide +kernel
theorem dL_law_677 : decode cL_law 677 = .ok (.iconst 1, 1) := by decide +kernel
theorem dL_law_678 : decode cL_law 678 = .ok (.iadd, 1) := by decide +kernel
theorem dL_law_679 : decode cL_law 679 = .ok (.iaload, 1) := by decide +kernel
theorem dL_law_680 : decode cL_law 680 = .ok (.aload_n 0, 1) := by decide +kernel
theorem dL_law_681 : decode cL_law 681 = .ok (.iload_n 3, 1) := by decide +kernel
theorem dL_law_682 : decode cL_law 682 = .ok (.iconst 2, 1) := by decide +kernel
theorem dL_law_683 : decode cL_law 683 = .ok (.iadd, 1) := by decide +kernel
theorem dL_law_684 : decode cL_law 684 = .ok (.iaload, 1) := by decide +kernel
theorem dL_law_685 : decode cL_law 685 = .ok (.aload_n 0, 1) := by decide +kernel
theorem dL_law_686 : decode cL_law 686 = .ok (.iload_n 3, 1) := by decide +kernel
theorem dL_law_687 : decode cL_law 687 = .ok (.iconst 3, 1) := by decide +kernel
theorem dL_law_688 : decode cL_law 688 = .ok (.iadd, 1) := by decide +kernel
theorem dL_law_689 : decode cL_law 689 = .ok (.iaload, 1) := by decide +kernel
theorem dL_law_690 : decode cL_law 690 = .ok (.invokevirtual 72, 3) := by decide +kernel
theorem dL_law_693 : decode cL_law 693 = .ok (.if_icmp .eq 622, 3) := by decide +kernel
theorem dL_law_696 : decode cL_law 696 = .ok (.iconst 0, 1) := by decide +kernel
theorem dL_law_697 : decode cL_law 697 = .ok (.ireturn, 1) := by decide +kernel
theorem dL_law_698 : decode cL_law 698 = .ok (.aload_n 1, 1) := by decide +kernel
theorem dL_law_699 : decode cL_law 699 = .ok (.aload_n 0, 1) := by decide +kernel
theorem dL_law_700 : decode cL_law 700 = .ok (.iload_n 3, 1) := by decide +kernel
theorem dL_law_701 : decode cL_law 701 = .ok (.iconst 1, 1) := by decide +kernel
theorem dL_law_702 : decode cL_law 702 = .ok (.iadd, 1) := by decide +kernel
theorem dL_law_703 : decode cL_law 703 = .ok (.iaload, 1) := by decide +kernel
theorem dL_law_704 : decode cL_law 704 = .ok (.invokevirtual 73, 3) := by decide +kernel
theorem dL_law_707 : decode cL_law 707 = .ok (.aload_n 2, 1) := by decide +kernel
theorem dL_law_708 : decode cL_law 708 = .ok (.aload_n 0, 1) := by decide +kernel
theorem dL_law_709 : decode cL_law 709 = .ok (.iload_n 3, 1) := by decide +kernel
theorem dL_law_710 : decode cL_law 710 = .ok (.iconst 1, 1) := by decide +kernel
theorem dL_law_711 : decode cL_law 711 = .ok (.iadd, 1) := by decide +kernel
theorem dL_law_712 : decode cL_law 712 = .ok (.iaload, 1) := by decide +kernel
theorem dL_law_713 : decode cL_law 713 = .ok (.invokevirtual 76, 3) := by decide +kernel
theorem dL_law_716 : decode cL_law 716 = .ok (.if_icmp .eq 599, 3) := by decide +kernel
theorem dL_law_719 : decode cL_law 719 = .ok (.iconst 0, 1) := by decide +kernel
theorem dL_law_720 : decode cL_law 720 = .ok (.ireturn, 1) := by decide +kernel
theorem dL_law_721 : decode cL_law 721 = .ok (.aload_n 1, 1) := by decide +kernel
theorem dL_law_722 : decode cL_law 722 = .ok (.invokevirtual 77, 3) := by decide +kernel
theorem dL_law_725 : decode cL_law 725 = .ok (.aload_n 2, 1) := by decide +kernel
theorem dL_law_726 : decode cL_law 726 = .ok (.invokevirtual 81, 3) := by decide +kernel
theorem dL_law_729 : decode cL_law 729 = .ok (.if_icmp .eq 586, 3) := by decide +kernel
theorem dL_law_732 : decode cL_law 732 = .ok (.iconst 0, 1) := by decide +kernel
theorem dL_law_733 : decode cL_law 733 = .ok (.ireturn, 1) := by decide +kernel
theorem dL_law_734 : decode cL_law 734 = .ok (.aload_n 1, 1) := by decide +kernel
theorem dL_law_735 : decode cL_law 735 = .ok (.aload_n 0, 1) := by decide +kernel
theorem dL_law_736 : decode cL_law 736 = .ok (.iload_n 3, 1) := by decide +kernel
theorem dL_law_737 : decode cL_law 737 = .ok (.iconst 1, 1) := by decide +kernel
theorem dL_law_738 : decode cL_law 738 = .ok (.iadd, 1) := by decide +kernel
theorem dL_law_739 : decode cL_law 739 = .ok (.iaload, 1) := by decide +kernel
theorem dL_law_740 : decode cL_law 740 = .ok (.invokevirtual 82, 3) := by decide +kernel
theorem dL_law_743 : decode cL_law 743 = .ok (.aload_n 2, 1) := by decide +kernel
theorem dL_law_744 : decode cL_law 744 = .ok (.aload_n 0, 1) := by decide +kernel
theorem dL_law_745 : decode cL_law 745 = .ok (.iload_n 3, 1) := by decide +kernel
theorem dL_law_746 : decode cL_law 746 = .ok (.iconst 1, 1) := by decide +kernel
theorem dL_law_747 : decode cL_law 747 = .ok (.iadd, 1) := by decide +kernel
theorem dL_law_748 : decode cL_law 748 = .ok (.iaload, 1) := by decide +kernel
theorem dL_law_749 : decode cL_law 749 = .ok (.invokevirtual 85, 3) := by decide +kernel
theorem dL_law_752 : decode cL_law 752 = .ok (.if_icmp .eq 563, 3) := by decide +kernel
theorem dL_law_755 : decode cL_law 755 = .ok (.iconst 0, 1) := by decide +kernel
theorem dL_law_756 : decode cL_law 756 = .ok (.ireturn, 1) := by decide +kernel
theorem dL_law_757 : decode cL_law 757 = .ok (.aload_n 1, 1) := by decide +kernel
theorem dL_law_758 : decode cL_law 758 = .ok (.aload_n 0, 1) := by decide +kernel
theorem dL_law_759 : decode cL_law 759 = .ok (.iload_n 3, 1) := by decide +kernel
theorem dL_law_760 : decode cL_law 760 = .ok (.iconst 1, 1) := by decide +kernel
theorem dL_law_761 : decode cL_law 761 = .ok (.iadd, 1) := by decide +kernel
theorem dL_law_762 : decode cL_law 762 = .ok (.iaload, 1) := by decide +kernel
theorem dL_law_763 : decode cL_law 763 = .ok (.invokevirtual 86, 3) := by decide +kernel
theorem dL_law_766 : decode cL_law 766 = .ok (.aload_n 2, 1) := by decide +kernel
theorem dL_law_767 : decode cL_law 767 = .ok (.aload_n 0, 1) := by decide +kernel
theorem dL_law_768 : decode cL_law 768 = .ok (.iload_n 3, 1) := by decide +kernel
theorem dL_law_769 : decode cL_law 769 = .ok (.iconst 1, 1) := by decide +kernel
theorem dL_law_770 : decode cL_law 770 = .ok (.iadd, 1) := by decide +kernel
theorem dL_law_771 : decode cL_law 771 = .ok (.iaload, 1) := by decide +kernel
theorem dL_law_772 : decode cL_law 772 = .ok (.invokevirtual 89, 3) := by decide +kernel
theorem dL_law_775 : decode cL_law 775 = .ok (.if_icmp .eq 540, 3) := by decide +kernel
theorem dL_law_778 : decode cL_law 778 = .ok (.iconst 0, 1) := by decide +kernel
theorem dL_law_779 : decode cL_law 779 = .ok (.ireturn, 1) := by decide +kernel
theorem dL_law_780 : decode cL_law 780 = .ok (.aload_n 1, 1) := by decide +kernel
theorem dL_law_781 : decode cL_law 781 = .ok (.invokevirtual 90, 3) := by decide +kernel
theorem dL_law_784 : decode cL_law 784 = .ok (.aload_n 2, 1) := by decide +kernel
theorem dL_law_785 : decode cL_law 785 = .ok (.invokevirtual 93, 3) := by decide +kernel
theorem dL_law_788 : decode cL_law 788 = .ok (.if_icmp .eq 527, 3) := by decide +kernel
theorem dL_law_791 : decode cL_law 791 = .ok (.iconst 0, 1) := by decide +kernel
theorem dL_law_792 : decode cL_law 792 = .ok (.ireturn, 1) := by decide +kernel
theorem dL_law_793 : decode cL_law 793 = .ok (.aload_n 1, 1) := by decide +kernel
theorem dL_law_794 : decode cL_law 794 = .ok (.aload_n 0, 1) := by decide +kernel
theorem dL_law_795 : decode cL_law 795 = .ok (.iload_n 3, 1) := by decide +kernel
theorem dL_law_796 : decode cL_law 796 = .ok (.iconst 1, 1) := by decide +kernel
theorem dL_law_797 : decode cL_law 797 = .ok (.iadd, 1) := by decide +kernel
theorem dL_law_798 : decode cL_law 798 = .ok (.iaload, 1) := by decide +kernel
theorem dL_law_799 : decode cL_law 799 = .ok (.invokevirtual 94, 3) := by decide +kernel
theorem dL_law_802 : decode cL_law 802 = .ok (.aload_n 2, 1) := by decide +kernel
theorem dL_law_803 : decode cL_law 803 = .ok (.aload_n 0, 1) := by decide +kernel
theorem dL_law_804 : decode cL_law 804 = .ok (.iload_n 3, 1) := by decide +kernel
theorem dL_law_805 : decode cL_law 805 = .ok (.iconst 1, 1) := by decide +kernel
theorem dL_law_806 : decode cL_law 806 = .ok (.iadd, 1) := by decide +kernel
theorem dL_law_807 : decode cL_law 807 = .ok (.iaload, 1) := by decide +kernel
theorem dL_law_808 : decode cL_law 808 = .ok (.invokevirtual 97, 3) := by decide +kernel
theorem dL_law_811 : decode cL_law 811 = .ok (.if_icmp .eq 504, 3) := by decide +kernel
theorem dL_law_814 : decode cL_law 814 = .ok (.iconst 0, 1) := by decide +kernel
theorem dL_law_815 : decode cL_law 815 = .ok (.ireturn, 1) := by decide +kernel
theorem dL_law_816 : decode cL_law 816 = .ok (.aload_n 1, 1) := by decide +kernel
theorem dL_law_817 : decode cL_law 817 = .ok (.aload_n 0, 1) := by decide +kernel
theorem dL_law_818 : decode cL_law 818 = .ok (.iload_n 3, 1) := by decide +kernel
theorem dL_law_819 : decode cL_law 819 = .ok (.iconst 1, 1) := by decide +kernel
theorem dL_law_820 : decode cL_law 820 = .ok (.iadd, 1) := by decide +kernel
theorem dL_law_821 : decode cL_law 821 = .ok (.iaload, 1) := by decide +kernel
theorem dL_law_822 : decode cL_law 822 = .ok (.invokevirtual 98, 3) := by decide +kernel
theorem dL_law_825 : decode cL_law 825 = .ok (.aload_n 2, 1) := by decide +kernel
theorem dL_law_826 : decode cL_law 826 = .ok (.aload_n 0, 1) := by decide +kernel
theorem dL_law_827 : decode cL_law 827 = .ok (.iload_n 3, 1) := by decide +kernel
theorem dL_law_828 : decode cL_law 828 = .ok (.iconst 1, 1) := by decide +kernel
theorem dL_law_829 : decode cL_law 829 = .ok (.iadd, 1) := by decide +kernel
theorem dL_law_830 : decode cL_law 830 = .ok (.iaload, 1) := by decide +kernel
theorem dL_law_831 : decode cL_law 831 = .ok (.invokevirtual 101, 3) := by decide +kernel
theorem dL_law_834 : decode cL_law 834 = .ok (.if_icmp .eq 481, 3) := by decide +kernel
theorem dL_law_837 : decode cL_law 837 = .ok (.iconst 0, 1) := by decide +kernel
theorem dL_law_838 : decode cL_law 838 = .ok (.ireturn, 1) := by decide +kernel
theorem dL_law_839 : decode cL_law 839 = .ok (.aload_n 1, 1) := by decide +kernel
theorem dL_law_840 : decode cL_law 840 = .ok (.aload_n 0, 1) := by decide +kernel
theorem dL_law_841 : decode cL_law 841 = .ok (.iload_n 3, 1) := by decide +kernel
theorem dL_law_842 : decode cL_law 842 = .ok (.iconst 1, 1) := by decide +kernel
theorem dL_law_843 : decode cL_law 843 = .ok (.iadd, 1) := by decide +kernel
theorem dL_law_844 : decode cL_law 844 = .ok (.iaload, 1) := by decide +kernel
theorem dL_law_845 : decode cL_law 845 = .ok (.invokevirtual 102, 3) := by decide +kernel
theorem dL_law_848 : decode cL_law 848 = .ok (.aload_n 2, 1) := by decide +kernel
theorem dL_law_849 : decode cL_law 849 = .ok (.aload_n 0, 1) := by decide +kernel
theorem dL_law_850 : decode cL_law 850 = .ok (.iload_n 3, 1) := by decide +kernel
theorem dL_law_851 : decode cL_law 851 = .ok (.iconst 1, 1) := by decide +kernel
theorem dL_law_852 : decode cL_law 852 = .ok (.iadd, 1) := by decide +kernel
theorem dL_law_853 : decode cL_law 853 = .ok (.iaload, 1) := by decide +kernel
theorem dL_law_854 : decode cL_law 854 = .ok (.invokevirtual 105, 3) := by decide +kernel
theorem dL_law_857 : decode cL_law 857 = .ok (.if_icmp .eq 458, 3) := by decide +kernel
theorem dL_law_860 : decode cL_law 860 = .ok (.iconst 0, 1) := by decide +kernel
theorem dL_law_861 : decode cL_law 861 = .ok (.ireturn, 1) := by decide +kernel
theorem dL_law_862 : decode cL_law 862 = .ok (.aload_n 1, 1) := by decide +kernel
theorem dL_law_863 : decode cL_law 863 = .ok (.aload_n 0, 1) := by decide +kernel
theorem dL_law_864 : decode cL_law 864 = .ok (.iload_n 3, 1) := by decide +kernel
theorem dL_law_865 : decode cL_law 865 = .ok (.iconst 1, 1) := by decide +kernel
theorem dL_law_866 : decode cL_law 866 = .ok (.iadd, 1) := by decide +kernel
theorem dL_law_867 : decode cL_law 867 = .ok (.iaload, 1) := by decide +kernel
theorem dL_law_868 : decode cL_law 868 = .ok (.invokevirtual 106, 3) := by decide +kernel
theorem dL_law_871 : decode cL_law 871 = .ok (.aload_n 2, 1) := by decide +kernel
theorem dL_law_872 : decode cL_law 872 = .ok (.aload_n 0, 1) := by decide +kernel
theorem dL_law_873 : decode cL_law 873 = .ok (.iload_n 3, 1) := by decide +kernel
theorem dL_law_874 : decode cL_law 874 = .ok (.iconst 1, 1) := by decide +kernel
theorem dL_law_875 : decode cL_law 875 = .ok (.iadd, 1) := by decide +kernel
theorem dL_law_876 : decode cL_law 876 = .ok (.iaload, 1) := by decide +kernel
theorem dL_law_877 : decode cL_law 877 = .ok (.invokevirtual 109, 3) := by decide +kernel
theorem dL_law_880 : decode cL_law 880 = .ok (.if_icmp .eq 435, 3) := by decide +kernel
theorem dL_law_883 : decode cL_law 883 = .ok (.iconst 0, 1) := by decide +kernel
theorem dL_law_884 : decode cL_law 884 = .ok (.ireturn, 1) := by decide +kernel
theorem dL_law_885 : decode cL_law 885 = .ok (.aload_n 1, 1) := by decide +kernel
theorem dL_law_886 : decode cL_law 886 = .ok (.aload_n 0, 1) := by decide +kernel
theorem dL_law_887 : decode cL_law 887 = .ok (.iload_n 3, 1) := by decide +kernel
theorem dL_law_888 : decode cL_law 888 = .ok (.iconst 1, 1) := by decide +kernel
theorem dL_law_889 : decode cL_law 889 = .ok (.iadd, 1) := by decide +kernel
theorem dL_law_890 : decode cL_law 890 = .ok (.iaload, 1) := by decide +kernel
theorem dL_law_891 : decode cL_law 891 = .ok (.aload_n 0, 1) := by decide +kernel
theorem dL_law_892 : decode cL_law 892 = .ok (.iload_n 3, 1) := by decide +kernel
theorem dL_law_893 : decode cL_law 893 = .ok (.iconst 2, 1) := by decide +kernel
theorem dL_law_894 : decode cL_law 894 = .ok (.iadd, 1) := by decide +kernel
theorem dL_law_895 : decode cL_law 895 = .ok (.iaload, 1) := by decide +kernel
theorem dL_law_896 : decode cL_law 896 = .ok (.invokevirtual 110, 3) := by decide +kernel
theorem dL_law_899 : decode cL_law 899 = .ok (.aload_n 2, 1) := by decide +kernel
theorem dL_law_900 : decode cL_law 900 = .ok (.aload_n 0, 1) := by decide +kernel
theorem dL_law_901 : decode cL_law 901 = .ok (.iload_n 3, 1) := by decide +kernel
theorem dL_law_902 : decode cL_law 902 = .ok (.iconst 1, 1) := by decide +kernel
theorem dL_law_903 : decode cL_law 903 = .ok (.iadd, 1) := by decide +kernel
theorem dL_law_904 : decode cL_law 904 = .ok (.iaload, 1) := by decide +kernel
theorem dL_law_905 : decode cL_law 905 = .ok (.aload_n 0, 1) := by decide +kernel
theorem dL_law_906 : decode cL_law 906 = .ok (.iload_n 3, 1) := by decide +kernel
theorem dL_law_907 : decode cL_law 907 = .ok (.iconst 2, 1) := by decide +kernel
theorem dL_law_908 : decode cL_law 908 = .ok (.iadd, 1) := by decide +kernel
theorem dL_law_909 : decode cL_law 909 = .ok (.iaload, 1) := by decide +kernel
theorem dL_law_910 : decode cL_law 910 = .ok (.invokevirtual 113, 3) := by decide +kernel
theorem dL_law_913 : decode cL_law 913 = .ok (.if_icmp .eq 402, 3) := by decide +kernel
theorem dL_law_916 : decode cL_law 916 = .ok (.iconst 0, 1) := by decide +kernel
theorem dL_law_917 : decode cL_law 917 = .ok (.ireturn, 1) := by decide +kernel
theorem dL_law_918 : decode cL_law 918 = .ok (.aload_n 1, 1) := by decide +kernel
theorem dL_law_919 : decode cL_law 919 = .ok (.aload_n 0, 1) := by decide +kernel
theorem dL_law_920 : decode cL_law 920 = .ok (.iload_n 3, 1) := by decide +kernel
theorem dL_law_921 : decode cL_law 921 = .ok (.iconst 1, 1) := by decide +kernel
theorem dL_law_922 : decode cL_law 922 = .ok (.iadd, 1) := by decide +kernel
theorem dL_law_923 : decode cL_law 923 = .ok (.iaload, 1) := by decide +kernel
theorem dL_law_924 : decode cL_law 924 = .ok (.aload_n 0, 1) := by decide +kernel
theorem dL_law_925 : decode cL_law 925 = .ok (.iload_n 3, 1) := by decide +kernel
theorem dL_law_926 : decode cL_law 926 = .ok (.iconst 2, 1) := by decide +kernel
theorem dL_law_927 : decode cL_law 927 = .ok (.iadd, 1) := by decide +kernel
theorem dL_law_928 : decode cL_law 928 = .ok (.iaload, 1) := by decide +kernel
theorem dL_law_929 : decode cL_law 929 = .ok (.aload_n 0, 1) := by decide +kernel
theorem dL_law_930 : decode cL_law 930 = .ok (.iload_n 3, 1) := by decide +kernel
theorem dL_law_931 : decode cL_law 931 = .ok (.iconst 3, 1) := by decide +kernel
theorem dL_law_932 : decode cL_law 932 = .ok (.iadd, 1) := by decide +kernel
theorem dL_law_933 : decode cL_law 933 = .ok (.iaload, 1) := by decide +kernel
theorem dL_law_934 : decode cL_law 934 = .ok (.invokevirtual 114, 3) := by decide +kernel
theorem dL_law_937 : decode cL_law 937 = .ok (.aload_n 2, 1) := by decide +kernel
theorem dL_law_938 : decode cL_law 938 = .ok (.aload_n 0, 1) := by decide +kernel
theorem dL_law_939 : decode cL_law 939 = .ok (.iload_n 3, 1) := by decide +kernel
theorem dL_law_940 : decode cL_law 940 = .ok (.iconst 1, 1) := by decide +kernel
theorem dL_law_941 : decode cL_law 941 = .ok (.iadd, 1) := by decide +kernel
theorem dL_law_942 : decode cL_law 942 = .ok (.iaload, 1) := by decide +kernel
theorem dL_law_943 : decode cL_law 943 = .ok (.aload_n 0, 1) := by decide +kernel
theorem dL_law_944 : decode cL_law 944 = .ok (.iload_n 3, 1) := by decide +kernel
theorem dL_law_945 : decode cL_law 945 = .ok (.iconst 2, 1) := by decide +kernel
theorem dL_law_946 : decode cL_law 946 = .ok (.iadd, 1) := by decide +kernel
theorem dL_law_947 : decode cL_law 947 = .ok (.iaload, 1) := by decide +kernel
theorem dL_law_948 : decode cL_law 948 = .ok (.aload_n 0, 1) := by decide +kernel
theorem dL_law_949 : decode cL_law 949 = .ok (.iload_n 3, 1) := by decide +kernel
theorem dL_law_950 : decode cL_law 950 = .ok (.iconst 3, 1) := by decide +kernel
theorem dL_law_951 : decode cL_law 951 = .ok (.iadd, 1) := by decide +kernel
theorem dL_law_952 : decode cL_law 952 = .ok (.iaload, 1) := by decide +kernel
theorem dL_law_953 : decode cL_law 953 = .ok (.invokevirtual 117, 3) := by decide +kernel
theorem dL_law_956 : decode cL_law 956 = .ok (.if_icmp .eq 359, 3) := by decide +kernel
theorem dL_law_959 : decode cL_law 959 = .ok (.iconst 0, 1) := by decide +kernel
theorem dL_law_960 : decode cL_law 960 = .ok (.ireturn, 1) := by decide +kernel
theorem dL_law_961 : decode cL_law 961 = .ok (.aload_n 1, 1) := by decide +kernel
theorem dL_law_962 : decode cL_law 962 = .ok (.invokevirtual 118, 3) := by decide +kernel
theorem dL_law_965 : decode cL_law 965 = .ok (.aload_n 2, 1) := by decide +kernel
theorem dL_law_966 : decode cL_law 966 = .ok (.invokevirtual 121, 3) := by decide +kernel
theorem dL_law_969 : decode cL_law 969 = .ok (.if_icmp .eq 346, 3) := by decide +kernel
theorem dL_law_972 : decode cL_law 972 = .ok (.iconst 0, 1) := by decide +kernel
theorem dL_law_973 : decode cL_law 973 = .ok (.ireturn, 1) := by decide +kernel
theorem dL_law_974 : decode cL_law 974 = .ok (.aload_n 1, 1) := by decide +kernel
theorem dL_law_975 : decode cL_law 975 = .ok (.aload_n 0, 1) := by decide +kernel
theorem dL_law_976 : decode cL_law 976 = .ok (.iload_n 3, 1) := by decide +kernel
theorem dL_law_977 : decode cL_law 977 = .ok (.iconst 1, 1) := by decide +kernel
theorem dL_law_978 : decode cL_law 978 = .ok (.iadd, 1) := by decide +kernel
theorem dL_law_979 : decode cL_law 979 = .ok (.iaload, 1) := by decide +kernel
theorem dL_law_980 : decode cL_law 980 = .ok (.aload_n 0, 1) := by decide +kernel
theorem dL_law_981 : decode cL_law 981 = .ok (.iload_n 3, 1) := by decide +kernel
theorem dL_law_982 : decode cL_law 982 = .ok (.iconst 2, 1) := by decide +kernel
theorem dL_law_983 : decode cL_law 983 = .ok (.iadd, 1) := by decide +kernel
theorem dL_law_984 : decode cL_law 984 = .ok (.iaload, 1) := by decide +kernel
theorem dL_law_985 : decode cL_law 985 = .ok (.invokevirtual 122, 3) := by decide +kernel
theorem dL_law_988 : decode cL_law 988 = .ok (.aload_n 2, 1) := by decide +kernel
theorem dL_law_989 : decode cL_law 989 = .ok (.aload_n 0, 1) := by decide +kernel
theorem dL_law_990 : decode cL_law 990 = .ok (.iload_n 3, 1) := by decide +kernel
theorem dL_law_991 : decode cL_law 991 = .ok (.iconst 1, 1) := by decide +kernel
theorem dL_law_992 : decode cL_law 992 = .ok (.iadd, 1) := by decide +kernel
theorem dL_law_993 : decode cL_law 993 = .ok (.iaload, 1) := by decide +kernel
theorem dL_law_994 : decode cL_law 994 = .ok (.aload_n 0, 1) := by decide +kernel
theorem dL_law_995 : decode cL_law 995 = .ok (.iload_n 3, 1) := by decide +kernel
theorem dL_law_996 : decode cL_law 996 = .ok (.iconst 2, 1) := by decide +kernel
theorem dL_law_997 : decode cL_law 997 = .ok (.iadd, 1) := by decide +kernel
theorem dL_law_998 : decode cL_law 998 = .ok (.iaload, 1) := by decide +kernel
theorem dL_law_999 : decode cL_law 999 = .ok (.invokevirtual 125, 3) := by decide +kernel
theorem dL_law_1002 : decode cL_law 1002 = .ok (.if_icmp .eq 313, 3) := by decide +kernel
theorem dL_law_1005 : decode cL_law 1005 = .ok (.iconst 0, 1) := by decide +kernel
theorem dL_law_1006 : decode cL_law 1006 = .ok (.ireturn, 1) := by decide +kernel
theorem dL_law_1007 : decode cL_law 1007 = .ok (.aload_n 1, 1) := by decide +kernel
theorem dL_law_1008 : decode cL_law 1008 = .ok (.aload_n 0, 1) := by decide +kernel
theorem dL_law_1009 : decode cL_law 1009 = .ok (.iload_n 3, 1) := by decide +kernel
theorem dL_law_1010 : decode cL_law 1010 = .ok (.iconst 1, 1) := by decide +kernel
theorem dL_law_1011 : decode cL_law 1011 = .ok (.iadd, 1) := by decide +kernel
theorem dL_law_1012 : decode cL_law 1012 = .ok (.iaload, 1) := by decide +kernel
theorem dL_law_1013 : decode cL_law 1013 = .ok (.invokevirtual 126, 3) := by decide +kernel
theorem dL_law_1016 : decode cL_law 1016 = .ok (.aload_n 2, 1) := by decide +kernel
theorem dL_law_1017 : decode cL_law 1017 = .ok (.aload_n 0, 1) := by decide +kernel
theorem dL_law_1018 : decode cL_law 1018 = .ok (.iload_n 3, 1) := by decide +kernel
theorem dL_law_1019 : decode cL_law 1019 = .ok (.iconst 1, 1) := by decide +kernel
theorem dL_law_1020 : decode cL_law 1020 = .ok (.iadd, 1) := by decide +kernel
theorem dL_law_1021 : decode cL_law 1021 = .ok (.iaload, 1) := by decide +kernel
theorem dL_law_1022 : decode cL_law 1022 = .ok (.invokevirtual 129, 3) := by decide +kernel
theorem dL_law_1025 : decode cL_law 1025 = .ok (.if_icmp .eq 290, 3) := by decide +kernel
theorem dL_law_1028 : decode cL_law 1028 = .ok (.iconst 0, 1) := by decide +kernel
theorem dL_law_1029 : decode cL_law 1029 = .ok (.ireturn, 1) := by decide +kernel
theorem dL_law_1030 : decode cL_law 1030 = .ok (.aload_n 1, 1) := by decide +kernel
theorem dL_law_1031 : decode cL_law 1031 = .ok (.aload_n 0, 1) := by decide +kernel
theorem dL_law_1032 : decode cL_law 1032 = .ok (.iload_n 3, 1) := by decide +kernel
theorem dL_law_1033 : decode cL_law 1033 = .ok (.iconst 1, 1) := by decide +kernel
theorem dL_law_1034 : decode cL_law 1034 = .ok (.iadd, 1) := by decide +kernel
theorem dL_law_1035 : decode cL_law 1035 = .ok (.iaload, 1) := by decide +kernel
theorem dL_law_1036 : decode cL_law 1036 = .ok (.invokevirtual 130, 3) := by decide +kernel
theorem dL_law_1039 : decode cL_law 1039 = .ok (.aload_n 2, 1) := by decide +kernel
theorem dL_law_1040 : decode cL_law 1040 = .ok (.aload_n 0, 1) := by decide +kernel
theorem dL_law_1041 : decode cL_law 1041 = .ok (.iload_n 3, 1) := by decide +kernel
theorem dL_law_1042 : decode cL_law 1042 = .ok (.iconst 1, 1) := by decide +kernel
theorem dL_law_1043 : decode cL_law 1043 = .ok (.iadd, 1) := by decide +kernel
theorem dL_law_1044 : decode cL_law 1044 = .ok (.iaload, 1) := by decide +kernel
theorem dL_law_1045 : decode cL_law 1045 = .ok (.invokevirtual 133, 3) := by decide +kernel
theorem dL_law_1048 : decode cL_law 1048 = .ok (.if_icmp .eq 267, 3) := by decide +kernel
theorem dL_law_1051 : decode cL_law 1051 = .ok (.iconst 0, 1) := by decide +kernel
theorem dL_law_1052 : decode cL_law 1052 = .ok (.ireturn, 1) := by decide +kernel
theorem dL_law_1053 : decode cL_law 1053 = .ok (.aload_n 1, 1) := by decide +kernel
theorem dL_law_1054 : decode cL_law 1054 = .ok (.aload_n 0, 1) := by decide +kernel
theorem dL_law_1055 : decode cL_law 1055 = .ok (.iload_n 3, 1) := by decide +kernel
theorem dL_law_1056 : decode cL_law 1056 = .ok (.iconst 1, 1) := by decide +kernel
theorem dL_law_1057 : decode cL_law 1057 = .ok (.iadd, 1) := by decide +kernel
theorem dL_law_1058 : decode cL_law 1058 = .ok (.iaload, 1) := by decide +kernel
theorem dL_law_1059 : decode cL_law 1059 = .ok (.invokevirtual 134, 3) := by decide +kernel
theorem dL_law_1062 : decode cL_law 1062 = .ok (.aload_n 2, 1) := by decide +kernel
theorem dL_law_1063 : decode cL_law 1063 = .ok (.aload_n 0, 1) := by decide +kernel
theorem dL_law_1064 : decode cL_law 1064 = .ok (.iload_n 3, 1) := by decide +kernel
theorem dL_law_1065 : decode cL_law 1065 = .ok (.iconst 1, 1) := by decide +kernel
theorem dL_law_1066 : decode cL_law 1066 = .ok (.iadd, 1) := by decide +kernel
theorem dL_law_1067 : decode cL_law 1067 = .ok (.iaload, 1) := by decide +kernel
theorem dL_law_1068 : decode cL_law 1068 = .ok (.invokevirtual 137, 3) := by decide +kernel
theorem dL_law_1071 : decode cL_law 1071 = .ok (.if_icmp .eq 244, 3) := by decide +kernel
theorem dL_law_1074 : decode cL_law 1074 = .ok (.iconst 0, 1) := by decide +kernel
theorem dL_law_1075 : decode cL_law 1075 = .ok (.ireturn, 1) := by decide +kernel
theorem dL_law_1076 : decode cL_law 1076 = .ok (.aload_n 1, 1) := by decide +kernel
theorem dL_law_1077 : decode cL_law 1077 = .ok (.invokevirtual 138, 3) := by decide +kernel
theorem dL_law_1080 : decode cL_law 1080 = .ok (.aload_n 2, 1) := by decide +kernel
theorem dL_law_1081 : decode cL_law 1081 = .ok (.invokevirtual 141, 3) := by decide +kernel
theorem dL_law_1084 : decode cL_law 1084 = .ok (.if_icmp .eq 231, 3) := by decide +kernel
theorem dL_law_1087 : decode cL_law 1087 = .ok (.iconst 0, 1) := by decide +kernel
theorem dL_law_1088 : decode cL_law 1088 = .ok (.ireturn, 1) := by decide +kernel
theorem dL_law_1089 : decode cL_law 1089 = .ok (.aload_n 1, 1) := by decide +kernel
theorem dL_law_1090 : decode cL_law 1090 = .ok (.aload_n 0, 1) := by decide +kernel
theorem dL_law_1091 : decode cL_law 1091 = .ok (.iload_n 3, 1) := by decide +kernel
theorem dL_law_1092 : decode cL_law 1092 = .ok (.iconst 1, 1) := by decide +kernel
theorem dL_law_1093 : decode cL_law 1093 = .ok (.iadd, 1) := by decide +kernel
theorem dL_law_1094 : decode cL_law 1094 = .ok (.iaload, 1) := by decide +kernel
theorem dL_law_1095 : decode cL_law 1095 = .ok (.invokevirtual 142, 3) := by decide +kernel
theorem dL_law_1098 : decode cL_law 1098 = .ok (.aload_n 2, 1) := by decide +kernel
theorem dL_law_1099 : decode cL_law 1099 = .ok (.aload_n 0, 1) := by decide +kernel
theorem dL_law_1100 : decode cL_law 1100 = .ok (.iload_n 3, 1) := by decide +kernel
theorem dL_law_1101 : decode cL_law 1101 = .ok (.iconst 1, 1) := by decide +kernel
theorem dL_law_1102 : decode cL_law 1102 = .ok (.iadd, 1) := by decide +kernel
theorem dL_law_1103 : decode cL_law 1103 = .ok (.iaload, 1) := by decide +kernel
theorem dL_law_1104 : decode cL_law 1104 = .ok (.invokevirtual 145, 3) := by decide +kernel
theorem dL_law_1107 : decode cL_law 1107 = .ok (.if_icmp .eq 208, 3) := by decide +kernel
theorem dL_law_1110 : decode cL_law 1110 = .ok (.iconst 0, 1) := by decide +kernel
theorem dL_law_1111 : decode cL_law 1111 = .ok (.ireturn, 1) := by decide +kernel
theorem dL_law_1112 : decode cL_law 1112 = .ok (.aload_n 1, 1) := by decide +kernel
theorem dL_law_1113 : decode cL_law 1113 = .ok (.aload_n 0, 1) := by decide +kernel
theorem dL_law_1114 : decode cL_law 1114 = .ok (.iload_n 3, 1) := by decide +kernel
theorem dL_law_1115 : decode cL_law 1115 = .ok (.iconst 1, 1) := by decide +kernel
theorem dL_law_1116 : decode cL_law 1116 = .ok (.iadd, 1) := by decide +kernel
theorem dL_law_1117 : decode cL_law 1117 = .ok (.iaload, 1) := by decide +kernel
theorem dL_law_1118 : decode cL_law 1118 = .ok (.aload_n 0, 1) := by decide +kernel
theorem dL_law_1119 : decode cL_law 1119 = .ok (.iload_n 3, 1) := by decide +kernel
theorem dL_law_1120 : decode cL_law 1120 = .ok (.iconst 2, 1) := by decide +kernel
theorem dL_law_1121 : decode cL_law 1121 = .ok (.iadd, 1) := by decide +kernel
theorem dL_law_1122 : decode cL_law 1122 = .ok (.iaload, 1) := by decide +kernel
theorem dL_law_1123 : decode cL_law 1123 = .ok (.invokevirtual 146, 3) := by decide +kernel
theorem dL_law_1126 : decode cL_law 1126 = .ok (.aload_n 2, 1) := by decide +kernel
theorem dL_law_1127 : decode cL_law 1127 = .ok (.aload_n 0, 1) := by decide +kernel
theorem dL_law_1128 : decode cL_law 1128 = .ok (.iload_n 3, 1) := by decide +kernel
theorem dL_law_1129 : decode cL_law 1129 = .ok (.iconst 1, 1) := by decide +kernel
theorem dL_law_1130 : decode cL_law 1130 = .ok (.iadd, 1) := by decide +kernel
theorem dL_law_1131 : decode cL_law 1131 = .ok (.iaload, 1) := by decide +kernel
theorem dL_law_1132 : decode cL_law 1132 = .ok (.aload_n 0, 1) := by decide +kernel
theorem dL_law_1133 : decode cL_law 1133 = .ok (.iload_n 3, 1) := by decide +kernel
theorem dL_law_1134 : decode cL_law 1134 = .ok (.iconst 2, 1) := by decide +kernel
theorem dL_law_1135 : decode cL_law 1135 = .ok (.iadd, 1) := by decide +kernel
theorem dL_law_1136 : decode cL_law 1136 = .ok (.iaload, 1) := by decide +kernel
theorem dL_law_1137 : decode cL_law 1137 = .ok (.invokevirtual 149, 3) := by decide +kernel
theorem dL_law_1140 : decode cL_law 1140 = .ok (.if_icmp .eq 175, 3) := by decide +kernel
theorem dL_law_1143 : decode cL_law 1143 = .ok (.iconst 0, 1) := by decide +kernel
theorem dL_law_1144 : decode cL_law 1144 = .ok (.ireturn, 1) := by decide +kernel
theorem dL_law_1145 : decode cL_law 1145 = .ok (.aload_n 1, 1) := by decide +kernel
theorem dL_law_1146 : decode cL_law 1146 = .ok (.aload_n 0, 1) := by decide +kernel
theorem dL_law_1147 : decode cL_law 1147 = .ok (.iload_n 3, 1) := by decide +kernel
theorem dL_law_1148 : decode cL_law 1148 = .ok (.iconst 1, 1) := by decide +kernel
theorem dL_law_1149 : decode cL_law 1149 = .ok (.iadd, 1) := by decide +kernel
theorem dL_law_1150 : decode cL_law 1150 = .ok (.iaload, 1) := by decide +kernel
theorem dL_law_1151 : decode cL_law 1151 = .ok (.invokevirtual 150, 3) := by decide +kernel
theorem dL_law_1154 : decode cL_law 1154 = .ok (.aload_n 2, 1) := by decide +kernel
theorem dL_law_1155 : decode cL_law 1155 = .ok (.aload_n 0, 1) := by decide +kernel
theorem dL_law_1156 : decode cL_law 1156 = .ok (.iload_n 3, 1) := by decide +kernel
theorem dL_law_1157 : decode cL_law 1157 = .ok (.iconst 1, 1) := by decide +kernel
theorem dL_law_1158 : decode cL_law 1158 = .ok (.iadd, 1) := by decide +kernel
theorem dL_law_1159 : decode cL_law 1159 = .ok (.iaload, 1) := by decide +kernel
theorem dL_law_1160 : decode cL_law 1160 = .ok (.invokevirtual 153, 3) := by decide +kernel
theorem dL_law_1163 : decode cL_law 1163 = .ok (.if_icmp .eq 152, 3) := by decide +kernel
theorem dL_law_1166 : decode cL_law 1166 = .ok (.iconst 0, 1) := by decide +kernel
theorem dL_law_1167 : decode cL_law 1167 = .ok (.ireturn, 1) := by decide +kernel
theorem dL_law_1168 : decode cL_law 1168 = .ok (.aload_n 1, 1) := by decide +kernel
theorem dL_law_1169 : decode cL_law 1169 = .ok (.aload_n 0, 1) := by decide +kernel
theorem dL_law_1170 : decode cL_law 1170 = .ok (.iload_n 3, 1) := by decide +kernel
theorem dL_law_1171 : decode cL_law 1171 = .ok (.iconst 1, 1) := by decide +kernel
theorem dL_law_1172 : decode cL_law 1172 = .ok (.iadd, 1) := by decide +kernel
theorem dL_law_1173 : decode cL_law 1173 = .ok (.iaload, 1) := by decide +kernel
theorem dL_law_1174 : decode cL_law 1174 = .ok (.aload_n 0, 1) := by decide +kernel
theorem dL_law_1175 : decode cL_law 1175 = .ok (.iload_n 3, 1) := by decide +kernel
theorem dL_law_1176 : decode cL_law 1176 = .ok (.iconst 2, 1) := by decide +kernel
theorem dL_law_1177 : decode cL_law 1177 = .ok (.iadd, 1) := by decide +kernel
theorem dL_law_1178 : decode cL_law 1178 = .ok (.iaload, 1) := by decide +kernel
theorem dL_law_1179 : decode cL_law 1179 = .ok (.invokevirtual 154, 3) := by decide +kernel
theorem dL_law_1182 : decode cL_law 1182 = .ok (.aload_n 2, 1) := by decide +kernel
theorem dL_law_1183 : decode cL_law 1183 = .ok (.aload_n 0, 1) := by decide +kernel
theorem dL_law_1184 : decode cL_law 1184 = .ok (.iload_n 3, 1) := by decide +kernel
theorem dL_law_1185 : decode cL_law 1185 = .ok (.iconst 1, 1) := by decide +kernel
theorem dL_law_1186 : decode cL_law 1186 = .ok (.iadd, 1) := by decide +kernel
theorem dL_law_1187 : decode cL_law 1187 = .ok (.iaload, 1) := by decide +kernel
theorem dL_law_1188 : decode cL_law 1188 = .ok (.aload_n 0, 1) := by decide +kernel
theorem dL_law_1189 : decode cL_law 1189 = .ok (.iload_n 3, 1) := by decide +kernel
theorem dL_law_1190 : decode cL_law 1190 = .ok (.iconst 2, 1) := by decide +kernel
theorem dL_law_1191 : decode cL_law 1191 = .ok (.iadd, 1) := by decide +kernel
theorem dL_law_1192 : decode cL_law 1192 = .ok (.iaload, 1) := by decide +kernel
theorem dL_law_1193 : decode cL_law 1193 = .ok (.invokevirtual 157, 3) := by decide +kernel
theorem dL_law_1196 : decode cL_law 1196 = .ok (.if_icmp .eq 119, 3) := by decide +kernel
theorem dL_law_1199 : decode cL_law 1199 = .ok (.iconst 0, 1) := by decide +kernel
theorem dL_law_1200 : decode cL_law 1200 = .ok (.ireturn, 1) := by decide +kernel
theorem dL_law_1201 : decode cL_law 1201 = .ok (.aload_n 1, 1) := by decide +kernel
theorem dL_law_1202 : decode cL_law 1202 = .ok (.invokevirtual 158, 3) := by decide +kernel
theorem dL_law_1205 : decode cL_law 1205 = .ok (.aload_n 2, 1) := by decide +kernel
theorem dL_law_1206 : decode cL_law 1206 = .ok (.invokevirtual 161, 3) := by decide +kernel
theorem dL_law_1209 : decode cL_law 1209 = .ok (.if_icmp .eq 106, 3) := by decide +kernel
theorem dL_law_1212 : decode cL_law 1212 = .ok (.iconst 0, 1) := by decide +kernel
theorem dL_law_1213 : decode cL_law 1213 = .ok (.ireturn, 1) := by decide +kernel
theorem dL_law_1214 : decode cL_law 1214 = .ok (.aload_n 1, 1) := by decide +kernel
theorem dL_law_1215 : decode cL_law 1215 = .ok (.invokevirtual 162, 3) := by decide +kernel
theorem dL_law_1218 : decode cL_law 1218 = .ok (.aload_n 2, 1) := by decide +kernel
theorem dL_law_1219 : decode cL_law 1219 = .ok (.invokevirtual 166, 3) := by decide +kernel
theorem dL_law_1222 : decode cL_law 1222 = .ok (.lcmp, 1) := by decide +kernel
theorem dL_law_1223 : decode cL_law 1223 = .ok (.ifCond .eq 92, 3) := by decide +kernel
theorem dL_law_1226 : decode cL_law 1226 = .ok (.iconst 0, 1) := by decide +kernel
theorem dL_law_1227 : decode cL_law 1227 = .ok (.ireturn, 1) := by decide +kernel
theorem dL_law_1228 : decode cL_law 1228 = .ok (.aload_n 1, 1) := by decide +kernel
theorem dL_law_1229 : decode cL_law 1229 = .ok (.invokevirtual 167, 3) := by decide +kernel
theorem dL_law_1232 : decode cL_law 1232 = .ok (.aload_n 2, 1) := by decide +kernel
theorem dL_law_1233 : decode cL_law 1233 = .ok (.invokevirtual 170, 3) := by decide +kernel
theorem dL_law_1236 : decode cL_law 1236 = .ok (.lcmp, 1) := by decide +kernel
theorem dL_law_1237 : decode cL_law 1237 = .ok (.ifCond .eq 78, 3) := by decide +kernel
theorem dL_law_1240 : decode cL_law 1240 = .ok (.iconst 0, 1) := by decide +kernel
theorem dL_law_1241 : decode cL_law 1241 = .ok (.ireturn, 1) := by decide +kernel
theorem dL_law_1242 : decode cL_law 1242 = .ok (.aload_n 1, 1) := by decide +kernel
theorem dL_law_1243 : decode cL_law 1243 = .ok (.aload_n 0, 1) := by decide +kernel
theorem dL_law_1244 : decode cL_law 1244 = .ok (.iload_n 3, 1) := by decide +kernel
theorem dL_law_1245 : decode cL_law 1245 = .ok (.iconst 1, 1) := by decide +kernel
theorem dL_law_1246 : decode cL_law 1246 = .ok (.iadd, 1) := by decide +kernel
theorem dL_law_1247 : decode cL_law 1247 = .ok (.iaload, 1) := by decide +kernel
theorem dL_law_1248 : decode cL_law 1248 = .ok (.invokevirtual 171, 3) := by decide +kernel
theorem dL_law_1251 : decode cL_law 1251 = .ok (.aload_n 2, 1) := by decide +kernel
theorem dL_law_1252 : decode cL_law 1252 = .ok (.aload_n 0, 1) := by decide +kernel
theorem dL_law_1253 : decode cL_law 1253 = .ok (.iload_n 3, 1) := by decide +kernel
theorem dL_law_1254 : decode cL_law 1254 = .ok (.iconst 1, 1) := by decide +kernel
theorem dL_law_1255 : decode cL_law 1255 = .ok (.iadd, 1) := by decide +kernel
theorem dL_law_1256 : decode cL_law 1256 = .ok (.iaload, 1) := by decide +kernel
theorem dL_law_1257 : decode cL_law 1257 = .ok (.invokevirtual 174, 3) := by decide +kernel
theorem dL_law_1260 : decode cL_law 1260 = .ok (.if_icmp .eq 55, 3) := by decide +kernel
theorem dL_law_1263 : decode cL_law 1263 = .ok (.iconst 0, 1) := by decide +kernel
theorem dL_law_1264 : decode cL_law 1264 = .ok (.ireturn, 1) := by decide +kernel
theorem dL_law_1265 : decode cL_law 1265 = .ok (.aload_n 1, 1) := by decide +kernel
theorem dL_law_1266 : decode cL_law 1266 = .ok (.invokevirtual 175, 3) := by decide +kernel
theorem dL_law_1269 : decode cL_law 1269 = .ok (.aload_n 2, 1) := by decide +kernel
theorem dL_law_1270 : decode cL_law 1270 = .ok (.invokevirtual 178, 3) := by decide +kernel
theorem dL_law_1273 : decode cL_law 1273 = .ok (.if_icmp .eq 42, 3) := by decide +kernel
theorem dL_law_1276 : decode cL_law 1276 = .ok (.iconst 0, 1) := by decide +kernel
theorem dL_law_1277 : decode cL_law 1277 = .ok (.ireturn, 1) := by decide +kernel
theorem dL_law_1278 : decode cL_law 1278 = .ok (.aload_n 1, 1) := by decide +kernel
theorem dL_law_1279 : decode cL_law 1279 = .ok (.aload_n 0, 1) := by decide +kernel
theorem dL_law_1280 : decode cL_law 1280 = .ok (.iload_n 3, 1) := by decide +kernel
theorem dL_law_1281 : decode cL_law 1281 = .ok (.iconst 1, 1) := by decide +kernel
theorem dL_law_1282 : decode cL_law 1282 = .ok (.iadd, 1) := by decide +kernel
theorem dL_law_1283 : decode cL_law 1283 = .ok (.iaload, 1) := by decide +kernel
theorem dL_law_1284 : decode cL_law 1284 = .ok (.invokevirtual 179, 3) := by decide +kernel
theorem dL_law_1287 : decode cL_law 1287 = .ok (.aload_n 2, 1) := by decide +kernel
theorem dL_law_1288 : decode cL_law 1288 = .ok (.aload_n 0, 1) := by decide +kernel
theorem dL_law_1289 : decode cL_law 1289 = .ok (.iload_n 3, 1) := by decide +kernel
theorem dL_law_1290 : decode cL_law 1290 = .ok (.iconst 1, 1) := by decide +kernel
theorem dL_law_1291 : decode cL_law 1291 = .ok (.iadd, 1) := by decide +kernel
theorem dL_law_1292 : decode cL_law 1292 = .ok (.iaload, 1) := by decide +kernel
theorem dL_law_1293 : decode cL_law 1293 = .ok (.invokevirtual 182, 3) := by decide +kernel
theorem dL_law_1296 : decode cL_law 1296 = .ok (.if_icmp .eq 19, 3) := by decide +kernel
theorem dL_law_1299 : decode cL_law 1299 = .ok (.iconst 0, 1) := by decide +kernel
theorem dL_law_1300 : decode cL_law 1300 = .ok (.ireturn, 1) := by decide +kernel
theorem dL_law_1301 : decode cL_law 1301 = .ok (.aload_n 1, 1) := by decide +kernel
theorem dL_law_1302 : decode cL_law 1302 = .ok (.invokevirtual 183, 3) := by decide +kernel
theorem dL_law_1305 : decode cL_law 1305 = .ok (.aload_n 2, 1) := by decide +kernel
theorem dL_law_1306 : decode cL_law 1306 = .ok (.invokevirtual 186, 3) := by decide +kernel
theorem dL_law_1309 : decode cL_law 1309 = .ok (.lcmp, 1) := by decide +kernel
theorem dL_law_1310 : decode cL_law 1310 = .ok (.ifCond .eq 5, 3) := by decide +kernel
theorem dL_law_1313 : decode cL_law 1313 = .ok (.iconst 0, 1) := by decide +kernel
theorem dL_law_1314 : decode cL_law 1314 = .ok (.ireturn, 1) := by decide +kernel
theorem dL_law_1315 : decode cL_law 1315 = .ok (.iinc 3 6, 3) := by decide +kernel
theorem dL_law_1318 : decode cL_law 1318 = .ok (.goto (-1300), 3) := by decide +kernel
theorem dL_law_1321 : decode cL_law 1321 = .ok (.iconst 1, 1) := by decide +kernel
theorem dL_law_1322 : decode cL_law 1322 = .ok (.ireturn, 1) := by decide +kernel
